/-! THE LAW: pairs of calls that are exact on both sides -/
section
variable {S : sm_C} {I : sm_I} {L : sm_L} {R : sm_R} {r : Int32}
theorem q_at {qt l : Nat} {c j : Nat} {a : sg} (hq : qt = 12 ∨ qt = 49) (k : ∀ c j, 12 ≤ c → c < 34 → c ≠ 13 → ¬ (c = 12 ∧ j = 5) → I (c + (qt - 12)) j = a.1 c j) (j5 : j ≠ 5) : I qt j = a.1 12 j := by
  have h := k 12 j (by omega) (by omega) (by omega) (by omega)
  rw [show 12 + (qt - 12) = qt by omega] at h
  exact h
theorem q_cnt {qt l : Nat} (hq : qt = 12 ∨ qt = 49) (k : tdE qt l I) : I qt 0 = I 118 l ∧ I qt 1 = I 119 l ∧ I qt 2 = I 122 l ∧ I qt 3 = I 125 l ∧ I qt 4 = I 136 l ∧ I qt 6 = sb (fun i => I 126 (10 * l + i)) (I 125 l).toNatClampNeg := by
  obtain ⟨⟨a, k1, ⟨c1, c2, c3, c4, c5⟩, -, -, ⟨-, c6⟩, -⟩, -⟩ := k
  exact ⟨(q_at (l := l) (c := 0) hq k1 (by decide)).trans c1, (q_at (l := l) (c := 0) hq k1 (by decide)).trans c2, (q_at (l := l) (c := 0) hq k1 (by decide)).trans c3, (q_at (l := l) (c := 0) hq k1 (by decide)).trans c4, (q_at (l := l) (c := 0) hq k1 (by decide)).trans c5, (q_at (l := l) (c := 0) hq k1 (by decide)).trans c6⟩
theorem q_b {l : Nat} (l1 : l ≤ 1) (m : en_mem ml_tb mlX (xLay, I, L, R)) : (0 ≤ (I 122 l).toInt ∧ (I 122 l).toInt ≤ 10) ∧ (0 ≤ (I 125 l).toInt ∧ (I 125 l).toInt ≤ 10) := ⟨(ml_cs l1 m).2.2.1, (ml_cs l1 m).2.2.2.1⟩
/-- one bit laid, one taken away -/
theorem q_m1 : ∀ k, k < 32 → (-1 : Int32).toBitVec.getLsbD k = true := by decide +kernel
theorem q_bit {x : Int32} {n k : Nat} (hx : x.toInt = n) (hn : n < 10) (hk : k < 32) : ((1 : Int32) <<< (x &&& 31)).toBitVec.getLsbD k = decide (k = n) := by
  have e : x = Int32.ofNat n := en_ofI (by rw [hx, Int32.toInt_ofNat_of_lt (by omega)])
  rw [e]; exact sb_one n hn k hk
theorem q_or {z x : Int32} {n k : Nat} (hx : x.toInt = n) (hn : n < 10) (hk : k < 32) : (z ||| ((1 : Int32) <<< (x &&& 31))).toBitVec.getLsbD k = (z.toBitVec.getLsbD k || decide (k = n)) := by
  rw [Int32.toBitVec_or, BitVec.getLsbD_or, q_bit hx hn hk]
theorem q_an {z x : Int32} {n k : Nat} (hx : x.toInt = n) (hn : n < 10) (hk : k < 32) : (z &&& (((1 : Int32) <<< (x &&& 31)) ^^^ (-1 : Int32))).toBitVec.getLsbD k = (z.toBitVec.getLsbD k && !decide (k = n)) := by
  rw [Int32.toBitVec_and, BitVec.getLsbD_and, Int32.toBitVec_xor, BitVec.getLsbD_xor, q_bit hx hn hk, q_m1 k hk]
  cases decide (k = n) <;> rfl
/-- feed -/
def XfeedK (x1 x2 x3 x4 x5 : Int32) (I : sm_I) (_ : sm_L) (R : sm_R) (r : Int32) (I1 : sm_I) (_ : sm_L) (R1 : sm_R) : Prop := R1 = R ∧ ((1980 < (I 0 10).toInt ∧ r = -1 ∧ I1 = I) ∨ ((I 0 10).toInt ≤ 1980 ∧ r = I1 0 10 ∧ (I1 0 10).toInt = (I 0 10).toInt + 20 ∧ (∀ p j, ¬ (p = 0 ∧ j = 10) → p ≠ 1 → I1 p j = I p j) ∧ ∀ j, I1 1 j = pt_f x1 x2 x3 x4 x5 (I 0 10).toInt (I 1) j))
theorem fr_2 {p0 j0 p1 : Nat} {w w' : sm_W} (h : en_fr [(p0, [j0]), (p1, [])] w w') (p j : Nat) (a : ¬ (p = p0 ∧ j = j0)) (b : p ≠ p1) : w'.2.1 p j = w.2.1 p j := by
  refine (h.2 p j ?_).1
  unfold en_wok
  simp only [List.any_cons, List.any_nil, Bool.or_false]
  cases c1 : Nat.beq p0 p with
  | true =>
    have e1 := Nat.eq_of_beq_eq_true c1
    cases c2 : Nat.beq j0 j with
    | true => exact absurd ⟨e1.symm, (Nat.eq_of_beq_eq_true c2).symm⟩ a
    | false =>
      cases c3 : Nat.beq p1 p with
      | true => exact absurd (Nat.eq_of_beq_eq_true c3).symm b
      | false => rfl
  | false =>
    cases c3 : Nat.beq p1 p with
    | true => exact absurd (Nat.eq_of_beq_eq_true c3).symm b
    | false => rfl
theorem bk_feed {x1 x2 x3 x4 x5 : Int32} (hI : lw_I I L R) : sm_wp sm_P S (58 + 1) 42 0 [.ref 0, .int x1, .int x2, .int x3, .int x4, .int x5] [] (xLay, I, L, R) (0, 0) (fun z => ∃ (r : Int32) (I2 : sm_I) (L2 : sm_L) (R2 : sm_R), z = (some (.int r), (xLay, I2, L2, R2)) ∧ XfeedK x1 x2 x3 x4 x5 I L R r I2 L2 R2) := kp_feed hI.1 (fun c => ⟨_, I, L, R, rfl, rfl, Or.inl ⟨c, rfl, rfl⟩⟩) (fun I1 c _ t1 f1 g1 => ⟨_, I1, L, R, rfl, rfl, Or.inr ⟨c, rfl, t1, fun p j a b => fr_2 f1 p j a b, g1⟩⟩)
theorem bm_feed {x1 x2 x3 x4 x5 : Int32} (hI : MD (XfeedK x1 x2 x3 x4 x5) r I L R) : sm_wp sm_P S (58 + 1) 124 0 [.ref 107, .int x1, .int x2, .int x3, .int x4, .int x5] [] (xLay, I, L, R) (0, 0) (fun z => ∃ (r' : Int32) (I2 : sm_I) (L2 : sm_L) (R2 : sm_R), z = (some (.int r'), (xLay, I2, L2, R2)) ∧ r = r' ∧ ((∀ p j, p < 107 → I2 p j = I p j ∧ R2 p j = R p j) → LJ I2 R2)) := by
  obtain ⟨I0, L0, R0, hI0, mk, o, eR, X⟩ := hI
  have mm := MD_m (X := XfeedK x1 x2 x3 x4 x5) hI0 mk o
  obtain ⟨-, -, k⟩ := hI0
  obtain ⟨⟨t1, t2, t3⟩, hd, qt, qi, l, hrf, htd⟩ := k
  have e2 : I 107 2 = I0 107 2 := (o 107 2 (by omega)).1
  rcases X with ⟨c, er, eI⟩ | ⟨c, er, t4, f1, g1⟩
  · subst eI
    subst eR
    refine mp_feed mm (fun _ => ⟨_, I, L, R, rfl, er, fun _ => ⟨⟨t1, t2, t3⟩, hd, qt, qi, l, hrf, htd⟩⟩) (fun J c' _ _ _ _ => ?_)
    exfalso
    rw [t1] at c
    omega
  · refine mp_feed mm (fun c' => ?_) (fun J c' mJ tJ fJ gJ => ?_)
    · exfalso
      rw [e2, ← t1] at c'
      omega
    · have fm := fr_2 fJ
      have fm : ∀ p j, ¬ (p = 107 ∧ j = 2) → p ≠ 108 → J p j = I p j := fm
      have len : I 0 10 = J 107 2 := en_ofI (by rw [t4, tJ, e2, t1])
      refine ⟨_, J, L, R, rfl, by rw [er, len], fun f => ⟨⟨?_, fun j hj => ?_, ?_⟩, hdE_cg (I := I0) (fun p j q => ?_) hd, qt, qi, l, ⟨hrf.1, hrf.2.1, by rw [eR]; exact hrf.2.2.1, by rw [eR]; exact hrf.2.2.2.1, ?_⟩, tdE_cg (I := I0) (by have := hrf.1; omega) (fun p j q => ?_) htd⟩⟩
      · rw [(f 0 10 (by omega)).1]; exact len
      · rw [(f 0 10 (by omega)).1, t4] at hj
        have r2 : I 108 = I0 108 := funext (fun j => (o 108 j (by omega)).1)
        rw [(f 1 j (by omega)).1, g1 j, gJ j, e2, r2, ← t1]
        exact pt_f_eq (fun j hj => t2 j hj) j hj
      · rw [(f 0 11 (by omega)).1, f1 0 11 (by omega) (by omega), fm 107 17 (by omega) (by omega), (o 107 17 (by omega)).1]; exact t3
      · rcases Nat.lt_or_ge p 107 with c | c
        · rw [(f p j c).1]; exact f1 p j (by omega) (by omega)
        · rw [fm p j (by omega) (by omega)]; exact (o p j c).1
      · rw [fm 107 18 (by omega) (by omega), (o 107 18 (by omega)).1]; exact hrf.2.2.2.2
      · rcases Nat.lt_or_ge p 107 with c | c
        · rw [(f p j c).1]; exact f1 p j (by omega) (by omega)
        · rw [fm p j (by omega) (by omega)]; exact (o p j c).1
/-- back -/
def XbackK (x : Int32) (I : sm_I) (_ : sm_L) (R : sm_R) (r : Int32) (I1 : sm_I) (_ : sm_L) (R1 : sm_R) : Prop := R1 = R ∧ (((x.toInt < 0 ∨ (I 0 10).toInt < x.toInt) ∧ r = -1 ∧ I1 = I) ∨ (0 ≤ x.toInt ∧ x.toInt ≤ (I 0 10).toInt ∧ r = I 0 10 - x ∧ I1 = sm_up I 0 10 (I 0 10 - x)))
theorem bk_back {x : Int32} (hI : lw_I I L R) : sm_wp sm_P S 59 30 0 [.ref 0, .int x] [] (xLay, I, L, R) (0, 0) (fun z => ∃ (r : Int32) (I2 : sm_I) (L2 : sm_L) (R2 : sm_R), z = (some (.int r), (xLay, I2, L2, R2)) ∧ XbackK x I L R r I2 L2 R2) := kx_back hI.1 (fun c => ⟨_, I, L, R, rfl, rfl, Or.inl ⟨c, rfl, rfl⟩⟩) (fun I1 p1 p2 e1 _ => ⟨_, I1, L, R, rfl, rfl, Or.inr ⟨p1, p2, rfl, e1⟩⟩)
theorem bm_back {x : Int32} (hI : MD (XbackK x) r I L R) : sm_wp sm_P S 59 99 0 [.ref 107, .int x] [] (xLay, I, L, R) (0, 0) (fun z => ∃ (r' : Int32) (I2 : sm_I) (L2 : sm_L) (R2 : sm_R), z = (some (.int r'), (xLay, I2, L2, R2)) ∧ r = r' ∧ ((∀ p j, p < 107 → I2 p j = I p j ∧ R2 p j = R p j) → LJ I2 R2)) := by
  obtain ⟨I0, L0, R0, hI0, mk, o, eR, X⟩ := hI
  have mm := MD_m (X := XbackK x) hI0 mk o
  obtain ⟨-, -, k⟩ := hI0
  obtain ⟨⟨t1, t2, t3⟩, hd, qt, qi, l, hrf, htd⟩ := k
  have e2 : I 107 2 = I0 107 2 := (o 107 2 (by omega)).1
  rcases X with ⟨c, er, eI⟩ | ⟨p1, p2, er, e1⟩
  · subst eI
    subst eR
    refine mx_back mm (fun _ => ⟨_, I, L, R, rfl, er, fun _ => ⟨⟨t1, t2, t3⟩, hd, qt, qi, l, hrf, htd⟩⟩) (fun J d1 d2 _ _ mJ => ?_)
    exfalso
    rw [t1] at c
    omega
  · refine mx_back mm (fun c' => ?_) (fun J d1 d2 eJ s1 mJ => ?_)
    · exfalso
      rw [e2, ← t1] at c'
      omega
    · refine ⟨_, J, L, R, rfl, by rw [er, e2, t1], fun _ => ?_⟩
      have g : ∀ p j, ¬ (p = 0 ∧ j = 10) → ¬ (p = 107 ∧ j = 2) → J p j = I0 p j := fun p j a b => by
        rw [eJ, en_up_ne _ _ _ _ b, e1, en_up_ne _ _ _ _ a]
      have l1 : J 0 10 = I0 0 10 - x := by rw [eJ, en_up_ne _ _ _ _ (by omega), e1, en_up_eq]
      refine ⟨⟨?_, fun j hj => ?_, ?_⟩, hdE_cg (I := I0) (fun p j q => g p j (by omega) (by omega)) hd, qt, qi, l, ⟨hrf.1, hrf.2.1, by rw [eR]; exact hrf.2.2.1, by rw [eR]; exact hrf.2.2.2.1, by rw [g 107 18 (by omega) (by omega)]; exact hrf.2.2.2.2⟩, tdE_cg (I := I0) (by have := hrf.1; omega) (fun p j q => g p j (by omega) (by omega)) htd⟩
      · rw [l1, eJ, en_up_eq, e2, t1]
      · rw [l1, t1, ← e2, s1, e2, ← t1] at hj
        rw [g 1 j (by omega) (by omega), g 108 j (by omega) (by omega)]
        exact t2 j (by omega)
      · rw [g 0 11 (by omega) (by omega), g 107 17 (by omega) (by omega)]; exact t3
/-- place -/
def XplaceK (I : sm_I) (L : sm_L) (R : sm_R) (r : Int32) (I1 : sm_I) (L1 : sm_L) (R1 : sm_R) : Prop := r = I 0 11 ∧ I1 = I ∧ L1 = L ∧ R1 = R
theorem bk_place : sm_wp sm_P S 59 73 0 [.ref 0] [] (xLay, I, L, R) (0, 0) (fun z => ∃ (r : Int32) (I2 : sm_I) (L2 : sm_L) (R2 : sm_R), z = (some (.int r), (xLay, I2, L2, R2)) ∧ XplaceK I L R r I2 L2 R2) := kp_place ⟨_, I, L, R, rfl, rfl, rfl, rfl, rfl⟩
theorem bm_place (hI : MD XplaceK r I L R) : sm_wp sm_P S 59 174 0 [.ref 107] [] (xLay, I, L, R) (0, 0) (fun z => ∃ (r' : Int32) (I2 : sm_I) (L2 : sm_L) (R2 : sm_R), z = (some (.int r'), (xLay, I2, L2, R2)) ∧ r = r' ∧ ((∀ p j, p < 107 → I2 p j = I p j ∧ R2 p j = R p j) → LJ I2 R2)) := by
  obtain ⟨I0, L0, R0, hI0, mk, o, er, eI, -, eR⟩ := hI
  subst eI
  subst eR
  exact mp_place ⟨_, I, L, R, rfl, by rw [er]; exact hI0.2.2.1.2.2, fun _ => hI0.2.2⟩
/-- doubt -/
def dbok (I : sm_I) (qt : Nat) (x : Int32) : Prop := 0 ≤ x.toInt ∧ x.toInt < (I qt 3).toInt ∧ ((I qt 6) >>> (x &&& 31)) &&& (1 : Int32) = 0
def XdoubtK (x y : Int32) (I : sm_I) (_ : sm_L) (R : sm_R) (r : Int32) (I1 : sm_I) (_ : sm_L) (R1 : sm_R) : Prop := R1 = R ∧ ∀ qt, R 0 9 = some qt → (dbok I qt x ∧ r = 1 ∧ I1 = stI (dbK x y I)) ∨ (¬ dbok I qt x ∧ r = 0 ∧ I1 = I)
theorem q_kP {qt : Nat} (hI : en_mem kl_tb klX (xLay, I, L, R)) (h : R 0 9 = some qt) : kP qt R = R := kP_eq (w := (xLay, I, L, R)) hI h
theorem q_k3 {qt : Nat} (hI : en_mem kl_tb klX (xLay, I, L, R)) (h : qt = 12 ∨ qt = 49) : (I qt 2).toInt ≤ 10 ∧ (I qt 3).toInt ≤ 10 := by
  rcases h with e | e <;> subst e
  · exact ⟨(hI.2.1 12 2 (0, 10) (by decide +kernel)).2, (hI.2.1 12 3 (0, 10) (by decide +kernel)).2⟩
  · exact ⟨(hI.2.1 49 2 (0, 10) (by decide +kernel)).2, (hI.2.1 49 3 (0, 10) (by decide +kernel)).2⟩
theorem bk_doubt {x y : Int32} (hI : lw_I I L R) : sm_wp sm_P S (57 + 2) 39 0 [.ref 0, .int x, .int y] [] (xLay, I, L, R) (0, 0) (fun z => ∃ (r : Int32) (I2 : sm_I) (L2 : sm_L) (R2 : sm_R), z = (some (.int r), (xLay, I2, L2, R2)) ∧ XdoubtK x y I L R r I2 L2 R2) := by
  obtain ⟨m, -, -, -, qt, qi, l, hrf, -⟩ := hI
  have e : kP qt R = R := q_kP m hrf.2.2.1
  have b := q_k3 m (qt := qt) (by have := hrf.1; omega)
  have un : ∀ q, R 0 9 = some q → q = qt := fun q h => Option.some.inj (h.symm.trans hrf.2.2.1)
  have g := kp_doubt (S := S) (d := 57) (L := L) (R := R) (x := x) (y := y) (Φ := fun z => ∃ (r : Int32) (I2 : sm_I) (L2 : sm_L) (R2 : sm_R), z = (some (.int r), (xLay, I2, L2, R2)) ∧ XdoubtK x y I L R r I2 L2 R2) (by have := hrf.1; omega) b.2 (fun c => ⟨_, I, L, _, rfl, e, fun q h => Or.inr ⟨by rw [un q h]; exact c, rfl, rfl⟩⟩) (fun a1 a2 a3 => ⟨_, _, L, _, rfl, e, fun q h => Or.inl ⟨by rw [un q h]; exact ⟨a1, a2, a3⟩, rfl, rfl⟩⟩)
  rw [e] at g
  exact g
theorem bm_doubt {x y : Int32} (hy : y = 0 ∨ y = 1) (hI : MD (XdoubtK x y) r I L R) : sm_wp sm_P S (57 + 2) 120 0 [.ref 107, .int x, .int y] [] (xLay, I, L, R) (0, 0) (fun z => ∃ (r' : Int32) (I2 : sm_I) (L2 : sm_L) (R2 : sm_R), z = (some (.int r'), (xLay, I2, L2, R2)) ∧ r = r' ∧ ((∀ p j, p < 107 → I2 p j = I p j ∧ R2 p j = R p j) → LJ I2 R2)) := by
  obtain ⟨I0, L0, R0, hI0, mk, o, eR, X⟩ := hI
  have mm := MD_m (X := XdoubtK x y) hI0 mk o
  obtain ⟨m0, n0, k⟩ := hI0
  obtain ⟨tp, hd, qt, qi, l, hrf, htd⟩ := k
  have X := X qt hrf.2.2.1
  have hq : qt = 12 ∨ qt = 49 := by have := hrf.1; omega
  obtain ⟨-, -, -, c3, -, c6⟩ := q_cnt hq htd
  have l1 := hrf.2.1
  have b := (q_b l1 mm).2
  have e125 : I 125 l = I0 125 l := (o 125 l (by omega)).1
  have hl : (I 107 18).toInt = l := by rw [(o 107 18 (by omega)).1]; exact hrf.2.2.2.2
  have ok : dbok I0 qt x ↔ (0 ≤ x.toInt ∧ x.toInt < (I 125 l).toInt ∧ I 126 (10 * l + x.toNatClampNeg) = 0) := by
    unfold dbok
    rw [c3, c6, e125, (o 126 _ (by omega)).1]
    rw [e125] at b
    constructor
    · rintro ⟨a1, a2, a3⟩
      have nx := kl_nat a1
      have nn := kl_nat (i := I0 125 l) (by omega)
      exact ⟨a1, a2, (sb_say (f := fun i => I0 126 (10 * l + i)) (n := (I0 125 l).toNatClampNeg) (k := x.toNatClampNeg) (y := x) (by omega) (by omega) (by omega)).mp a3⟩
    · rintro ⟨a1, a2, a3⟩
      have nx := kl_nat a1
      have nn := kl_nat (i := I0 125 l) (by omega)
      exact ⟨a1, a2, (sb_say (f := fun i => I0 126 (10 * l + i)) (n := (I0 125 l).toNatClampNeg) (k := x.toNatClampNeg) (y := x) (by omega) (by omega) (by omega)).mpr a3⟩
  have e : kM R = R := ml_R mm
  have g := yp_doubt (S := S) (d := 57) (L := L) (R := R) (x := x) (y := y) (Φ := fun z => ∃ (r' : Int32) (I2 : sm_I) (L2 : sm_L) (R2 : sm_R), z = (some (.int r'), (xLay, I2, L2, R2)) ∧ r = r' ∧ ((∀ p j, p < 107 → I2 p j = I p j ∧ R2 p j = R p j) → LJ I2 R2)) hl l1 b (fun c => ?_) (fun a1 a2 a3 => ?_)
  · rw [e] at g
    exact g
  · rcases X with ⟨x1, -, -⟩ | ⟨-, er, eI⟩
    · exact absurd (ok.mp x1) c
    · subst eI
      exact ⟨_, I, L, _, rfl, er, fun _ => by rw [e, eR]; exact ⟨tp, hd, qt, qi, l, hrf, htd⟩⟩
  · rcases X with ⟨x1, er, eI⟩ | ⟨x1, -, -⟩
    rotate_left
    · exact absurd (ok.mpr ⟨a1, a2, a3⟩) x1
    refine ⟨_, _, L, _, rfl, er, fun _ => ?_⟩
    rw [e, eR]
    have nx := kl_nat a1
    have dk : ∀ p j, ¬ (p = 37 ∧ j = 0) → p ≠ 39 → dbK x y I0 p j = I0 p j := fun p j a b => by
      unfold dbK
      split
      · rw [en_up_ne _ _ _ _ a]
      · rw [en_up_ne _ _ _ _ (by omega), en_up_ne _ _ _ _ a]
    have dm : ∀ p j, p ≠ 137 → p ≠ 160 → dbM x y I p j = I p j := fun p j a b => by
      unfold dbM
      split
      · rw [en_up_ne _ _ _ _ (by omega)]
      · rw [en_up_ne _ _ _ _ (by omega), en_up_ne _ _ _ _ (by omega)]
    have g : ∀ p j, ¬ (p = 37 ∧ j = 0) → p ≠ 39 → p ≠ 137 → p ≠ 160 → ¬ (p = 107 ∧ (j = 70 ∨ j = 79)) → ¬ ((p = 0 ∧ (j = 12 ∨ j = 13)) ∨ (p = 98 ∧ (j = 8 ∨ j = 9)) ∨ (p = 103 ∧ j = 5)) → chI (dbM x y I) p j = I0 p j := fun p j a b c d f f2 => by
      rw [chI_ne f, dm p j c d, eI, stI_ne f2, dk p j a b]
    obtain ⟨h1, h2, h3, h4, h5⟩ := hd
    refine ⟨tpE_cg (I := I0) (fun p j q => g p j (by omega) (by omega) (by omega) (by omega) (by omega) (by omega)) tp, ⟨fun k hk => ?_, fun k hk => ?_, ?_, fun i hi hj => ?_, fun k hk => ?_⟩, qt, qi, l, ⟨hrf.1, hrf.2.1, hrf.2.2.1, hrf.2.2.2.1, ?_⟩, tdE_cg (I := I0) hq (fun p j q => g p j (by omega) (by omega) (by omega) (by omega) (by omega) (by omega)) htd⟩
    · have w1 : chI (dbM x y I) 37 0 = dbK x y I0 37 0 := by rw [chI_ne (by omega), dm _ _ (by omega) (by omega), eI, stI_ne (by omega)]
      have w2 : chI (dbM x y I) 137 k = dbM x y I 137 k := by rw [chI_ne (by omega)]
      have b1 : (I0 125 l).toInt ≤ 10 := by rw [← e125]; exact b.2
      have a2' : x.toInt < 10 := by omega
      have hx : x.toInt = (x.toNatClampNeg : Int) := nx.symm
      have i137 : I 137 k = I0 137 k := (o 137 k (by omega)).1
      rw [w1, w2]
      rcases hy with hy | hy
      · subst hy
        unfold dbK dbM
        rw [if_pos rfl, if_pos rfl, en_up_eq, q_an hx (by omega) (by omega), h1 k hk]
        by_cases c : k = x.toNatClampNeg
        · rw [← c, en_up_eq]; simp; decide
        · rw [en_up_ne _ _ _ _ (by omega), i137]; simp [c]
      · subst hy
        unfold dbK dbM
        rw [if_neg (by decide), if_neg (by decide), en_up_ne _ _ _ _ (by omega), en_up_eq, q_or hx (by omega) (by omega), h1 k hk, en_up_ne _ _ _ _ (by omega)]
        by_cases c : k = x.toNatClampNeg
        · rw [← c, en_up_eq]; simp; decide
        · rw [en_up_ne _ _ _ _ (by omega), i137]; simp [c]
    · rw [g 38 k (by omega) (by omega) (by omega) (by omega) (by omega) (by omega), g 138 k (by omega) (by omega) (by omega) (by omega) (by omega) (by omega)]; exact h2 k hk
    · rw [g 37 1 (by omega) (by omega) (by omega) (by omega) (by omega) (by omega), g 107 54 (by omega) (by omega) (by omega) (by omega) (by omega) (by omega)]; exact h3
    · rw [g 37 1 (by omega) (by omega) (by omega) (by omega) (by omega) (by omega)] at hj
      rw [g 41 i (by omega) (by omega) (by omega) (by omega) (by omega) (by omega), g 42 i (by omega) (by omega) (by omega) (by omega) (by omega) (by omega), g 43 i (by omega) (by omega) (by omega) (by omega) (by omega) (by omega), g 44 i (by omega) (by omega) (by omega) (by omega) (by omega) (by omega), g 144 i (by omega) (by omega) (by omega) (by omega) (by omega) (by omega), g 145 i (by omega) (by omega) (by omega) (by omega) (by omega) (by omega), g 146 i (by omega) (by omega) (by omega) (by omega) (by omega) (by omega), g 147 i (by omega) (by omega) (by omega) (by omega) (by omega) (by omega)]
      exact h4 i hi hj
    · have w1 : chI (dbM x y I) 39 k = dbK x y I0 39 k := by rw [chI_ne (by omega), dm _ _ (by omega) (by omega), eI, stI_ne (by omega)]
      have w2 : chI (dbM x y I) 160 k = dbM x y I 160 k := by rw [chI_ne (by omega)]
      have i160 : I 160 k = I0 160 k := (o 160 k (by omega)).1
      rw [w1, w2]
      unfold dbK dbM
      by_cases c0 : y = 0
      · rw [if_pos c0, if_pos c0, en_up_ne _ _ _ _ (by omega), en_up_ne _ _ _ _ (by omega), i160]; exact h5 k hk
      · rw [if_neg c0, if_neg c0]
        by_cases c : k = x.toNatClampNeg
        · rw [← c, en_up_eq, en_up_eq]
        · rw [en_up_ne _ _ _ _ (by omega), en_up_ne _ _ _ _ (by omega), en_up_ne _ _ _ _ (by omega), en_up_ne _ _ _ _ (by omega), i160]; exact h5 k hk
    · rw [g 107 18 (by omega) (by omega) (by omega) (by omega) (by omega) (by omega)]; exact hrf.2.2.2.2
/-- set -/
def stok (n : Int) (x y : Int32) : Prop := (0 ≤ x.toInt ∧ x.toInt < n) ∧ (y = -1 ∨ (0 ≤ y.toInt ∧ y.toInt ≤ 1440))
def XsetK (x y : Int32) (I : sm_I) (_ : sm_L) (R : sm_R) (r : Int32) (I1 : sm_I) (_ : sm_L) (R1 : sm_R) : Prop := R1 = R ∧ ∀ qt, R 0 9 = some qt → (stok (I qt 2).toInt x y ∧ r = 1 ∧ I1 = sm_up I 38 x.toNatClampNeg y) ∨ (¬ stok (I qt 2).toInt x y ∧ r = 0 ∧ I1 = I)
theorem bk_set {x y : Int32} (hI : lw_I I L R) : sm_wp sm_P S (58 + 1) 83 0 [.ref 0, .int x, .int y] [] (xLay, I, L, R) (0, 0) (fun z => ∃ (r : Int32) (I2 : sm_I) (L2 : sm_L) (R2 : sm_R), z = (some (.int r), (xLay, I2, L2, R2)) ∧ XsetK x y I L R r I2 L2 R2) := by
  obtain ⟨m, -, -, -, qt, qi, l, hrf, -⟩ := hI
  have e : kP qt R = R := q_kP m hrf.2.2.1
  have b := q_k3 m (qt := qt) (by have := hrf.1; omega)
  have un : ∀ q, R 0 9 = some q → q = qt := fun q h => Option.some.inj (h.symm.trans hrf.2.2.1)
  have g := kp_set (S := S) (d := 58) (L := L) (R := R) (x := x) (y := y) (Φ := fun z => ∃ (r : Int32) (I2 : sm_I) (L2 : sm_L) (R2 : sm_R), z = (some (.int r), (xLay, I2, L2, R2)) ∧ XsetK x y I L R r I2 L2 R2) (by have := hrf.1; omega) b.1 (fun c => ⟨_, I, L, _, rfl, e, fun q h => Or.inr ⟨by rw [un q h]; exact c, rfl, rfl⟩⟩) (fun a1 a2 a3 => ⟨_, _, L, _, rfl, e, fun q h => Or.inl ⟨by rw [un q h]; exact ⟨⟨a1, a2⟩, a3⟩, rfl, rfl⟩⟩)
  rw [e] at g
  exact g
theorem bm_set {x y : Int32} (hI : MD (XsetK x y) r I L R) : sm_wp sm_P S (57 + 2) 188 0 [.ref 107, .int x, .int y] [] (xLay, I, L, R) (0, 0) (fun z => ∃ (r' : Int32) (I2 : sm_I) (L2 : sm_L) (R2 : sm_R), z = (some (.int r'), (xLay, I2, L2, R2)) ∧ r = r' ∧ ((∀ p j, p < 107 → I2 p j = I p j ∧ R2 p j = R p j) → LJ I2 R2)) := by
  obtain ⟨I0, L0, R0, hI0, mk, o, eR, X⟩ := hI
  have mm := MD_m (X := XsetK x y) hI0 mk o
  obtain ⟨m0, n0, k⟩ := hI0
  obtain ⟨tp, hd, qt, qi, l, hrf, htd⟩ := k
  have X := X qt hrf.2.2.1
  have hq : qt = 12 ∨ qt = 49 := by have := hrf.1; omega
  obtain ⟨-, -, c2, -, -, -⟩ := q_cnt hq htd
  have l1 := hrf.2.1
  have b := (q_b l1 mm).1
  have e122 : I 122 l = I0 122 l := (o 122 l (by omega)).1
  have hl : (I 107 18).toInt = l := by rw [(o 107 18 (by omega)).1]; exact hrf.2.2.2.2
  rw [c2, ← e122] at X
  have e : kM R = R := ml_R mm
  have g := yp_set (S := S) (d := 57) (L := L) (R := R) (x := x) (y := y) (Φ := fun z => ∃ (r' : Int32) (I2 : sm_I) (L2 : sm_L) (R2 : sm_R), z = (some (.int r'), (xLay, I2, L2, R2)) ∧ r = r' ∧ ((∀ p j, p < 107 → I2 p j = I p j ∧ R2 p j = R p j) → LJ I2 R2)) hl l1 b (fun c => ?_) (fun a1 a2 a3 => ?_)
  · rw [e] at g
    exact g
  · rcases X with ⟨x1, -, -⟩ | ⟨-, er, eI⟩
    · exact absurd x1 c
    · subst eI
      exact ⟨_, I, L, _, rfl, er, fun _ => by rw [e, eR]; exact ⟨tp, hd, qt, qi, l, hrf, htd⟩⟩
  · rcases X with ⟨x1, er, eI⟩ | ⟨x1, -, -⟩
    rotate_left
    · exact absurd ⟨⟨a1, a2⟩, a3⟩ x1
    refine ⟨_, _, L, _, rfl, er, fun _ => ?_⟩
    rw [e, eR]
    have g : ∀ p j, p ≠ 38 → p ≠ 138 → sm_up I 138 x.toNatClampNeg y p j = I0 p j := fun p j a b => by
      rw [en_up_ne _ _ _ _ (by omega), eI, en_up_ne _ _ _ _ (by omega)]
    obtain ⟨h1, h2, h3, h4, h5⟩ := hd
    refine ⟨tpE_cg (I := I0) (fun p j q => g p j (by omega) (by omega)) tp, ⟨fun k hk => ?_, fun k hk => ?_, ?_, fun i hi hj => ?_, fun k hk => ?_⟩, qt, qi, l, ⟨hrf.1, hrf.2.1, hrf.2.2.1, hrf.2.2.2.1, ?_⟩, tdE_cg (I := I0) hq (fun p j q => g p j (by omega) (by omega)) htd⟩
    · rw [g 37 0 (by omega) (by omega), g 137 k (by omega) (by omega)]; exact h1 k hk
    · by_cases c : k = x.toNatClampNeg
      · rw [en_up_ne _ _ _ _ (by omega), eI, ← c, en_up_eq, en_up_eq]
      · rw [en_up_ne _ _ _ _ (by omega), eI, en_up_ne _ _ _ _ (by omega), en_up_ne _ _ _ _ (by omega), en_up_ne _ _ _ _ (by omega)]; exact h2 k hk
    · rw [g 37 1 (by omega) (by omega), g 107 54 (by omega) (by omega)]; exact h3
    · rw [g 37 1 (by omega) (by omega)] at hj
      rw [g 41 i (by omega) (by omega), g 42 i (by omega) (by omega), g 43 i (by omega) (by omega), g 44 i (by omega) (by omega), g 144 i (by omega) (by omega), g 145 i (by omega) (by omega), g 146 i (by omega) (by omega), g 147 i (by omega) (by omega)]
      exact h4 i hi hj
    · rw [g 39 k (by omega) (by omega), g 160 k (by omega) (by omega)]; exact h5 k hk
    · rw [g 107 18 (by omega) (by omega)]; exact hrf.2.2.2.2
/-- more -/
def XmoreK (x y a b : Int32) (I : sm_I) (_ : sm_L) (R : sm_R) (r : Int32) (I1 : sm_I) (_ : sm_L) (R1 : sm_R) : Prop := R1 = R ∧ ∀ qt, R 0 9 = some qt → (mrok (I qt 2).toInt (I 37 1).toInt x y a b ∧ r = I 37 1 + 1 ∧ I1 = stI (mrK x y a b I)) ∨ (¬ mrok (I qt 2).toInt (I 37 1).toInt x y a b ∧ r = -1 ∧ I1 = I)
theorem q_m {I : sm_I} {L : sm_L} {R : sm_R} (m : en_mem ml_tb mlX (xLay, I, L, R)) : 0 ≤ (I 107 54).toInt ∧ (I 107 54).toInt ≤ 6 := m.2.1 107 54 (0, 6) (by decide +kernel)
theorem q_k {I : sm_I} {L : sm_L} {R : sm_R} (m : en_mem kl_tb klX (xLay, I, L, R)) : 0 ≤ (I 37 1).toInt ∧ (I 37 1).toInt ≤ 6 := m.2.1 37 1 (0, 6) (by decide +kernel)
theorem bk_more {x y a b : Int32} (hI : lw_I I L R) : sm_wp sm_P S (57 + 2) 69 0 [.ref 0, .int x, .int y, .int a, .int b] [] (xLay, I, L, R) (0, 0) (fun z => ∃ (r : Int32) (I2 : sm_I) (L2 : sm_L) (R2 : sm_R), z = (some (.int r), (xLay, I2, L2, R2)) ∧ XmoreK x y a b I L R r I2 L2 R2) := by
  obtain ⟨m, -, -, -, qt, qi, l, hrf, -⟩ := hI
  have e : kP qt R = R := q_kP m hrf.2.2.1
  have un : ∀ q, R 0 9 = some q → q = qt := fun q h => Option.some.inj (h.symm.trans hrf.2.2.1)
  have g := kp_more (S := S) (d := 57) (L := L) (R := R) (q := qt) (x := x) (y := y) (a := a) (b := b) (Φ := fun z => ∃ (r : Int32) (I2 : sm_I) (L2 : sm_L) (R2 : sm_R), z = (some (.int r), (xLay, I2, L2, R2)) ∧ XmoreK x y a b I L R r I2 L2 R2) (by have := hrf.1; omega) (q_k m).1 (fun c => ⟨_, I, L, _, rfl, e, fun q h => Or.inr ⟨by rw [un q h]; exact c, rfl, rfl⟩⟩) (fun c => ⟨_, _, L, _, rfl, e, fun q h => Or.inl ⟨by rw [un q h]; exact c, rfl, rfl⟩⟩)
  rw [e] at g
  exact g
theorem bm_more {x y a b : Int32} (hI : MD (XmoreK x y a b) r I L R) : sm_wp sm_P S (57 + 2) 163 0 [.ref 107, .int x, .int y, .int a, .int b] [] (xLay, I, L, R) (0, 0) (fun z => ∃ (r' : Int32) (I2 : sm_I) (L2 : sm_L) (R2 : sm_R), z = (some (.int r'), (xLay, I2, L2, R2)) ∧ r = r' ∧ ((∀ p j, p < 107 → I2 p j = I p j ∧ R2 p j = R p j) → LJ I2 R2)) := by
  obtain ⟨I0, L0, R0, hI0, mk, o, eR, X⟩ := hI
  have mm := MD_m (X := XmoreK x y a b) hI0 mk o
  obtain ⟨m0, n0, k⟩ := hI0
  obtain ⟨tp, hd, qt, qi, l, hrf, htd⟩ := k
  have X := X qt hrf.2.2.1
  have hq : qt = 12 ∨ qt = 49 := by have := hrf.1; omega
  obtain ⟨-, -, c2, -, -, -⟩ := q_cnt hq htd
  have l1 := hrf.2.1
  have bb := (q_b l1 mm).1
  have e122 : I 122 l = I0 122 l := (o 122 l (by omega)).1
  have hl : (I 107 18).toInt = l := by rw [(o 107 18 (by omega)).1]; exact hrf.2.2.2.2
  obtain ⟨h1, h2, h3, h4, h5⟩ := hd
  have e54 : I 107 54 = I0 107 54 := (o 107 54 (by omega)).1
  have mn : I0 37 1 = I 107 54 := by rw [e54]; exact h3
  have kb := q_k m0
  have nb := kl_nat kb.1
  rw [c2, ← e122, mn] at X
  have e : kM R = R := ml_R mm
  have g := yp_more (S := S) (d := 57) (L := L) (R := R) (x := x) (y := y) (a := a) (b := b) (Φ := fun z => ∃ (r' : Int32) (I2 : sm_I) (L2 : sm_L) (R2 : sm_R), z = (some (.int r'), (xLay, I2, L2, R2)) ∧ r = r' ∧ ((∀ p j, p < 107 → I2 p j = I p j ∧ R2 p j = R p j) → LJ I2 R2)) hl l1 bb (q_m mm) (fun c => ?_) (fun a1 => ?_)
  · rw [e] at g
    exact g
  · rcases X with ⟨x1, -, -⟩ | ⟨-, er, eI⟩
    · exact absurd x1 c
    · subst eI
      exact ⟨_, I, L, _, rfl, er, fun _ => by rw [e, eR]; exact ⟨tp, ⟨h1, h2, h3, h4, h5⟩, qt, qi, l, hrf, htd⟩⟩
  · rcases X with ⟨x1, er, eI⟩ | ⟨x1, -, -⟩
    rotate_left
    · exact absurd a1 x1
    refine ⟨_, _, L, _, rfl, er, fun _ => ?_⟩
    rw [e, eR]
    have m6 : (I 107 54).toInt < 6 := a1.2.2
    have nI : (I 107 54).toNatClampNeg = (I0 37 1).toNatClampNeg := by rw [mn]
    have dk : ∀ p j, ¬ (p = 37 ∧ j = 1) → ¬ (41 ≤ p ∧ p ≤ 44) → mrK x y a b I0 p j = I0 p j := fun p j c d => by
      unfold mrK
      rw [en_up_ne _ _ _ _ c, en_up_ne _ _ _ _ (by omega), en_up_ne _ _ _ _ (by omega), en_up_ne _ _ _ _ (by omega), en_up_ne _ _ _ _ (by omega)]
    have dm : ∀ p j, ¬ (p = 107 ∧ j = 54) → ¬ (144 ≤ p ∧ p ≤ 147) → mrM x y a b I p j = I p j := fun p j c d => by
      unfold mrM
      rw [en_up_ne _ _ _ _ c, en_up_ne _ _ _ _ (by omega), en_up_ne _ _ _ _ (by omega), en_up_ne _ _ _ _ (by omega), en_up_ne _ _ _ _ (by omega)]
    have st : ∀ p j, ¬ (p = 107 ∧ (j = 70 ∨ j = 79)) → ¬ ((p = 0 ∧ (j = 12 ∨ j = 13)) ∨ (p = 98 ∧ (j = 8 ∨ j = 9)) ∨ (p = 103 ∧ j = 5)) → chI (mrM x y a b I) p j = mrM x y a b I p j ∧ I p j = mrK x y a b I0 p j := fun p j c d => ⟨chI_ne c, by rw [eI, stI_ne d]⟩
    have g : ∀ p j, ¬ (p = 107 ∧ (j = 54 ∨ j = 70 ∨ j = 79)) → ¬ ((p = 0 ∧ (j = 12 ∨ j = 13)) ∨ (p = 98 ∧ (j = 8 ∨ j = 9)) ∨ (p = 103 ∧ j = 5)) → ¬ (p = 37 ∧ j = 1) → ¬ (41 ≤ p ∧ p ≤ 44) → ¬ (144 ≤ p ∧ p ≤ 147) → chI (mrM x y a b I) p j = I0 p j := fun p j c d c1 c2 c3 => by
      rw [(st p j (by omega) d).1, dm p j (by omega) c3, (st p j (by omega) d).2, dk p j c1 c2]
    have w1 : chI (mrM x y a b I) 37 1 = I0 37 1 + 1 := by
      rw [(st 37 1 (by omega) (by omega)).1, dm 37 1 (by omega) (by omega), (st 37 1 (by omega) (by omega)).2]
      exact en_up_eq _ _ _ _
    have w2 : chI (mrM x y a b I) 107 54 = I 107 54 + 1 := by
      rw [(st 107 54 (by omega) (by omega)).1]
      exact en_up_eq _ _ _ _
    refine ⟨tpE_cg (I := I0) (fun p j q => g p j (by omega) (by omega) (by omega) (by omega) (by omega)) tp, ⟨fun k hk => ?_, fun k hk => ?_, ?_, fun i hi hj => ?_, fun k hk => ?_⟩, qt, qi, l, ⟨hrf.1, hrf.2.1, hrf.2.2.1, hrf.2.2.2.1, ?_⟩, tdE_cg (I := I0) hq (fun p j q => g p j (by omega) (by omega) (by omega) (by omega) (by omega)) htd⟩
    · rw [g 37 0 (by omega) (by omega) (by omega) (by omega) (by omega), g 137 k (by omega) (by omega) (by omega) (by omega) (by omega)]; exact h1 k hk
    · rw [g 38 k (by omega) (by omega) (by omega) (by omega) (by omega), g 138 k (by omega) (by omega) (by omega) (by omega) (by omega)]; exact h2 k hk
    · rw [w1, w2, mn]
    · rw [w1, ml_in1 (x := I0 37 1) (by omega)] at hj
      have k1 : ∀ p v, (p = 41 ∧ v = x) ∨ (p = 42 ∧ v = y) ∨ (p = 43 ∧ v = a) ∨ (p = 44 ∧ v = b) → chI (mrM x y a b I) p i = if i = (I0 37 1).toNatClampNeg then v else I0 p i := fun p v hp => by
        rw [(st p i (by omega) (by omega)).1, dm p i (by omega) (by omega), (st p i (by omega) (by omega)).2]
        unfold mrK
        by_cases ci : i = (I0 37 1).toNatClampNeg
        · rw [if_pos ci, ← ci]
          rcases hp with ⟨e1, e2⟩ | ⟨e1, e2⟩ | ⟨e1, e2⟩ | ⟨e1, e2⟩ <;> subst e1 <;> subst e2 <;> simp [sm_up]
        · rw [if_neg ci, en_up_ne _ _ _ _ (by omega), en_up_ne _ _ _ _ (by omega), en_up_ne _ _ _ _ (by omega), en_up_ne _ _ _ _ (by omega), en_up_ne _ _ _ _ (by omega)]
      have k2 : ∀ p v, (p = 144 ∧ v = x) ∨ (p = 145 ∧ v = y) ∨ (p = 146 ∧ v = a) ∨ (p = 147 ∧ v = b) → chI (mrM x y a b I) p i = if i = (I0 37 1).toNatClampNeg then v else I0 p i := fun p v hp => by
        rw [(st p i (by omega) (by omega)).1]
        have oi : I p i = I0 p i := (o p i (by omega)).1
        unfold mrM
        rw [nI]
        by_cases ci : i = (I0 37 1).toNatClampNeg
        · rw [if_pos ci, ← ci]
          rcases hp with ⟨e1, e2⟩ | ⟨e1, e2⟩ | ⟨e1, e2⟩ | ⟨e1, e2⟩ <;> subst e1 <;> subst e2 <;> simp [sm_up]
        · rw [if_neg ci, en_up_ne _ _ _ _ (by omega), en_up_ne _ _ _ _ (by omega), en_up_ne _ _ _ _ (by omega), en_up_ne _ _ _ _ (by omega), en_up_ne _ _ _ _ (by omega), oi]
      rw [k1 41 x (Or.inl ⟨rfl, rfl⟩), k1 42 y (Or.inr (Or.inl ⟨rfl, rfl⟩)), k1 43 a (Or.inr (Or.inr (Or.inl ⟨rfl, rfl⟩))), k1 44 b (Or.inr (Or.inr (Or.inr ⟨rfl, rfl⟩))), k2 144 x (Or.inl ⟨rfl, rfl⟩), k2 145 y (Or.inr (Or.inl ⟨rfl, rfl⟩)), k2 146 a (Or.inr (Or.inr (Or.inl ⟨rfl, rfl⟩))), k2 147 b (Or.inr (Or.inr (Or.inr ⟨rfl, rfl⟩)))]
      by_cases ci : i = (I0 37 1).toNatClampNeg
      · simp only [if_pos ci, and_self]
      · simp only [if_neg ci]
        exact h4 i hi (by omega)
    · rw [g 39 k (by omega) (by omega) (by omega) (by omega) (by omega), g 160 k (by omega) (by omega) (by omega) (by omega) (by omega)]; exact h5 k hk
    · rw [g 107 18 (by omega) (by omega) (by omega) (by omega) (by omega)]; exact hrf.2.2.2.2
/-- fewer -/
def XfewerK (I : sm_I) (_ : sm_L) (R : sm_R) (r : Int32) (I1 : sm_I) (_ : sm_L) (R1 : sm_R) : Prop := R1 = R ∧ ((0 < (I 37 1).toInt ∧ r = I 37 1 - 1 ∧ I1 = stI (sm_up I 37 1 (I 37 1 - 1))) ∨ ((I 37 1).toInt ≤ 0 ∧ r = -1 ∧ I1 = I))
theorem bk_fewer (hI : lw_I I L R) : sm_wp sm_P S (58 + 1) 43 0 [.ref 0] [] (xLay, I, L, R) (0, 0) (fun z => ∃ (r : Int32) (I2 : sm_I) (L2 : sm_L) (R2 : sm_R), z = (some (.int r), (xLay, I2, L2, R2)) ∧ XfewerK I L R r I2 L2 R2) := by
  obtain ⟨m, -, -, -, qt, qi, l, hrf, -⟩ := hI
  have e : kP qt R = R := q_kP m hrf.2.2.1
  have g := kp_fewer (S := S) (d := 58) (L := L) (R := R) (q := qt) (Φ := fun z => ∃ (r : Int32) (I2 : sm_I) (L2 : sm_L) (R2 : sm_R), z = (some (.int r), (xLay, I2, L2, R2)) ∧ XfewerK I L R r I2 L2 R2) (fun c => ⟨_, I, L, _, rfl, e, Or.inr ⟨c, rfl, rfl⟩⟩) (fun c => ⟨_, _, L, _, rfl, e, Or.inl ⟨c, rfl, rfl⟩⟩)
  rw [e] at g
  exact g
theorem bm_fewer (hI : MD XfewerK r I L R) : sm_wp sm_P S (58 + 1) 125 0 [.ref 107] [] (xLay, I, L, R) (0, 0) (fun z => ∃ (r' : Int32) (I2 : sm_I) (L2 : sm_L) (R2 : sm_R), z = (some (.int r'), (xLay, I2, L2, R2)) ∧ r = r' ∧ ((∀ p j, p < 107 → I2 p j = I p j ∧ R2 p j = R p j) → LJ I2 R2)) := by
  obtain ⟨I0, L0, R0, hI0, mk, o, eR, X⟩ := hI
  have mm := MD_m (X := XfewerK) hI0 mk o
  obtain ⟨m0, n0, k⟩ := hI0
  obtain ⟨tp, hd, qt, qi, l, hrf, htd⟩ := k
  have hq : qt = 12 ∨ qt = 49 := by have := hrf.1; omega
  obtain ⟨h1, h2, h3, h4, h5⟩ := hd
  have e54 : I 107 54 = I0 107 54 := (o 107 54 (by omega)).1
  have mn : I0 37 1 = I 107 54 := by rw [e54]; exact h3
  have kb := q_k m0
  have e : kM R = R := ml_R mm
  have g := yp_fewer (S := S) (d := 58) (L := L) (R := R) (Φ := fun z => ∃ (r' : Int32) (I2 : sm_I) (L2 : sm_L) (R2 : sm_R), z = (some (.int r'), (xLay, I2, L2, R2)) ∧ r = r' ∧ ((∀ p j, p < 107 → I2 p j = I p j ∧ R2 p j = R p j) → LJ I2 R2)) (q_m mm).1 (fun c => ?_) (fun c => ?_)
  · rw [e] at g
    exact g
  · rcases X with ⟨x1, -, -⟩ | ⟨-, er, eI⟩
    · rw [mn] at x1
      omega
    · subst eI
      exact ⟨_, I, L, _, rfl, er, fun _ => by rw [e, eR]; exact ⟨tp, ⟨h1, h2, h3, h4, h5⟩, qt, qi, l, hrf, htd⟩⟩
  · rcases X with ⟨x1, er, eI⟩ | ⟨x1, -, -⟩
    rotate_left
    · rw [mn] at x1
      omega
    refine ⟨_, _, L, _, rfl, by rw [er, mn], fun _ => ?_⟩
    rw [e, eR]
    have g : ∀ p j, ¬ (p = 107 ∧ (j = 54 ∨ j = 70 ∨ j = 79)) → ¬ ((p = 0 ∧ (j = 12 ∨ j = 13)) ∨ (p = 98 ∧ (j = 8 ∨ j = 9)) ∨ (p = 103 ∧ j = 5)) → ¬ (p = 37 ∧ j = 1) → chI (sm_up I 107 54 (I 107 54 - 1)) p j = I0 p j := fun p j c d c1 => by
      rw [chI_ne (by omega), en_up_ne _ _ _ _ (by omega), eI, stI_ne d, en_up_ne _ _ _ _ c1]
    have w1 : chI (sm_up I 107 54 (I 107 54 - 1)) 37 1 = I0 37 1 - 1 := by
      rw [chI_ne (by omega), en_up_ne _ _ _ _ (by omega), eI, stI_ne (by omega), en_up_eq]
    have w2 : chI (sm_up I 107 54 (I 107 54 - 1)) 107 54 = I 107 54 - 1 := by
      rw [chI_ne (by omega), en_up_eq]
    have s1 : (I0 37 1 - 1).toInt = (I0 37 1).toInt - 1 := by
      rw [Int32.toInt_sub, kl_1]; exact en_bmod (by omega) (by omega) (Or.inl rfl)
    refine ⟨tpE_cg (I := I0) (fun p j q => g p j (by omega) (by omega) (by omega)) tp, ⟨fun k hk => ?_, fun k hk => ?_, ?_, fun i hi hj => ?_, fun k hk => ?_⟩, qt, qi, l, ⟨hrf.1, hrf.2.1, hrf.2.2.1, hrf.2.2.2.1, ?_⟩, tdE_cg (I := I0) hq (fun p j q => g p j (by omega) (by omega) (by omega)) htd⟩
    · rw [g 37 0 (by omega) (by omega) (by omega), g 137 k (by omega) (by omega) (by omega)]; exact h1 k hk
    · rw [g 38 k (by omega) (by omega) (by omega), g 138 k (by omega) (by omega) (by omega)]; exact h2 k hk
    · rw [w1, w2, mn]
    · rw [w1, s1] at hj
      rw [g 41 i (by omega) (by omega) (by omega), g 42 i (by omega) (by omega) (by omega), g 43 i (by omega) (by omega) (by omega), g 44 i (by omega) (by omega) (by omega), g 144 i (by omega) (by omega) (by omega), g 145 i (by omega) (by omega) (by omega), g 146 i (by omega) (by omega) (by omega), g 147 i (by omega) (by omega) (by omega)]
      exact h4 i hi (by omega)
    · rw [g 39 k (by omega) (by omega) (by omega), g 160 k (by omega) (by omega) (by omega)]; exact h5 k hk
    · rw [g 107 18 (by omega) (by omega) (by omega)]; exact hrf.2.2.2.2
end
