/-! the class's feed, back and read, exact in the tape's length -/
theorem kO_refs : ∀ j, j < 9 → (match kOl[j]? with
  | some q => decide (en_refs kl_tb 0 j = [q])
  | none => true) = true := by decide +kernel
theorem kO_ref9 : en_refs kl_tb 0 9 = [12, 49] := by decide +kernel
theorem kO_of {w : sm_W} (hm : en_mem kl_tb klX w) : ∃ q, (q = 12 ∨ q = 49) ∧ kO q w.2.2.2 = w.2.2.2 := by
  obtain ⟨q, h1, h2⟩ := hm.2.2.1 0 9 (by rw [kO_ref9]; exact List.cons_ne_nil _ _)
  rw [kO_ref9] at h1
  refine ⟨q, by simpa using h1, ?_⟩
  funext x j
  unfold kO
  cases e : Nat.beq x 0 with
  | false => rfl
  | true =>
    have e2 : x = 0 := Nat.eq_of_beq_eq_true e
    subst e2
    show (match kOl[j]? with
      | some p => some p
      | none => bif Nat.beq j 9 then some q else w.2.2.2 0 j) = w.2.2.2 0 j
    split
    · next p hp =>
      have hj : j < 9 := by
        have : j < kOl.length := by
          rcases Nat.lt_or_ge j kOl.length with h | h
          · exact h
          · rw [List.getElem?_eq_none h] at hp; cases hp
        exact this
      have r := kO_refs j hj
      rw [hp] at r
      have r : en_refs kl_tb 0 j = [p] := of_decide_eq_true r
      obtain ⟨a, g1, g2⟩ := hm.2.2.1 0 j (by rw [r]; exact List.cons_ne_nil _ _)
      rw [r] at g1
      rw [g2, List.mem_singleton.mp g1]
    · cases c : Nat.beq j 9 with
      | false => rfl
      | true =>
        have : j = 9 := Nat.eq_of_beq_eq_true c
        subst this
        exact h2.symm
theorem kx_wr {I : sm_I} {L : sm_L} {R : sm_R} {p j : Nat} {x : Int32} (hm : en_mem kl_tb klX (xLay, I, L, R)) (hf : en_fix kl_tb p j = false) (hq : ∀ q, en_int kl_tb p j = some q → q.1 ≤ x.toInt ∧ x.toInt ≤ q.2) : en_mem kl_tb klX (xLay, sm_up I p j x, L, R) := by
  refine ⟨hm.1, ?_, hm.2.2.1, hm.2.2.2.1, klX_ok.1 _ (I, L, R) _ _ _ hf hm.2.2.2.2⟩
  intro a b q h
  show q.1 ≤ (sm_up I p j x a b).toInt ∧ (sm_up I p j x a b).toInt ≤ q.2
  by_cases c : a = p ∧ b = j
  · obtain ⟨c1, c2⟩ := c
    subst c1; subst c2
    rw [en_up_eq]; exact hq q h
  · rw [en_up_ne _ _ _ _ c]; exact hm.2.1 a b q h
theorem kx_10 {I : sm_I} {L : sm_L} {R : sm_R} {x : Int32} (hm : en_mem kl_tb klX (xLay, I, L, R)) (hx : 0 ≤ x.toInt ∧ x.toInt ≤ 2000) : en_mem kl_tb klX (xLay, sm_up I 0 10 x, L, R) := kx_wr hm (by decide +kernel) (fun q hq => by
  rw [show en_int kl_tb 0 10 = some (0, 2000) from by decide +kernel] at hq
  rw [← Option.some.inj hq]; exact hx)
theorem kx_tape {I : sm_I} {L : sm_L} {R : sm_R} {j : Nat} {x : Int32} (hm : en_mem kl_tb klX (xLay, I, L, R)) : en_mem kl_tb klX (xLay, sm_up I 1 j (vp_nar .byte x), L, R) := kx_wr hm rfl (fun q hq => by
  have e : en_int kl_tb 1 j = bif Nat.blt j 2000 then some (-128, 127) else none := rfl
  rw [e] at hq
  cases c : Nat.blt j 2000 with
  | true => rw [c] at hq; rw [← Option.some.inj hq]; exact ml_byte x
  | false => rw [c] at hq; cases hq)
theorem kx_len {I : sm_I} {L : sm_L} {R : sm_R} (hm : en_mem kl_tb klX (xLay, I, L, R)) : 0 ≤ (I 0 10).toInt ∧ (I 0 10).toInt ≤ 2000 := hm.2.1 0 10 (0, 2000) (by decide +kernel)
theorem kx_put {S : sm_C} {d q : Nat} {Φ : sm_Z → Prop} {w0 : sm_W} {L : sm_L} {R : sm_R} {x1 : Int32} (n : Int) (hn : n ≤ 2000) (eR : kO q R = R) : ∀ (k : Nat) (I : sm_I) (x2 : Int32), (k ≤ 4 ∧ x2.toInt = 8 * k - 8) → en_mem kl_tb klX (xLay, I, L, R) → (I 0 10).toInt + k = n → en_fr [(0, [10]), (1, [])] w0 (xLay, I, L, R) → (∀ I' : sm_I, en_mem kl_tb klX (xLay, I', L, R) → (I' 0 10).toInt = n → en_fr [(0, [10]), (1, [])] w0 (xLay, I', L, R) → Φ (none, (xLay, I', L, kO q R))) → sm_wp sm_P S d 77 1 [.ref 0, .int x1, .int x2] [] (xLay, I, L, kO q R) (0, 0) Φ := by
  intro k
  induction k with
  | zero =>
    intro I x2 hx hm hi hf h
    refine o_X11_putFour_1 ⟨fun _ => h I hm (by omega) hf, fun a => ?_⟩
    have := kl_nlt0 a
    omega
  | succ k ih =>
    intro I x2 hx hm hi hf h
    have b := kx_len hm
    have c2k : (2000 : Int32).toInt = 2000 := by decide
    refine o_X11_putFour_1 ⟨fun a => ?_, fun _ => ⟨fun c => ?_, fun c n1 _ => ⟨?_, fun I2 e2 I3 e3 => ?_⟩⟩⟩
    · rw [kl_lt, kl_0] at a; omega
    · have c := kl_le.mp c
      rw [c2k] at c
      omega
    · exact kl_in b.1 (by omega)
    · have m8 : (-8 : Int32).toInt = -8 := by decide
      obtain ⟨y, hy, s⟩ : ∃ y, y = x2 + (-8 : Int32) ∧ y.toInt = x2.toInt - 8 := ⟨_, rfl, by rw [kl_add (by rw [m8]; omega) (by rw [m8]; omega), m8]; omega⟩
      rw [← hy]
      clear m8
      have hm2 : en_mem kl_tb klX (xLay, I2, L, R) := by rw [e2]; exact kx_tape hm
      have g2 : I2 0 10 = I 0 10 := by rw [e2, en_up_ne _ _ _ _ (fun c => absurd c.1 (by decide))]
      have s1 : (I 0 10 + 1).toInt = (I 0 10).toInt + 1 := ml_in1 (by omega)
      have hm3 : en_mem kl_tb klX (xLay, I3, L, R) := by
        rw [e3, g2]
        exact kx_10 hm2 (by omega)
      have g3 : I3 0 10 = I 0 10 + 1 := by rw [e3, g2, en_up_eq]
      refine ih I3 y ⟨by omega, by omega⟩ hm3 (by rw [g3]; omega) ?_ h
      rw [e3]
      refine ml_fr ?_ (by decide)
      rw [e2]
      exact ml_fr hf rfl
theorem kx_feed {S : sm_C} {d : Nat} {Φ : sm_Z → Prop} {I : sm_I} {L : sm_L} {R : sm_R} {x1 x2 x3 x4 x5 : Int32} (hm : en_mem kl_tb klX (xLay, I, L, R)) (h0 : 1980 < (I 0 10).toInt → Φ (some (.int (-1)), (xLay, I, L, R))) (h1 : ∀ I' : sm_I, (I 0 10).toInt ≤ 1980 → en_mem kl_tb klX (xLay, I', L, R) → (I' 0 10).toInt = (I 0 10).toInt + 20 → en_fr [(0, [10]), (1, [])] (xLay, I, L, R) (xLay, I', L, R) → Φ (some (.int (I' 0 10)), (xLay, I', L, R))) : sm_wp sm_P S (d + 1) 42 0 [.ref 0, .int x1, .int x2, .int x3, .int x4, .int x5] [] (xLay, I, L, R) (0, 0) Φ := by
  obtain ⟨q, -, e⟩ := kO_of hm
  have e : kO q R = R := e
  have b := kx_len hm
  have c20 : (20 : Int32).toInt = 20 := by decide
  have c24 : (24 : Int32).toInt = 8 * (4 : Nat) - 8 := by decide
  have c2k : (2000 : Int32).toInt = 2000 := by decide
  have s : (I 0 10 + 20).toInt = (I 0 10).toInt + 20 := by rw [kl_add (by rw [c20]; omega) (by rw [c20]; omega), c20]
  rw [← e]
  refine o_X11_feed_0 ⟨fun a => ?_, fun a => ?_⟩
  · have a := kl_le.mp a
    rw [s, c2k] at a
    have p0 : ∀ {x : Int32} {Φ : sm_Z → Prop} {I1 : sm_I}, en_mem kl_tb klX (xLay, I1, L, R) → (I1 0 10).toInt ≤ 1996 → en_fr [(0, [10]), (1, [])] (xLay, I, L, R) (xLay, I1, L, R) → (∀ I2 : sm_I, en_mem kl_tb klX (xLay, I2, L, R) → (I2 0 10).toInt = (I1 0 10).toInt + 4 → en_fr [(0, [10]), (1, [])] (xLay, I, L, R) (xLay, I2, L, R) → Φ (none, (xLay, I2, L, kO q R))) → sm_wp sm_P S d 77 0 [.ref 0, .int x] [] (xLay, I1, L, kO q R) (0, 0) Φ := by
      intro x Φ I1 m1 n1 f1 k1
      refine o_X11_putFour_0 ?_
      exact kx_put ((I1 0 10).toInt + 4) (by omega) e 4 I1 24 ⟨by decide, c24⟩ m1 (by omega) f1 k1
    refine p0 hm (by omega) en_fr_rf (fun I1 m1 t1 f1 => ⟨I1, L, R, q, rfl, ?_⟩)
    refine p0 m1 (by omega) f1 (fun I2 m2 t2 f2 => ⟨I2, L, R, q, rfl, ?_⟩)
    refine p0 m2 (by omega) f2 (fun I3 m3 t3 f3 => ⟨I3, L, R, q, rfl, ?_⟩)
    refine p0 m3 (by omega) f3 (fun I4 m4 t4 f4 => ⟨I4, L, R, q, rfl, ?_⟩)
    refine p0 m4 (by omega) f4 (fun I5 m5 t5 f5 => ⟨I5, L, R, q, rfl, ?_⟩)
    rw [e]
    exact h1 I5 (by omega) m5 (by omega) f5
  · have a := kl_nle a
    rw [s, c2k] at a
    rw [e]
    exact h0 (by omega)
theorem kx_back {S : sm_C} {d : Nat} {Φ : sm_Z → Prop} {I : sm_I} {L : sm_L} {R : sm_R} {x : Int32} (hm : en_mem kl_tb klX (xLay, I, L, R)) (h0 : (x.toInt < 0 ∨ (I 0 10).toInt < x.toInt) → Φ (some (.int (-1)), (xLay, I, L, R))) (h1 : ∀ I' : sm_I, 0 ≤ x.toInt → x.toInt ≤ (I 0 10).toInt → I' = sm_up I 0 10 (I 0 10 - x) → en_mem kl_tb klX (xLay, I', L, R) → Φ (some (.int (I 0 10 - x)), (xLay, I', L, R))) : sm_wp sm_P S d 30 0 [.ref 0, .int x] [] (xLay, I, L, R) (0, 0) Φ := by
  have b := kx_len hm
  refine k0_back_0 ⟨fun a => ?_, fun a => ⟨fun c I1 e1 => ?_, fun c => ?_⟩⟩
  · rw [kl_lt, kl_0] at a; exact h0 (Or.inl a)
  · have a := kl_nlt0 a
    have c := kl_le.mp c
    have s : (I 0 10 - x).toInt = (I 0 10).toInt - x.toInt := by
      rw [Int32.toInt_sub]; exact en_bmod (by omega) (by omega) (Or.inl rfl)
    have g : I1 0 10 = I 0 10 - x := by rw [e1, en_up_eq]
    rw [g]
    refine h1 I1 a c e1 ?_
    rw [e1]
    exact kx_10 hm (by omega)
  · exact h0 (Or.inr (kl_nle c))
/-! calls by contract, with told's reference -/
theorem kx_ci {S : sm_C} {d : Nat} {c : en_Ct} {vs : List Value} {I : sm_I} {L : sm_L} {R : sm_R} {lo hi : Int} {C : Int32 → sm_I → sm_L → sm_R → Nat → Prop} (h : en_hold kl_tb klX sm_P S c) (hd : c.2.2.2.2.2 ≤ d) (hv : en_pvs c.2.1 vs) (hm : en_mem kl_tb klX (xLay, I, L, R)) (hp : en_pf c.2.2.1 (xLay, I, L, R)) (hr : c.2.2.2.1 = (0, lo, hi)) (k : ∀ (r : Int32) (I' : sm_I) (L' : sm_L) (R' : sm_R) (q : Nat), en_mem kl_tb klX (xLay, I', L', R') → (q = 12 ∨ q = 49) → kO q R' = R' → en_fr c.2.2.2.2.1 (xLay, I, L, R) (xLay, I', L', R') → C r I' L' R' q) : sm_wp sm_P S d c.1 0 vs [] (xLay, I, L, R) (0, 0) (fun z => ∃ (r : Int32) (I2 : sm_I) (L2 : sm_L) (R2 : sm_R) (q2 : Nat), z = (some (.int r), (xLay, I2, L2, kO q2 R2)) ∧ C r I2 L2 R2 q2) := by
  refine sm_wp_mono (h d hd vs _ hv hm hp) (fun z q => ?_)
  obtain ⟨o, lay, I2, L2, R2⟩ := z
  obtain ⟨q1, q2, q3⟩ := q
  obtain rfl : lay = xLay := q2.2.2.2.2.1
  obtain ⟨q, hq, e⟩ := kO_of q2
  have e : kO q R2 = R2 := e
  rw [hr] at q1
  have q1 : en_pr (0, lo, hi) o := q1
  cases o with
  | none => have q1 : (0 : Nat) = 9 := q1; omega
  | some v =>
    rcases q1 with q1 | ⟨q1, -⟩
    · cases v with
      | int r => exact ⟨r, I2, L2, R2, q, by rw [e], k r I2 L2 R2 q q2 hq e q3⟩
      | long _ => have q1 : (0 : Nat) = 5 := q1; omega
      | null => have q1 : (0 : Nat) = 1 := q1; omega
      | ref p => have q1 : (0 : Nat) = 2 := q1.1; omega
      | float _ => exact q1.elim
      | double _ => exact q1.elim
      | retAddr _ => exact q1.elim
    · have q1 : (0 : Nat) = 3 := q1
      omega
theorem kx_cv {S : sm_C} {d : Nat} {c : en_Ct} {vs : List Value} {I : sm_I} {L : sm_L} {R : sm_R} {C : sm_I → sm_L → sm_R → Nat → Prop} (h : en_hold kl_tb klX sm_P S c) (hd : c.2.2.2.2.2 ≤ d) (hv : en_pvs c.2.1 vs) (hm : en_mem kl_tb klX (xLay, I, L, R)) (hp : en_pf c.2.2.1 (xLay, I, L, R)) (hr : c.2.2.2.1 = (9, 0, 0)) (k : ∀ (I' : sm_I) (L' : sm_L) (R' : sm_R) (q : Nat), en_mem kl_tb klX (xLay, I', L', R') → kO q R' = R' → en_fr c.2.2.2.2.1 (xLay, I, L, R) (xLay, I', L', R') → C I' L' R' q) : sm_wp sm_P S d c.1 0 vs [] (xLay, I, L, R) (0, 0) (fun z => ∃ (I2 : sm_I) (L2 : sm_L) (R2 : sm_R) (q2 : Nat), z = (none, (xLay, I2, L2, kO q2 R2)) ∧ C I2 L2 R2 q2) := by
  refine sm_wp_mono (h d hd vs _ hv hm hp) (fun z q => ?_)
  obtain ⟨o, lay, I2, L2, R2⟩ := z
  obtain ⟨q1, q2, q3⟩ := q
  obtain rfl : lay = xLay := q2.2.2.2.2.1
  obtain ⟨q, hq, e⟩ := kO_of q2
  have e : kO q R2 = R2 := e
  rw [hr] at q1
  have q1 : en_pr (9, 0, 0) o := q1
  cases o with
  | none => exact ⟨I2, L2, R2, q, by rw [e], k I2 L2 R2 q q2 e q3⟩
  | some v =>
    rcases q1 with q1 | ⟨q1, -⟩
    · cases v with
      | int r => have q1 : (9 : Nat) = 0 := q1.1; omega
      | long _ => have q1 : (9 : Nat) = 5 := q1; omega
      | null => have q1 : (9 : Nat) = 1 := q1; omega
      | ref p => have q1 : (9 : Nat) = 2 := q1.1; omega
      | float _ => exact q1.elim
      | double _ => exact q1.elim
      | retAddr _ => exact q1.elim
    · have q1 : (9 : Nat) = 3 := q1
      omega
theorem kx_cr {S : sm_C} {d : Nat} {c : en_Ct} {vs : List Value} {I : sm_I} {L : sm_L} {R : sm_R} {C : Nat → sm_I → sm_L → sm_R → Nat → Prop} (h : en_hold kl_tb klX sm_P S c) (hd : c.2.2.2.2.2 ≤ d) (hv : en_pvs c.2.1 vs) (hm : en_mem kl_tb klX (xLay, I, L, R)) (hp : en_pf c.2.2.1 (xLay, I, L, R)) (hr : c.2.2.2.1 = (3, 12, 49)) (k : ∀ (r : Nat) (I' : sm_I) (L' : sm_L) (R' : sm_R) (q : Nat), (r = 12 ∨ r = 49) → en_mem kl_tb klX (xLay, I', L', R') → kO q R' = R' → en_fr c.2.2.2.2.1 (xLay, I, L, R) (xLay, I', L', R') → C r I' L' R' q) : sm_wp sm_P S d c.1 0 vs [] (xLay, I, L, R) (0, 0) (fun z => ∃ (r : Nat) (I2 : sm_I) (L2 : sm_L) (R2 : sm_R) (q2 : Nat), z = (some (.ref r), (xLay, I2, L2, kO q2 R2)) ∧ C r I2 L2 R2 q2) := by
  refine sm_wp_mono (h d hd vs _ hv hm hp) (fun z q => ?_)
  obtain ⟨o, lay, I2, L2, R2⟩ := z
  obtain ⟨q1, q2, q3⟩ := q
  obtain rfl : lay = xLay := q2.2.2.2.2.1
  obtain ⟨q, hq, e⟩ := kO_of q2
  have e : kO q R2 = R2 := e
  rw [hr] at q1
  have q1 : en_pr (3, 12, 49) o := q1
  cases o with
  | none => have q1 : (3 : Nat) = 9 := q1; omega
  | some v =>
    rcases q1 with q1 | ⟨-, q1 | q1⟩
    · cases v with
      | int r => have q1 : (3 : Nat) = 0 := q1.1; omega
      | long _ => have q1 : (3 : Nat) = 5 := q1; omega
      | null => have q1 : (3 : Nat) = 1 := q1; omega
      | ref p => have q1 : (3 : Nat) = 2 := q1.1; omega
      | float _ => exact q1.elim
      | double _ => exact q1.elim
      | retAddr _ => exact q1.elim
    · obtain ⟨p, rfl, ep⟩ := q1
      have ep : (12 : Int) = (p : Int) := ep
      exact ⟨p, I2, L2, R2, q, by rw [e], k p I2 L2 R2 q (Or.inl (by omega)) q2 e q3⟩
    · obtain ⟨p, rfl, ep⟩ := q1
      have ep : (49 : Int) = (p : Int) := ep
      exact ⟨p, I2, L2, R2, q, by rw [e], k p I2 L2 R2 q (Or.inr (by omega)) q2 e q3⟩
theorem kx_told {I : sm_I} {L : sm_L} {R : sm_R} {r : Nat} (hm : en_mem kl_tb klX (xLay, I, L, R)) (hr : r = 12 ∨ r = 49) : en_mem kl_tb klX (xLay, I, L, sm_up R 0 9 (some r)) := by
  refine ⟨hm.1, hm.2.1, fun p j hq => ?_, hm.2.2.2.1, klX_ok.2.1 _ (I, L, R) 0 9 (some r) (by decide +kernel) hm.2.2.2.2⟩
  show ∃ s, s ∈ en_refs kl_tb p j ∧ sm_up R 0 9 (some r) p j = some s
  by_cases c : p = 0 ∧ j = 9
  · obtain ⟨c1, c2⟩ := c
    subst c1; subst c2
    refine ⟨r, ?_, en_up_eq _ _ _ _⟩
    rw [kO_ref9]
    rcases hr with e | e <;> subst e <;> decide
  · rw [en_up_ne _ _ _ _ c]; exact hm.2.2.1 p j hq
theorem kx_frR {W : en_W} {w0 : sm_W} {I : sm_I} {L : sm_L} {R : sm_R} {p j : Nat} {x : Option Nat} (h : en_fr W w0 (xLay, I, L, R)) (hw : en_wok W p j = true) : en_fr W w0 (xLay, I, L, sm_up R p j x) := by
  refine ⟨h.1, fun a b hab => ⟨(h.2 a b hab).1, ?_⟩⟩
  show sm_up R p j x a b = w0.2.2.2 a b
  rw [en_up_ne _ _ _ _ (fun c => by rw [c.1, c.2, hw] at hab; cases hab)]
  exact (h.2 a b hab).2
def kx_RW : en_W := klc_271.2.2.2.2.1
theorem kx_read {S : sm_C} {d : Nat} {Φ : sm_Z → Prop} {I : sm_I} {L : sm_L} {R : sm_R} (hd : 12 ≤ d) (hm : en_mem kl_tb klX (xLay, I, L, R)) (h : ∀ (r : Int32) (I' : sm_I) (L' : sm_L) (R' : sm_R), en_mem kl_tb klX (xLay, I', L', R') → en_fr kx_RW (xLay, I, L, R) (xLay, I', L', R') → I' 0 10 = 0 → Φ (some (.int r), (xLay, I', L', R'))) : sm_wp sm_P S (d + 1) 80 0 [.ref 0] [] (xLay, I, L, R) (0, 0) Φ := by
  obtain ⟨q, -, e⟩ := kO_of hm
  have e : kO q R = R := e
  have b := kx_len hm
  have goal : sm_wp sm_P S (d + 1) 80 0 [.ref 0] [] (xLay, I, L, kO q R) (0, 0) Φ := by
    refine o_X11_read_0 ?_
    rw [e]
    refine kx_ci (c := klc_198) klh_198 (Nat.le_trans (by decide) hd) ⟨⟨rfl, rfl⟩, ⟨rfl, rfl⟩, ⟨rfl, b.1, b.2⟩, trivial⟩ hm ml_pf0 rfl (fun r5 I1 L1 R1 q1 m1 hq1 e1 f1 => ?_)
    have f1' : en_fr kx_RW (xLay, I, L, R) (xLay, I1, L1, R1) := ml_frw f1 (by decide +kernel)
    have fp : ∀ (x : Int32) (J : sm_I), (-1 ≤ x.toInt ∧ x.toInt ≤ 2000) → J = sm_up (sm_up I1 0 10 (0 : Int32)) 0 11 x → en_mem kl_tb klX (xLay, J, L1, R1) ∧ en_fr kx_RW (xLay, I, L, R) (xLay, J, L1, R1) ∧ J 0 10 = 0 := by
      intro x J hx eJ
      refine ⟨?_, ?_, ?_⟩
      · rw [eJ]
        refine kx_wr (kx_10 m1 (by decide)) (by decide +kernel) (fun q hq => ?_)
        rw [show en_int kl_tb 0 11 = some (-1, 2000) from by decide +kernel] at hq
        rw [← Option.some.inj hq]
        exact hx
      · rw [eJ]
        exact ml_fr (ml_fr f1' (by decide +kernel)) (by decide +kernel)
      · rw [eJ, en_up_ne _ _ _ _ (by omega), en_up_eq]
    have on : ∀ J : sm_I, en_mem kl_tb klX (xLay, J, L1, R1) → en_fr kx_RW (xLay, I, L, R) (xLay, J, L1, R1) → J 0 10 = 0 → sm_wp sm_P S d 269 0 [.ref 2, .ref q1] [] (xLay, J, L1, kO q1 R1) (0, 0) (fun z => ∃ (r12 : Nat) (I8 : sm_I) (L9 : sm_L) (R10 : sm_R) (w11 : Nat), z = (some (.ref r12), (xLay, I8, L9, (kO w11 R10))) ∧ sm_wp sm_P S d 245 0 [.ref 37] [] (xLay, I8, L9, (sm_up (kO w11 R10) 0 9 (some r12))) (0, 0) (fun z => ∃ (I13 : sm_I) (L14 : sm_L) (R15 : sm_R) (w16 : Nat), z = (none, (xLay, I13, L14, (kO w16 R15))) ∧ sm_wp sm_P S d 86 0 [.ref 0] [] (xLay, I13, L14, (kO w16 R15)) (0, 0) (fun z => ∃ (I18 : sm_I) (L19 : sm_L) (R20 : sm_R) (w21 : Nat), z = (none, (xLay, I18, L19, (kO w21 R20))) ∧ Φ (some (.int r5), (xLay, I18, L19, (kO w21 R20)))))) := by
      intro J mJ fJ zJ
      rw [e1]
      have k : ∀ (r : Nat) (I8 : sm_I) (L9 : sm_L) (R10 : sm_R) (w11 : Nat), (r = 12 ∨ r = 49) → en_mem kl_tb klX (xLay, I8, L9, R10) → kO w11 R10 = R10 → en_fr [(2, [6])] (xLay, J, L1, R1) (xLay, I8, L9, R10) → sm_wp sm_P S d 245 0 [.ref 37] [] (xLay, I8, L9, (sm_up (kO w11 R10) 0 9 (some r))) (0, 0) (fun z => ∃ (I13 : sm_I) (L14 : sm_L) (R15 : sm_R) (w16 : Nat), z = (none, (xLay, I13, L14, (kO w16 R15))) ∧ sm_wp sm_P S d 86 0 [.ref 0] [] (xLay, I13, L14, (kO w16 R15)) (0, 0) (fun z => ∃ (I18 : sm_I) (L19 : sm_L) (R20 : sm_R) (w21 : Nat), z = (none, (xLay, I18, L19, (kO w21 R20))) ∧ Φ (some (.int r5), (xLay, I18, L19, (kO w21 R20))))) := by
        intro r I8 L9 R10 w11 hr m8 e8 f8
        rw [e8]
        have f8' : en_fr kx_RW (xLay, I, L, R) (xLay, I8, L9, sm_up R10 0 9 (some r)) := kx_frR (ml_frt fJ f8 (by decide +kernel)) (by decide +kernel)
        refine kx_cv (c := klc_141) klh_141 (Nat.le_trans (by decide) hd) ⟨⟨rfl, rfl⟩, trivial⟩ (kx_told m8 hr) ml_pf0 rfl (fun I13 L14 R15 w16 m13 e13 f13 => ?_)
        rw [e13]
        have f13' := ml_frt f8' f13 (by decide +kernel)
        refine kx_cv (c := klc_222) klh_222 (Nat.le_trans (by decide) hd) ⟨⟨rfl, rfl⟩, trivial⟩ m13 ml_pf0 rfl (fun I18 L19 R20 w21 m18 e18 f18 => ?_)
        rw [e18]
        refine h r5 I18 L19 R20 m18 (ml_frt f13' f18 (by decide +kernel)) ?_
        rw [ml_g f18 (by decide), ml_g f13 (by decide), ml_g f8 (by decide), zJ]
      rcases hq1 with c | c
      · subst c
        exact kx_cr (c := klc_161) klh_161 (Nat.zero_le _) ⟨⟨rfl, rfl⟩, ⟨rfl, rfl⟩, trivial⟩ mJ ml_pf0 rfl k
      · subst c
        exact kx_cr (c := klc_162) klh_162 (Nat.zero_le _) ⟨⟨rfl, rfl⟩, ⟨rfl, rfl⟩, trivial⟩ mJ ml_pf0 rfl k
    have bp : -1 ≤ (I1 2 11).toInt ∧ (I1 2 11).toInt ≤ 2000 := m1.2.1 2 11 (-1, 2000) (by decide +kernel)
    refine ⟨fun _ I27 e27 => ?_, fun _ n6 e6 I7 e7 => ?_⟩
    · obtain ⟨mJ, fJ, zJ⟩ := fp (-1) I27 (by decide) e27
      refine ⟨fun _ => on I27 mJ fJ zJ, fun _ => ?_⟩
      rw [e1]
      exact h r5 I27 L1 R1 mJ fJ zJ
    · rw [en_up_ne _ _ _ _ (by omega)] at e6
      obtain ⟨mJ, fJ, zJ⟩ := fp n6 I7 (by rw [e6]; exact bp) e7
      refine ⟨fun _ => on I7 mJ fJ zJ, fun _ => ?_⟩
      rw [e1]
      exact h r5 I7 L1 R1 mJ fJ zJ
  rw [e] at goal
  exact goal
