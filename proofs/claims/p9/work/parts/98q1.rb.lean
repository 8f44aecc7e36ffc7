/-! the reference's bound: the greatest table under one more -/
section
variable {S : sm_C} {d : Nat} {Φ : sm_Z → Prop} {I : sm_I} {L : sm_L} {R : sm_R}
def mT (I : sm_I) (pg i j : Nat) : Int := (I 143 (169 * pg + 13 * j + i)).toInt
def chg (pg : Nat) (I J : sm_I) : Prop := ∀ p q, ¬ (p = 143 ∧ 169 * pg ≤ q ∧ q < 169 * pg + 169) → J p q = I p q
theorem chg_0 {pg : Nat} {I : sm_I} : chg pg I I := fun _ _ _ => rfl
theorem chg_t {pg : Nat} {I J K : sm_I} (a : chg pg I J) (b : chg pg J K) : chg pg I K := fun p q h => (b p q h).trans (a p q h)
theorem mT_ne {pg pg' i j : Nat} {I J : sm_I} (h : chg pg I J) (hi : i < 13) (hj : j < 13) (e : pg' ≠ pg) : mT J pg' i j = mT I pg' i j := by
  unfold mT
  rw [h 143 _ (by omega)]
def bI (pg n : Nat) (I J : sm_I) (D : Nat → Nat → Int) (i j : Nat) (w : Int) (u v : Nat) : Prop := chg pg I J ∧ ∀ a b, a < n → b < n → mT J pg b a = if a < u ∨ (a = u ∧ b < v) then tU D i j w b a else D b a
theorem rx_b5 {I0 : sm_I} {pg n i j : Nat} {x1 x2 w x4 : Int32} {D : Nat → Nat → Int} (hn : (I0 107 51).toInt = n) (p69 : pg ≤ 69) (n13 : n ≤ 13) (hj : x1.toInt = j) (hi : x2.toInt = i) (jn : j < n) (in_ : i < n) (w0 : -120000 ≤ w.toInt) (w1 : w.toInt ≤ 120000) (h4 : x4.toInt = ((169 * pg : Nat) : Int)) (bD : ∀ a b, a < n → b < n → -1440 ≤ D a b ∧ D a b ≤ 1440) (k : 0 ≤ D j i + w.toInt) (h : ∀ J, chg pg I0 J → (∀ a b, a < n → b < n → mT J pg a b = tU D i j w.toInt a b) → Φ (some (.int 1), (xLay, J, L, kM R))) : ∀ (m u : Nat) (x5 : Int32) (J : sm_I), x5.toInt = u → u + m = n → bI pg n I0 J D i j w.toInt u 0 → sm_wp sm_P S d 106 5 [.ref 107, .int x1, .int x2, .int w, .int x4, .int x5] [] (xLay, J, L, kM R) (0, 0) Φ := by
  have c13 : (13 : Int32).toInt = 13 := by decide
  have te := tU_e (n := n) (D := D) k
  intro m
  induction m with
  | zero =>
    intro u x5 J h5 hm hb
    have e51 : J 107 51 = I0 107 51 := hb.1 107 51 (by omega)
    refine p_X12_bound_5 ⟨fun _ => h J hb.1 (fun a b ha hb' => ?_), fun a => ?_⟩
    · rw [hb.2 b a hb' ha, if_pos (Or.inl (by omega))]
    · have a := kl_nle a
      rw [e51] at a
      omega
  | succ m ih =>
    intro u x5 J h5 hm hb
    have e51 : J 107 51 = I0 107 51 := hb.1 107 51 (by omega)
    have s5 := ml_in1 (x := x5) (by omega)
    refine p_X12_bound_5 ⟨fun a => ?_, fun _ => ?_⟩
    · have a := kl_le.mp a
      rw [e51] at a
      omega
    have inner : ∀ (l v : Nat) (x6 : Int32) (J : sm_I), x6.toInt = v → v + l = n → bI pg n I0 J D i j w.toInt u v → sm_wp sm_P S d 106 7 [.ref 107, .int x1, .int x2, .int w, .int x4, .int x5, .int x6] [] (xLay, J, L, kM R) (0, 0) Φ := by
      intro l
      induction l with
      | zero =>
        intro v x6 J h6 hl hb
        have e51 : J 107 51 = I0 107 51 := hb.1 107 51 (by omega)
        refine p_X12_bound_7 ⟨fun _ => ih (u + 1) _ J (by omega) (by omega) ⟨hb.1, fun a b ha hb' => ?_⟩, fun a => ?_⟩
        · rw [hb.2 a b ha hb']
          by_cases c : a < u ∨ (a = u ∧ b < v)
          · rw [if_pos c, if_pos (Or.inl (by omega))]
          · rw [if_neg c, if_neg (by omega)]
        · have a := kl_nle a
          rw [e51] at a
          omega
      | succ l il =>
        intro v x6 J h6 hl hb
        have e51 : J 107 51 = I0 107 51 := hb.1 107 51 (by omega)
        have s6 := ml_in1 (x := x6) (by omega)
        have m5 : ((13 : Int32) * x5).toInt = 13 * (u : Int) := ml_mu c13 h5 (by omega) (by omega)
        have m2 : ((13 : Int32) * x2).toInt = 13 * (i : Int) := ml_mu c13 hi (by omega) (by omega)
        have a5 : (x4 + (13 : Int32) * x5).toInt = ((169 * pg + 13 * u : Nat) : Int) := (ml_ad h4 m5 (by omega) (by omega)).trans (by omega)
        have a2 : (x4 + (13 : Int32) * x2).toInt = ((169 * pg + 13 * i : Nat) : Int) := (ml_ad h4 m2 (by omega) (by omega)).trans (by omega)
        refine p_X12_bound_7 ⟨fun a => ?_, fun _ n1 e1 => ?_⟩
        · have a := kl_le.mp a
          rw [e51] at a
          omega
        have q1 : n1.toInt = ((169 * pg + 13 * u + j : Nat) : Int) := by rw [e1]; exact (ml_ad a5 hj (by omega) (by omega)).trans (by omega)
        refine ⟨kl_in (by omega) (by omega), fun n2 e2 => ?_⟩
        have q2 : n2.toInt = ((169 * pg + 13 * i + v : Nat) : Int) := by rw [e2]; exact (ml_ad a2 h6 (by omega) (by omega)).trans (by omega)
        refine ⟨kl_in (by omega) (by omega), fun n3 e3 => ?_⟩
        rw [tk_nat q1, tk_nat q2] at e3
        have r1 : (J 143 (169 * pg + 13 * u + j)).toInt = D j u := by
          have g := hb.2 u j (by omega) jn
          rw [te.1 u] at g
          rw [show (J 143 (169 * pg + 13 * u + j)).toInt = mT J pg j u from rfl, g]
          split <;> rfl
        have r2 : (J 143 (169 * pg + 13 * i + v)).toInt = D v i := by
          have g := hb.2 i v in_ (by omega)
          rw [te.2 v] at g
          rw [show (J 143 (169 * pg + 13 * i + v)).toInt = mT J pg v i from rfl, g]
          split <;> rfl
        have b1 := bD j u jn (by omega)
        have b2 := bD v i (by omega) in_
        have q3 : n3.toInt = D j u + w.toInt + D v i := by
          rw [e3]
          exact ml_ad (ml_ad r1 rfl (by omega) (by omega)) r2 (by omega) (by omega)
        intro n4 e4
        have q4 : n4.toInt = ((169 * pg + 13 * u + v : Nat) : Int) := by rw [e4]; exact (ml_ad a5 h6 (by omega) (by omega)).trans (by omega)
        rw [tk_nat q4]
        have r4 : (J 143 (169 * pg + 13 * u + v)).toInt = D v u := by
          have g := hb.2 u v (by omega) (by omega)
          rw [if_neg (by omega)] at g
          exact g
        refine ⟨kl_in (by omega) (by omega), fun c => ?_, fun c n5 e5 => ⟨?_, fun J6 e6 => ?_⟩⟩
        · have c := kl_le.mp c
          refine il (v + 1) _ J (by omega) (by omega) ⟨hb.1, fun a b ha hb' => ?_⟩
          rw [hb.2 a b ha hb']
          by_cases c1 : a < u ∨ (a = u ∧ b < v)
          · rw [if_pos c1, if_pos (by omega)]
          · rw [if_neg c1]
            by_cases c2 : a = u ∧ b = v
            · rw [if_pos (by omega), c2.1, c2.2]
              unfold tU
              rw [if_neg (by omega)]
            · rw [if_neg (by omega)]
        · rw [e5, ← e4]
          exact kl_in (by omega) (by omega)
        · have c := kl_nle c
          rw [e5, ← e4, tk_nat q4] at e6
          refine il (v + 1) _ J6 (by omega) (by omega) ⟨fun p q hq => ?_, fun a b ha hb' => ?_⟩
          · rw [e6, en_up_ne _ _ _ _ (by omega)]; exact hb.1 p q hq
          · by_cases c2 : a = u ∧ b = v
            · rw [if_pos (by omega), c2.1, c2.2]
              unfold mT tU
              rw [e6, en_up_eq, q3, if_pos (by omega)]
              omega
            · have g := hb.2 a b ha hb'
              have e : mT J6 pg b a = mT J pg b a := by
                unfold mT
                rw [e6, en_up_ne _ _ _ _ (by omega)]
              rw [e, g]
              by_cases c1 : a < u ∨ (a = u ∧ b < v)
              · rw [if_pos c1, if_pos (by omega)]
              · rw [if_neg c1, if_neg (by omega)]
    exact inner n 0 0 J (by decide) (by omega) hb
theorem rx_bound {pg n i j : Nat} {x1 x2 w : Int32} {C : List tC} (hpg : (I 107 52).toInt = pg) (p69 : pg ≤ 69) (hn : (I 107 51).toInt = n) (n13 : n ≤ 13) (hj : x1.toInt = j) (hi : x2.toInt = i) (jn : j < n) (in_ : i < n) (w0 : -120000 ≤ w.toInt) (w1 : w.toInt ≤ 120000) (T : ttop n C (mT I pg)) (h0 : tno n ((i, j, w.toInt) :: C) → Φ (some (.int 0), (xLay, I, L, kM R))) (h1 : ∀ J, chg pg I J → ttop n ((i, j, w.toInt) :: C) (mT J pg) → Φ (some (.int 1), (xLay, J, L, kM R))) : sm_wp sm_P S d 106 0 [.ref 107, .int x1, .int x2, .int w] [] (xLay, I, L, kM R) (0, 0) Φ := by
  have c13 : (13 : Int32).toInt = 13 := by decide
  have c169 : (169 : Int32).toInt = 169 := by decide
  have bD := ttop_b T
  have m1 : ((169 : Int32) * I 107 52).toInt = 169 * (pg : Int) := ml_mu c169 hpg (by omega) (by omega)
  have m2 : ((13 : Int32) * x2).toInt = 13 * (i : Int) := ml_mu c13 hi (by omega) (by omega)
  have m3 : ((13 : Int32) * x1).toInt = 13 * (j : Int) := ml_mu c13 hj (by omega) (by omega)
  refine p_X12_bound_0 (fun n1 e1 => ?_)
  have q1 : n1.toInt = ((169 * pg + 13 * i + j : Nat) : Int) := by
    rw [e1]
    exact (ml_ad (ml_ad m1 m2 (by omega) (by omega)) hj (by omega) (by omega)).trans (by omega)
  rw [tk_nat q1]
  have r1 : (I 143 (169 * pg + 13 * i + j)).toInt = mT I pg j i := rfl
  have b1 := bD j i jn in_
  have s1 : (I 143 (169 * pg + 13 * i + j) + w).toInt = mT I pg j i + w.toInt := ml_ad r1 rfl (by omega) (by omega)
  refine ⟨kl_in (by omega) (by omega), fun a n2 e2 => ?_, fun a => h0 (t_no T in_ jn ?_)⟩
  · have a := kl_le.mp a
    rw [kl_0, s1] at a
    have q2 : n2.toInt = ((169 * pg + 13 * j + i : Nat) : Int) := by
      rw [e2]
      exact (ml_ad (ml_ad m1 m3 (by omega) (by omega)) hi (by omega) (by omega)).trans (by omega)
    rw [tk_nat q2]
    refine ⟨kl_in (by omega) (by omega), fun b => ?_, fun b => h1 I chg_0 (t_same T ?_)⟩
    · refine rx_b5 (D := mT I pg) hn p69 n13 hj hi jn in_ w0 w1 (by rw [m1]; omega) bD a (fun J cg eq => h1 J cg (ttop_eq (fun a b ha hb => (eq a b ha hb).symm) (t_up T in_ jn a))) n 0 0 I (by decide) (by omega) ⟨chg_0, fun a b _ _ => ?_⟩
      rw [if_neg (by omega)]
    · have b := kl_nlt b
      exact b
  · have a := kl_nle a
    rw [kl_0, s1] at a
    exact a
end
