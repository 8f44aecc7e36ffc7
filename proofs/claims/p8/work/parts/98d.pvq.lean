/-! tells of the reference, exact: open, its checks -/
section
variable {K : Nat → Int32} {P : Nat → Nat} {V W : Nat → Int64} {N : Nat → Int32} {c : Nat} {R0 : Option (Int32 × Nat)} {M0 : Option (Int32 × Nat) × sg}
variable {S : sm_C} {d : Nat} {Φ : sm_Z → Prop} {I : sm_I} {L : sm_L} {R : sm_R} {m : mo} {e : eo} {o : Option sg} {l s t : Nat} {g : gc}
/-- what is meant when both TIMES of an open are read and nothing is wrong with the first -/
def opN (K : Nat → Int32) (P : Nat → Nat) (V W : Nat → Int64) (M0 : Option (Int32 × Nat) × sg) (s t t3 : Nat) (x2 x4 : Int32) (a : sg) (I : sm_I) (L : sm_L) (J : sm_I) : Prop := rL K V W s t a I L ∧ ¬ x2 = -1 ∧ ¬ x4 = -1 ∧ x2.toInt < (I 122 s).toInt ∧ a.1 18 x2.toNatClampNeg = -1 ∧ fd (u2 (u2 a 2 7 10) 2 8 x2) (V t3) 3 = x4 ∧ PEm K P V M0 (t3, some (29, u2 (u2 a 2 7 10) 2 8 x2)) J
theorem op29 {a : sg} {x2 x4 : Int32} {v : Int64} {k4 : Nat} (hf : fd (u2 (u2 a 2 7 10) 2 8 x2) v 3 = x4) (n4 : ¬ x4 = -1) (h4 : x4.toInt = k4) (k9 : k4 < 10) : ms 29 15 v (u2 (u2 a 2 7 10) 2 8 x2) = (if x2 = x4 then 5 else if ¬ a.1 18 k4 = -1 then 5 else if oy a.1 x2 (a.1 12 2).toNatClampNeg 0 = true then 5 else 0, u2 (u2 (u2 a 2 7 10) 2 8 x2) 2 9 x4) := by
  have k8 : (u2 (u2 a 2 7 10) 2 8 x2).1 2 8 = x2 := u2_eq _ _ _ _
  have ko : ∀ p j, p ≠ 2 → (u2 (u2 a 2 7 10) 2 8 x2).1 p j = a.1 p j := fun p j hp => by rw [u2_ne _ _ _ _ (by omega), u2_ne _ _ _ _ (by omega)]
  have ey : ∀ k i, oy (u2 (u2 a 2 7 10) 2 8 x2).1 x2 k i = oy a.1 x2 k i := by
    intro k
    induction k with
    | zero => intro i; rfl
    | succ k ih =>
      intro i
      show (if (u2 (u2 a 2 7 10) 2 8 x2).1 18 i = x2 then true else oy (u2 (u2 a 2 7 10) 2 8 x2).1 x2 k (i + 1)) = (if a.1 18 i = x2 then true else oy a.1 x2 k (i + 1))
      rw [ih, ko 18 i (by decide)]
  rw [ms_15]
  show tk_open 29 v (u2 (u2 a 2 7 10) 2 8 x2) = _
  unfold tk_open
  rw [hf, if_neg n4, if_neg (by decide), k8, is_op_s h4 k9, ko 18 _ (by decide), ey, ko 12 2 (by decide)]
  by_cases c1 : x2 = x4
  · rw [if_pos c1, if_pos c1]
  · rw [if_neg c1, if_neg c1]
    by_cases c2 : a.1 18 k4 = -1
    · rw [show decide (¬ a.1 18 k4 = -1) = false from decide_eq_false (fun y => y c2), if_neg (show ¬ (false = true) by decide), if_neg (show ¬ ¬ a.1 18 k4 = -1 from fun y => y c2)]
    · rw [show decide (¬ a.1 18 k4 = -1) = true from decide_eq_true c2, if_pos rfl, if_pos (show ¬ a.1 18 k4 = -1 from c2)]
theorem x_open13 {x2 x3 x4 x5 : Int32} {t3 : Nat} {g1 : gc} (hT : TS K P V W N c) (hls : ml_ls l s) (hm : en_mem ml_tb mlX (xLay, I, L, R)) (hI : ml_TI l s I) (hG : rG s g I) (hr : (I 134 s).toInt < 4) (t3c : t3 < c) (t35 : t3 < 500) (tt : t < t3) (k3 : K t3 = 15) (h3 : x3.toInt = t3) (r1 : ∀ t' s' g', m = some (t', s', g') → t' = t3 + 1 ∧ s' = 30 ∧ g' = gc_st 0 10 g) (h5 : x5.toInt = ((240 + 4 * s + (I 134 s).toNatClampNeg : Nat) : Int)) (b2 : -1 ≤ x2.toInt ∧ x2.toInt ≤ 9) (b4 : -1 ≤ x4.toInt ∧ x4.toInt ≤ 9) (h : ∀ (J : sm_I) (L' : sm_L), TP K P V W N c R0 M0 s t J L' → Φ (none, (xLay, J, L', kM R))) : ∀ (f k : Nat) (J : sm_I) (x6 : Int32), x6.toInt = ((240 + 4 * s + k : Nat) : Int) → k + f = (I 134 s).toNatClampNeg → xfr I J → PSm K P W N c R0 m J L → (PWx P M0 5 t3 J ∨ ∃ a, opN K P V W M0 s t t3 x2 x4 a I L J ∧ ¬ x2 = x4 ∧ a.1 18 x4.toNatClampNeg = -1 ∧ ∀ k', k' < k → ¬ I 131 (240 + 4 * s + k') = x2) → sm_wp sm_P S (d + 4) 198 13 [.ref 107, .int x2, .int x3, .int x4, .int x5, .int x6] [] (xLay, J, L, kM R) (0, 0) Φ := by
  obtain ⟨hl1, hs1⟩ := ml_l1 hls
  have b34 := x_34 hs1 hm
  have bc := ml_cs hs1 hm
  have k0 : (((I 134 s).toNatClampNeg : Nat) : Int) = (I 134 s).toInt := kl_nat b34.1
  have n21 := hT.2.2.2.1 t3 t3c
  have n3 := tk_nat h3
  have r1' : ∀ t' s' g', m = some (t', s', g') → t < t' ∧ s' = 30 ∧ g' = gc_st 0 10 g := fun t' s' g' em => by
    obtain ⟨y1, y2, y3⟩ := r1 t' s' g' em
    exact ⟨by omega, y2, y3⟩
  -- a fault is known, of the grammar or of the meaning
  have endW : ∀ J : sm_I, xfr I J → PSm K P W N c R0 m J L → PWx P M0 5 t3 J → PX K P V W N c R0 M0 m none J L := fun J fJ pJ w => ⟨pJ, by
    cases em : m with
    | none => trivial
    | some q =>
      obtain ⟨t', s', g'⟩ := q
      obtain ⟨y1, -⟩ := r1 t' s' g' em
      rw [y1]
      exact PW_e w⟩
  have fin : ∀ J : sm_I, xfr I J → PSm K P W N c R0 m J L → (PWx P M0 5 t3 J ∨ ∃ a, opN K P V W M0 s t t3 x2 x4 a I L J ∧ ¬ x2 = x4 ∧ a.1 18 x4.toNatClampNeg = -1 ∧ ∀ k', k' < (I 134 s).toNatClampNeg → ¬ I 131 (240 + 4 * s + k') = x2) → ∃ o3, PX K P V W N c R0 M0 m o3 J L ∧ (m ≠ none → ∀ a3, o3 = some a3 → ¬ x2 = -1 ∧ ¬ x4 = -1 ∧ x2.toInt < (I 122 s).toInt ∧ ∃ a, rL K V W s t a I L ∧ a.1 18 x2.toNatClampNeg = -1 ∧ a3 = u2 (u2 (u2 a 2 7 10) 2 8 x2) 2 9 x4) := by
    intro J fJ pJ hz
    rcases hz with w | ⟨a, ⟨RL, N1, N2, N3, N4, N5, N6⟩, M1, M2, M3⟩
    · exact ⟨none, endW J fJ pJ w, fun _ a3 ea => by cases ea⟩
    · have d4 := ml_m1 N2
      obtain ⟨q4, hq4⟩ : ∃ q4 : Nat, x4.toInt = q4 := ⟨x4.toNatClampNeg, (kl_nat (by omega)).symm⟩
      rw [tk_nat hq4] at M2
      have ny : oy a.1 x2 (a.1 12 2).toNatClampNeg 0 = false := by
        cases eo : oy a.1 x2 (a.1 12 2).toNatClampNeg 0 with
        | false => rfl
        | true =>
          exfalso
          obtain ⟨j, -, j2, j3⟩ := (oy_iff _ _).mp eo
          have e12 : a.1 12 2 = I 122 s := RL.2.1.2.2.1
          have nt := kl_nat bc.2.2.1.1
          rw [e12] at j2
          rcases RL.2.2.2.1.1 j (by omega) with q | ⟨k', q⟩
          · rw [q.2] at j3; exact N1 j3.symm
          · obtain ⟨w1, -, -, -, -, w6, -⟩ := q
            rw [w6] at j3
            exact M3 k' (by omega) j3
      have em : ms 29 (K t3) (V t3) (u2 (u2 a 2 7 10) 2 8 x2) = (0, u2 (u2 (u2 a 2 7 10) 2 8 x2) 2 9 x4) := by
        rw [k3, op29 N5 N2 hq4 (by omega), if_neg M1, if_neg (fun y => y M2), ny]; rfl
      refine ⟨some (u2 (u2 (u2 a 2 7 10) 2 8 x2) 2 9 x4), ⟨pJ, ?_⟩, fun _ a3 ea => ⟨N1, N2, N3, a, RL, N4, (Option.some.inj ea).symm⟩⟩
      cases emm : m with
      | none => trivial
      | some q =>
        obtain ⟨t', s', g'⟩ := q
        obtain ⟨y1, y2, -⟩ := r1 t' s' g' emm
        have st := PE_st (by omega) n21 em N6
        rw [k3] at st
        rw [y1, y2]
        exact st
  intro f
  induction f with
  | zero =>
    intro k J x6 h6 hk fJ pJ hz
    have ek : k = (I 134 s).toNatClampNeg := by omega
    rw [ek] at hz
    obtain ⟨o3, XJ, ho⟩ := fin J fJ pJ hz
    refine u_X12_tellOpen_13 ⟨fun _ => x_openE hT hls hm hI hG hr fJ XJ r1' h5 (fun _ => b2) ho h, fun q => ?_⟩
    have := kl_nle q
    omega
  | succ f ih =>
    intro k J x6 h6 hk fJ pJ hz
    have s6 := ml_in1 (x := x6) (by omega)
    have n6 := tk_nat h6
    refine u_X12_tellOpen_13 ⟨fun q => ?_, fun _ => ⟨fun z => ⟨fun q => ?_, fun q => ⟨kl_in (by omega) (by omega), fun c1 => ?_, fun c1 => ?_⟩⟩, fun z => ?_⟩⟩
    · have := kl_le.mp q
      omega
    · rcases hz with w | ⟨a, ⟨RL, N1, -⟩, -⟩
      · exact x_openE hT hls hm hI hG hr fJ (endW J fJ pJ w) r1' h5 (fun _ => b2) (fun _ a3 ea => by cases ea) h
      · exact absurd q N1
    · rw [n6, fJ 131 _ (by omega)] at c1
      refine x_wrong (M0 := M0) (t := t3) hT (by decide) h3 (by omega) (by omega) pJ (fun _ => ?_) (fun H fH _ pH wH => ⟨H, L, R, rfl, ih (k + 1) H _ (by omega) (by omega) (xfr_tr fJ fH) pH (Or.inl wH)⟩)
      rcases hz with w | ⟨a, ⟨RL, N1, N2, N3, N4, N5, N6⟩, M1, M2, M3⟩
      · exact Or.inl (w z)
      · obtain ⟨pe1, pe2⟩ := N6 z
        have d4 := ml_m1 N2
        obtain ⟨q4, hq4⟩ : ∃ q4 : Nat, x4.toInt = q4 := ⟨x4.toNatClampNeg, (kl_nat (by omega)).symm⟩
        rw [tk_nat hq4] at M2
        have yy : oy a.1 x2 (a.1 12 2).toNatClampNeg 0 = true := by
          obtain ⟨i, hi, w1, w2, w3, w4, w5, w6, -⟩ := RL.2.2.2.1.2 k (by omega)
          have e12 : a.1 12 2 = I 122 s := RL.2.1.2.2.1
          have nt := kl_nat bc.2.2.1.1
          exact (oy_iff _ _).mpr ⟨i, Nat.zero_le _, by rw [e12]; omega, by rw [w6]; exact c1⟩
        refine Or.inr ⟨Or.inl pe1, ME_f (s := 29) (a := u2 (u2 a 2 7 10) 2 8 x2) (a' := u2 (u2 (u2 a 2 7 10) 2 8 x2) 2 9 x4) (by omega) n21 ?_ (by decide) pe2⟩
        rw [k3, op29 N5 N2 hq4 (by omega), if_neg M1, if_neg (fun y => y M2), if_pos yy]
    · rw [n6, fJ 131 _ (by omega)] at c1
      refine ih (k + 1) J _ (by omega) (by omega) fJ pJ ?_
      rcases hz with w | ⟨a, N0, M1, M2, M3⟩
      · exact Or.inl w
      · refine Or.inr ⟨a, N0, M1, M2, fun k' hk' => ?_⟩
        by_cases ck : k' = k
        · rw [ck]; exact c1
        · exact M3 k' (by omega)
    · have em := PS_n0 pJ z
      subst em
      exact x_openE (o3 := none) hT hls hm hI hG hr fJ (PX_F pJ) r1' h5 (fun _ => b2) (fun y => absurd rfl y) h
theorem x_open7 {x2 x3 x4 x5 : Int32} {t3 : Nat} {g1 : gc} {J : sm_I} (hT : TS K P V W N c) (hls : ml_ls l s) (hm : en_mem ml_tb mlX (xLay, I, L, R)) (hI : ml_TI l s I) (hG : rG s g I) (hr : (I 134 s).toInt < 4) (t3c : t3 < c) (t35 : t3 < 500) (tt : t < t3) (k3 : K t3 = 15) (h3 : x3.toInt = t3) (r1 : ∀ t' s' g', m = some (t', s', g') → t' = t3 + 1 ∧ s' = 30 ∧ g' = gc_st 0 10 g) (h5 : x5.toInt = ((240 + 4 * s + (I 134 s).toNatClampNeg : Nat) : Int)) (b2 : -1 ≤ x2.toInt ∧ x2.toInt ≤ 9) (b4 : -1 ≤ x4.toInt ∧ x4.toInt ≤ 9) (fJ : xfr I J) (pJ : PSm K P W N c R0 m J L) (hz : PWx P M0 5 t3 J ∨ ∃ a, opN K P V W M0 s t t3 x2 x4 a I L J) (h : ∀ (J : sm_I) (L' : sm_L), TP K P V W N c R0 M0 s t J L' → Φ (none, (xLay, J, L', kM R))) : sm_wp sm_P S (d + 4) 198 7 [.ref 107, .int x2, .int x3, .int x4, .int x5] [] (xLay, J, L, kM R) (0, 0) Φ := by
  obtain ⟨hl1, hs1⟩ := ml_l1 hls
  have b34 := x_34 hs1 hm
  have k0 : (((I 134 s).toNatClampNeg : Nat) : Int) = (I 134 s).toInt := kl_nat b34.1
  have n21 := hT.2.2.2.1 t3 t3c
  have q4s : ((4 : Int32) * (I 107 19)).toInt = 4 * (s : Int) := ml_mu (by decide) hI.2.1 (by omega) (by omega)
  have q10 : ((10 : Int32) * (I 107 19)).toInt = 10 * (s : Int) := ml_mu (by decide) hI.2.1 (by omega) (by omega)
  have go : ∀ H : sm_I, xfr I H → PSm K P W N c R0 m H L → (PWx P M0 5 t3 H ∨ ∃ a, opN K P V W M0 s t t3 x2 x4 a I L H ∧ ¬ x2 = x4 ∧ a.1 18 x4.toNatClampNeg = -1) → sm_wp sm_P S (d + 4) 198 12 [.ref 107, .int x2, .int x3, .int x4, .int x5] [] (xLay, H, L, kM R) (0, 0) Φ := by
    intro H fH pH zH
    refine u_X12_tellOpen_12 (fun n1 e1 => ?_)
    have e19 : H 107 19 = I 107 19 := fH 107 19 (by omega)
    have q1 : n1.toInt = ((240 + 4 * s + 0 : Nat) : Int) := by rw [e1, e19, ml_ad (by decide : (240 : Int32).toInt = 240) q4s (by omega) (by omega)]; omega
    refine x_open13 (g1 := g1) hT hls hm hI hG hr t3c t35 tt k3 h3 r1 h5 b2 b4 h (I 134 s).toNatClampNeg 0 H n1 q1 (by omega) fH pH ?_
    rcases zH with w | ⟨a, w1, w2, w3⟩
    · exact Or.inl w
    · exact Or.inr ⟨a, w1, w2, w3, fun k' hk' => absurd hk' (Nat.not_lt_zero k')⟩
  have wr : J 107 13 = 0 → (∀ a, opN K P V W M0 s t t3 x2 x4 a I L J → (ms 29 15 (V t3) (u2 (u2 a 2 7 10) 2 8 x2)).1 = 5) → sm_wp sm_P S (d + 3) 213 0 [.ref 107, .int (5 : Int32), .int x3] [] (xLay, J, L, (kM R)) (0, 0) (fun z => ∃ (I1 : sm_I) (L2 : sm_L) (R3 : sm_R), z = (none, (xLay, I1, L2, (kM R3))) ∧ sm_wp sm_P S (d + 4) 198 12 [.ref 107, .int x2, .int x3, .int x4, .int x5] [] (xLay, I1, L2, (kM R3)) (0, 0) Φ) := by
    intro z hbad
    refine x_wrong (M0 := M0) (t := t3) hT (by decide) h3 (by omega) (by omega) pJ (fun _ => ?_) (fun H fH _ pH wH => ⟨H, L, R, rfl, go H (xfr_tr fJ fH) pH (Or.inl wH)⟩)
    rcases hz with w | ⟨a, N0⟩
    · exact Or.inl (w z)
    · obtain ⟨pe1, pe2⟩ := N0.2.2.2.2.2.2 z
      refine Or.inr ⟨Or.inl pe1, ME_f (s := 29) (a := u2 (u2 a 2 7 10) 2 8 x2) (f := 5) (a' := (ms 29 15 (V t3) (u2 (u2 a 2 7 10) 2 8 x2)).2) (by omega) n21 ?_ (by decide) pe2⟩
      rw [k3]
      exact Prod.ext (hbad a N0) rfl
  have e19 : J 107 19 = I 107 19 := fJ 107 19 (by omega)
  refine u_X12_tellOpen_7 ⟨fun z => ⟨fun q => ?_, fun q => ⟨fun q2 => wr z (fun a N0 => ?_), fun q2 n6 e6 => ?_⟩⟩, fun z => ?_⟩
  · refine go J fJ pJ ?_
    rcases hz with w | ⟨a, N0⟩
    · exact Or.inl w
    · exact absurd q N0.2.2.1
  · have d4 := ml_m1 q
    obtain ⟨q4, hq4⟩ : ∃ q4 : Nat, x4.toInt = q4 := ⟨x4.toNatClampNeg, (kl_nat (by omega)).symm⟩
    rw [op29 N0.2.2.2.2.2.1 q hq4 (by omega), if_pos q2.symm]
  · have d4 := ml_m1 q
    obtain ⟨q4, hq4⟩ : ∃ q4 : Nat, x4.toInt = q4 := ⟨x4.toNatClampNeg, (kl_nat (by omega)).symm⟩
    have nq4 := tk_nat hq4
    rw [e19] at e6
    have q6 : n6.toInt = ((10 * s + q4 : Nat) : Int) := by rw [e6, ml_ad q10 rfl (by omega) (by omega)]; omega
    have n6n := tk_nat q6
    rw [n6n, fJ 135 _ (by omega)]
    refine ⟨kl_in (by omega) (by omega), fun c1 => go J fJ pJ ?_, fun c1 => wr z (fun a N0 => ?_)⟩
    · rcases hz with w | ⟨a, N0⟩
      · exact Or.inl w
      · exact Or.inr ⟨a, N0, fun y => q2 y.symm, by rw [nq4]; exact (rO_18 N0.1.2.2.2.1 (by omega)).mp c1⟩
    · have n18 : ¬ a.1 18 q4 = -1 := fun y => c1 ((rO_18 N0.1.2.2.2.1 (by omega)).mpr y)
      rw [op29 N0.2.2.2.2.2.1 q hq4 (by omega), if_neg (fun y => q2 y.symm), if_pos n18]
  · have em := PS_n0 pJ z
    subst em
    exact go J fJ pJ (Or.inl (fun y => absurd y z))
end
