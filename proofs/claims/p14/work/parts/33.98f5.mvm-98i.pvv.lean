section
/-! the reference's meets, exact -/
section
variable {S : sm_C} {d : Nat} {Φ : sm_Z → Prop} {L : sm_L} {R : sm_R}
/-- the rows of MOVES hold this list -/
def mvM (l : Nat) (I0 I : sm_I) (w : List (Nat × Nat)) : Prop := (I 107 46).toInt = ((w.length : Nat) : Int) ∧ (∀ j, j < w.length → I 140 j = Int32.ofNat (w.getD j (0, 0)).1 ∧ I 141 j = Int32.ofNat (w.getD j (0, 0)).2 ∧ I 142 j = I0 139 (6 * (I0 124 (10 * l + (w.getD j (0, 0)).1)).toNatClampNeg + (I0 124 (10 * l + (w.getD j (0, 0)).2)).toNatClampNeg)) ∧ ∀ p j, ¬ (p = 107 ∧ j = 46) → p ≠ 140 → p ≠ 141 → p ≠ 142 → I p j = I0 p j
def mcM (l : Nat) (I : sm_I) : Nat → Nat → Bool := mvc (fun a => I 123 (10 * l + a)) (fun a => I 124 (10 * l + a))
theorem ym_3 {I0 : sm_I} {l T a : Nat} (hl : (I0 107 18).toInt = l) (l1 : l ≤ 1) (hT : (I0 122 l).toInt = T) (T10 : T ≤ 10) (ha : a < T) (bp : ∀ i, i < T → I0 123 (10 * l + i) ≠ -1 → 0 ≤ (I0 124 (10 * l + i)).toInt ∧ (I0 124 (10 * l + i)).toInt ≤ 5) (h : ∀ (J : sm_I) (x1 : Int32), x1.toInt = a → mvM l I0 J (mall (mcM l I0) T (a + 1)) → sm_wp sm_P S d 161 1 [.ref 107, .int (x1 + (1 : Int32))] [] (xLay, J, L, kM R) (0, 0) Φ) : ∀ (m b : Nat) (I : sm_I) (x1 x2 : Int32), x1.toInt = a → x2.toInt = b → a < b → b + m = T → mvM l I0 I (mall (mcM l I0) T a ++ mrow (mcM l I0) a b) → sm_wp sm_P S d 161 3 [.ref 107, .int x1, .int x2] [] (xLay, I, L, kM R) (0, 0) Φ := by
  intro m
  induction m with
  | zero =>
    intro b I x1 x2 h1 h2 hab hm hI
    have e : b = T := by omega
    subst e
    have e18 : I 107 18 = I0 107 18 := hI.2.2 107 18 (by omega) (by decide) (by decide) (by decide)
    have e122 : I 122 l = I0 122 l := hI.2.2 122 l (by omega) (by decide) (by decide) (by decide)
    have nl : (I 107 18).toNatClampNeg = l := tk_nat (by rw [e18]; exact hl)
    refine u_X12_meets_3 ⟨kl_in (by rw [e18]; omega) (by rw [e18]; omega), fun _ => h I x1 h1 hI, fun q => ?_⟩
    have q := kl_nle q
    rw [nl, e122] at q
    omega
  | succ m ih =>
    intro b I x1 x2 h1 h2 hab hm hI
    have s2 := ml_in1 (x := x2) (by omega)
    obtain ⟨hc, hr, o⟩ := hI
    have e18 : I 107 18 = I0 107 18 := o 107 18 (by omega) (by decide) (by decide) (by decide)
    have e122 : I 122 l = I0 122 l := o 122 l (by omega) (by decide) (by decide) (by decide)
    have nl : (I 107 18).toNatClampNeg = l := tk_nat (by rw [e18]; exact hl)
    have hl' : (I 107 18).toInt = l := by rw [e18]; exact hl
    have len := mv_45 (c := mcM l I0) T10 hab (by omega : b < T)
    have q1 : ((10 : Int32) * (I 107 18)).toInt = 10 * (l : Int) := ml_mu (by decide) hl' (by omega) (by omega)
    have o3 : ∀ j, I 123 j = I0 123 j := fun j => o 123 j (by omega) (by decide) (by decide) (by decide)
    have o4 : ∀ j, I 124 j = I0 124 j := fun j => o 124 j (by omega) (by decide) (by decide) (by decide)
    have o9 : ∀ j, I 139 j = I0 139 j := fun j => o 139 j (by omega) (by decide) (by decide) (by decide)
    have skip : mcM l I0 a b = false → sm_wp sm_P S d 161 3 [.ref 107, .int x1, .int (x2 + (1 : Int32))] [] (xLay, I, L, kM R) (0, 0) Φ := fun q => by
      refine ih (b + 1) I x1 _ h1 (by omega) (by omega) (by omega) ?_
      rw [mrow_s hab, q, if_neg (by decide), List.append_nil]
      exact ⟨hc, hr, o⟩
    refine u_X12_meets_3 ⟨kl_in (by omega) (by omega), fun q => ?_, fun _ n1 e1 n2 e2 => ?_⟩
    · have q := kl_le.mp q
      rw [nl, e122] at q
      omega
    have p1 : n1.toInt = ((10 * l + a : Nat) : Int) := by rw [e1, ml_ad q1 h1 (by omega) (by omega)]; omega
    have p2 : n2.toInt = ((10 * l + b : Nat) : Int) := by rw [e2, ml_ad q1 h2 (by omega) (by omega)]; omega
    have v1 : vp_in n1 20 := kl_in (by omega) (by omega)
    have v2 : vp_in n2 20 := kl_in (by omega) (by omega)
    have m1 := tk_nat p1
    have m2 := tk_nat p2
    rw [m1, m2, o3, o3, o4, o4]
    refine ⟨v1, fun c1 => skip ?_, fun c1 => ⟨v1, v2, fun c2 => ⟨v1, v2, fun c3 => skip ?_, fun c3 => ?_⟩, fun c2 => skip ?_⟩⟩
    · unfold mcM mvc
      simp [c1]
    · unfold mcM mvc
      simp [c3]
    · have yes : mcM l I0 a b = true := by
        unfold mcM mvc
        simp only [decide_eq_false c1, decide_eq_true c2, decide_eq_false c3]
        rfl
      have ba := bp a ha c1
      have bb := bp b (by omega) (fun q => c1 (c2.trans q))
      have na := kl_nat ba.1
      have nb := kl_nat bb.1
      have vc : vp_in (I 107 46) 45 := kl_in (by omega) (by omega)
      have nc := tk_nat hc
      refine ⟨vc, fun I3 e3 => ?_⟩
      have g3 : I3 107 46 = I 107 46 := by rw [e3, en_up_ne _ _ _ _ (by omega)]
      rw [g3]
      refine ⟨vc, fun I4 e4 => ⟨v1, v2, fun n5 e5 => ?_⟩⟩
      have g4 : I4 107 46 = I 107 46 := by rw [e4, en_up_ne _ _ _ _ (by omega), g3]
      have k4 : ∀ p j, p ≠ 140 → p ≠ 141 → I4 p j = I p j := fun p j a b => by rw [e4, en_up_ne _ _ _ _ (by omega), e3, en_up_ne _ _ _ _ (by omega)]
      rw [k4 124 _ (by decide) (by decide), k4 124 _ (by decide) (by decide), o4, o4] at e5
      have q6 : ((6 : Int32) * (I0 124 (10 * l + a))).toInt = 6 * (I0 124 (10 * l + a)).toInt := ml_mu (by decide) rfl (by omega) (by omega)
      have q5 : n5.toInt = ((6 * (I0 124 (10 * l + a)).toNatClampNeg + (I0 124 (10 * l + b)).toNatClampNeg : Nat) : Int) := by rw [e5, ml_ad q6 rfl (by omega) (by omega)]; omega
      have m5 := tk_nat q5
      rw [g4]
      refine ⟨kl_in (by omega) (by omega), vc, fun I6 e6 I7 e7 => ?_⟩
      rw [m5, k4 139 _ (by decide) (by decide), o9] at e6
      have g6 : I6 107 46 = I 107 46 := by rw [e6, en_up_ne _ _ _ _ (by omega), g4]
      rw [g6] at e7
      rw [nc] at e3 e6
      rw [nc] at e4
      have k7 : ∀ p j, ¬ (p = 107 ∧ j = 46) → p ≠ 140 → p ≠ 141 → p ≠ 142 → I7 p j = I0 p j := fun p j a b c d => by
        rw [e7, en_up_ne _ _ _ _ a, e6, en_up_ne _ _ _ _ (by omega), k4 p j b c, o p j a b c d]
      have s1 := ml_in1 (x := I 107 46) (by omega)
      refine ih (b + 1) I7 x1 _ h1 (by omega) (by omega) (by omega) ⟨?_, fun j hj => ?_, k7⟩
      · rw [mrow_s hab, yes, if_pos rfl, ← List.append_assoc, List.length_append]
        rw [e7, en_up_eq, s1, hc]
        rfl
      · rw [mrow_s hab, yes, if_pos rfl, ← List.append_assoc] at hj ⊢
        rw [List.length_append] at hj
        have hj : j < (mall (mcM l I0) T a ++ mrow (mcM l I0) a b).length + 1 := hj
        by_cases e : j < (mall (mcM l I0) T a ++ mrow (mcM l I0) a b).length
        · rw [gD_l e]
          obtain ⟨r1, r2, r3⟩ := hr j e
          refine ⟨?_, ?_, ?_⟩
          · rw [e7, en_up_ne _ _ _ _ (by omega), e6, en_up_ne _ _ _ _ (by omega), e4, en_up_ne _ _ _ _ (by omega), e3, en_up_ne _ _ _ _ (by omega)]; exact r1
          · rw [e7, en_up_ne _ _ _ _ (by omega), e6, en_up_ne _ _ _ _ (by omega), e4, en_up_ne _ _ _ _ (by omega), e3, en_up_ne _ _ _ _ (by omega)]; exact r2
          · rw [e7, en_up_ne _ _ _ _ (by omega), e6, en_up_ne _ _ _ _ (by omega), e4, en_up_ne _ _ _ _ (by omega), e3, en_up_ne _ _ _ _ (by omega)]; exact r3
        · have e : j = (mall (mcM l I0) T a ++ mrow (mcM l I0) a b).length := by omega
          rw [e, gD_n]
          have ex1 : x1 = Int32.ofNat a := en_ofI (by rw [h1, Int32.toInt_ofNat_of_lt (by omega)])
          have ex2 : x2 = Int32.ofNat b := en_ofI (by rw [h2, Int32.toInt_ofNat_of_lt (by omega)])
          refine ⟨?_, ?_, ?_⟩
          · rw [e7, en_up_ne _ _ _ _ (by omega), e6, en_up_ne _ _ _ _ (by omega), e4, en_up_ne _ _ _ _ (by omega), e3, en_up_eq, ex1]
          · rw [e7, en_up_ne _ _ _ _ (by omega), e6, en_up_ne _ _ _ _ (by omega), e4, en_up_eq, ex2]
          · rw [e7, en_up_ne _ _ _ _ (by omega), e6, en_up_eq]
    · unfold mcM mvc
      simp [c2]
theorem ym_1 {I0 : sm_I} {l T : Nat} (hl : (I0 107 18).toInt = l) (l1 : l ≤ 1) (hT : (I0 122 l).toInt = T) (T10 : T ≤ 10) (bp : ∀ i, i < T → I0 123 (10 * l + i) ≠ -1 → 0 ≤ (I0 124 (10 * l + i)).toInt ∧ (I0 124 (10 * l + i)).toInt ≤ 5) (h : ∀ J : sm_I, mvM l I0 J (mall (mcM l I0) T T) → Φ (none, (xLay, J, L, kM R))) : ∀ (m a : Nat) (I : sm_I) (x1 : Int32), x1.toInt = a → a + m = T → mvM l I0 I (mall (mcM l I0) T a) → sm_wp sm_P S d 161 1 [.ref 107, .int x1] [] (xLay, I, L, kM R) (0, 0) Φ := by
  intro m
  induction m with
  | zero =>
    intro a I x1 h1 hm hI
    have e : a = T := by omega
    subst e
    have e18 : I 107 18 = I0 107 18 := hI.2.2 107 18 (by omega) (by decide) (by decide) (by decide)
    have e122 : I 122 l = I0 122 l := hI.2.2 122 l (by omega) (by decide) (by decide) (by decide)
    have nl : (I 107 18).toNatClampNeg = l := tk_nat (by rw [e18]; exact hl)
    refine u_X12_meets_1 ⟨kl_in (by rw [e18]; omega) (by rw [e18]; omega), fun _ => h I hI, fun q => ?_⟩
    have q := kl_nle q
    rw [nl, e122] at q
    omega
  | succ m ih =>
    intro a I x1 h1 hm hI
    have s1 := ml_in1 (x := x1) (by omega)
    have e18 : I 107 18 = I0 107 18 := hI.2.2 107 18 (by omega) (by decide) (by decide) (by decide)
    have e122 : I 122 l = I0 122 l := hI.2.2 122 l (by omega) (by decide) (by decide) (by decide)
    have nl : (I 107 18).toNatClampNeg = l := tk_nat (by rw [e18]; exact hl)
    refine u_X12_meets_1 ⟨kl_in (by rw [e18]; omega) (by rw [e18]; omega), fun q => ?_, fun _ => ym_3 (I0 := I0) (a := a) hl l1 hT T10 (by omega) bp (fun J x1 h1 hJ => ih (a + 1) J _ ?_ (by omega) hJ) (T - (a + 1)) (a + 1) I x1 _ h1 (by omega) (by omega) (by omega) (by rw [mrow_0 (a + 1) (Nat.le_refl _), List.append_nil]; exact hI)⟩
    · have q := kl_le.mp q
      rw [nl, e122] at q
      omega
    · have s := ml_in1 (x := x1) (by omega)
      omega
theorem y_meets {I : sm_I} {l T : Nat} (hl : (I 107 18).toInt = l) (l1 : l ≤ 1) (hT : (I 122 l).toInt = T) (T10 : T ≤ 10) (bp : ∀ i, i < T → I 123 (10 * l + i) ≠ -1 → 0 ≤ (I 124 (10 * l + i)).toInt ∧ (I 124 (10 * l + i)).toInt ≤ 5) (h : ∀ J : sm_I, mvM l I J (mall (mcM l I) T T) → Φ (none, (xLay, J, L, kM R))) : sm_wp sm_P S d 161 0 [.ref 107] [] (xLay, I, L, kM R) (0, 0) Φ := u_X12_meets_0 (ym_1 (I0 := I) hl l1 hT T10 bp h T 0 _ 0 (by decide) (by omega) ⟨by rw [en_up_eq]; rfl, fun j hj => absurd hj (Nat.not_lt_zero j), fun p j a _ _ _ => by rw [en_up_ne _ _ _ _ a]⟩)
end
end
section
/-! the reference's walks and meets behind a text, with what the invariant keeps -/
section
variable {S : sm_C} {d : Nat} {Φ : sm_Z → Prop} {I : sm_I} {L : sm_L} {R : sm_R}
/-- the live side is in order -/
def cdM (I : sm_I) : Prop := ∀ l : Nat, (I 107 18).toInt = l → l ≤ 1 ∧ WB 1440 (fun i => (I 121 (36 * l + i)).toInt) ∧ ∀ i : Nat, (i : Int) < (I 122 l).toInt → I 123 (10 * l + i) ≠ -1 → 0 ≤ (I 124 (10 * l + i)).toInt ∧ (I 124 (10 * l + i)).toInt ≤ 5
theorem cdM_cg {I J : sm_I} (h : ∀ p j, (118 ≤ p ∧ p ≤ 136) ∨ (p = 107 ∧ j = 18) → J p j = I p j) (k : cdM I) : cdM J := fun l hl => by
  rw [h 107 18 (by omega)] at hl
  obtain ⟨k1, k2, k3⟩ := k l hl
  refine ⟨k1, ?_, fun i hi hk => ?_⟩
  · have e : (fun i => (J 121 (36 * l + i)).toInt) = fun i => (I 121 (36 * l + i)).toInt := funext (fun i => by rw [h 121 _ (by omega)])
    rw [e]; exact k2
  · rw [h 122 l (by omega)] at hi
    rw [h 123 _ (by omega)] at hk
    rw [h 124 _ (by omega)]; exact k3 i hi hk
def mlst (l : Nat) (I : sm_I) : List (Nat × Nat) := mall (mcM l I) (I 122 l).toNatClampNeg (I 122 l).toNatClampNeg
def wkM (I0 J : sm_I) : Prop := ∀ l : Nat, (I0 107 18).toInt = l → ∀ i, i < 36 → (J 139 i).toInt = Ft 6 (fun i => (I0 121 (36 * l + i)).toInt) i
def mvsM (l : Nat) (I0 J : sm_I) : Prop := (J 107 46).toInt = (((mlst l I0).length : Nat) : Int) ∧ ∀ j, j < (mlst l I0).length → J 140 j = Int32.ofNat ((mlst l I0).getD j (0, 0)).1 ∧ J 141 j = Int32.ofNat ((mlst l I0).getD j (0, 0)).2 ∧ J 142 j = J 139 (6 * (I0 124 (10 * l + ((mlst l I0).getD j (0, 0)).1)).toNatClampNeg + (I0 124 (10 * l + ((mlst l I0).getD j (0, 0)).2)).toNatClampNeg)
theorem mlst_cg {l : Nat} {I J : sm_I} (h : ∀ p j, 118 ≤ p → p ≤ 136 → J p j = I p j) : mlst l J = mlst l I := by
  unfold mlst mcM
  have e3 : (fun a => J 123 (10 * l + a)) = fun a => I 123 (10 * l + a) := funext (fun a => h 123 _ (by decide) (by decide))
  have e4 : (fun a => J 124 (10 * l + a)) = fun a => I 124 (10 * l + a) := funext (fun a => h 124 _ (by decide) (by decide))
  rw [e3, e4, h 122 l (by decide) (by decide)]
theorem live_l (hm : en_mem ml_tb mlX (xLay, I, L, R)) : ∃ l : Nat, (I 107 18).toInt = l ∧ l ≤ 1 := by
  obtain ⟨b0, l1, ln, lc⟩ := ml_live hm
  have b0 : 0 ≤ (I 107 18).toInt := b0
  have l1 : (I 107 18).toInt ≤ 1 := l1
  exact ⟨(I 107 18).toInt.toNat, by omega, by omega⟩
theorem y_w1 (hm : en_mem ml_tb mlX (xLay, I, L, R)) (h : ∀ (J : sm_I) (L' : sm_L) (R' : sm_R), en_mem ml_tb mlX (xLay, J, L', R') → (∀ p j, p ≠ 139 → J p j = I p j) → (cdM I → wkM I J) → Φ (none, (xLay, J, L', kM R'))) : sm_wp sm_P S d 210 0 [.ref 107] [] (xLay, I, L, kM R) (0, 0) Φ := by
  have A := ml_cv (S := S) (d := d) (c := mlc_64) (vs := [.ref 107]) (C := fun I2 L2 R2 => en_mem ml_tb mlX (xLay, I2, L2, R2) ∧ en_fr mlc_64.2.2.2.2.1 (xLay, I, L, R) (xLay, I2, L2, R2)) mlh_64 (Nat.zero_le _) ⟨⟨rfl, rfl⟩, trivial⟩ hm ml_pf0 rfl (fun I2 L2 R2 m2 f2 => ⟨m2, f2⟩)
  have rn : ∀ {p j : Nat}, p ≠ 139 → en_wok mlc_64.2.2.2.2.1 p j = false := fun {p j} h => by
    cases c : en_wok mlc_64.2.2.2.2.1 p j with
    | false => rfl
    | true =>
      exfalso
      obtain ⟨q, g1, g2⟩ := List.any_eq_true.mp c
      have e : q.1 = p := Nat.eq_of_beq_eq_true (Bool.and_eq_true_iff.mp g2).1
      have e3 : q = (139, []) := List.mem_singleton.mp g1
      rw [e3] at e
      exact h e.symm
  by_cases c : cdM I
  · obtain ⟨l, hl, l1⟩ := live_l hm
    obtain ⟨k1, k2, -⟩ := c l hl
    have B : sm_wp sm_P S d 210 0 [.ref 107] [] (xLay, I, L, kM R) (0, 0) (fun z => ∀ i, i < 36 → (z.2.2.1 139 i).toInt = Ft 6 (fun i => (I 121 (36 * l + i)).toInt) i) := y_walks hl l1 k2 (fun J gJ _ => gJ)
    refine sm_wp_mono (sm_wp_and A B) (fun z hz => ?_)
    obtain ⟨⟨I2, L2, R2, ez, m2, f2⟩, g⟩ := hz
    subst ez
    refine h I2 L2 R2 m2 (fun p j hp => (f2.2 p j (rn hp)).1) (fun _ l' hl' => ?_)
    have : l' = l := by omega
    subst this
    exact g
  · refine sm_wp_mono A (fun z hz => ?_)
    obtain ⟨I2, L2, R2, ez, m2, f2⟩ := hz
    subst ez
    exact h I2 L2 R2 m2 (fun p j hp => (f2.2 p j (rn hp)).1) (fun q => absurd q c)
theorem y_w2 (hm : en_mem ml_tb mlX (xLay, I, L, R)) (h : ∀ J : sm_I, en_mem ml_tb mlX (xLay, J, L, R) → ml_mf I J → (cdM I → ∀ l : Nat, (I 107 18).toInt = l → mvsM l I J) → Φ (none, (xLay, J, L, kM R))) : sm_wp sm_P S d 161 0 [.ref 107] [] (xLay, I, L, kM R) (0, 0) Φ := by
  have A : sm_wp sm_P S d 161 0 [.ref 107] [] (xLay, I, L, kM R) (0, 0) (fun z => ∃ J : sm_I, z = (none, (xLay, J, L, kM R)) ∧ en_mem ml_tb mlX (xLay, J, L, R) ∧ ml_mf I J) := mx_meets hm (fun J m f => ⟨J, rfl, m, f⟩)
  by_cases c : cdM I
  · obtain ⟨l, hl, l1⟩ := live_l hm
    obtain ⟨k1, k2, k3⟩ := c l hl
    have b := (ml_cs l1 hm).2.2.1
    have n := kl_nat b.1
    have B : sm_wp sm_P S d 161 0 [.ref 107] [] (xLay, I, L, kM R) (0, 0) (fun z => mvM l I z.2.2.1 (mlst l I)) := y_meets (T := (I 122 l).toNatClampNeg) hl l1 (by omega) (by omega) (fun i hi => k3 i (by omega)) (fun J gJ => gJ)
    refine sm_wp_mono (sm_wp_and A B) (fun z hz => ?_)
    obtain ⟨⟨J, ez, m, f⟩, g⟩ := hz
    subst ez
    refine h J m f (fun _ l' hl' => ?_)
    have : l' = l := by omega
    subst this
    obtain ⟨g1, g2, g3⟩ := g
    refine ⟨g1, fun j hj => ?_⟩
    obtain ⟨r1, r2, r3⟩ := g2 j hj
    have o9 : J 139 = I 139 := funext (fun j => f 139 j (by omega))
    exact ⟨r1, r2, by rw [o9]; exact r3⟩
  · refine sm_wp_mono A (fun z hz => ?_)
    obtain ⟨J, ez, m, f⟩ := hz
    subst ez
    exact h J m f (fun q => absurd q c)
end
end
section
/-! the stream: what depends on the bytes of the text alone -/
theorem tk_run_cg {f : Int32 → Bool} {b b' : Nat → Int32} {n : Nat} (h : ∀ j, j < n → b j = b' j) : ∀ k p, tk_run f b n k p = tk_run f b' n k p := by
  intro k
  induction k with
  | zero => intro p; rfl
  | succ k ih =>
    intro p
    show (if p < n ∧ f (b p) = true then tk_run f b n k (p + 1) else p) = (if p < n ∧ f (b' p) = true then tk_run f b' n k (p + 1) else p)
    rw [ih]
    by_cases c : p < n
    · rw [h p c]
    · rw [if_neg (fun q => c q.1), if_neg (fun q => c q.1)]
theorem tk_end_cg {f : Int32 → Bool} {b b' : Nat → Int32} {n p : Nat} (h : ∀ j, j < n → b j = b' j) : tk_end f b n p = tk_end f b' n p := tk_run_cg h _ _
theorem tk_nx_cg {b b' : Nat → Int32} {n p : Nat} (h : ∀ j, j < n → b j = b' j) (hp : p < n) : tk_nx b n p = tk_nx b' n p := by
  unfold tk_nx
  rw [h p hp, tk_end_cg h, tk_end_cg h]
theorem tk_at_cg {b b' : Nat → Int32} {n : Nat} (h : ∀ j, j < n → b j = b' j) : ∀ i, tk_at b n i = tk_at b' n i := by
  intro i
  induction i with
  | zero => exact tk_end_cg h
  | succ i ih =>
    show (if tk_at b n i < n then tk_sk b n (tk_nx b n (tk_at b n i)) else n) = (if tk_at b' n i < n then tk_sk b' n (tk_nx b' n (tk_at b' n i)) else n)
    rw [ih]
    by_cases c : tk_at b' n i < n
    · rw [if_pos c, if_pos c, tk_nx_cg h c]
      exact tk_end_cg h
    · rw [if_neg c, if_neg c]
theorem tk_kd_cg {b b' : Nat → Int32} {n p : Nat} (h : ∀ j, j < n → b j = b' j) (hp : p < n) : tk_kd b n p = tk_kd b' n p := by
  have e1 : tk_end tk_le b n p ≤ n := tk_end_n2 (by omega)
  have cd : tk_cd tk_f8 b p (tk_end tk_le b n p - p) = tk_cd tk_f8 b' p (tk_end tk_le b n p - p) := tk_cd_cg _ (fun i hi => h _ (by omega))
  unfold tk_kd
  rw [cd, h p hp, tk_end_cg h, tk_end_cg h]
theorem tk_vl_cg {b b' : Nat → Int32} {n p : Nat} (h : ∀ j, j < n → b j = b' j) (hp : p < n) : tk_vl b n p = tk_vl b' n p := by
  have e1 : tk_end tk_le b n p ≤ n := tk_end_n2 (by omega)
  have e2 : tk_end tk_di b n p ≤ n := tk_end_n2 (by omega)
  have c1 : tk_cd tk_f8 b p (tk_end tk_le b n p - p) = tk_cd tk_f8 b' p (tk_end tk_le b n p - p) := tk_cd_cg _ (fun i hi => h _ (by omega))
  have c2 : tk_cd tk_f10 b p (tk_end tk_di b n p - p) = tk_cd tk_f10 b' p (tk_end tk_di b n p - p) := tk_cd_cg _ (fun i hi => h _ (by omega))
  unfold tk_vl
  rw [c1, c2, h p hp, tk_end_cg h, tk_end_cg h]
theorem tk_K_cg {b b' : Nat → Int32} {n : Nat} (h : ∀ j, j < n → b j = b' j) (i : Nat) : tk_K b n i = tk_K b' n i := by
  unfold tk_K
  rw [tk_at_cg h]
  by_cases c : tk_at b' n i < n
  · rw [if_pos c, if_pos c, tk_kd_cg h c]
  · rw [if_neg c, if_neg c]
theorem tk_at_s {b : Nat → Int32} {n i : Nat} (h : tk_at b n i < n) : tk_at b n i < tk_at b n (i + 1) := by
  show _ < (if tk_at b n i < n then tk_sk b n (tk_nx b n (tk_at b n i)) else n)
  rw [if_pos h]
  have a := (tk_nx_gt (b := b) h).1
  have c : tk_nx b n (tk_at b n i) ≤ tk_sk b n (tk_nx b n (tk_at b n i)) := tk_end_le
  omega
theorem TS_of {b : Nat → Int32} {n c : Nat} (c5 : c ≤ 501) (hr : ∀ i, i < c → tk_at b n i < n) (he : c ≤ 500 → tk_at b n c = n) : TS (tk_K b n) (tk_at b n) (fun i => tk_vl b n (tk_at b n i)) (fun i => mt_nm b n (tk_at b n i)) (fun i => mt_vl b n (tk_at b n i)) c := by
  have kd : ∀ i, i < c → tk_K b n i = tk_kd b n (tk_at b n i) := fun i hi => by unfold tk_K; rw [if_pos (hr i hi)]
  refine ⟨c5, fun i => ?_, fun q => tk_K_21.mpr (by rw [he q]; exact Nat.le_refl n), fun i hi q => ?_, fun i j hij hj => ?_, fun i hi q => ?_, fun i j hi hj qi qj => ?_⟩
  · unfold tk_K
    by_cases q : tk_at b n i < n
    · rw [if_pos q]
      have := tk_kd_r (b := b) (n := n) (p := tk_at b n i)
      omega
    · rw [if_neg q]; decide
  · have a := tk_K_21.mp q
    have d := hr i hi
    omega
  · have key : ∀ k, i < k → k ≤ c → tk_at b n i < tk_at b n k := by
      intro k
      induction k with
      | zero => intro q _; omega
      | succ k ih =>
        intro q1 q2
        have s := tk_at_s (b := b) (hr k (by omega))
        by_cases e : i = k
        · rw [e]; exact s
        · have := ih (by omega) (by omega)
          omega
    exact key j hij hj
  · rw [kd i hi] at q
    exact in_eq q
  · rw [kd i hi] at qi
    rw [kd j hj] at qj
    exact na_eq qi qj
/-! the reference reads a text -/
-- what is told, on a side of the reference
def TD (s : Nat) (a : sg) (I : sm_I) : Prop := rC s a I ∧ rT s a I ∧ rO s a I ∧ rW s a I ∧ rS s a I ∧ rQ s a I
def tcut (I : sm_I) : sm_I := fun p j => bif (Nat.ble 118 p && Nat.ble p 136) then I p j else 0
theorem TD_t {s : Nat} {a : sg} {I : sm_I} : TD s a I = TD s a (tcut I) := rfl
theorem TD_cg {s : Nat} {a : sg} {I J : sm_I} (h : ∀ p j, 118 ≤ p → p ≤ 136 → J p j = I p j) (k : TD s a I) : TD s a J := by
  have e : tcut J = tcut I := funext (fun p => funext (fun j => by
    unfold tcut
    cases c : (Nat.ble 118 p && Nat.ble p 136) with
    | false => rfl
    | true =>
      obtain ⟨c1, c2⟩ := Bool.and_eq_true_iff.mp c
      exact h p j (Nat.le_of_ble_eq_true c1) (Nat.le_of_ble_eq_true c2)))
  rw [TD_t] at k ⊢
  rw [e]; exact k
def kpt (v : Int32) (I0 J : sm_I) : Prop := J 107 17 = v ∧ J 107 18 = I0 107 18 ∧ ∀ p j, 118 ≤ p → p ≤ 136 → J p j = I0 p j
/-- nothing is DOUBTED, SET, PICKED, MORE; nothing is gone through -/
def hcM (J : sm_I) : Prop := (∀ j, j < 10 → J 137 j = 0 ∧ J 138 j = -1) ∧ (∀ j, j < 60 → J 160 j = -1) ∧ J 107 54 = 0 ∧ J 107 70 = 0 ∧ J 107 79 = 0
-- walks and moves of a side
def wmJ (s : Nat) (J : sm_I) : Prop := (∀ i, i < 36 → (J 139 i).toInt = Ft 6 (fun i => (J 121 (36 * s + i)).toInt) i) ∧ mvsM s J J
/-- what read answers, and the place that it keeps -/
def RDx (P : Nat → Nat) (R0 : Option (Int32 × Nat)) (M0 : Option (Int32 × Nat) × sg) (r : Int32) (J : sm_I) : Prop := (∀ f j, R0 = some (f, j) → r = f ∧ (J 107 17).toInt = P j) ∧ (R0 = none → (∀ f j, M0.1 = some (f, j) → r = f ∧ (J 107 17).toInt = P j) ∧ (M0.1 = none → r = 0 ∧ J 107 17 = -1 ∧ hcM J ∧ ∃ s : Nat, s ≤ 1 ∧ (J 107 18).toInt = s ∧ TD s M0.2 J ∧ (wt M0.2 → wmJ s J)))
section
variable {K : Nat → Int32} {P : Nat → Nat} {V W : Nat → Int64} {N : Nat → Int32} {c : Nat} {R0 : Option (Int32 × Nat)} {M0 : Option (Int32 × Nat) × sg}
variable {S : sm_C} {d : Nat} {Φ : sm_Z → Prop} {I : sm_I} {L : sm_L} {R : sm_R} {m : mo} {o : Option sg} {l s t : Nat} {g : gc}
-- a refused text leaves the live side as it is
def lvf (l : Nat) (I0 J : sm_I) : Prop := ∀ p j, (ml_hl l p j ∨ ml_hm l p j ∨ 137 ≤ p ∨ (p = 107 ∧ 46 ≤ j)) → J p j = I0 p j
def LVx (l : Nat) (I0 : sm_I) (r : Int32) (J : sm_I) : Prop := r ≠ 0 → (J 107 18).toInt = l ∧ lvf l I0 J
theorem lv_p {l p j : Nat} (h : ml_hl l p j ∨ ml_hm l p j ∨ 137 ≤ p ∨ (p = 107 ∧ 46 ≤ j)) : (118 ≤ p ∧ p ≤ 136) ∨ 137 ≤ p ∨ (p = 107 ∧ 46 ≤ j) := by unfold ml_hl ml_hm at h; omega
theorem lv_D {l : Nat} {I0 I J : sm_I} (hv : lvf l I0 I) (h : ml_pS (ml_Dl l) I J) : lvf l I0 J := fun p j q => by
  have q2 := lv_p q
  rw [h.1 p j (fun c => by
    unfold ml_Dl at c
    rcases c with c | c
    · omega
    · rcases q with q | q | q | q
      · exact c.2.2.1 q
      · exact c.2.2.2 q
      · omega
      · omega) (by omega)]
  exact hv p j q
theorem lv_up {l s : Nat} {I0 I : sm_I} {r s1 : Int32} (hI : ml_TI l s I) (hv : lvf l I0 I) : LVx l I0 r (sm_up I 107 17 s1) := fun _ => ⟨by rw [en_up_ne _ _ _ _ (by omega)]; exact hI.1, fun p j q => by
  have q2 := lv_p q
  rw [en_up_ne _ _ _ _ (by omega)]
  exact hv p j q⟩
theorem rd_w {W : en_W} {p j : Nat} (h : W.all (fun q => Nat.blt q.1 118 || Nat.blt 136 q.1) = true) (p1 : 118 ≤ p) (p2 : p ≤ 136) : en_wok W p j = false := by
  cases c : en_wok W p j with
  | false => rfl
  | true =>
    exfalso
    obtain ⟨q, g1, g2⟩ := List.any_eq_true.mp c
    have e : q.1 = p := Nat.eq_of_beq_eq_true (Bool.and_eq_true_iff.mp g2).1
    have l := List.all_eq_true.mp h q g1
    rw [e] at l
    rcases Bool.or_eq_true_iff.mp l with l | l
    · have l : p < 118 := Nat.le_of_ble_eq_true l
      omega
    · have l : 136 < p := Nat.le_of_ble_eq_true l
      omega
theorem y_read29 {v : Int32} {I0 : sm_I} (hΦ : ∀ (J : sm_I) (L' : sm_L) (R' : sm_R), kpt v I0 J → hcM J → (cdM I0 → ∀ l : Nat, (I0 107 18).toInt = l → wmJ l J) → Φ (some (.int 0), (xLay, J, L', kM R'))) : ∀ (k : Nat) (I : sm_I) (x1 : Int32), en_mem ml_tb mlX (xLay, I, L, R) → kpt v I0 I → (∀ j, j < 10 → I 137 j = 0 ∧ I 138 j = -1) → (∀ j : Nat, (j : Int) < x1.toInt → I 160 j = -1) → 0 ≤ x1.toInt → x1.toInt ≤ 60 → 60 - x1.toInt < k → sm_wp sm_P S (d + 1) 182 29 [.ref 107, .int x1] [] (xLay, I, L, kM R) (0, 0) Φ := by
  intro k
  induction k with
  | zero => intro I x1 hm hz c1 c2 h0 h1 hM; omega
  | succ k ih =>
    intro I x1 hm hz c1 c2 h0 h1 hM
    refine u_X12_read_29 ⟨fun a => ?_, fun a => ?_⟩
    · have a := kl_le.mp a
      rw [(by decide : (60 : Int32).toInt = 60)] at a
      have m1 : en_mem ml_tb mlX (xLay, sm_up I 107 54 0, L, R) := ml_wf hm (by decide +kernel) (q := (0, 6)) (by decide +kernel) (by decide)
      refine y_w1 m1 (fun I2 L2 R2 m2 f2 w2 => ⟨I2, L2, R2, rfl, y_w2 m2 (fun I3 m3 f3 w3 => ⟨I3, L2, R2, rfl, u_X12_changes_0 (fun I4 e4 => ⟨I4, L2, R2, rfl, ?_⟩)⟩)⟩)
      have g : ∀ p j, p ≠ 139 → ¬ (p = 107 ∧ (j = 46 ∨ j = 54 ∨ j = 70 ∨ j = 79)) → ¬ (p = 140 ∨ p = 141 ∨ p = 142) → I4 p j = I p j := fun p j p1 p2 p3 => by
        rw [e4, en_up_ne _ _ _ _ (by omega), en_up_ne _ _ _ _ (by omega), f3 _ _ (by omega), f2 p j p1, en_up_ne _ _ _ _ (by omega)]
      have wm : cdM I0 → ∀ l : Nat, (I0 107 18).toInt = l → wmJ l I4 := fun cd l hl => by
        have o1 : ∀ p j, (118 ≤ p ∧ p ≤ 136) ∨ (p = 107 ∧ j = 18) → sm_up I 107 54 0 p j = I0 p j := fun p j q => by
          rw [en_up_ne _ _ _ _ (by omega)]
          rcases q with q | ⟨q1, q2⟩
          · exact hz.2.2 p j q.1 q.2
          · rw [q1, q2]; exact hz.2.1
        have o2 : ∀ p j, (118 ≤ p ∧ p ≤ 136) ∨ (p = 107 ∧ j = 18) → I2 p j = sm_up I 107 54 0 p j := fun p j q => f2 p j (by omega)
        have cd1 : cdM (sm_up I 107 54 0) := cdM_cg o1 cd
        have cd2 : cdM I2 := cdM_cg o2 cd1
        have h1 : (sm_up I 107 54 0 107 18).toInt = l := by rw [o1 107 18 (by omega)]; exact hl
        have h2 : (I2 107 18).toInt = l := by rw [o2 107 18 (by omega)]; exact h1
        have g9 : I4 139 = I2 139 := funext (fun j => by rw [e4, en_up_ne _ _ _ _ (by omega), en_up_ne _ _ _ _ (by omega), f3 _ _ (by omega)])
        have rows : ∀ p j, 118 ≤ p → p ≤ 136 → I4 p j = I2 p j := fun p j p1 p2 => by rw [e4, en_up_ne _ _ _ _ (by omega), en_up_ne _ _ _ _ (by omega), f3 _ _ (by omega)]
        obtain ⟨v1, v2⟩ := w3 cd2 l h2
        have el : mlst l I4 = mlst l I2 := mlst_cg rows
        refine ⟨fun i hi => ?_, ?_, fun j hj => ?_⟩
        · have w := w2 cd1 l h1 i hi
          have e : (fun i => (I4 121 (36 * l + i)).toInt) = fun i => (sm_up I 107 54 0 121 (36 * l + i)).toInt := funext (fun i => by rw [rows 121 _ (by decide) (by decide), o2 121 _ (by omega)])
          rw [e, g9]; exact w
        · rw [el, e4, en_up_ne _ _ _ _ (by omega), en_up_ne _ _ _ _ (by omega)]; exact v1
        · rw [el] at hj ⊢
          obtain ⟨r1, r2, r3⟩ := v2 j hj
          have c9 : I3 139 = I2 139 := funext (fun j => f3 139 j (by omega))
          rw [rows 124 _ (by decide) (by decide), rows 124 _ (by decide) (by decide), g9, ← c9]
          refine ⟨?_, ?_, ?_⟩
          · rw [e4, en_up_ne _ _ _ _ (by omega), en_up_ne _ _ _ _ (by omega)]; exact r1
          · rw [e4, en_up_ne _ _ _ _ (by omega), en_up_ne _ _ _ _ (by omega)]; exact r2
          · rw [e4, en_up_ne _ _ _ _ (by omega), en_up_ne _ _ _ _ (by omega)]; exact r3
      refine hΦ I4 L2 R2 ⟨?_, ?_, fun p j p1 p2 => ?_⟩ ⟨fun j hj => ⟨?_, ?_⟩, fun j hj => ?_, ?_, ?_, ?_⟩ wm
      · rw [g _ _ (by omega) (by omega) (by omega), hz.1]
      · rw [g _ _ (by omega) (by omega) (by omega), hz.2.1]
      · rw [g _ _ (by omega) (by omega) (by omega), hz.2.2 p j p1 p2]
      · rw [g _ _ (by omega) (by omega) (by omega)]; exact (c1 j hj).1
      · rw [g _ _ (by omega) (by omega) (by omega)]; exact (c1 j hj).2
      · rw [g _ _ (by omega) (by omega) (by omega)]; exact c2 j (by omega)
      · rw [e4, en_up_ne _ _ _ _ (by omega), en_up_ne _ _ _ _ (by omega), f3 _ _ (by omega), f2 107 54 (by decide), en_up_eq]
      · rw [e4, en_up_ne _ _ _ _ (by omega), en_up_eq]
      · rw [e4, en_up_eq]
    · have a := kl_nle a
      rw [(by decide : (60 : Int32).toInt = 60)] at a
      have s1 := ml_in1 (x := x1) (by omega)
      have nx := kl_nat h0
      refine ⟨kl_in h0 (by omega), fun I2 e2 => ih I2 _ ?_ ?_ (fun j hj => ?_) (fun j hj => ?_) (by omega) (by omega) (by omega)⟩
      · rw [e2]
        exact ml_we2 hm rfl (n := 60) (q := (-1, 3)) rfl (by decide)
      · exact ⟨by rw [e2, en_up_ne _ _ _ _ (by omega), hz.1], by rw [e2, en_up_ne _ _ _ _ (by omega), hz.2.1], fun p j p1 p2 => by rw [e2, en_up_ne _ _ _ _ (by omega), hz.2.2 p j p1 p2]⟩
      · rw [e2, en_up_ne _ _ _ _ (by omega), en_up_ne _ _ _ _ (by omega)]; exact c1 j hj
      · by_cases cj : j = x1.toNatClampNeg
        · rw [cj, e2, en_up_eq]
        · rw [e2, en_up_ne _ _ _ _ (by omega)]; exact c2 j (by omega)
theorem y_read26 {v : Int32} {I0 : sm_I} (hΦ : ∀ (J : sm_I) (L' : sm_L) (R' : sm_R), kpt v I0 J → hcM J → (cdM I0 → ∀ l : Nat, (I0 107 18).toInt = l → wmJ l J) → Φ (some (.int 0), (xLay, J, L', kM R'))) : ∀ (k : Nat) (I : sm_I) (x1 : Int32), en_mem ml_tb mlX (xLay, I, L, R) → kpt v I0 I → (∀ j : Nat, (j : Int) < x1.toInt → I 137 j = 0 ∧ I 138 j = -1) → 0 ≤ x1.toInt → x1.toInt ≤ 10 → 10 - x1.toInt < k → sm_wp sm_P S (d + 1) 182 26 [.ref 107, .int x1] [] (xLay, I, L, kM R) (0, 0) Φ := by
  intro k
  induction k with
  | zero => intro I x1 hm hz c1 h0 h1 hM; omega
  | succ k ih =>
    intro I x1 hm hz c1 h0 h1 hM
    refine u_X12_read_26 ⟨fun a => ?_, fun a => ?_⟩
    · have a := kl_le.mp a
      rw [(by decide : (10 : Int32).toInt = 10)] at a
      refine y_read29 hΦ 61 I 0 hm hz (fun j hj => c1 j (by omega)) (fun j hj => ?_) (by decide) (by decide) (by decide)
      rw [kl_0] at hj; omega
    have a := kl_nle a
    rw [(by decide : (10 : Int32).toInt = 10)] at a
    have s1 := ml_in1 (x := x1) (by omega)
    have nx := kl_nat h0
    refine ⟨kl_in h0 (by omega), fun I1 e1 => ⟨kl_in h0 (by omega), fun I2 e2 => ih I2 _ ?_ ?_ (fun j hj => ?_) (by omega) (by omega) (by omega)⟩⟩
    · rw [e2, e1]
      exact ml_we2 (ml_we2 hm rfl (n := 10) (q := (0, 1)) rfl (ml_boo 0)) rfl (n := 10) (q := (-1, 1440)) rfl (by decide)
    · exact ⟨by rw [e2, en_up_ne _ _ _ _ (by omega), e1, en_up_ne _ _ _ _ (by omega), hz.1], by rw [e2, en_up_ne _ _ _ _ (by omega), e1, en_up_ne _ _ _ _ (by omega), hz.2.1], fun p j p1 p2 => by rw [e2, en_up_ne _ _ _ _ (by omega), e1, en_up_ne _ _ _ _ (by omega), hz.2.2 p j p1 p2]⟩
    · by_cases cj : j = x1.toNatClampNeg
      · refine ⟨?_, ?_⟩
        · rw [cj, e2, en_up_ne _ _ _ _ (by omega), e1, en_up_eq]; rfl
        · rw [cj, e2, en_up_eq]
      · refine ⟨?_, ?_⟩
        · rw [e2, en_up_ne _ _ _ _ (by omega), e1, en_up_ne _ _ _ _ (by omega)]; exact (c1 j (by omega)).1
        · rw [e2, en_up_ne _ _ _ _ (by omega), e1, en_up_ne _ _ _ _ (by omega)]; exact (c1 j (by omega)).2
theorem y_read21 {s1 : Int32} (hls : ml_ls l s) (hT : ml_TI l s I) (b1 : -1 ≤ s1.toInt ∧ s1.toInt ≤ 2000) (hm : en_mem ml_tb mlX (xLay, I, L, R)) (hF : ¬ I 107 13 ≤ 0 → Φ (some (.int (I 107 13)), (xLay, sm_up I 107 17 s1, L, kM R))) (hW : I 107 13 ≤ 0 → ¬ I 107 15 ≤ 0 → Φ (some (.int (I 107 15)), (xLay, sm_up I 107 17 s1, L, kM R))) (hN : I 107 13 ≤ 0 → I 107 15 ≤ 0 → ∀ (J : sm_I) (L' : sm_L) (R' : sm_R), J 107 17 = s1 → J 107 18 = I 107 19 → (∀ p j, 118 ≤ p → p ≤ 136 → J p j = I p j) → hcM J → (I 107 15 = 0 → WB 1440 (fun i => (I 121 (36 * s + i)).toInt) → wmJ s J) → Φ (some (.int 0), (xLay, J, L', kM R'))) : sm_wp sm_P S (d + 1) 182 21 [.ref 107] [.int s1, .ref 107] (xLay, I, L, kM R) (0, 0) Φ := by
  obtain ⟨hl, hs⟩ := ml_l1 hls
  have m1 : en_mem ml_tb mlX (xLay, sm_up I 107 17 s1, L, R) := ml_wf hm (by decide +kernel) (q := (-1, 2000)) (by decide +kernel) b1
  have e13 : sm_up I 107 17 s1 107 13 = I 107 13 := en_up_ne _ _ _ _ (by omega)
  have e15 : sm_up I 107 17 s1 107 15 = I 107 15 := en_up_ne _ _ _ _ (by omega)
  have b15 : 0 ≤ (sm_up I 107 17 s1 107 15).toInt ∧ (sm_up I 107 17 s1 107 15).toInt ≤ 5 := m1.2.1 107 15 (0, 5) (by decide +kernel)
  refine u_X12_read_21 ?_
  rw [e13, e15]
  refine ⟨fun q13 => ⟨fun c => fun I1 e1 => ?_, fun c => hW q13 c⟩, fun q13 => hF q13⟩
  have c15 : I 107 15 = 0 := by
    have c := kl_le.mp c
    rw [kl_0] at c
    rw [e15] at b15
    exact en_ofI (by rw [kl_0]; omega)
  have e19 : sm_up I 107 17 s1 107 19 = I 107 19 := en_up_ne _ _ _ _ (by omega)
  rw [e19] at e1
  have o1 : ∀ p j, ¬ (p = 107 ∧ (j = 17 ∨ j = 18)) → I1 p j = I p j := fun p j hp => by rw [e1, en_up_ne _ _ _ _ (by omega), en_up_ne _ _ _ _ (by omega)]
  have g18 : I1 107 18 = I 107 19 := by rw [e1, en_up_eq]
  have mI : en_mem ml_tb mlX (xLay, I1, L, R) := by
    have X := hm.2.2.2.2
    have hX : mlX (xLay, I1, L, R) := by
      refine ⟨rfl, fun k hk => ?_, fun k hk => ?_, mlP_cg (fun j => o1 165 j (by omega)) X.2.2.2.1, mlN_cg (fun j => o1 116 j (by omega)) (fun j => o1 117 j (by omega)) X.2.2.2.2.1, X.2.2.2.2.2⟩
      · show (I1 148 k).toInt ≤ 54 ∨ 60 ≤ (I1 148 k).toInt
        rw [o1 148 k (by omega)]; exact X.2.1 k hk
      · have hk : (k : Int) = (I1 107 18).toInt := hk
        rw [g18, hT.2.1] at hk
        have hk : k = s := by omega
        subst hk
        exact mlV_cg (fun p hp j => o1 p j (by omega)) (hT.2.2.2 c15)
    rw [e1] at hX ⊢
    refine ml_wr m1 hX (fun q hq => ?_)
    have e : en_int ml_tb 107 18 = some (0, 1) := by decide +kernel
    rw [e] at hq
    rw [← Option.some.inj hq]
    show 0 ≤ (I 107 19).toInt ∧ (I 107 19).toInt ≤ 1
    have := hT.2.1
    omega
  have h1s : (I1 107 18).toInt = s := by rw [g18]; exact hT.2.1
  have cd : I 107 15 = 0 → WB 1440 (fun i => (I 121 (36 * s + i)).toInt) → cdM I1 := fun z w l' hl' => by
    have e : l' = s := by omega
    subst e
    refine ⟨hs, ?_, fun i hi hk => ?_⟩
    · have e : (fun i => (I1 121 (36 * l' + i)).toInt) = fun i => (I 121 (36 * l' + i)).toInt := funext (fun i => by rw [o1 121 _ (by omega)])
      rw [e]; exact w
    · rw [o1 122 _ (by omega)] at hi
      rw [o1 123 _ (by omega)] at hk
      have b5 : (I1 124 (10 * l' + i)).toInt ≤ 5 := by
        have tb := (ml_cs hs hm).2.2.1
        exact (ml_row mI (p := 124) (n := 20) (q := (-1, 5)) (fun _ => rfl) (10 * l' + i) (by omega)).2
      refine ⟨?_, b5⟩
      rw [o1 124 _ (by omega)]
      exact (hT.2.2.2 z).1 i hi (fun q => hk (en_ofI (by rw [q]; decide)))
  exact y_read26 (v := s1) (I0 := I1) (fun J L' R' q qh qw => hN q13 c J L' R' q.1 (by rw [q.2.1, g18]) (fun p j p1 p2 => by rw [q.2.2 p j p1 p2]; exact o1 p j (by omega)) qh (fun z w => qw (cd z w) s h1s)) 11 I1 0 mI ⟨by rw [e1, en_up_ne _ _ _ _ (by omega), en_up_eq], rfl, fun _ _ _ _ => rfl⟩ (fun j hj => by rw [kl_0] at hj; omega) (by decide) (by decide) (by decide)
theorem x_read13 {I0 : sm_I} (hT : TS K P V W N c) (hls : ml_ls l s) (hΦ : ∀ (r : Int32) (J : sm_I) (L' : sm_L) (R' : sm_R), RDx P R0 M0 r J → LVx l I0 r J → Φ (some (.int r), (xLay, J, L', kM R'))) : ∀ (f : Nat) (I : sm_I) (L : sm_L) (m : mo) (o : Option sg), ml_TI l s I → lvf l I0 I → en_mem ml_tb mlX (xLay, I, L, R) → PX K P V W N c R0 M0 m o I L → (m = none ∨ ∃ t g, m = some (t, 0, g) ∧ rG s g I ∧ (∀ a, o = some a → rL K V W s t a I L) ∧ 500 < t + f) → sm_wp sm_P S (d + 8) 182 13 [.ref 107] [] (xLay, I, L, kM R) (0, 0) Φ := by
  -- the grammar has failed
  have outF : ∀ (I : sm_I) (L : sm_L), ml_TI l s I → lvf l I0 I → en_mem ml_tb mlX (xLay, I, L, R) → PSm K P W N c R0 none I L → (((I 107 13) ≤ 0 → (((I 107 15) ≤ 0 → sm_wp sm_P S (d + 8) 182 21 [.ref 107] [.int (-1 : Int32), .ref 107] (xLay, I, L, (kM R)) (0, 0) Φ) ∧ (¬ (I 107 15) ≤ 0 → sm_wp sm_P S (d + 8) 182 21 [.ref 107] [.int (I 107 16), .ref 107] (xLay, I, L, (kM R)) (0, 0) Φ))) ∧ (¬ (I 107 13) ≤ 0 → sm_wp sm_P S (d + 8) 182 21 [.ref 107] [.int (I 107 14), .ref 107] (xLay, I, L, (kM R)) (0, 0) Φ)) := by
    intro I L hI hv hm hS
    have nz := PS_no hS
    have np : ¬ I 107 13 ≤ 0 := fun q => nz (PS_le0 hS q)
    have b14 : 0 ≤ (I 107 14).toInt ∧ (I 107 14).toInt ≤ 2000 := hm.2.1 107 14 (0, 2000) (by decide +kernel)
    obtain ⟨-, j, j1, j2⟩ := hS.2.2.2
    refine ⟨fun q => absurd q np, fun _ => y_read21 hls hI (by omega) hm (fun _ => hΦ _ _ L R ⟨fun f' j' q => ?_, fun q => ?_⟩ (lv_up hI hv)) (fun q => absurd q np) (fun q => absurd q np)⟩
    · rw [j1] at q
      have q := Option.some.inj q
      have q1 : I 107 13 = f' := congrArg Prod.fst q
      have q2 : j = j' := congrArg Prod.snd q
      exact ⟨q1, by rw [en_up_eq, ← q2]; exact j2⟩
    · rw [j1] at q; cases q
  -- the text's end
  have outE : ∀ (I : sm_I) (L : sm_L) (t : Nat) (g : gc) (o : Option sg), ml_TI l s I → lvf l I0 I → en_mem ml_tb mlX (xLay, I, L, R) → PX K P V W N c R0 M0 (some (t, 0, g)) o I L → (∀ a, o = some a → rL K V W s t a I L) → K t = 21 → (((I 107 13) ≤ 0 → (((I 107 15) ≤ 0 → sm_wp sm_P S (d + 8) 182 21 [.ref 107] [.int (-1 : Int32), .ref 107] (xLay, I, L, (kM R)) (0, 0) Φ) ∧ (¬ (I 107 15) ≤ 0 → sm_wp sm_P S (d + 8) 182 21 [.ref 107] [.int (I 107 16), .ref 107] (xLay, I, L, (kM R)) (0, 0) Φ))) ∧ (¬ (I 107 13) ≤ 0 → sm_wp sm_P S (d + 8) 182 21 [.ref 107] [.int (I 107 14), .ref 107] (xLay, I, L, (kM R)) (0, 0) Φ)) := by
    intro I L t g o hI hv hm hX hrl k21
    have z := PS_so hX.1
    have zl : I 107 13 ≤ 0 := by rw [z]; decide
    have t5 : t ≤ 500 := by have := hX.1.2.2.2.2.1; have := hX.1.2.2.1; omega
    have hs := SY_s t5 hX.1.2.2.2.2.2.2.1
    have ef : gf 0 (K t) t g = 0 := by
      rw [k21]; unfold gf
      rw [if_neg (fun q => q.elim (fun y => absurd y (by decide +kernel)) (fun y => absurd y.1 (by decide))), if_pos rfl]
    rw [ef, if_pos rfl, if_pos k21] at hs
    have b16 : 0 ≤ (I 107 16).toInt ∧ (I 107 16).toInt ≤ 2000 := hm.2.1 107 16 (0, 2000) (by decide +kernel)
    have pe : PEm K P V M0 (t, o.map (fun a => ((0 : Int32), a))) I := hX.2
    refine ⟨fun _ => ⟨fun w => ?_, fun w => ?_⟩, fun q => absurd zl q⟩
    · cases eo : o with
      | none =>
        rw [eo] at pe
        obtain ⟨p1, -⟩ := pe z
        have w := kl_le.mp w
        rw [kl_0] at w
        have p1 : 0 < (I 107 15).toInt := p1
        omega
      | some a =>
        rw [eo] at pe
        obtain ⟨p1, p2⟩ := pe z
        have p2 := ME_s t5 p2
        rw [if_pos k21] at p2
        refine y_read21 hls hI (by decide) hm (fun q => absurd zl q) (fun _ q => absurd w q) (fun _ _ J L' R' eJ e18 oJ oh ow => hΦ 0 J L' R' ⟨fun f' j' q => ?_, fun _ => ⟨fun f' j' q => ?_, fun _ => ⟨rfl, eJ, oh, s, (ml_l1 hls).2, by rw [e18]; exact hI.2.1, ?_, fun hw => ow ?_ ?_⟩⟩⟩ (fun q => absurd rfl q))
        · rw [← hs] at q; cases q
        · rw [← p2] at q; cases q
        · have w := hrl a eo
          rw [← p2]
          exact TD_cg oJ ⟨w.2.1, w.2.2.1, w.2.2.2.1, w.2.2.2.2.1, w.2.2.2.2.2.1, w.2.2.2.2.2.2.1⟩
        · have b15 : 0 ≤ (I 107 15).toInt ∧ (I 107 15).toInt ≤ 5 := hm.2.1 107 15 (0, 5) (by decide +kernel)
          have w := kl_le.mp w
          rw [kl_0] at w
          exact en_ofI (by rw [kl_0]; omega)
        · have rw_ := (hrl a eo).2.2.2.2.1
          rw [← p2] at hw
          refine ⟨fun i hi => ?_, fun x hx => ?_⟩
          · show -1 ≤ (I 121 (36 * s + i)).toInt ∧ (I 121 (36 * s + i)).toInt ≤ 1440
            rcases rw_ i hi with ⟨e1, e2⟩ | ⟨e1, e2⟩
            · rw [e1]; decide
            · rcases hw.2.2.2 i hi with c | c
              · rw [c] at e2
                rw [← e2] at e1
                exact absurd e1 (by decide)
              · rw [e2] at c
                omega
          · have z := hw.2.1 x hx
            rcases rw_ (7 * x) (by omega) with ⟨e1, e2⟩ | ⟨e1, e2⟩
            · rw [z] at e2
              exact absurd e2 (by decide)
            · show (I 121 (36 * s + 7 * x)).toInt = 0
              rw [← e2]
              exact (congrArg Int32.toInt z).trans (by decide)
    · cases eo : o with
      | none =>
        rw [eo] at pe
        obtain ⟨p1, j, p2, p3, p4⟩ := pe z
        refine y_read21 hls hI (by omega) hm (fun q => absurd zl q) (fun _ _ => hΦ _ _ L R ⟨fun f' j' q => ?_, fun _ => ⟨fun f' j' q => ?_, fun q => ?_⟩⟩ (lv_up hI hv)) (fun _ q => absurd q w)
        · rw [← hs] at q; cases q
        · rw [p3] at q
          have q := Option.some.inj q
          have q1 : I 107 15 = f' := congrArg Prod.fst q
          have q2 : j = j' := congrArg Prod.snd q
          exact ⟨q1, by rw [en_up_eq, ← q2]; exact p4⟩
        · rw [p3] at q; cases q
      | some a =>
        rw [eo] at pe
        obtain ⟨p1, -⟩ := pe z
        exact absurd (show I 107 15 ≤ 0 by rw [show I 107 15 = 0 from p1]; decide) w
  intro f
  induction f with
  | zero =>
    intro I L m o hI hv hm hX hq
    rcases hq with hq | ⟨t, g, em, h1, h2, h3⟩
    · subst hq
      exact u_X12_read_13 ⟨fun q => absurd q (PS_no hX.1), fun _ => outF I L hI hv hm hX.1⟩
    · exfalso
      have hS := hX.1
      rw [em] at hS
      have := hS.2.2.1
      have : (I 107 11).toInt = t := hS.2.2.2.2.1
      omega
  | succ f ih =>
    intro I L m o hI hv hm hX hq
    rcases hq with hq | ⟨t, g, em, h1, h2, h3⟩
    · subst hq
      exact u_X12_read_13 ⟨fun q => absurd q (PS_no hX.1), fun _ => outF I L hI hv hm hX.1⟩
    · subst em
      have z := PS_so hX.1
      refine u_X12_read_13 ⟨fun _ => x_is (i := 21) hT (by decide) rfl hX.1 (fun r _ hr => ⟨r, I, L, R, rfl, fun r0 => ?_, fun r1 => ?_⟩), fun q => absurd z q⟩
      · have n21 : K t ≠ 21 := fun q => absurd r0 (hr.mpr ⟨t, 0, g, rfl, q⟩)
        have A : sm_wp sm_P S (d + 7) 195 0 [.ref 107] [] (xLay, I, L, kM R) (0, 0) (fun z => ∃ (J : sm_I) (L' : sm_L), z = (none, (xLay, J, L', kM R)) ∧ ml_ok l s R I J L') := mx_tell hls hm hI (fun J L' q => ⟨J, L', rfl, q⟩)
        have B : sm_wp sm_P S (d + 7) 195 0 [.ref 107] [] (xLay, I, L, kM R) (0, 0) (fun z => ∃ (J : sm_I) (L' : sm_L), z = (none, (xLay, J, L', kM R)) ∧ TP K P V W N c R0 M0 s t J L') := x_tell hT hls hm hI hX h1 h2 n21 (fun J L' q => ⟨J, L', rfl, q⟩)
        refine sm_wp_mono (sm_wp_and A B) (fun zz hz => ?_)
        obtain ⟨⟨J, L', ez, mJ, pJ, TJ, -⟩, J2, L2, ez2, tp⟩ := hz
        have e1 := ez.symm.trans ez2
        have eJ : J = J2 := congrArg (fun q : sm_Z => q.2.2.1) e1
        have eL : L' = L2 := congrArg (fun q : sm_Z => q.2.2.2.1) e1
        subst eJ
        subst eL
        obtain ⟨m', o', XJ, rel⟩ := tp
        refine ⟨J, L', R, ez, ih J L' m' o' TJ (lv_D hv pJ) mJ XJ ?_⟩
        rcases rel with rel | ⟨t', g', em', w1, w2, w3⟩
        · exact Or.inl rel
        · exact Or.inr ⟨t', g', em', w2, w3, by omega⟩
      · obtain ⟨t', s', g', em', k21⟩ := hr.mp r1
        have e1 := (mo_i em').1
        subst e1
        exact outE I L t g o hI hv hm hX h2 k21
end
end
section
/-! the reference's read, exact, from its start -/
theorem nar_b : ∀ i : Fin 256, vp_nar .byte (Int32.ofInt ((i.val : Int) - 128)) = Int32.ofInt ((i.val : Int) - 128) := by decide +kernel
theorem nar_e {x : Int32} (h0 : -128 ≤ x.toInt) (h1 : x.toInt ≤ 127) : vp_nar .byte x = x := by
  have e : x = Int32.ofInt (((⟨(x.toInt + 128).toNat, by omega⟩ : Fin 256).val : Int) - 128) := by
    show x = Int32.ofInt (((x.toInt + 128).toNat : Int) - 128)
    rw [show (((x.toInt + 128).toNat : Int) - 128) = x.toInt by omega]
    exact (Int32.ofInt_toInt x).symm
  rw [e]; exact nar_b _
theorem w7 : ∀ i : Nat, i < 36 → ((Int32.ofNat i - Int32.ofNat i / 7 * 7 = 0) ↔ i % 7 = 0) := by decide +kernel
theorem ME_cg {K K' : Nat → Int32} {V V' : Nat → Int64} (hK : ∀ i, K i = K' i) (hV : ∀ i, K i ≠ 21 → V i = V' i) : ∀ (m t : Nat) (s : Int32) (a : sg), ME K V m t s a = ME K' V' m t s a := by
  intro m
  induction m with
  | zero => intro t s a; rfl
  | succ m ih =>
    intro t s a
    show (if K t = 21 then (none, a) else if (ms s (K t) (V t) a).1 = 0 then ME K V m (t + 1) (fw s (K t)) (ms s (K t) (V t) a).2 else (some ((ms s (K t) (V t) a).1, t), a)) = (if K' t = 21 then (none, a) else if (ms s (K' t) (V' t) a).1 = 0 then ME K' V' m (t + 1) (fw s (K' t)) (ms s (K' t) (V' t) a).2 else (some ((ms s (K' t) (V' t) a).1, t), a))
    rw [← hK t]
    by_cases c : K t = 21
    · rw [if_pos c, if_pos c]
    · rw [if_neg c, if_neg c, hV t c, ih]
/-- the pure machine before the first TOKEN -/
def ini (a : sg) : Prop := a.1 2 5 = 0 ∧ (∀ j, j < 5 → a.1 12 j = 0) ∧ a.1 12 6 = 0 ∧ (∀ i, i < 10 → a.1 14 i = -1 ∧ a.1 15 i = -1 ∧ a.1 18 i = -1 ∧ a.1 21 i = 1) ∧ (∀ i, i < 40 → a.1 23 i = 0) ∧ ∀ i, i < 36 → a.1 13 i = if i % 7 = 0 then 0 else -2
section
variable {S : sm_C} {d : Nat} {Φ : sm_Z → Prop} {I : sm_I} {L : sm_L} {R : sm_R} {l s : Nat}
theorem rL_0 {K : Nat → Int32} {V W : Nat → Int64} {a : sg} (hs : s ≤ 1) (ha : ini a) (h20 : I 107 20 = 0) (hz : ∀ p, p = 118 ∨ p = 119 ∨ p = 120 ∨ p = 122 ∨ p = 125 ∨ p = 134 ∨ p = 136 → I p s = 0) (h121 : ∀ i, i < 36 → I 121 (36 * s + i) = if i % 7 = 0 then 0 else -1) (h135 : ∀ i, i < 10 → I 135 (10 * s + i) = -1) : rL K V W s 0 a I L := by
  obtain ⟨a1, a2, a3, a4, a5, a6⟩ := ha
  have c0 : cntm I = 0 := by unfold cntm; rw [h20]; decide
  refine ⟨⟨by rw [a1, h20], ?_⟩, ?_, fun i hi => ?_, ⟨fun i hi => Or.inl ⟨h135 i hi, (a4 i hi).2.2.1⟩, fun k hk => ?_⟩, fun i hi => ?_, ⟨fun i hi => ⟨fun q => ?_, fun _ => ⟨(a4 i hi).2.2.2, fun q hq => a5 _ (by omega)⟩⟩, ?_⟩, fun q hq hq2 => ?_, fun i hi => ?_⟩
  · rw [c0]; exact ⟨fun _ => 0, fun i hi => absurd hi (Nat.not_lt_zero i)⟩
  · exact ⟨by rw [a2 0 (by decide), hz 118 (by omega)], by rw [a2 1 (by decide), hz 119 (by omega)], by rw [a2 2 (by decide), hz 122 (by omega)], by rw [a2 3 (by decide), hz 125 (by omega)], by rw [a2 4 (by decide), hz 136 (by omega)]⟩
  · rw [hz 122 (by omega), kl_0]
    exact ⟨fun q => by omega, fun _ => ⟨(a4 i hi).1, (a4 i hi).2.1⟩⟩
  · rw [hz 134 (by omega), kl_0] at hk; omega
  · rw [h121 i hi, a6 i hi]
    by_cases c : i % 7 = 0
    · rw [if_pos c, if_pos c]; exact Or.inr ⟨by decide, rfl⟩
    · rw [if_neg c, if_neg c]; exact Or.inl ⟨rfl, rfl⟩
  · rw [hz 125 (by omega), kl_0] at q; omega
  · rw [a3, hz 125 (by omega)]; rfl
  · rw [hz 136 (by omega), kl_0] at hq2; omega
  · rw [c0] at hi; exact absurd hi (Nat.not_lt_zero i)
variable {K : Nat → Int32} {P : Nat → Nat} {V W : Nat → Int64} {N : Nat → Int32} {c : Nat} {a0 : sg}
theorem y_read11 {I0 : sm_I} (hT : TS K P V W N c) (hls : ml_ls l s) (ha : ini a0) (hΦ : ∀ (r : Int32) (J : sm_I) (L' : sm_L) (R' : sm_R), RDx P (SY K 501 0 0 gc0) (ME K V 501 0 0 a0) r J → LVx l I0 r J → Φ (some (.int r), (xLay, J, L', kM R'))) : ∀ (k : Nat) (I : sm_I) (x1 : Int32) (i : Nat), x1.toInt = i → i + k = 10 → ml_TI l s I → lvf l I0 I → en_mem ml_tb mlX (xLay, I, L, R) → tx K P W N c I L → I 107 11 = 0 → I 107 13 = 0 → I 107 15 = 0 → I 107 20 = 0 → (∀ p, p = 118 ∨ p = 119 ∨ p = 120 ∨ p = 122 ∨ p = 125 ∨ p = 134 ∨ p = 136 → I p s = 0) → (∀ j, j < 36 → I 121 (36 * s + j) = if j % 7 = 0 then 0 else -1) → (∀ j, j < i → I 135 (10 * s + j) = -1) → sm_wp sm_P S (d + 8) 182 11 [.ref 107, .int x1] [] (xLay, I, L, kM R) (0, 0) Φ := by
  obtain ⟨hl, hs⟩ := ml_l1 hls
  have c10 : (10 : Int32).toInt = 10 := by decide
  intro k
  induction k with
  | zero =>
    intro I x1 i hx hk hI hv hm ht z11 z13 z15 z20 hz h121 h135
    refine u_X12_read_11 ⟨fun _ => ?_, fun q => ?_⟩
    · refine x_read13 hT hls hΦ 501 I L (some (0, 0, gc0)) (some a0) hI hv hm ⟨⟨ht, by rw [z11]; decide, by rw [z11]; decide, z13, by rw [z11]; rfl, Nat.zero_le _, rfl, fun q => absurd rfl q⟩, fun _ => ⟨z15, rfl⟩⟩ (Or.inr ⟨0, gc0, rfl, ?_, fun a ea => ?_, by omega⟩)
      · refine ⟨?_, ?_, ?_, ?_, ?_, ?_, ?_⟩
        · rw [hz 118 (by omega)]; rfl
        · rw [hz 119 (by omega)]; rfl
        · rw [hz 120 (by omega)]; rfl
        · rw [hz 122 (by omega)]; rfl
        · rw [hz 125 (by omega)]; rfl
        · rw [hz 134 (by omega)]; rfl
        · rw [hz 136 (by omega)]; rfl
      · have e := Option.some.inj ea
        subst e
        exact rL_0 hs ha z20 hz h121 (fun j hj => h135 j (by omega))
    · have := kl_nle q
      omega
  | succ k ih =>
    intro I x1 i hx hk hI hv hm ht z11 z13 z15 z20 hz h121 h135
    have s1 := ml_in1 (x := x1) (by omega)
    refine u_X12_read_11 ⟨fun q => ?_, fun _ n1 e1 => ?_⟩
    · have := kl_le.mp q
      omega
    · have q1 : ((10 : Int32) * (I 107 19)).toInt = 10 * (s : Int) := ml_mu (by decide) hI.2.1 (by omega) (by omega)
      have q2 : n1.toInt = ((10 * s + i : Nat) : Int) := by rw [e1, ml_ad q1 rfl (by omega) (by omega)]; omega
      have n1n := tk_nat q2
      refine ⟨kl_in (by omega) (by omega), fun I2 e2 => ?_⟩
      have w := ml_w0 (L := L) (R := R) (l := l) (p := 135) (j := n1.toNatClampNeg) (x := -1) (n := 20) (q := (-1, 247)) hl hI.1 (by unfold ml_D0 ml_hm; unfold ml_ls at hls; omega) hm rfl (by decide)
      rw [← e2] at w
      have o2 : ∀ p j, p ≠ 135 → I2 p j = I p j := fun p j hp => by rw [e2, en_up_ne _ _ _ _ (by omega)]
      refine ih I2 _ (i + 1) (by omega) (by omega) (ml_TI_0 hls hm w.2 hI) (fun p j h => by rw [e2, en_up_ne _ _ _ _ (by unfold ml_hl ml_hm at h; unfold ml_ls at hls; omega)]; exact hv p j h) w.1 (tx_fr ht (fun p j _ _ => o2 p j (by omega))) (by rw [o2 _ _ (by decide)]; exact z11) (by rw [o2 _ _ (by decide)]; exact z13) (by rw [o2 _ _ (by decide)]; exact z15) (by rw [o2 _ _ (by decide)]; exact z20) (fun p hp => by rw [o2 p s (by omega)]; exact hz p hp) (fun j hj => by rw [o2 _ _ (by decide)]; exact h121 j hj) (fun j hj => ?_)
      by_cases cj : j = i
      · rw [cj, e2, n1n, en_up_eq]
      · rw [e2, n1n, en_up_ne _ _ _ _ (by omega)]; exact h135 j (by omega)
theorem y_read5 {I0 : sm_I} (hT : TS K P V W N c) (hls : ml_ls l s) (ha : ini a0) (hΦ : ∀ (r : Int32) (J : sm_I) (L' : sm_L) (R' : sm_R), RDx P (SY K 501 0 0 gc0) (ME K V 501 0 0 a0) r J → LVx l I0 r J → Φ (some (.int r), (xLay, J, L', kM R'))) : ∀ (k : Nat) (I : sm_I) (x1 : Int32) (i : Nat), x1.toInt = i → i + k = 36 → ml_TI l s I → lvf l I0 I → en_mem ml_tb mlX (xLay, I, L, R) → tx K P W N c I L → I 107 11 = 0 → I 107 13 = 0 → I 107 15 = 0 → I 107 20 = 0 → (∀ p, p = 118 ∨ p = 119 ∨ p = 120 ∨ p = 122 ∨ p = 125 ∨ p = 134 ∨ p = 136 → I p s = 0) → (∀ j, j < i → I 121 (36 * s + j) = if j % 7 = 0 then 0 else -1) → sm_wp sm_P S (d + 8) 182 5 [.ref 107, .int x1] [] (xLay, I, L, kM R) (0, 0) Φ := by
  obtain ⟨hl, hs⟩ := ml_l1 hls
  have c36 : (36 : Int32).toInt = 36 := by decide
  intro k
  induction k with
  | zero =>
    intro I x1 i hx hk hI hv hm ht z11 z13 z15 z20 hz h121
    refine u_X12_read_5 ⟨fun _ => y_read11 hT hls ha hΦ 10 I 0 0 (by decide) (by decide) hI hv hm ht z11 z13 z15 z20 hz (fun j hj => h121 j (by omega)) (fun j hj => absurd hj (Nat.not_lt_zero j)), fun q => ?_⟩
    have := kl_nle q
    omega
  | succ k ih =>
    intro I x1 i hx hk hI hv hm ht z11 z13 z15 z20 hz h121
    have s1 := ml_in1 (x := x1) (by omega)
    have ex : x1 = Int32.ofNat i := en_ofI (by rw [hx, Int32.toInt_ofNat_of_lt (by omega)])
    have w : ∀ v : Int32, v = (if i % 7 = 0 then 0 else -1) → ∀ n3 : Int32, n3 = (((36 : Int32) * (I 107 19)) + x1) → (vp_in n3 72) ∧ ∀ I4 : sm_I, I4 = (sm_up I 121 n3.toNatClampNeg v) → sm_wp sm_P S (d + 8) 182 5 [.ref 107, .int (x1 + (1 : Int32))] [] (xLay, I4, L, (kM R)) (0, 0) Φ := by
      intro v ev n3 e3
      have q1 : ((36 : Int32) * (I 107 19)).toInt = 36 * (s : Int) := ml_mu (by decide) hI.2.1 (by omega) (by omega)
      have q2 : n3.toInt = ((36 * s + i : Nat) : Int) := by rw [e3, ml_ad q1 rfl (by omega) (by omega)]; omega
      have n3n := tk_nat q2
      refine ⟨kl_in (by omega) (by omega), fun I2 e2 => ?_⟩
      have w := ml_w0 (L := L) (R := R) (l := l) (p := 121) (j := n3.toNatClampNeg) (x := v) (n := 72) (q := (-2147483648, 2147483647)) hl hI.1 (by unfold ml_D0 ml_hm; unfold ml_ls at hls; omega) hm rfl en_crange
      rw [← e2] at w
      have o2 : ∀ p j, p ≠ 121 → I2 p j = I p j := fun p j hp => by rw [e2, en_up_ne _ _ _ _ (by omega)]
      refine ih I2 _ (i + 1) (by omega) (by omega) (ml_TI_0 hls hm w.2 hI) (fun p j h => by rw [e2, en_up_ne _ _ _ _ (by unfold ml_hl ml_hm at h; unfold ml_ls at hls; omega)]; exact hv p j h) w.1 (tx_fr ht (fun p j _ _ => o2 p j (by omega))) (by rw [o2 _ _ (by decide)]; exact z11) (by rw [o2 _ _ (by decide)]; exact z13) (by rw [o2 _ _ (by decide)]; exact z15) (by rw [o2 _ _ (by decide)]; exact z20) (fun p hp => by rw [o2 p s (by omega)]; exact hz p hp) (fun j hj => ?_)
      by_cases cj : j = i
      · rw [cj, e2, n3n, en_up_eq]; exact ev
      · rw [e2, n3n, en_up_ne _ _ _ _ (by omega)]; exact h121 j (by omega)
    refine u_X12_read_5 ⟨fun q => ?_, fun _ => ⟨by decide, fun q => w 0 ?_, fun q => w (-1) ?_⟩⟩
    · have := kl_le.mp q
      omega
    · rw [ex, w7 i (by omega)] at q
      rw [if_pos q]
    · rw [ex, w7 i (by omega)] at q
      rw [if_neg q]
/-- the text is taken off the tape -/
theorem y_read1 {I0 : sm_I} {l0 : Nat} {b : Nat → Int32} {n : Nat} (n2 : n ≤ 2000) (ha : ini a0) (hΦ : ∀ (r : Int32) (J : sm_I) (L' : sm_L) (R' : sm_R), RDx (tk_at b n) (SY (tk_K b n) 501 0 0 gc0) (ME (tk_K b n) (fun i => tk_vl b n (tk_at b n i)) 501 0 0 a0) r J → LVx l0 I0 r J → Φ (some (.int r), (xLay, J, L', kM R'))) : ∀ (k : Nat) (I : sm_I) (x1 : Int32) (i : Nat), x1.toInt = i → i + k = n → en_mem ml_tb mlX (xLay, I, L, R) → (I 107 18).toInt = l0 → lvf l0 I0 I → (I 107 4).toInt = n → (∀ j, j < n → I 108 j = b j) → (∀ j, j < i → I 109 j = b j) → sm_wp sm_P S (d + 8) 182 1 [.ref 107, .int x1] [] (xLay, I, L, kM R) (0, 0) Φ := by
  intro k
  induction k with
  | zero =>
    intro I x1 i hx hk hm h18 hv h4 h108 h109
    have m0 : en_mem ml_tb mlX (xLay, sm_up I 107 2 0, L, R) := ml_wf hm (by decide +kernel) (q := (0, 2000)) (by decide +kernel) (by decide)
    have pk : pk_ok L := hm.2.2.2.2.2.2.2.2.2
    have e109 : ∀ j, sm_up I 107 2 0 109 j = I 109 j := fun j => en_up_ne _ _ _ _ (by omega)
    have e4 : (sm_up I 107 2 0 107 4).toInt = n := by rw [en_up_ne _ _ _ _ (by omega)]; exact h4
    have hB : mt_B (sm_up I 107 2 0 109) := fun j hj => by
      rw [e109]
      exact ml_row hm (p := 109) (n := 2000) (q := (-128, 127)) (fun _ => rfl) j hj
    have hbb : ∀ j, j < n → sm_up I 107 2 0 109 j = b j := fun j hj => by rw [e109]; exact h109 j (by omega)
    have A : sm_wp sm_P S (d + 7) 119 0 [.ref 107] [] (xLay, sm_up I 107 2 0, L, kM R) (0, 0) (fun z => ∃ (J : sm_I) (L' : sm_L), z = (none, (xLay, J, L', kM R)) ∧ en_mem ml_tb mlX (xLay, J, L', R)) := mx_cut m0 (fun J L' mJ _ => ⟨J, L', rfl, mJ⟩)
    have B : sm_wp sm_P S (d + 7) 119 0 [.ref 107] [] (xLay, sm_up I 107 2 0, L, kM R) (0, 0) (fun z => ∃ (J : sm_I) (L' : sm_L), z = (none, (xLay, J, L', kM R)) ∧ ∃ c, c ≤ 501 ∧ mt_rows (sm_up I 107 2 0 109) n c J L' ∧ mt_fin (sm_up I 107 2 0 109) n c J ∧ ∀ p j, (p = 107 ∧ j = 18) ∨ (118 ≤ p ∧ p ≤ 136) ∨ 137 ≤ p ∨ (p = 107 ∧ 46 ≤ j) → J p j = sm_up I 107 2 0 p j) := mt_cut pk hB e4 n2 (fun c J K c5 hr hf fr => ⟨J, K, rfl, c, c5, hr, hf, fun p j q => fr.1 p j (by omega) (by omega) (by omega) (by omega)⟩)
    refine u_X12_read_1 ⟨fun _ => sm_wp_mono (sm_wp_and A B) (fun zz hz => ?_), fun q => ?_⟩
    · obtain ⟨⟨I1, L1, ez, m1⟩, J2, L2, ez2, c, c5, hr, hf, fc⟩ := hz
      have e1 := ez.symm.trans ez2
      have eJ : I1 = J2 := congrArg (fun q : sm_Z => q.2.2.1) e1
      have eL : L1 = L2 := congrArg (fun q : sm_Z => q.2.2.2.1) e1
      subst eJ
      subst eL
      refine ⟨I1, L1, R, ez, fun I5 e5 I6 e6 I7 e7 I8 e8 I9 e9 => ?_⟩
      -- the stream
      obtain ⟨b', eb'⟩ : ∃ b', b' = sm_up I 107 2 0 109 := ⟨_, rfl⟩
      rw [← eb'] at hr hf hbb
      have hat : ∀ i, i < c → tk_at b' n i < n := fun i hi => (hr i hi).1
      have hend : c ≤ 500 → tk_at b' n c = n := fun q => by
        rcases hf with f | f
        · omega
        · exact f.2.2.1
      have hT := TS_of c5 hat hend
      have hK := mt_K hr hf
      have tx1 : tx (tk_K b' n) (tk_at b' n) (fun i => mt_nm b' n (tk_at b' n i)) (fun i => mt_vl b' n (tk_at b' n i)) c I1 L1 := ⟨fun i hi h5 => hK i hi h5, fun i hi h5 => ⟨(hr i hi).2.2.2.1, (hr i hi).2.2.2.2⟩⟩
      have eK : tk_K b' n = tk_K b n := funext (tk_K_cg hbb)
      have eP : tk_at b' n = tk_at b n := funext (tk_at_cg hbb)
      have eM : ME (tk_K b' n) (fun i => tk_vl b' n (tk_at b' n i)) 501 0 0 a0 = ME (tk_K b n) (fun i => tk_vl b n (tk_at b n i)) 501 0 0 a0 := ME_cg (tk_K_cg hbb) (fun i q => by
        have lt : tk_at b' n i < n := by
          rcases Nat.lt_or_ge (tk_at b' n i) n with y | y
          · exact y
          · exact absurd (tk_K_21.mpr y) q
        show tk_vl b' n (tk_at b' n i) = tk_vl b n (tk_at b n i)
        rw [← tk_at_cg hbb, tk_vl_cg hbb lt]) 501 0 0 a0
      rw [← eM, ← eK, ← eP] at hΦ
      clear eM eK eP A B
      -- from here on as the contract has it
      have m5 : en_mem ml_tb mlX (xLay, I5, L1, R) := by rw [e5]; exact ml_wf m1 (by decide +kernel) (q := (0, 500)) (by decide +kernel) (by decide)
      have m6 : en_mem ml_tb mlX (xLay, I6, L1, R) := by rw [e6]; exact ml_wf m5 (by decide +kernel) (q := (0, 5)) (by decide +kernel) (by decide)
      have m7 : en_mem ml_tb mlX (xLay, I7, L1, R) := by rw [e7]; exact ml_wf m6 (by decide +kernel) (q := (0, 5)) (by decide +kernel) (by decide)
      obtain ⟨b0, l1, ln, lc⟩ := ml_live m7
      have b0 : 0 ≤ (I7 107 18).toInt := b0
      have l1 : (I7 107 18).toInt ≤ 1 := l1
      have s19 : ((1 : Int32) - I7 107 18).toInt = 1 - (I7 107 18).toInt := by
        rw [Int32.toInt_sub, kl_1]; exact en_bmod (by omega) (by omega) (Or.inl rfl)
      have m8 : en_mem ml_tb mlX (xLay, I8, L1, R) := by rw [e8]; exact ml_wf m7 (by decide +kernel) (q := (0, 1)) (by decide +kernel) (by show 0 ≤ _ ∧ _ ≤ (1 : Int); omega)
      have m9 : en_mem ml_tb mlX (xLay, I9, L1, R) := by rw [e9]; exact ml_wf m8 (by decide +kernel) (q := (0, 50)) (by decide +kernel) (by decide)
      have f9 : en_fr ml_RW (xLay, I9, L1, R) (xLay, I9, L1, R) := en_fr_rf
      have g19 : (I9 107 19).toInt = 1 - (I7 107 18).toInt := by rw [e9, en_up_ne _ _ _ _ (by omega), e8, en_up_eq]; exact s19
      have g18 : (I9 107 18).toInt = (I7 107 18).toInt := by rw [e9, en_up_ne _ _ _ _ (by omega), e8, en_up_ne _ _ _ _ (by omega)]
      have y11 : I9 107 11 = 0 := by rw [e9, en_up_ne _ _ _ _ (by omega), e8, en_up_ne _ _ _ _ (by omega), e7, en_up_ne _ _ _ _ (by omega), e6, en_up_ne _ _ _ _ (by omega), e5, en_up_eq]
      have y13 : I9 107 13 = 0 := by rw [e9, en_up_ne _ _ _ _ (by omega), e8, en_up_ne _ _ _ _ (by omega), e7, en_up_ne _ _ _ _ (by omega), e6, en_up_eq]
      have y15 : I9 107 15 = 0 := by rw [e9, en_up_ne _ _ _ _ (by omega), e8, en_up_ne _ _ _ _ (by omega), e7, en_up_eq]
      have n20 : I9 107 20 = 0 := by rw [e9, en_up_eq]
      have tx9 := tx_fr tx1 (J := I9) (fun p j _ _ => by rw [e9, en_up_ne _ _ _ _ (by omega), e8, en_up_ne _ _ _ _ (by omega), e7, en_up_ne _ _ _ _ (by omega), e6, en_up_ne _ _ _ _ (by omega), e5, en_up_ne _ _ _ _ (by omega)])
      obtain ⟨l, s, hls, hl, hs⟩ : ∃ l s : Nat, ml_ls l s ∧ (I9 107 18).toInt = l ∧ (I9 107 19).toInt = s := by
        rcases (by omega : (I7 107 18).toInt = 0 ∨ (I7 107 18).toInt = 1) with c | c
        · exact ⟨0, 1, Or.inl ⟨rfl, rfl⟩, by rw [g18, c]; rfl, by rw [g19, c]; rfl⟩
        · exact ⟨1, 0, Or.inr ⟨rfl, rfl⟩, by rw [g18, c]; rfl, by rw [g19, c]; rfl⟩
      have ns := kl_nat (i := I9 107 19) (by omega)
      have sn : (I9 107 19).toNatClampNeg = s := by omega
      have sv : vp_in (I9 107 19) 2 := kl_in (by omega) (by omega)
      have o9 : ∀ p j, (p = 107 ∧ j = 18) ∨ (118 ≤ p ∧ p ≤ 136) ∨ 137 ≤ p ∨ (p = 107 ∧ 46 ≤ j) → I9 p j = I p j := fun p j q => by
        rw [e9, en_up_ne _ _ _ _ (by omega), e8, en_up_ne _ _ _ _ (by omega), e7, en_up_ne _ _ _ _ (by omega), e6, en_up_ne _ _ _ _ (by omega), e5, en_up_ne _ _ _ _ (by omega), fc p j q, en_up_ne _ _ _ _ (by omega)]
      have el : l0 = l := by
        have := o9 107 18 (Or.inl ⟨rfl, rfl⟩)
        rw [this] at hl
        omega
      subst el
      clear s19 g18 g19 b0 l1 ln lc m5 m6 m7 m8 e5 e6 e7 e8 e9
      have st : ∀ (J : sm_I), (∀ p j, ¬ ((p = 118 ∨ p = 119 ∨ p = 120 ∨ p = 122 ∨ p = 125 ∨ p = 134 ∨ p = 136) ∧ j = s) → J p j = I9 p j) → J 107 19 = I9 107 19 ∧ (J 107 18).toInt = l0 := fun J o => ⟨o 107 19 (by omega), by rw [o 107 18 (by omega)]; exact hl⟩
      refine ⟨sv, fun I10 e10 => ?_⟩
      rw [sn] at e10
      have o10 : ∀ p j, ¬ ((p = 118 ∨ p = 119 ∨ p = 120 ∨ p = 122 ∨ p = 125 ∨ p = 134 ∨ p = 136) ∧ j = s) → I10 p j = I9 p j := fun p j hp => by rw [e10, en_up_ne _ _ _ _ (by omega)]
      have k10 := ml_z0 (p := 118) hls hl (by omega) m9 f9
      rw [← e10] at k10
      rw [(st I10 o10).1]
      refine ⟨sv, fun I11 e11 => ?_⟩
      rw [sn] at e11
      have o11 : ∀ p j, ¬ ((p = 118 ∨ p = 119 ∨ p = 120 ∨ p = 122 ∨ p = 125 ∨ p = 134 ∨ p = 136) ∧ j = s) → I11 p j = I9 p j := fun p j hp => by rw [e11, en_up_ne _ _ _ _ (by omega), o10 p j hp]
      have k11 := ml_z0 (p := 119) hls (st I10 o10).2 (by omega) k10.1 k10.2
      rw [← e11] at k11
      rw [(st I11 o11).1]
      refine ⟨sv, fun I12 e12 => ?_⟩
      rw [sn] at e12
      have o12 : ∀ p j, ¬ ((p = 118 ∨ p = 119 ∨ p = 120 ∨ p = 122 ∨ p = 125 ∨ p = 134 ∨ p = 136) ∧ j = s) → I12 p j = I9 p j := fun p j hp => by rw [e12, en_up_ne _ _ _ _ (by omega), o11 p j hp]
      have k12 := ml_z0 (p := 120) hls (st I11 o11).2 (by omega) k11.1 k11.2
      rw [← e12] at k12
      rw [(st I12 o12).1]
      refine ⟨sv, fun I13 e13 => ?_⟩
      rw [sn] at e13
      have o13 : ∀ p j, ¬ ((p = 118 ∨ p = 119 ∨ p = 120 ∨ p = 122 ∨ p = 125 ∨ p = 134 ∨ p = 136) ∧ j = s) → I13 p j = I9 p j := fun p j hp => by rw [e13, en_up_ne _ _ _ _ (by omega), o12 p j hp]
      have k13 := ml_z0 (p := 122) hls (st I12 o12).2 (by omega) k12.1 k12.2
      rw [← e13] at k13
      rw [(st I13 o13).1]
      refine ⟨sv, fun I14 e14 => ?_⟩
      rw [sn] at e14
      have o14 : ∀ p j, ¬ ((p = 118 ∨ p = 119 ∨ p = 120 ∨ p = 122 ∨ p = 125 ∨ p = 134 ∨ p = 136) ∧ j = s) → I14 p j = I9 p j := fun p j hp => by rw [e14, en_up_ne _ _ _ _ (by omega), o13 p j hp]
      have k14 := ml_z0 (p := 125) hls (st I13 o13).2 (by omega) k13.1 k13.2
      rw [← e14] at k14
      rw [(st I14 o14).1]
      refine ⟨sv, fun I15 e15 => ?_⟩
      rw [sn] at e15
      have o15 : ∀ p j, ¬ ((p = 118 ∨ p = 119 ∨ p = 120 ∨ p = 122 ∨ p = 125 ∨ p = 134 ∨ p = 136) ∧ j = s) → I15 p j = I9 p j := fun p j hp => by rw [e15, en_up_ne _ _ _ _ (by omega), o14 p j hp]
      have k15 := ml_z0 (p := 134) hls (st I14 o14).2 (by omega) k14.1 k14.2
      rw [← e15] at k15
      rw [(st I15 o15).1]
      refine ⟨sv, fun I16 e16 => ?_⟩
      rw [sn] at e16
      have o16 : ∀ p j, ¬ ((p = 118 ∨ p = 119 ∨ p = 120 ∨ p = 122 ∨ p = 125 ∨ p = 134 ∨ p = 136) ∧ j = s) → I16 p j = I9 p j := fun p j hp => by rw [e16, en_up_ne _ _ _ _ (by omega), o15 p j hp]
      have k16 := ml_z0 (p := 136) hls (st I15 o15).2 (by omega) k15.1 k15.2
      rw [← e16] at k16
      have zz : ∀ p, p = 118 ∨ p = 119 ∨ p = 120 ∨ p = 122 ∨ p = 125 ∨ p = 134 ∨ p = 136 → I16 p s = 0 := fun p hp => by
        rcases hp with rfl | rfl | rfl | rfl | rfl | rfl | rfl
        · rw [e16, en_up_ne _ _ _ _ (by omega), e15, en_up_ne _ _ _ _ (by omega), e14, en_up_ne _ _ _ _ (by omega), e13, en_up_ne _ _ _ _ (by omega), e12, en_up_ne _ _ _ _ (by omega), e11, en_up_ne _ _ _ _ (by omega), e10, en_up_eq]
        · rw [e16, en_up_ne _ _ _ _ (by omega), e15, en_up_ne _ _ _ _ (by omega), e14, en_up_ne _ _ _ _ (by omega), e13, en_up_ne _ _ _ _ (by omega), e12, en_up_ne _ _ _ _ (by omega), e11, en_up_eq]
        · rw [e16, en_up_ne _ _ _ _ (by omega), e15, en_up_ne _ _ _ _ (by omega), e14, en_up_ne _ _ _ _ (by omega), e13, en_up_ne _ _ _ _ (by omega), e12, en_up_eq]
        · rw [e16, en_up_ne _ _ _ _ (by omega), e15, en_up_ne _ _ _ _ (by omega), e14, en_up_ne _ _ _ _ (by omega), e13, en_up_eq]
        · rw [e16, en_up_ne _ _ _ _ (by omega), e15, en_up_ne _ _ _ _ (by omega), e14, en_up_eq]
        · rw [e16, en_up_ne _ _ _ _ (by omega), e15, en_up_eq]
        · rw [e16, en_up_eq]
      have T16 : ml_TI l0 s I16 := by
        have bq := ml_cs (ml_l1 hls).2 k16.1
        refine ⟨(st I16 o16).2, by rw [(st I16 o16).1]; exact hs, ?_, fun _ => ⟨fun i hi => ?_, fun k c i hk => ?_⟩⟩
        · rw [o16 107 20 (by omega), n20, kl_0]
          unfold ml_sum
          omega
        · rw [zz 122 (by omega), kl_0] at hi; omega
        · rw [zz 125 (by omega), kl_0] at hk; omega
      exact y_read5 hT hls ha hΦ 36 I16 0 0 (by decide) (by decide) T16 (fun p j q => by
        have q2 := lv_p q
        rw [o16 p j (by unfold ml_hl ml_hm at q; unfold ml_ls at hls; omega), o9 p j (Or.inr q2)]
        exact hv p j q) k16.1 (tx_fr tx9 (fun p j _ _ => o16 p j (by omega))) (by rw [o16 _ _ (by omega)]; exact y11) (by rw [o16 _ _ (by omega)]; exact y13) (by rw [o16 _ _ (by omega)]; exact y15) (by rw [o16 _ _ (by omega)]; exact n20) zz (fun j hj => absurd hj (Nat.not_lt_zero j))
    · have := kl_nle q
      omega
  | succ k ih =>
    intro I x1 i hx hk hm h18 hv h4 h108 h109
    have s1 := ml_in1 (x := x1) (by omega)
    have nx := tk_nat hx
    refine u_X12_read_1 ⟨fun q => ?_, fun _ => ⟨kl_in (by omega) (by omega), kl_in (by omega) (by omega), fun I18 e18 => ?_⟩⟩
    · have := kl_le.mp q
      omega
    · have bb : -128 ≤ (I 108 i).toInt ∧ (I 108 i).toInt ≤ 127 := ml_row hm (p := 108) (n := 2000) (q := (-128, 127)) (fun _ => rfl) i (by omega)
      rw [nx, nar_e bb.1 bb.2] at e18
      have o18 : ∀ p j, ¬ (p = 109 ∧ j = i) → I18 p j = I p j := fun p j hp => by rw [e18, en_up_ne _ _ _ _ hp]
      refine ih I18 _ (i + 1) (by omega) (by omega) ?_ (by rw [o18 _ _ (by omega)]; exact h18) (fun p j q => by
        have q2 := lv_p q
        rw [o18 _ _ (by omega)]; exact hv p j q) (by rw [o18 _ _ (by omega)]; exact h4) (fun j hj => by rw [o18 _ _ (by omega)]; exact h108 j hj) (fun j hj => ?_)
      · rw [e18]
        exact ml_we2 hm rfl (n := 2000) (q := (-128, 127)) rfl bb
      · by_cases cj : j = i
        · rw [cj, e18, en_up_eq]; exact h108 i (by omega)
        · rw [o18 _ _ (by omega)]; exact h109 j (by omega)
theorem y_read {l0 : Nat} {b : Nat → Int32} {n : Nat} (h18 : (I 107 18).toInt = l0) (hn : (I 107 2).toInt = n) (hm : en_mem ml_tb mlX (xLay, I, L, R)) (hb : ∀ j, j < n → I 108 j = b j) (ha : ini a0) (hΦ : ∀ (r : Int32) (J : sm_I) (L' : sm_L) (R' : sm_R), RDx (tk_at b n) (SY (tk_K b n) 501 0 0 gc0) (ME (tk_K b n) (fun i => tk_vl b n (tk_at b n i)) 501 0 0 a0) r J → LVx l0 I r J → Φ (some (.int r), (xLay, J, L', kM R'))) : sm_wp sm_P S (d + 8) 182 0 [.ref 107] [] (xLay, I, L, kM R) (0, 0) Φ := by
  have bq : 0 ≤ (I 107 2).toInt ∧ (I 107 2).toInt ≤ 2000 := ml_taped hm
  refine u_X12_read_0 (y_read1 (by omega) ha hΦ n _ 0 0 (by decide) (by omega) (ml_wf hm (by decide +kernel) (q := (0, 2000)) (by decide +kernel) bq) (by rw [en_up_ne _ _ _ _ (by omega)]; exact h18) (fun p j q => by
    have q2 := lv_p q
    rw [en_up_ne _ _ _ _ (by omega)]) (by rw [en_up_eq]; exact hn) (fun j hj => by rw [en_up_ne _ _ _ _ (by omega)]; exact hb j hj) (fun j hj => absurd hj (Nat.not_lt_zero j)))
end
end
section
/-! the ways of a text are both ways, between PLACES that are told -/
theorem st_3 : ∀ i, i < 46 → sm_steps.getD (3 * i + 2) 0 = 3 → sm_steps.getD (3 * i) 0 = 0 ∧ sm_steps.getD (3 * i + 1) 0 = 2 := by decide +kernel
theorem st_4 : ∀ i, i < 46 → sm_steps.getD (3 * i + 2) 0 = 4 → sm_steps.getD (3 * i) 0 = 3 := by decide +kernel
theorem st_5 : ∀ i, i < 46 → sm_steps.getD (3 * i + 2) 0 = 5 → sm_steps.getD (3 * i) 0 = 4 ∨ sm_steps.getD (3 * i) 0 = 30 := by decide +kernel
theorem st_o : ∀ i, i < 46 → (sm_steps.getD (3 * i + 2) 0 = 27 → sm_steps.getD (3 * i) 0 = 0 ∧ sm_steps.getD (3 * i + 1) 0 = 10) ∧ (sm_steps.getD (3 * i + 2) 0 = 28 → sm_steps.getD (3 * i) 0 = 27) ∧ (sm_steps.getD (3 * i + 2) 0 = 29 → sm_steps.getD (3 * i) 0 = 28) ∧ (sm_steps.getD (3 * i + 2) 0 = 30 → sm_steps.getD (3 * i) 0 = 29) := by decide +kernel
theorem fw_f {s k x : Int32} (h : fw s k = x) (hx : x ≠ -1) : ∃ i, i < 46 ∧ sm_steps.getD (3 * i) 0 = s ∧ sm_steps.getD (3 * i + 1) 0 = k ∧ sm_steps.getD (3 * i + 2) 0 = x := by
  obtain ⟨i, h1, h2, h3, h4⟩ := fw_mem (s := s) (k := k) (by rw [h]; exact hx)
  exact ⟨i, h1, h2, h3, h4.symm.trans h⟩
/-- what a step that tells no way and no name leaves as it is -/
def cor (a b : sg) : Prop := (∀ j, b.1 10 j = a.1 10 j) ∧ (∀ j, b.1 11 j = a.1 11 j) ∧ (∀ j, b.1 13 j = a.1 13 j) ∧ b.1 2 5 = a.1 2 5 ∧ b.1 2 7 = a.1 2 7 ∧ b.1 12 1 = a.1 12 1 ∧ b.2 = a.2
theorem cor_rf {a : sg} : cor a a := ⟨fun _ => rfl, fun _ => rfl, fun _ => rfl, rfl, rfl, rfl, rfl⟩
theorem cor_u2 {a0 a : sg} {c j : Nat} {v : Int32} (g : cor a0 a) (h : c ≠ 10 ∧ c ≠ 11 ∧ c ≠ 13 ∧ ¬ (c = 2 ∧ (j = 5 ∨ j = 7)) ∧ ¬ (c = 12 ∧ j = 1)) : cor a0 (u2 a c j v) := by
  obtain ⟨g1, g2, g3, g4, g5, g6, g7⟩ := g
  exact ⟨fun i => by rw [u2_ne _ _ _ _ (by omega)]; exact g1 i, fun i => by rw [u2_ne _ _ _ _ (by omega)]; exact g2 i, fun i => by rw [u2_ne _ _ _ _ (by omega)]; exact g3 i, by rw [u2_ne _ _ _ _ (by omega)]; exact g4, by rw [u2_ne _ _ _ _ (by omega)]; exact g5, by rw [u2_ne _ _ _ _ (by omega)]; exact g6, g7⟩
theorem cor_pl {a : sg} {c : Nat} {r : Int32} (h : c = 14 ∨ c = 15) : cor a (pl_last c r a) := by
  unfold pl_last
  split
  · exact cor_rf
  · split
    · exact cor_rf
    · exact cor_u2 cor_rf (by omega)
theorem cor_p6 {a0 a : sg} {q : Int32} (g : cor a0 a) : cor a0 (ad_pt6 q a) := by
  unfold ad_pt6
  split
  · exact g
  · split
    · exact g
    · split
      · exact g
      · exact cor_u2 g (by omega)
theorem cor_part {a : sg} {b : Bool} : cor a (ad_part b a) := by
  unfold ad_part
  split
  · exact cor_rf
  · split
    · split
      · split
        · exact cor_p6 cor_rf
        · exact cor_p6 (cor_u2 cor_rf (by omega))
      · exact cor_p6 cor_rf
    · exact cor_rf
theorem cor_tr {a : sg} {v : Int32} : cor a (tr_last v a) := by
  unfold tr_last
  split
  · exact cor_rf
  · split
    · exact cor_rf
    · exact cor_u2 cor_rf (by omega)
theorem cor_spb {a : sg} {c n : Nat} {row x y lo hi : Int32} (h : c = 16 ∨ c = 24 ∨ c = 29) : cor a (spb c n row x y lo hi a) := by
  unfold spb
  split
  · exact cor_rf
  · split
    · exact cor_rf
    · exact cor_u2 (cor_u2 (cor_u2 (cor_u2 cor_rf (by omega)) (by omega)) (by omega)) (by omega)
theorem cor_sp {a : sg} {v : Int32} : cor a (en_sp v a) := by
  unfold en_sp
  split
  · exact cor_spb (by omega)
  · exact cor_spb (by omega)
theorem cor_where {a : sg} {s : Int32} {nm : Int64} : cor a (tk_where s nm a).2 := by
  unfold tk_where
  split
  · split
    · exact cor_rf
    · exact cor_pl (by omega)
  · split
    · exact cor_rf
    · exact cor_pl (by omega)
theorem cor_open {a : sg} {s : Int32} {nm : Int64} : cor a (tk_open s nm a).2 := by
  unfold tk_open
  split
  · exact cor_rf
  · split
    · exact cor_u2 cor_rf (by omega)
    · exact cor_u2 cor_rf (by omega)
theorem cor_span {a : sg} {s : Int32} {nm : Int64} : cor a (tk_span s nm a).2 := by
  unfold tk_span
  split
  · exact cor_rf
  · split
    · exact cor_u2 (cor_u2 cor_rf (by omega)) (by omega)
    · exact cor_u2 cor_rf (by omega)
theorem cor_trust {a : sg} {v : Int32} : cor a (tk_trust v a).2 := by
  unfold tk_trust
  split
  · exact cor_rf
  · split
    · exact cor_tr
    · exact cor_rf
theorem cor_int {a : sg} {s k v : Int32} (h : s ≠ 5) : cor a (tk_int s k v a).2 := by
  unfold tk_int
  split
  · split
    · exact cor_sp
    · exact cor_u2 cor_rf (by omega)
  · exact cor_rf
/-- names of PLACES -/
def wn (a : sg) : Prop := (0 ≤ (a.1 12 1).toInt ∧ (a.1 12 1).toInt ≤ 6) ∧ (0 ≤ (a.1 2 5).toInt ∧ (a.1 2 5).toInt ≤ 35) ∧ ∀ i, i < cnt a.1 → a.1 10 i = 1 → 0 ≤ (a.1 11 i).toInt ∧ (a.1 11 i).toInt < (a.1 12 1).toInt
def pg (a : sg) (x : Int32) : Prop := 0 ≤ x.toInt ∧ x.toInt < (a.1 12 1).toInt
def ws (s : Int32) (a : sg) : Prop := (s = 3 ∨ s = 4 → a.1 2 7 = 2) ∧ (s = 27 ∨ s = 28 ∨ s = 29 ∨ s = 30 → a.1 2 7 = 10) ∧ (s = 4 → pg a (a.1 2 8)) ∧ (s = 5 → a.1 2 7 = 2 → pg a (a.1 2 8) ∧ pg a (a.1 2 9) ∧ a.1 2 8 ≠ a.1 2 9)
def WI (s : Int32) (a : sg) : Prop := wn a ∧ wt a ∧ ws s a
theorem wn_cor {a b : sg} (h : cor a b) (k : wn a) : wn b := by
  obtain ⟨h1, h2, h3, h4, h5, h6, -⟩ := h
  obtain ⟨k1, k2, k3⟩ := k
  refine ⟨by rw [h6]; exact k1, by rw [h4]; exact k2, fun i hi hk => ?_⟩
  unfold cnt at hi
  rw [h4] at hi
  rw [h1 i] at hk
  rw [h2 i, h6]
  exact k3 i hi hk
theorem wt_cor {a b : sg} (h : cor a b) (k : wt a) : wt b := by
  obtain ⟨-, -, h3, -, -, h6, -⟩ := h
  obtain ⟨k1, k2, k3, k4⟩ := k
  exact ⟨fun x y hx hy => by rw [h3, h3]; exact k1 x y hx hy, fun x hx => by rw [h3]; exact k2 x hx, fun x y hx hy n q => by rw [h6] at q; rw [h3]; exact k3 x y hx hy n q, fun i hi => by rw [h3]; exact k4 i hi⟩
theorem fnd_1 {a : sg} {nm : Int64} (h : wn a) : ∀ m i, i + m ≤ cnt a.1 → fnd a.1 a.2 nm 1 m i ≠ -1 → pg a (fnd a.1 a.2 nm 1 m i) := by
  intro m
  induction m with
  | zero => intro i _ hn; exact absurd rfl hn
  | succ m ih =>
    intro i hm hn
    have e : fnd a.1 a.2 nm 1 (m + 1) i = (if a.2 i = nm then (if a.1 10 i = 1 then a.1 11 i else fnd a.1 a.2 nm 1 m (i + 1)) else fnd a.1 a.2 nm 1 m (i + 1)) := rfl
    rw [e] at hn ⊢
    by_cases c1 : a.2 i = nm
    · rw [if_pos c1] at hn ⊢
      by_cases c2 : a.1 10 i = 1
      · rw [if_pos c2]
        exact h.2.2 i (by omega) c2
      · rw [if_neg c2] at hn ⊢
        exact ih (i + 1) (by omega) hn
    · rw [if_neg c1] at hn ⊢
      exact ih (i + 1) (by omega) hn
theorem fd_1 {a : sg} {nm : Int64} (h : wn a) (hn : fd a nm 1 ≠ -1) : pg a (fd a nm 1) := fnd_1 h (cnt a.1) 0 (by omega) hn
/-- a way -/
theorem wt_path {a : sg} {x y v : Int32} (h : wt a) (hn : wn a) (hx : pg a x) (hy : pg a y) (xy : x ≠ y) (v0 : 0 ≤ v.toInt) (v1 : v.toInt ≤ 1440) : wt (ad_path x y v a) ∧ wn (ad_path x y v a) ∧ (ad_path x y v a).1 2 7 = a.1 2 7 := by
  have c6 : (6 : Int32).toInt = 6 := by decide
  obtain ⟨x0, x1⟩ := hx
  obtain ⟨y0, y1⟩ := hy
  have p6 := hn.1
  obtain ⟨X, eX⟩ : ∃ X : Nat, x.toInt = X := ⟨x.toInt.toNat, by omega⟩
  obtain ⟨Y, eY⟩ : ∃ Y : Nat, y.toInt = Y := ⟨y.toInt.toNat, by omega⟩
  have XY : X ≠ Y := fun e => xy (en_ofI (by omega))
  have q1 : (x * (6 : Int32)).toInt = (X : Int) * 6 := ml_mu eX c6 (by omega) (by omega)
  have q2 : ((x * (6 : Int32)) + y).toInt = ((6 * X + Y : Nat) : Int) := (ml_ad q1 eY (by omega) (by omega)).trans (by omega)
  have q3 : (y * (6 : Int32)).toInt = (Y : Int) * 6 := ml_mu eY c6 (by omega) (by omega)
  have q4 : ((y * (6 : Int32)) + x).toInt = ((6 * Y + X : Nat) : Int) := (ml_ad q3 eX (by omega) (by omega)).trans (by omega)
  have w : wt (ad_w x y v a) ∧ wn (ad_w x y v a) ∧ (ad_w x y v a).1 2 7 = a.1 2 7 := by
    have e : ad_w x y v a = u2 (u2 a 13 (6 * X + Y) v) 13 (6 * Y + X) v := by
      unfold ad_w
      rw [tk_nat q2, tk_nat q4]
    rw [e]
    have g12 : (u2 (u2 a 13 (6 * X + Y) v) 13 (6 * Y + X) v).1 12 1 = a.1 12 1 := by rw [u2_ne _ _ _ _ (by omega), u2_ne _ _ _ _ (by omega)]
    have at_ : ∀ u t : Nat, u < 6 → t < 6 → (u2 (u2 a 13 (6 * X + Y) v) 13 (6 * Y + X) v).1 13 (6 * u + t) = if (u = X ∧ t = Y) ∨ (u = Y ∧ t = X) then v else a.1 13 (6 * u + t) := fun u t hu ht => by
      by_cases c1 : u = Y ∧ t = X
      · rw [if_pos (Or.inr c1), c1.1, c1.2, u2_eq]
      · rw [u2_ne _ _ _ _ (by omega)]
        by_cases c2 : u = X ∧ t = Y
        · rw [if_pos (Or.inl c2), c2.1, c2.2, u2_eq]
        · rw [u2_ne _ _ _ _ (by omega), if_neg (by omega)]
    refine ⟨⟨fun u t hu ht => ?_, fun u hu => ?_, fun u t hu ht n q => ?_, fun i hi => ?_⟩, ⟨by rw [g12]; exact hn.1, by rw [u2_ne _ _ _ _ (by omega), u2_ne _ _ _ _ (by omega)]; exact hn.2.1, fun i hi hk => ?_⟩, by rw [u2_ne _ _ _ _ (by omega), u2_ne _ _ _ _ (by omega)]⟩
    · rw [at_ u t hu ht, at_ t u ht hu, h.1 u t hu ht]
      by_cases c : (u = X ∧ t = Y) ∨ (u = Y ∧ t = X)
      · rw [if_pos c, if_pos (by omega)]
      · rw [if_neg c, if_neg (by omega)]
    · rw [show 7 * u = 6 * u + u by omega, at_ u u hu hu, if_neg (by omega), show 6 * u + u = 7 * u by omega]
      exact h.2.1 u hu
    · rw [g12] at q
      rw [at_ u t hu ht, if_neg (by omega)]
      exact h.2.2.1 u t hu ht n q
    · have e2 : i = 6 * (i / 6) + i % 6 := by omega
      rw [e2, at_ _ _ (by omega) (by omega)]
      split
      · exact Or.inr ⟨v0, v1⟩
      · exact h.2.2.2 _ (by omega)
    · unfold cnt at hi
      rw [u2_ne _ _ _ _ (by omega), u2_ne _ _ _ _ (by omega)] at hi hk
      rw [g12, u2_ne _ _ _ _ (by omega), u2_ne _ _ _ _ (by omega)]
      exact hn.2.2 i hi hk
  unfold ad_path
  split
  · exact ⟨h, hn, rfl⟩
  · split
    · exact ⟨h, hn, rfl⟩
    · split
      · exact ⟨h, hn, rfl⟩
      · split
        · split
          · exact w
          · split
            · exact ⟨h, hn, rfl⟩
            · exact w
        · exact ⟨h, hn, rfl⟩
/-- a new name -/
theorem mnn_i {n x : Int32} (h0 : 0 ≤ n.toInt) (hx0 : 0 ≤ x.toInt) (hx : x.toInt ≤ 1000) : (mnn n x).toInt = if n.toInt < x.toInt + 1 then n.toInt else x.toInt + 1 := by
  have s := ml_in1 (x := x) (by omega)
  unfold mnn
  by_cases c : n < x + 1
  · rw [if_pos c]
    have c := kl_lt.mp c
    rw [if_pos (by omega)]
  · rw [if_neg c]
    have c := kl_nlt c
    rw [if_neg (by omega)]; exact s
theorem wi_new {a : sg} {nm : Int64} (hn : wn a) (ht : wt a) (h35 : a.1 2 5 ≠ 35 ∨ True) : wn (tk_new nm a).2 ∧ wt (tk_new nm a).2 := by
  unfold tk_new
  split
  · exact ⟨hn, ht⟩
  · split
    · exact ⟨hn, ht⟩
    · next c2 =>
      have c2 := kl_nle c2
      rw [(by decide : (35 : Int32).toInt = 35)] at c2
      have n25 := kl_nat hn.2.1.1
      have s25 := ml_in1 (x := a.1 2 5) (by omega)
      show wn (nm_add nm a) ∧ wt (nm_add nm a)
      obtain ⟨b, eb⟩ : ∃ b : sg, b = (sm_up a.1 10 (cnt a.1) (nm_kd a), nmu a.2 (cnt a.1) nm) := ⟨_, rfl⟩
      have b10 : ∀ j, b.1 10 j = if j = cnt a.1 then nm_kd a else a.1 10 j := fun j => by
        rw [eb]
        show sm_up a.1 10 (cnt a.1) (nm_kd a) 10 j = _
        by_cases c : j = cnt a.1
        · rw [if_pos c, c, en_up_eq]
        · rw [if_neg c, en_up_ne _ _ _ _ (by omega)]
      have bo : ∀ c j, c ≠ 10 → b.1 c j = a.1 c j := fun c j hc => by
        rw [eb]
        exact en_up_ne _ _ _ _ (by omega)
      have fin : ∀ (num : Int32) (d : sg), (∀ j, d.1 10 j = b.1 10 j) → (∀ j, d.1 11 j = b.1 11 j) → (∀ j, d.1 13 j = b.1 13 j) → d.1 2 5 = b.1 2 5 → ((a.1 12 1).toInt ≤ (d.1 12 1).toInt ∧ (d.1 12 1).toInt ≤ 6) → (nm_kd a = 1 → 0 ≤ num.toInt ∧ num.toInt < (d.1 12 1).toInt) → wn (u2 (u2 d 11 (cnt a.1) num) 2 5 (a.1 2 5 + 1)) ∧ wt (u2 (u2 d 11 (cnt a.1) num) 2 5 (a.1 2 5 + 1)) := by
        intro num d d10 d11 d13 d25 dp hnum
        have g12 : (u2 (u2 d 11 (cnt a.1) num) 2 5 (a.1 2 5 + 1)).1 12 1 = d.1 12 1 := by rw [u2_ne _ _ _ _ (by omega), u2_ne _ _ _ _ (by omega)]
        have g13 : ∀ j, (u2 (u2 d 11 (cnt a.1) num) 2 5 (a.1 2 5 + 1)).1 13 j = a.1 13 j := fun j => by rw [u2_ne _ _ _ _ (by omega), u2_ne _ _ _ _ (by omega), d13, bo _ _ (by omega)]
        have p0 := hn.1
        refine ⟨⟨by rw [g12]; omega, by rw [u2_eq]; omega, fun i hi hk => ?_⟩, ⟨fun x y hx hy => by rw [g13, g13]; exact ht.1 x y hx hy, fun x hx => by rw [g13]; exact ht.2.1 x hx, fun x y hx hy n q => ?_, fun i hi => by rw [g13]; exact ht.2.2.2 i hi⟩⟩
        · have ci : cnt (u2 (u2 d 11 (cnt a.1) num) 2 5 (a.1 2 5 + 1)).1 = cnt a.1 + 1 := by
            unfold cnt
            rw [u2_eq]
            have := kl_nat (i := a.1 2 5 + 1) (by omega)
            omega
          rw [ci] at hi
          rw [u2_ne _ _ _ _ (by omega), u2_ne _ _ _ _ (by omega), d10, b10] at hk
          rw [g12, u2_ne _ _ _ _ (by omega)]
          by_cases c : i = cnt a.1
          · rw [if_pos c] at hk
            rw [c, u2_eq]; exact hnum hk
          · rw [if_neg c] at hk
            rw [u2_ne _ _ _ _ (by omega), d11, bo _ _ (by omega)]
            have := hn.2.2 i (by omega) hk
            omega
        · rw [g12] at q
          rw [g13]; exact ht.2.2.1 x y hx hy n (by omega)
      have p0 := hn.1
      have b12 : b.1 12 1 = a.1 12 1 := bo _ _ (by decide)
      unfold nm_add
      rw [← eb]
      have nk1 : ∀ {n : Int32}, n.toInt ≠ 1 → n ≠ 1 := fun {n} h e => h (by rw [e]; decide)
      unfold nb_new
      split
      · next k0 =>
        refine fin _ _ (fun j => by rw [u2_ne _ _ _ _ (by omega)]) (fun j => by rw [u2_ne _ _ _ _ (by omega)]) (fun j => by rw [u2_ne _ _ _ _ (by omega)]) (by rw [u2_ne _ _ _ _ (by omega)]) (by rw [u2_ne _ _ _ _ (by omega), b12]; omega) (fun e => absurd e (nk1 (by omega)))
      · split
        · next k0 k1 =>
          have m6 := mnn_i (n := 6) (x := b.1 12 1) (by decide) (by rw [b12]; omega) (by rw [b12]; omega)
          rw [b12, (by decide : (6 : Int32).toInt = 6)] at m6
          have s6 : (mnn 6 (b.1 12 1) - 1).toInt = (mnn 6 (b.1 12 1)).toInt - 1 := by
            rw [b12, Int32.toInt_sub, kl_1]
            exact en_bmod (by split at m6 <;> omega) (by split at m6 <;> omega) (Or.inl rfl)
          refine fin _ _ (fun j => by rw [u2_ne _ _ _ _ (by omega)]) (fun j => by rw [u2_ne _ _ _ _ (by omega)]) (fun j => by rw [u2_ne _ _ _ _ (by omega)]) (by rw [u2_ne _ _ _ _ (by omega)]) (by rw [u2_eq, b12]; split at m6 <;> omega) (fun _ => by rw [u2_eq, s6, b12]; split at m6 <;> omega)
        · split
          · refine fin _ _ (fun j => by rw [u2_ne _ _ _ _ (by omega)]) (fun j => by rw [u2_ne _ _ _ _ (by omega)]) (fun j => by rw [u2_ne _ _ _ _ (by omega)]) (by rw [u2_ne _ _ _ _ (by omega)]) (by rw [u2_ne _ _ _ _ (by omega), b12]; omega) (fun e => absurd e (nk1 (by omega)))
          · split
            · refine fin _ _ (fun j => by rw [u2_ne _ _ _ _ (by omega)]) (fun j => by rw [u2_ne _ _ _ _ (by omega)]) (fun j => by rw [u2_ne _ _ _ _ (by omega)]) (by rw [u2_ne _ _ _ _ (by omega)]) (by rw [u2_ne _ _ _ _ (by omega), b12]; omega) (fun e => absurd e (nk1 (by omega)))
            · have sn : ∀ t : Bool, cor b (sy_new t b) := fun t => by
                unfold sy_new
                split
                · refine cor_u2 (cor_u2 (cor_u2 ?_ (by omega)) (by omega)) (by omega)
                  split
                  · exact cor_u2 cor_rf (by omega)
                  · exact cor_rf
                · exact cor_rf
              obtain ⟨c1, c2, c3, c4, -, c6, -⟩ := sn (decide (b.1 2 7 = 8))
              exact fin _ _ c1 c2 c3 c4 (by rw [c6, b12]; omega) (fun e => absurd e (nk1 (by omega)))
/-- one TOKEN -/
theorem ms_wi {s k : Int32} {v : Int64} {a : sg} (h : WI s a) (hv : k = 16 → 0 ≤ v.toInt) (h0 : (ms s k v a).1 = 0) : WI (fw s k) (ms s k v a).2 := by
  obtain ⟨hn, ht, hs⟩ := h
  obtain ⟨g0, e0⟩ : ¬ (k = 16 ∧ ¬ lg_cmp v 1440 ≤ 0) ∧ ms s k v a = tk_take s k v a := by
    unfold ms at h0 ⊢
    by_cases c : k = 16 ∧ ¬ lg_cmp v 1440 ≤ 0
    · rw [if_pos c] at h0; exact absurd h0 (by show ¬ (5 : Int32) = 0; decide)
    · exact ⟨c, by rw [if_neg c]⟩
  rw [e0] at h0 ⊢
  have iv : ∀ {n : Int32} {m : Int}, s.toInt = m → n.toInt = m → s = n := fun e f => en_ofI (by rw [e, f])
  -- where nothing of a way is under way behind the step
  have far : ∀ b : sg, wn b → wt b → (∀ x : Int32, s = x → x ≠ 0 ∧ x ≠ 3 ∧ x ≠ 4 ∧ x ≠ 27 ∧ x ≠ 28 ∧ x ≠ 29 ∧ x ≠ 30) → WI (fw s k) b := fun b b1 b2 nx => by
    obtain ⟨n0, n3, n4, n27, n28, n29, n30⟩ := nx s rfl
    refine ⟨b1, b2, fun q => ?_, fun q => ?_, fun q => ?_, fun q => ?_⟩
    · rcases q with q | q
      · obtain ⟨i, i1, i2, i3, i4⟩ := fw_f q (by decide)
        exact absurd (i2.symm.trans (st_3 i i1 i4).1) n0
      · obtain ⟨i, i1, i2, i3, i4⟩ := fw_f q (by decide)
        exact absurd (i2.symm.trans (st_4 i i1 i4)) n3
    · rcases q with q | q | q | q
      · obtain ⟨i, i1, i2, i3, i4⟩ := fw_f q (by decide)
        exact absurd (i2.symm.trans ((st_o i i1).1 i4).1) n0
      · obtain ⟨i, i1, i2, i3, i4⟩ := fw_f q (by decide)
        exact absurd (i2.symm.trans ((st_o i i1).2.1 i4)) n27
      · obtain ⟨i, i1, i2, i3, i4⟩ := fw_f q (by decide)
        exact absurd (i2.symm.trans ((st_o i i1).2.2.1 i4)) n28
      · obtain ⟨i, i1, i2, i3, i4⟩ := fw_f q (by decide)
        exact absurd (i2.symm.trans ((st_o i i1).2.2.2 i4)) n29
    · obtain ⟨i, i1, i2, i3, i4⟩ := fw_f q (by decide)
      exact absurd (i2.symm.trans (st_4 i i1 i4)) n3
    · obtain ⟨i, i1, i2, i3, i4⟩ := fw_f q (by decide)
      rcases st_5 i i1 i4 with e | e
      · exact absurd (i2.symm.trans e) n4
      · exact absurd (i2.symm.trans e) n30
  have farc : ∀ b : sg, cor a b → (∀ x : Int32, s = x → x ≠ 0 ∧ x ≠ 3 ∧ x ≠ 4 ∧ x ≠ 27 ∧ x ≠ 28 ∧ x ≠ 29 ∧ x ≠ 30) → WI (fw s k) b := fun b c nx => far b (wn_cor c hn) (wt_cor c ht) nx
  -- open: the tell stays open
  have opn : ∀ b : sg, cor a b → s = 27 ∨ s = 28 ∨ s = 29 ∨ s = 30 → WI (fw s k) b := fun b c so => by
    have t7 : b.1 2 7 = 10 := by rw [c.2.2.2.2.1]; exact hs.2.1 so
    have n4 : ∀ x, x = 4 → fw s k ≠ x := fun x e q => by
      subst e
      obtain ⟨i, i1, i2, i3, i4⟩ := fw_f q (by decide)
      have := i2.symm.trans (st_4 i i1 i4)
      rw [this] at so
      revert so; decide
    refine ⟨wn_cor c hn, wt_cor c ht, fun q => ?_, fun _ => t7, fun q => absurd q (n4 4 rfl), fun q t2 => ?_⟩
    · rcases q with q | q
      · obtain ⟨i, i1, i2, i3, i4⟩ := fw_f q (by decide)
        have := i2.symm.trans (st_3 i i1 i4).1
        rw [this] at so
        exact absurd so (by decide)
      · exact absurd q (n4 4 rfl)
    · rw [t7] at t2
      exact absurd t2 (by decide)
  have nfar : ∀ (m : Int), s.toInt = m → m ≠ 0 → m ≠ 3 → m ≠ 4 → m ≠ 27 → m ≠ 28 → m ≠ 29 → m ≠ 30 → ∀ x : Int32, s = x → x ≠ 0 ∧ x ≠ 3 ∧ x ≠ 4 ∧ x ≠ 27 ∧ x ≠ 28 ∧ x ≠ 29 ∧ x ≠ 30 := fun m e a1 a2 a3 a4 a5 a6 a7 x ex => by
    subst ex
    refine ⟨fun q => a1 ?_, fun q => a2 ?_, fun q => a3 ?_, fun q => a4 ?_, fun q => a5 ?_, fun q => a6 ?_, fun q => a7 ?_⟩ <;> rw [← e, q] <;> decide
  unfold tk_take at h0 ⊢
  by_cases c0 : s.toInt = 0
  · rw [if_pos c0] at h0 ⊢
    show WI (fw s k) (u2 a 2 7 k)
    have es : s = 0 := iv c0 (by decide)
    have w1 : wn (u2 a 2 7 k) := ⟨by rw [u2_ne _ _ _ _ (by omega)]; exact hn.1, by rw [u2_ne _ _ _ _ (by omega)]; exact hn.2.1, fun i hi hk => by
      unfold cnt at hi
      rw [u2_ne _ _ _ _ (by omega)] at hi hk
      rw [u2_ne _ _ _ _ (by omega), u2_ne _ _ _ _ (by omega)]
      exact hn.2.2 i hi hk⟩
    have w2 : wt (u2 a 2 7 k) := ⟨fun x y hx hy => by rw [u2_ne _ _ _ _ (by omega), u2_ne _ _ _ _ (by omega)]; exact ht.1 x y hx hy, fun x hx => by rw [u2_ne _ _ _ _ (by omega)]; exact ht.2.1 x hx, fun x y hx hy n q => by
      rw [u2_ne _ _ _ _ (by omega)] at q
      rw [u2_ne _ _ _ _ (by omega)]; exact ht.2.2.1 x y hx hy n q, fun i hi => by rw [u2_ne _ _ _ _ (by omega)]; exact ht.2.2.2 i hi⟩
    refine ⟨w1, w2, fun q => ?_, fun q => ?_, fun q => ?_, fun q => ?_⟩
    · rw [u2_eq]
      rcases q with q | q
      · obtain ⟨i, i1, i2, i3, i4⟩ := fw_f q (by decide)
        exact i3.symm.trans (st_3 i i1 i4).2
      · obtain ⟨i, i1, i2, i3, i4⟩ := fw_f q (by decide)
        exact absurd ((i2.symm.trans (st_4 i i1 i4)).symm.trans es) (by decide)
    · rw [u2_eq]
      rcases q with q | q | q | q
      · obtain ⟨i, i1, i2, i3, i4⟩ := fw_f q (by decide)
        exact i3.symm.trans ((st_o i i1).1 i4).2
      · obtain ⟨i, i1, i2, i3, i4⟩ := fw_f q (by decide)
        exact absurd ((i2.symm.trans ((st_o i i1).2.1 i4)).symm.trans es) (by decide)
      · obtain ⟨i, i1, i2, i3, i4⟩ := fw_f q (by decide)
        exact absurd ((i2.symm.trans ((st_o i i1).2.2.1 i4)).symm.trans es) (by decide)
      · obtain ⟨i, i1, i2, i3, i4⟩ := fw_f q (by decide)
        exact absurd ((i2.symm.trans ((st_o i i1).2.2.2 i4)).symm.trans es) (by decide)
    · obtain ⟨i, i1, i2, i3, i4⟩ := fw_f q (by decide)
      exact absurd ((i2.symm.trans (st_4 i i1 i4)).symm.trans es) (by decide)
    · obtain ⟨i, i1, i2, i3, i4⟩ := fw_f q (by decide)
      rcases st_5 i i1 i4 with e | e
      · exact absurd ((i2.symm.trans e).symm.trans es) (by decide)
      · exact absurd ((i2.symm.trans e).symm.trans es) (by decide)
  rw [if_neg c0] at h0 ⊢
  by_cases c1 : s.toInt = 1 ∨ s.toInt = 6 ∨ s.toInt = 11 ∨ s.toInt = 14 ∨ s.toInt = 15
  · rw [if_pos c1] at h0 ⊢
    obtain ⟨b1, b2⟩ := wi_new (nm := v) hn ht (Or.inr trivial)
    exact far _ b1 b2 (nfar s.toInt rfl (by omega) (by omega) (by omega) (by omega) (by omega) (by omega) (by omega))
  rw [if_neg c1] at h0 ⊢
  by_cases c2 : s.toInt = 3 ∨ s.toInt = 4
  · rw [if_pos c2] at h0 ⊢
    unfold tk_path at h0 ⊢
    by_cases f1 : fd a v 1 = -1
    · rw [if_pos f1] at h0; exact absurd h0 (by show ¬ (4 : Int32) = 0; decide)
    rw [if_neg f1] at h0 ⊢
    have pf := fd_1 hn f1
    have t7 : a.1 2 7 = 2 := hs.1 (c2.elim (fun e => Or.inl (iv e (by decide))) (fun e => Or.inr (iv e (by decide))))
    by_cases s3 : s = 3
    · rw [if_pos s3] at h0 ⊢
      show WI (fw s k) (u2 a 2 8 (fd a v 1))
      have c := cor_u2 (a0 := a) (a := a) (c := 2) (j := 8) (v := fd a v 1) cor_rf (by omega)
      have w7 : (u2 a 2 8 (fd a v 1)).1 2 7 = 2 := c.2.2.2.2.1.trans t7
      refine ⟨wn_cor c hn, wt_cor c ht, fun _ => w7, fun q => ?_, fun _ => ?_, fun q => ?_⟩
      · rcases q with q | q | q | q
        · obtain ⟨i, i1, i2, i3, i4⟩ := fw_f q (by decide)
          exact absurd ((i2.symm.trans ((st_o i i1).1 i4).1).symm.trans s3) (by decide)
        · obtain ⟨i, i1, i2, i3, i4⟩ := fw_f q (by decide)
          exact absurd ((i2.symm.trans ((st_o i i1).2.1 i4)).symm.trans s3) (by decide)
        · obtain ⟨i, i1, i2, i3, i4⟩ := fw_f q (by decide)
          exact absurd ((i2.symm.trans ((st_o i i1).2.2.1 i4)).symm.trans s3) (by decide)
        · obtain ⟨i, i1, i2, i3, i4⟩ := fw_f q (by decide)
          exact absurd ((i2.symm.trans ((st_o i i1).2.2.2 i4)).symm.trans s3) (by decide)
      · rw [u2_eq]
        unfold pg
        rw [c.2.2.2.2.2.1]; exact pf
      · obtain ⟨i, i1, i2, i3, i4⟩ := fw_f q (by decide)
        rcases st_5 i i1 i4 with e | e
        · exact absurd ((i2.symm.trans e).symm.trans s3) (by decide)
        · exact absurd ((i2.symm.trans e).symm.trans s3) (by decide)
    · rw [if_neg s3] at h0 ⊢
      have s4 : s = 4 := c2.elim (fun e => absurd (iv e (by decide)) s3) (fun e => iv e (by decide))
      by_cases e8 : a.1 2 8 = fd a v 1
      · rw [if_pos e8] at h0; exact absurd h0 (by show ¬ (5 : Int32) = 0; decide)
      rw [if_neg e8] at h0 ⊢
      show WI (fw s k) (u2 a 2 9 (fd a v 1))
      have c := cor_u2 (a0 := a) (a := a) (c := 2) (j := 9) (v := fd a v 1) cor_rf (by omega)
      have w7 : (u2 a 2 9 (fd a v 1)).1 2 7 = 2 := c.2.2.2.2.1.trans t7
      refine ⟨wn_cor c hn, wt_cor c ht, fun _ => w7, fun q => ?_, fun q => ?_, fun _ _ => ?_⟩
      · rcases q with q | q | q | q
        · obtain ⟨i, i1, i2, i3, i4⟩ := fw_f q (by decide)
          exact absurd ((i2.symm.trans ((st_o i i1).1 i4).1).symm.trans s4) (by decide)
        · obtain ⟨i, i1, i2, i3, i4⟩ := fw_f q (by decide)
          exact absurd ((i2.symm.trans ((st_o i i1).2.1 i4)).symm.trans s4) (by decide)
        · obtain ⟨i, i1, i2, i3, i4⟩ := fw_f q (by decide)
          exact absurd ((i2.symm.trans ((st_o i i1).2.2.1 i4)).symm.trans s4) (by decide)
        · obtain ⟨i, i1, i2, i3, i4⟩ := fw_f q (by decide)
          exact absurd ((i2.symm.trans ((st_o i i1).2.2.2 i4)).symm.trans s4) (by decide)
      · obtain ⟨i, i1, i2, i3, i4⟩ := fw_f q (by decide)
        exact absurd ((i2.symm.trans (st_4 i i1 i4)).symm.trans s4) (by decide)
      · have g8 := hs.2.2.1 s4
        unfold pg at g8 ⊢
        rw [c.2.2.2.2.2.1, u2_ne _ _ _ _ (by omega), u2_eq]
        exact ⟨g8, pf, e8⟩
  rw [if_neg c2] at h0 ⊢
  by_cases c3 : s.toInt = 8 ∨ s.toInt = 10
  · rw [if_pos c3] at h0 ⊢
    exact farc _ cor_where (nfar s.toInt rfl (by omega) (by omega) (by omega) (by omega) (by omega) (by omega) (by omega))
  rw [if_neg c3] at h0 ⊢
  by_cases c4 : s.toInt = 27 ∨ s.toInt = 29
  · rw [if_pos c4] at h0 ⊢
    exact opn _ cor_open (c4.elim (fun e => Or.inl (iv e (by decide))) (fun e => Or.inr (Or.inr (Or.inl (iv e (by decide))))))
  rw [if_neg c4] at h0 ⊢
  by_cases c5 : s.toInt = 17 ∨ s.toInt = 20
  · rw [if_pos c5] at h0 ⊢
    exact farc _ cor_span (nfar s.toInt rfl (by omega) (by omega) (by omega) (by omega) (by omega) (by omega) (by omega))
  rw [if_neg c5] at h0 ⊢
  by_cases c6 : s.toInt = 26
  · rw [if_pos c6] at h0 ⊢
    refine farc _ ?_ (nfar s.toInt rfl (by omega) (by omega) (by omega) (by omega) (by omega) (by omega) (by omega))
    show cor a (if k = 9 then ad_part true a else if k = 13 then ad_part false a else a)
    split
    · exact cor_part
    · split
      · exact cor_part
      · exact cor_rf
  rw [if_neg c6] at h0 ⊢
  by_cases c7 : s.toInt = 13
  · rw [if_pos c7] at h0 ⊢
    exact farc _ cor_trust (nfar s.toInt rfl (by omega) (by omega) (by omega) (by omega) (by omega) (by omega) (by omega))
  rw [if_neg c7] at h0 ⊢
  by_cases s5 : s = 5
  · have m5 : s.toInt = 5 := by rw [s5]; decide
    unfold tk_int at h0 ⊢
    by_cases k16 : k = 16
    · rw [if_pos k16, if_pos s5] at h0 ⊢
      show WI (fw s k) (en_po (sg_n s v.toInt32) a)
      have v1 : v.toInt ≤ 1440 := by
        have : lg_cmp v 1440 ≤ 0 := Decidable.byContradiction (fun q => g0 ⟨k16, q⟩)
        have := lg_le.mp this
        rw [(by decide : (1440 : Int64).toInt = 1440)] at this
        exact this
      have v0 := hv k16
      have vi : v.toInt32.toInt = v.toInt := by
        rw [Int64.toInt_toInt32]
        exact en_bmod (by omega) (by omega) (Or.inl rfl)
      have sn : sg_n s v.toInt32 = v.toInt32 := by
        unfold sg_n
        rw [s5, if_neg (by decide), if_neg (by decide)]
      rw [sn]
      unfold en_po
      by_cases t2 : a.1 2 7 = 2
      · rw [if_pos t2]
        obtain ⟨p1, p2, p3⟩ := hs.2.2.2 s5 t2
        obtain ⟨w1, w2, -⟩ := wt_path ht hn p1 p2 p3 (by rw [vi]; exact v0) (by rw [vi]; exact v1)
        exact far _ w2 w1 (nfar 5 m5 (by decide) (by decide) (by decide) (by decide) (by decide) (by decide) (by decide))
      · rw [if_neg t2]
        exact farc _ (cor_spb (by omega)) (nfar 5 m5 (by decide) (by decide) (by decide) (by decide) (by decide) (by decide) (by decide))
    · rw [if_neg k16]
      exact farc _ cor_rf (nfar 5 m5 (by decide) (by decide) (by decide) (by decide) (by decide) (by decide) (by decide))
  · by_cases so : s = 28 ∨ s = 30
    · exact opn _ (cor_int s5) (so.elim (fun e => Or.inr (Or.inl e)) (fun e => Or.inr (Or.inr (Or.inr e))))
    · refine farc _ (cor_int s5) (nfar s.toInt rfl (by omega) (by omega) (by omega) (by omega) (fun e => so (Or.inl (iv e (by decide)))) (by omega) (fun e => so (Or.inr (iv e (by decide)))))
theorem ME_wi {K : Nat → Int32} {V : Nat → Int64} (hV : ∀ i, K i = 16 → 0 ≤ (V i).toInt) : ∀ (m t : Nat) (s : Int32) (a : sg), WI s a → (ME K V m t s a).1 = none → ∃ s', WI s' (ME K V m t s a).2 := by
  intro m
  induction m with
  | zero => intro t s a h _; exact ⟨s, h⟩
  | succ m ih =>
    intro t s a h h0
    have e : ME K V (m + 1) t s a = (if K t = 21 then (none, a) else if (ms s (K t) (V t) a).1 = 0 then ME K V m (t + 1) (fw s (K t)) (ms s (K t) (V t) a).2 else (some ((ms s (K t) (V t) a).1, t), a)) := rfl
    rw [e] at h0 ⊢
    by_cases c : K t = 21
    · rw [if_pos c]; exact ⟨s, h⟩
    · rw [if_neg c] at h0 ⊢
      by_cases c2 : (ms s (K t) (V t) a).1 = 0
      · rw [if_pos c2] at h0 ⊢
        exact ih (t + 1) _ _ (ms_wi h (hV t) c2) h0
      · rw [if_neg c2] at h0
        cases h0
theorem WI_0 {a : sg} (h : ini a) : WI 0 a := by
  obtain ⟨a1, a2, -, -, -, a6⟩ := h
  have p : a.1 12 1 = 0 := a2 1 (by decide)
  refine ⟨⟨by rw [p]; decide, by rw [a1]; decide, fun i hi => ?_⟩, ⟨fun x y hx hy => ?_, fun x hx => ?_, fun x y hx hy n _ => ?_, fun i hi => ?_⟩, fun q => absurd q (by decide), fun q => absurd q (by decide), fun q => absurd q (by decide), fun q => absurd q (by decide)⟩
  · unfold cnt at hi
    rw [a1] at hi
    exact absurd hi (Nat.not_lt_zero i)
  · rw [a6 _ (by omega), a6 _ (by omega)]
    by_cases c : (6 * x + y) % 7 = 0
    · rw [if_pos c, if_pos (by omega)]
    · rw [if_neg c, if_neg (by omega)]
  · rw [a6 _ (by omega), if_pos (by omega)]
  · rw [a6 _ (by omega), if_neg (by omega)]
  · rw [a6 i hi]
    split
    · exact Or.inr (by decide)
    · exact Or.inl rfl
theorem tk_V {b : Nat → Int32} {n : Nat} : ∀ i, tk_K b n i = 16 → 0 ≤ (tk_vl b n (tk_at b n i)).toInt := fun i q => by
  have lt : tk_at b n i < n := by
    rcases Nat.lt_or_ge (tk_at b n i) n with y | y
    · exact y
    · rw [tk_K_21.mpr y] at q
      exact absurd q (by decide)
  have kd : tk_K b n i = tk_kd b n (tk_at b n i) := by unfold tk_K; rw [if_pos lt]
  rw [kd] at q
  obtain ⟨v, v1, v2, -⟩ := in_eq q
  rw [v2]; omega
theorem wt_nv {a : sg} (h : wt a) {i : Nat} (hi : i < 36) : -1 ≤ nv (a.1 13 i) ∧ nv (a.1 13 i) ≤ 1440 := by
  rcases h.2.2.2 i hi with c | c
  · rw [c]; decide
  · unfold nv
    rw [if_neg (by omega)]; omega
theorem wt_WB {a : sg} (h : wt a) : WB 1440 (fun i => nv (a.1 13 i)) := ⟨fun i hi => wt_nv h hi, fun x hx => by
  show nv (a.1 13 (7 * x)) = 0
  rw [h.2.1 x hx]; decide⟩
theorem wt_WS {a : sg} (hn : wn a) (h : wt a) : WS (a.1 12 1).toNatClampNeg (fun i => nv (a.1 13 i)) := by
  have p := kl_nat hn.1.1
  refine ⟨fun x y hx hy => ?_, fun x y hx hy n q => ?_⟩
  · show nv (a.1 13 (6 * x + y)) = nv (a.1 13 (6 * y + x))
    rw [h.1 x y hx hy]
  · show nv (a.1 13 (6 * x + y)) = -1
    rw [h.2.2.1 x y hx hy n (by omega)]; decide
end
section
/-! the class's read: what it answers -/
def RDk (b : Nat → Int32) (n : Nat) (a0 : sg) (r : Int32) (J : sm_I) : Prop := ini a0 ∧ (∀ f j, SY (tk_K b n) 501 0 0 gc0 = some (f, j) → r = f ∧ f ≠ 0 ∧ (J 2 11).toInt = tk_at b n j) ∧ (SY (tk_K b n) 501 0 0 gc0 = none → (∀ f j, (ME (tk_K b n) (fun i => tk_vl b n (tk_at b n i)) 501 0 0 a0).1 = some (f, j) → r = f ∧ f ≠ 0 ∧ (J 2 11).toInt = tk_at b n j) ∧ ((ME (tk_K b n) (fun i => tk_vl b n (tk_at b n i)) 501 0 0 a0).1 = none → r = 0))
-- walks and moves of a Told, out of what is told
def bpA (a : sg) : Prop := ∀ i : Nat, (i : Int) < (a.1 12 2).toInt → a.1 14 i ≠ -1 → 0 ≤ (a.1 15 i).toInt ∧ (a.1 15 i).toInt ≤ 5
def alst (a : sg) : List (Nat × Nat) := mall (mvc (a.1 14) (a.1 15)) (a.1 12 2).toNatClampNeg (a.1 12 2).toNatClampNeg
def wmQ (Q : Nat) (a : sg) (J : sm_I) : Prop := (∀ i, i < 36 → (J (Q + 1) i = -2 ∨ 0 ≤ (J (Q + 1) i).toInt) ∧ nv (J (Q + 1) i) = Ft (a.1 12 1).toNatClampNeg (fun i => nv (a.1 13 i)) i) ∧ (bpA a → (J Q 5).toInt = (((alst a).length : Nat) : Int) ∧ ∀ j, j < (alst a).length → J (Q + 22) j = Int32.ofNat ((alst a).getD j (0, 0)).1 ∧ J (Q + 23) j = Int32.ofNat ((alst a).getD j (0, 0)).2 ∧ J (Q + 24) j = J (Q + 1) (6 * (a.1 15 ((alst a).getD j (0, 0)).1).toNatClampNeg + (a.1 15 ((alst a).getD j (0, 0)).2).toNatClampNeg))
def RDt (Q : Nat) (b : Nat → Int32) (n : Nat) (a0 : sg) (I J : sm_I) : Prop := ko Q I J ∧ (SY (tk_K b n) 501 0 0 gc0 = none → (ME (tk_K b n) (fun i => tk_vl b n (tk_at b n i)) 501 0 0 a0).1 = none → (∀ c j, 12 ≤ c → c < 34 → c ≠ 13 → ¬ (c = 12 ∧ j = 5) → J (c + (Q - 12)) j = (ME (tk_K b n) (fun i => tk_vl b n (tk_at b n i)) 501 0 0 a0).2.1 c j) ∧ (wn (ME (tk_K b n) (fun i => tk_vl b n (tk_at b n i)) 501 0 0 a0).2 ∧ wt (ME (tk_K b n) (fun i => tk_vl b n (tk_at b n i)) 501 0 0 a0).2) ∧ wmQ Q (ME (tk_K b n) (fun i => tk_vl b n (tk_at b n i)) 501 0 0 a0).2 J)
theorem lw_rg {W : en_W} {Q c j : Nat} (h : W.all (fun q => Nat.ble Q q.1 && Nat.blt q.1 (Q + 37)) = true) (hc : c < Q ∨ Q + 37 ≤ c) : en_wok W c j = false := by
  cases e : en_wok W c j with
  | false => rfl
  | true =>
    obtain ⟨q, g1, g2⟩ := List.any_eq_true.mp e
    have e : q.1 = c := Nat.eq_of_beq_eq_true (Bool.and_eq_true_iff.mp g2).1
    obtain ⟨l1, l2⟩ := Bool.and_eq_true_iff.mp (List.all_eq_true.mp h q g1)
    have l1 := Nat.le_of_ble_eq_true l1
    have l2 := Nat.le_of_ble_eq_true l2
    have l2 : q.1 < Q + 37 := l2
    omega
theorem lw_rv {Q c j : Nat} (h : c ≠ 13) : en_wok [(13 + Q, [])] (c + Q) j = false := by
  cases e : en_wok [(13 + Q, [])] (c + Q) j with
  | false => rfl
  | true =>
    obtain ⟨q, g1, g2⟩ := List.any_eq_true.mp e
    have e : q.1 = c + Q := Nat.eq_of_beq_eq_true (Bool.and_eq_true_iff.mp g2).1
    rw [List.mem_singleton.mp g1] at e
    have e : 13 + Q = c + Q := e
    omega
theorem lw_rw {Q c j : Nat} (h : c < 34) (h2 : ¬ (c = 12 ∧ j = 5)) : en_wok [(12 + Q, [5]), (34 + Q, []), (35 + Q, []), (36 + Q, [])] (c + Q) j = false := by
  cases e : en_wok [(12 + Q, [5]), (34 + Q, []), (35 + Q, []), (36 + Q, [])] (c + Q) j with
  | false => rfl
  | true =>
    obtain ⟨q, g1, g2⟩ := List.any_eq_true.mp e
    obtain ⟨g2, g3⟩ := Bool.and_eq_true_iff.mp g2
    have e : q.1 = c + Q := Nat.eq_of_beq_eq_true g2
    rcases List.mem_cons.mp g1 with g | g
    · subst g
      have e : 12 + Q = c + Q := e
      have g3 : (Nat.beq 5 j || false) = true ∨ (Nat.beq j 5 || false) = true := by first | exact Or.inl g3 | exact Or.inr g3
      rcases g3 with g3 | g3
      · rw [Bool.or_false] at g3
        have := Nat.eq_of_beq_eq_true g3
        omega
      · rw [Bool.or_false] at g3
        have := Nat.eq_of_beq_eq_true g3
        omega
    rcases List.mem_cons.mp g with g | g
    · subst g
      have e : 34 + Q = c + Q := e
      omega
    rcases List.mem_cons.mp g with g | g
    · subst g
      have e : 35 + Q = c + Q := e
      omega
    have g := List.mem_singleton.mp g
    subst g
    have e : 36 + Q = c + Q := e
    omega
theorem kpr9 {o : Option Value} (h : en_pr (9, 0, 0) o) : o = none := by
  cases o with
  | none => rfl
  | some v =>
    exfalso
    rcases h with q1 | ⟨q1, -⟩
    · cases v with
      | int r => have q1 : (9 : Nat) = 0 := q1.1; omega
      | long _ => have q1 : (9 : Nat) = 5 := q1; omega
      | null => have q1 : (9 : Nat) = 1 := q1; omega
      | ref p => have q1 : (9 : Nat) = 2 := q1.1; omega
      | float _ => exact q1.elim
      | double _ => exact q1.elim
      | retAddr _ => exact q1.elim
    · have q1 : (9 : Nat) = 3 := q1
      omega
theorem SY_le {K : Nat → Int32} {c : Nat} (hc : K c = 21) : ∀ (m t : Nat) (s : Int32) (g : gc), t ≤ c → ∀ f j, SY K m t s g = some (f, j) → j ≤ c := by
  intro m
  induction m with
  | zero => intro t s g ht f j q; cases q
  | succ m ih =>
    intro t s g ht f j q
    have q : (if gf s (K t) t g = 0 then (if K t = 21 then none else SY K m (t + 1) (fw s (K t)) (gc_st s (K t) g)) else some (gf s (K t) t g, t)) = some (f, j) := q
    by_cases c0 : gf s (K t) t g = 0
    · rw [if_pos c0] at q
      by_cases c1 : K t = 21
      · rw [if_pos c1] at q; cases q
      · rw [if_neg c1] at q
        have : t ≠ c := fun y => c1 (by rw [y]; exact hc)
        exact ih (t + 1) _ _ (by omega) f j q
    · rw [if_neg c0] at q
      have : t = j := congrArg Prod.snd (Option.some.inj q)
      omega
end
