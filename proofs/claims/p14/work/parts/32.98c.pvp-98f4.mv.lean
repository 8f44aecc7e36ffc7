section
/-! tells of the reference, exact: open -/
theorem oy_iff {s : sm_I} {x : Int32} : ∀ k i, oy s x k i = true ↔ ∃ j, i ≤ j ∧ j < i + k ∧ s 18 j = x := by
  intro k
  induction k with
  | zero =>
    intro i
    exact ⟨fun q => absurd (show false = true from q) (by decide), fun ⟨j, j1, j2, _⟩ => by omega⟩
  | succ k ih =>
    intro i
    show (if s 18 i = x then true else oy s x k (i + 1)) = true ↔ _
    by_cases c1 : s 18 i = x
    · rw [if_pos c1]
      exact ⟨fun _ => ⟨i, Nat.le_refl _, by omega, c1⟩, fun _ => rfl⟩
    · rw [if_neg c1, ih (i + 1)]
      refine ⟨fun ⟨j, j1, j2, j3⟩ => ⟨j, by omega, by omega, j3⟩, fun ⟨j, j1, j2, j3⟩ => ⟨j, ?_, by omega, j3⟩⟩
      rcases Nat.lt_or_ge i j with q | q
      · omega
      · have : j = i := by omega
        subst this
        exact absurd j3 c1
theorem is_op_s {x : Int32} {a : sg} {k : Nat} (hx : x.toInt = k) (hk : k < 10) : is_op x a = decide (¬ a.1 18 k = -1) := by
  have c10 : (10 : Int32).toInt = 10 := by decide
  unfold is_op
  rw [if_neg (fun q => by rw [kl_lt, kl_0] at q; omega), if_neg (fun q => by rw [kl_le, c10] at q; omega), tk_nat hx]
/-- the reference's rows of what is open, and the class's -/
theorem rO_18 {s i : Nat} {a : sg} {I : sm_I} (h : rO s a I) (hi : i < 10) : I 135 (10 * s + i) = -1 ↔ a.1 18 i = -1 := by
  rcases h.1 i hi with q | ⟨k, q⟩
  · exact ⟨fun _ => q.2, fun _ => q.1⟩
  · obtain ⟨q1, q2, q3, q4, q5, q6, q7, -⟩ := q
    exact ⟨fun y => by rw [y, show (-1 : Int32).toInt = -1 from by decide] at q3; omega, fun y => absurd y q7⟩
section
variable {K : Nat → Int32} {P : Nat → Nat} {V W : Nat → Int64} {N : Nat → Int32} {c : Nat} {R0 : Option (Int32 × Nat)} {M0 : Option (Int32 × Nat) × sg}
variable {S : sm_C} {d : Nat} {Φ : sm_Z → Prop} {I : sm_I} {L : sm_L} {R : sm_R} {m : mo} {e : eo} {o : Option sg} {l s t : Nat} {g : gc}
theorem PWx_mo {x y : Int32} {u : Nat} (h : PWx P M0 x u I) (hxy : x.toInt ≤ y.toInt) : PWx P M0 y u I := fun z => by
  obtain ⟨h1, j, h2, h3, h4⟩ := h z
  refine ⟨h1, j, h2, h3, ?_⟩
  rcases h4 with h4 | ⟨h4, h5⟩
  · exact Or.inl h4
  · refine Or.inr ⟨h4, fun q => h5 ?_⟩
    rw [kl_lt] at q ⊢
    omega
/-- a name that must be known, the meaning left to the caller -/
theorem x_knownG {so s0 : Int32} (hT : TS K P V W N c) (hm : mkx s0 15 [] = true) (hS : PSm K P W N c R0 m I L) (hE : PEm K P V M0 e I) (hs : ∀ t s g, m = some (t, s, g) → s = s0) (b0 : 0 ≤ (I 107 20).toInt) (b1 : (I 107 20).toInt ≤ 50) (hb : ∀ i, i < cntm I → 0 ≤ (I 117 i).toInt) (hF : ∀ J : sm_I, xfr I J → PSm K P W N c R0 none J L → Φ (some (.int 0), (xLay, J, L, kM R))) (hN : ∀ (J : sm_I) (m' : mo) (t : Nat) (g : gc), xfr I J → PSm K P W N c R0 m' J L → PEm K P V M0 e J → J 107 13 = 0 → m = some (t, s0, g) → t < c → t < 500 → K t = 15 → (I 107 11).toInt = t → m' = some (t + 1, fw s0 15, g) → ((fdm I L (W t) so = -1 → sm_wp sm_P S (d + 2) 213 0 [.ref 107, .int (4 : Int32), .int (I 107 11)] [] (xLay, J, L, (kM R)) (0, 0) (fun z => ∃ (I1 : sm_I) (L2 : sm_L) (R3 : sm_R), z = (none, (xLay, I1, L2, (kM R3))) ∧ Φ (some (.int (fdm I L (W t) so)), (xLay, I1, L2, (kM R3))))) ∧ (¬ fdm I L (W t) so = -1 → Φ (some (.int (fdm I L (W t) so)), (xLay, J, L, kM R))))) : sm_wp sm_P S (d + 3) 154 0 [.ref 107, .int so] [] (xLay, I, L, kM R) (0, 0) Φ := by
  refine u_X12_known_0 (x_must (i := 15) [] hT rfl hS hE (fun t s g em => ⟨by rw [hs t s g em]; exact hm, fun j hj => absurd hj List.not_mem_nil⟩) (fun J m' f p q rel => ⟨J, L, R, rfl, fun z => ?_, fun z => ?_⟩))
  · have z := PS_le0 p z
    rcases rel with rel | ⟨t, s, g, em, c1, c2, ek, b3⟩
    · subst rel; exact absurd z (PS_no p)
    · have es := hs t s g em
      subst es
      have ek : K t = 15 := ek
      have h11 : (I 107 11).toInt = t := by
        have hS' := hS
        rw [em] at hS'
        exact hS'.2.2.2.2.1
      have eW : L 113 t = W t := (hS.1.2 t c1 (by omega)).2
      have ef : fdm J L (W t) so = fdm I L (W t) so := fdm_cg f
      have e20 : J 107 20 = I 107 20 := f 107 20 (by omega)
      have ec : cntm J = cntm I := by unfold cntm; rw [e20]
      exact x_known3 (r := fdm I L (W t) so) (t := t) (by rw [e20]; exact b0) (by rw [e20]; exact b1) h11 (by omega) (fun i hi => by rw [f 117 i (by omega)]; exact hb i (by rw [← ec]; exact hi)) (hN J m' t g f p q z em c1 c2 ek h11 b3) (cntm J) 0 (-1) 0 (by decide) (by omega) (by rw [if_pos rfl, eW]; exact ef)
  · have nz : ¬ J 107 13 = 0 := fun y => z (by rw [y]; decide)
    have := PS_n0 p nz
    subst this
    exact hF J f p
/-- the rest of an open, from its row on -/
theorem x_openE {J : sm_I} {o3 : Option sg} {x2 x4 x5 : Int32} (hT : TS K P V W N c) (hls : ml_ls l s) (hm : en_mem ml_tb mlX (xLay, I, L, R)) (hI : ml_TI l s I) (hG : rG s g I) (hr : (I 134 s).toInt < 4) (f1 : xfr I J) (X1 : PX K P V W N c R0 M0 m o3 J L) (r1 : ∀ t' s' g', m = some (t', s', g') → t < t' ∧ s' = 30 ∧ g' = gc_st 0 10 g) (h5 : x5.toInt = ((240 + 4 * s + (I 134 s).toNatClampNeg : Nat) : Int)) (b2 : m ≠ none → -1 ≤ x2.toInt ∧ x2.toInt ≤ 9) (ho : m ≠ none → ∀ a3, o3 = some a3 → ¬ x2 = -1 ∧ ¬ x4 = -1 ∧ x2.toInt < (I 122 s).toInt ∧ ∃ a, rL K V W s t a I L ∧ a.1 18 x2.toNatClampNeg = -1 ∧ a3 = u2 (u2 (u2 a 2 7 10) 2 8 x2) 2 9 x4) (h : ∀ (J : sm_I) (L' : sm_L), TP K P V W N c R0 M0 s t J L' → Φ (none, (xLay, J, L', kM R))) : (vp_in x5 260) ∧ ∀ I1 : sm_I, I1 = (sm_up J 130 x5.toNatClampNeg x2) → (vp_in x5 260) ∧ ∀ I2 : sm_I, I2 = (sm_up I1 131 x5.toNatClampNeg x4) → sm_wp sm_P S (d + 3) 169 0 [.ref 107, .int (0 : Int32)] [] (xLay, I2, L, (kM R)) (0, 0) (fun z => ∃ (r6 : Int32) (I3 : sm_I) (L4 : sm_L) (R5 : sm_R), z = (some (.int r6), (xLay, I3, L4, (kM R5))) ∧ (vp_in x5 260) ∧ ∀ I7 : sm_I, I7 = (sm_up I3 132 x5.toNatClampNeg r6) → sm_wp sm_P S (d + 3) 169 0 [.ref 107, .int (0 : Int32)] [] (xLay, I7, L4, (kM R5)) (0, 0) (fun z => ∃ (r11 : Int32) (I8 : sm_I) (L9 : sm_L) (R10 : sm_R), z = (some (.int r11), (xLay, I8, L9, (kM R10))) ∧ (vp_in x5 260) ∧ ∀ I12 : sm_I, I12 = (sm_up I8 133 x5.toNatClampNeg r11) → sm_wp sm_P S (d + 3) 165 0 [.ref 107, .int (4 : Int32)] [] (xLay, I12, L9, (kM R10)) (0, 0) (fun z => ∃ (I13 : sm_I) (L14 : sm_L) (R15 : sm_R), z = (none, (xLay, I13, L14, (kM R15))) ∧ (((I13 107 13) ≤ 0 → ((x2 = (-1 : Int32) → (vp_in (I13 107 19) 2) ∧ ∀ n17 : Int32, n17 = ((I13 134 (I13 107 19).toNatClampNeg) + (1 : Int32)) → (vp_in (I13 107 19) 2) ∧ ∀ I18 : sm_I, I18 = (sm_up I13 134 (I13 107 19).toNatClampNeg n17) → Φ (none, (xLay, I18, L14, (kM R15)))) ∧ (¬ x2 = (-1 : Int32) → ∀ n19 : Int32, n19 = (((10 : Int32) * (I13 107 19)) + x2) → (vp_in n19 20) ∧ ∀ I20 : sm_I, I20 = (sm_up I13 135 n19.toNatClampNeg x5) → (vp_in (I20 107 19) 2) ∧ ∀ n21 : Int32, n21 = ((I20 134 (I20 107 19).toNatClampNeg) + (1 : Int32)) → (vp_in (I20 107 19) 2) ∧ ∀ I22 : sm_I, I22 = (sm_up I20 134 (I20 107 19).toNatClampNeg n21) → Φ (none, (xLay, I22, L14, (kM R15)))))) ∧ (¬ (I13 107 13) ≤ 0 → Φ (none, (xLay, I13, L14, (kM R15)))))))) := by
  obtain ⟨hl1, hs1⟩ := ml_l1 hls
  obtain ⟨sn, sv⟩ := ml_sn hls hI
  have bc := ml_cs hs1 hm
  have b34 := x_34 hs1 hm
  have k0 : (((I 134 s).toNatClampNeg : Nat) : Int) = (I 134 s).toInt := kl_nat b34.1
  obtain ⟨i5, hi5⟩ : ∃ i5, i5 = 240 + 4 * s + (I 134 s).toNatClampNeg := ⟨_, rfl⟩
  rw [← hi5] at h5
  have n5 := tk_nat h5
  have v5 : vp_in x5 260 := kl_in (by omega) (by omega)
  rw [n5]
  refine ⟨v5, fun I1 e1 => ⟨v5, fun I2 e2 => ?_⟩⟩
  have X2 : PX K P V W N c R0 M0 m o3 I2 L := by rw [e2, e1]; exact PX_up (by decide) (by omega) (PX_up (by decide) (by omega) X1)
  refine x_numU (s0 := 30) hT (by decide +kernel) (fun r a => u2 a 2 10 r) (fun v a hv => by rw [ms_16 hv]; rfl) X2 (fun t' s' g' em => (r1 t' s' g' em).2.1) (fun r6 I3 m3 o4 f3 X3 r3 => ⟨r6, I3, L, R, rfl, v5, fun I7 e7 => ?_⟩)
  have X7 : PX K P V W N c R0 M0 m3 o4 I7 L := by rw [e7]; exact PX_up (by decide) (by omega) X3
  have m3s : ∀ t' s' g', m3 = some (t', s', g') → t < t' ∧ s' = 5 ∧ g' = gc_st 0 10 g ∧ m ≠ none ∧ (o4 = none ∨ o4 = o3.map (fun a => u2 a 2 10 r6)) := fun t' s' g' em => by
    rcases r3 with r3 | ⟨t2, g2, em2, q2, q3, q4, q5⟩
    · rw [r3] at em; cases em
    · rw [q4] at em
      obtain ⟨y1, y2, y3⟩ := mo_i em
      obtain ⟨z1, z2, z3⟩ := r1 t2 30 g2 em2
      refine ⟨by omega, by rw [← y2]; decide +kernel, by rw [← y3]; exact z3, by rw [em2]; exact Option.some_ne_none _, ?_⟩
      rcases q5 with q5 | ⟨-, -, q5⟩
      · exact Or.inl q5
      · exact Or.inr q5
  refine x_numU (s0 := 5) hT (by decide +kernel) en_po (fun v a hv => by rw [ms_16 hv]; rfl) X7 (fun t' s' g' em => (m3s t' s' g' em).2.1) (fun r11 I8 m8 o8 f8 X8 r8 => ⟨r11, I8, L, R, rfl, v5, fun I12 e12 => ?_⟩)
  have X12 : PX K P V W N c R0 M0 m8 o8 I12 L := by rw [e12]; exact PX_up (by decide) (by omega) X8
  have m8s : ∀ t' s' g', m8 = some (t', s', g') → t < t' ∧ s' = 2 ∧ g' = gc_st 0 10 g ∧ m ≠ none ∧ ∀ a', o8 = some a' → ∃ a3, o3 = some a3 ∧ a' = en_po r11 (u2 a3 2 10 r6) := fun t' s' g' em => by
    rcases r8 with r8 | ⟨t2, g2, em2, q2, q3, q4, q5⟩
    · rw [r8] at em; cases em
    · rw [q4] at em
      obtain ⟨y1, y2, y3⟩ := mo_i em
      obtain ⟨z1, z2, z3, z4, z5⟩ := m3s t2 5 g2 em2
      refine ⟨by omega, by rw [← y2]; decide +kernel, by rw [← y3]; exact z3, z4, fun a' ea => ?_⟩
      rcases q5 with q5 | ⟨-, -, q5⟩
      · rw [q5] at ea; cases ea
      obtain ⟨a4, ea4, ea4'⟩ := om (Or.inr q5) ea
      obtain ⟨a3, ea3, ea3'⟩ := om z5 ea4
      exact ⟨a3, ea3, by rw [ea4', ea3']⟩
  refine x_mustT (i := 17) (s0 := 2) [] hT rfl (by decide +kernel) (fun v a => rfl) X12 (fun t' s' g' em => ⟨(m8s t' s' g' em).2.1, fun j hj => absurd hj List.not_mem_nil⟩) (fun J3 m9 f9 X9 r9 => ⟨J3, L, R, rfl, fun z => ?_, fun z => ?_⟩)
  · have z := PS_le0 X9.1 z
    rcases r9 with r9 | ⟨t3, g3, em3, v1, v2, v3, v4⟩
    · rw [r9] at X9; exact absurd z (PS_no X9.1)
    obtain ⟨y1, y2, y3, y4, y5⟩ := m8s t3 2 g3 em3
    have e4 : fw 2 (Int32.ofNat 17) = 0 := by decide +kernel
    have ft : ∀ p j, ¬ (130 ≤ p ∧ p ≤ 133 ∧ j = i5) → ¬ (p = 107 ∧ (j = 11 ∨ j = 13 ∨ j = 14 ∨ j = 15 ∨ j = 16)) → J3 p j = I p j := fun p j p1 p2 => by rw [f9 p j p2, e12, en_up_ne _ _ _ _ (by omega), f8 p j p2, e7, en_up_ne _ _ _ _ (by omega), f3 p j p2, e2, en_up_ne _ _ _ _ (by omega), e1, en_up_ne _ _ _ _ (by omega), f1 p j p2]
    have k130 : J3 130 i5 = x2 := by rw [f9 130 _ (by omega), e12, en_up_ne _ _ _ _ (by omega), f8 130 _ (by omega), e7, en_up_ne _ _ _ _ (by omega), f3 130 _ (by omega), e2, en_up_ne _ _ _ _ (by omega), e1, en_up_eq]
    have k131 : J3 131 i5 = x4 := by rw [f9 131 _ (by omega), e12, en_up_ne _ _ _ _ (by omega), f8 131 _ (by omega), e7, en_up_ne _ _ _ _ (by omega), f3 131 _ (by omega), e2, en_up_eq]
    have k132 : J3 132 i5 = r6 := by rw [f9 132 _ (by omega), e12, en_up_ne _ _ _ _ (by omega), f8 132 _ (by omega), e7, en_up_eq]
    have k133 : J3 133 i5 = r11 := by rw [f9 133 _ (by omega), e12, en_up_eq]
    have g19 : J3 107 19 = I 107 19 := ft 107 19 (by omega) (by omega)
    have g20 : J3 107 20 = I 107 20 := ft 107 20 (by omega) (by omega)
    have g134 : J3 134 s = I 134 s := ft 134 s (by omega) (by omega)
    have b2 := b2 y4
    -- counts
    have cG : ∀ J7 : sm_I, (∀ p j, p ≠ 135 → ¬ (p = 134 ∧ j = s) → J7 p j = J3 p j) → J7 134 s = I 134 s + 1 → rG s g3 J7 := fun J7 o7 r7 => by
      have o7' : ∀ p j, p ≠ 107 → p ≠ 135 → ¬ (p = 134 ∧ j = s) → ¬ (130 ≤ p ∧ p ≤ 133 ∧ j = i5) → J7 p j = I p j := fun p j p0 p1 p2 p3 => by rw [o7 p j p1 p2]; exact ft p j p3 (by omega)
      have r7i : (J7 134 s).toInt = (I 134 s).toInt + 1 := by rw [r7]; exact ml_in1 (by omega)
      rw [y3]
      unfold rG
      obtain ⟨G1, G2, G3, G4, G5, G6, G7⟩ := hG
      refine ⟨?_, ?_, ?_, ?_, ?_, ?_, ?_⟩
      · rw [o7' 118 s (by decide) (by decide) (by omega) (by omega), gc0_t (by decide), if_neg (by decide)]; exact G1
      · rw [o7' 119 s (by decide) (by decide) (by omega) (by omega), gc0_t (by decide), if_neg (by decide)]; exact G2
      · rw [o7' 120 s (by decide) (by decide) (by omega) (by omega), gc0_t (by decide), if_neg (by decide)]; exact G3
      · rw [o7' 122 s (by decide) (by decide) (by omega) (by omega), gc0_t (by decide), if_neg (by decide)]; exact G4
      · rw [o7' 125 s (by decide) (by decide) (by omega) (by omega), gc0_t (by decide), if_neg (by decide)]; exact G5
      · rw [r7i, gc0_t (by decide), if_pos (by decide)]; omega
      · rw [o7' 136 s (by decide) (by decide) (by omega) (by omega), gc0_t (by decide), if_neg (by decide)]; exact G7
    refine ⟨fun q => ?_, fun q n19 e19 => ?_⟩
    · rw [g19, sn]
      refine ⟨sv, fun n17 e17 => ⟨sv, fun J7 e7' => h J7 L ⟨m9, o8, ?_, Or.inr ⟨t3 + 1, g3, by rw [v4, e4], by omega, cG J7 (fun p j p1 p2 => by rw [e7', en_up_ne _ _ _ _ p2]) (by rw [e7', en_up_eq, e17, g134]), fun a' ea => ?_⟩⟩⟩⟩
      · rw [e7']; exact PX_up (by decide) (by omega) X9
      · obtain ⟨a3, ea3, -⟩ := y5 a' ea
        exact absurd q (ho y4 a3 ea3).1
    · have d2 := ml_m1 q
      have q10 : ((10 : Int32) * (I 107 19)).toInt = 10 * (s : Int) := ml_mu (by decide) hI.2.1 (by omega) (by omega)
      rw [g19] at e19
      obtain ⟨x0, hx0⟩ : ∃ x0 : Nat, x2.toInt = x0 := ⟨x2.toNatClampNeg, (kl_nat (by omega)).symm⟩
      have x0n := tk_nat hx0
      have q19 : n19.toInt = ((10 * s + x0 : Nat) : Int) := by rw [e19, ml_ad q10 rfl (by omega) (by omega)]; omega
      have n19n := tk_nat q19
      refine ⟨kl_in (by omega) (by omega), fun J20 e20 => ?_⟩
      rw [n19n] at e20
      have s20 : J20 107 19 = I 107 19 := by rw [e20, en_up_ne _ _ _ _ (by omega)]; exact g19
      rw [s20, sn]
      refine ⟨sv, fun n21 e21 => ⟨sv, fun J7 e7' => ?_⟩⟩
      have o7 : ∀ p j, ¬ (p = 135 ∧ j = 10 * s + x0) → ¬ (p = 134 ∧ j = s) → J7 p j = J3 p j := fun p j p1 p2 => by rw [e7', en_up_ne _ _ _ _ p2, e20, en_up_ne _ _ _ _ p1]
      have r7 : J7 134 s = I 134 s + 1 := by rw [e7', en_up_eq, e21, e20, en_up_ne _ _ _ _ (by omega), g134]
      have r7i : (J7 134 s).toInt = (I 134 s).toInt + 1 := by rw [r7]; exact ml_in1 (by omega)
      have k135 : J7 135 (10 * s + x0) = x5 := by rw [e7', en_up_ne _ _ _ _ (by omega), e20, en_up_eq]
      refine h J7 L ⟨m9, o8, ?_, Or.inr ⟨t3 + 1, g3, by rw [v4, e4], by omega, cG J7 (fun p j p1 p2 => o7 p j (by omega) p2) r7, fun a' ea => ?_⟩⟩
      · rw [e7', e20]; exact PX_up (by decide) (by omega) (PX_up (by decide) (by omega) X9)
      · obtain ⟨a3, ea3, ea'⟩ := y5 a' ea
        obtain ⟨n1, n2, lt, a, RL, a18, ea4⟩ := ho y4 a3 ea3
        subst ea4
        rw [x0n] at a18
        have d4 := ml_m1 n2
        have b7 : (u2 (u2 (u2 (u2 a 2 7 10) 2 8 x2) 2 9 x4) 2 10 r6).1 2 7 = 10 := by rw [u2_ne _ _ _ _ (by omega), u2_ne _ _ _ _ (by omega), u2_ne _ _ _ _ (by omega), u2_eq]
        have b8 : (u2 (u2 (u2 (u2 a 2 7 10) 2 8 x2) 2 9 x4) 2 10 r6).1 2 8 = x2 := by rw [u2_ne _ _ _ _ (by omega), u2_ne _ _ _ _ (by omega), u2_eq]
        have b9 : (u2 (u2 (u2 (u2 a 2 7 10) 2 8 x2) 2 9 x4) 2 10 r6).1 2 9 = x4 := by rw [u2_ne _ _ _ _ (by omega), u2_eq]
        have b10 : (u2 (u2 (u2 (u2 a 2 7 10) 2 8 x2) 2 9 x4) 2 10 r6).1 2 10 = r6 := u2_eq _ _ _ _
        have es : a' = spb 16 10 x2 x2 x4 r6 r11 (u2 (u2 (u2 (u2 a 2 7 10) 2 8 x2) 2 9 x4) 2 10 r6) := by
          rw [ea']
          unfold en_po
          rw [b7, if_neg (by decide), b8, b9, b10]
        have B : ∀ p j, p ≠ 2 → ¬ (17 ≤ p ∧ p ≤ 20 ∧ j = x0) → a'.1 p j = a.1 p j := fun p j p1 p2 => by rw [es, spb_o (by rw [x0n]; omega), u2_ne _ _ _ _ (by omega), u2_ne _ _ _ _ (by omega), u2_ne _ _ _ _ (by omega), u2_ne _ _ _ _ (by omega)]
        have SI := spb_i (cc := 16) (n := 10) (x := x2) (y := x4) (lo := r6) (hi := r11) (a := u2 (u2 (u2 (u2 a 2 7 10) 2 8 x2) 2 9 x4) 2 10 r6) hx0 (by omega) (by omega)
        rw [← es] at SI
        have o7I : ∀ p j, p ≠ 107 → ¬ (p = 135 ∧ j = 10 * s + x0) → ¬ (p = 134 ∧ j = s) → ¬ (130 ≤ p ∧ p ≤ 133 ∧ j = i5) → J7 p j = I p j := fun p j p0 p1 p2 p3 => by rw [o7 p j p1 p2]; exact ft p j p3 (by omega)
        have ec : J7 107 20 = I 107 20 := by rw [o7 107 20 (by omega) (by omega)]; exact g20
        obtain ⟨⟨R5, RN⟩, RC, RT, RO, RW, RS, RQ, RB⟩ := RL
        have ex2 : x2 = Int32.ofNat x0 := en_ofI (by rw [hx0, Int32.toInt_ofNat_of_lt (by omega)])
        have new : rO1 s x0 (I 134 s).toNatClampNeg a' J7 := by
          refine ⟨by rw [r7i]; omega, by rw [o7I 122 s (by decide) (by omega) (by omega) (by omega)]; omega, by rw [k135, h5, hi5], ?_, ?_, ?_, ?_, ?_, ?_⟩
          · rw [← hi5, o7 130 _ (by omega) (by omega), k130]; exact ex2
          · rw [SI.1]; exact ex2
          · rw [← hi5, o7 131 _ (by omega) (by omega), k131]; exact SI.2.1
          · rw [SI.2.1]; exact n2
          · rw [← hi5, o7 132 _ (by omega) (by omega), k132]; exact SI.2.2.1
          · rw [← hi5, o7 133 _ (by omega) (by omega), k133]; exact SI.2.2.2
        have old : ∀ i k, i < 10 → i ≠ x0 → rO1 s i k a I → rO1 s i k a' J7 := fun i k hi hne q => rO1_cg q b34.2 (fun c' c1 c2 => B c' i (by omega) (by omega)) (by rw [r7i]; omega) (by rw [o7I 122 s (by decide) (by omega) (by omega) (by omega)]; exact Int.le_refl _) (o7I 135 _ (by decide) (by omega) (by omega) (by omega)) (fun p j p1 p2 j1 j2 => o7I p j (by omega) (by omega) (by omega) (by omega))
        refine ⟨⟨?_, ?_⟩, ?_, ?_, ?_, ?_, ?_, ?_, ?_⟩
        · rw [es, spb_o (by omega), u2_ne _ _ _ _ (by omega), u2_ne _ _ _ _ (by omega), u2_ne _ _ _ _ (by omega), u2_ne _ _ _ _ (by omega), ec]; exact R5
        · have : cntm J7 = cntm I := by unfold cntm; rw [ec]
          rw [this]
          exact rN_cg RN (t3 + 1) (by omega) (fun i _ => ⟨by rw [es, spb_2]; rfl, B 10 i (by decide) (by omega), B 11 i (by decide) (by omega)⟩) (fun i _ => ⟨rfl, o7I 116 i (by decide) (by omega) (by omega) (by omega), o7I 117 i (by decide) (by omega) (by omega) (by omega)⟩)
        · unfold rC
          rw [B 12 0 (by decide) (by omega), B 12 1 (by decide) (by omega), B 12 2 (by decide) (by omega), B 12 3 (by decide) (by omega), B 12 4 (by decide) (by omega), o7I 118 s (by decide) (by omega) (by omega) (by omega), o7I 119 s (by decide) (by omega) (by omega) (by omega), o7I 122 s (by decide) (by omega) (by omega) (by omega), o7I 125 s (by decide) (by omega) (by omega) (by omega), o7I 136 s (by decide) (by omega) (by omega) (by omega)]
          exact RC
        · exact rT_cg RT (fun c' j hc => B c' j (by omega) (by omega)) (fun p j hp => o7I p j (by omega) (by omega) (by omega) (by omega))
        · refine ⟨fun i hi => ?_, fun k hk => ?_⟩
          · by_cases ci : i = x0
            · subst ci; exact Or.inr ⟨_, new⟩
            · rcases RO.1 i hi with q' | ⟨k, q'⟩
              · left
                rw [o7I 135 _ (by decide) (by omega) (by omega) (by omega), B 18 i (by decide) (by omega)]; exact q'
              · exact Or.inr ⟨k, old i k hi ci q'⟩
          · rw [r7i] at hk
            by_cases ck : k = (I 134 s).toNatClampNeg
            · rw [ck]; exact ⟨x0, by omega, new⟩
            · obtain ⟨i, hi, q'⟩ := RO.2 k (by omega)
              refine ⟨i, hi, old i k hi (fun y => ?_) q'⟩
              obtain ⟨-, -, -, -, -, -, w7, -⟩ := q'
              rw [y] at w7
              exact w7 a18
        · exact rW_cg RW (fun j => B 13 j (by decide) (by omega)) (fun j => o7I 121 j (by decide) (by omega) (by omega) (by omega))
        · exact rS_cg RS bc.2.2.2.1.2 hs1 (fun c' j hc => B c' j (by omega) (by omega)) (fun p j hp => o7I p j (by omega) (by omega) (by omega) (by omega))
        · exact rQ_cg RQ (fun c' j h1 h2 => B c' j (by omega) (by omega)) (fun p j hp => o7I p j (by omega) (by omega) (by omega) (by omega))
        · exact rB_cg RB ec (fun i _ => ⟨o7I 116 i (by decide) (by omega) (by omega) (by omega), o7I 117 i (by decide) (by omega) (by omega) (by omega)⟩) (by rw [o7I 122 s (by decide) (by omega) (by omega) (by omega)]; exact Int.le_refl _)
  · have nz : ¬ J3 107 13 = 0 := fun y => z (by rw [y]; decide)
    have em := PS_n0 X9.1 nz
    exact h J3 L ⟨m9, o8, X9, Or.inl em⟩
end
end
section
/-! tells of the reference, exact: open, its checks -/
section
variable {K : Nat → Int32} {P : Nat → Nat} {V W : Nat → Int64} {N : Nat → Int32} {c : Nat} {R0 : Option (Int32 × Nat)} {M0 : Option (Int32 × Nat) × sg}
variable {S : sm_C} {d : Nat} {Φ : sm_Z → Prop} {I : sm_I} {L : sm_L} {R : sm_R} {m : mo} {e : eo} {o : Option sg} {l s t : Nat} {g : gc}
/-- what is meant when both TIMES of an open are read and nothing is wrong with the first -/
def opN (K : Nat → Int32) (P : Nat → Nat) (V W : Nat → Int64) (M0 : Option (Int32 × Nat) × sg) (s t t3 : Nat) (x2 x4 : Int32) (a : sg) (I : sm_I) (L : sm_L) (J : sm_I) : Prop := rL K V W s t a I L ∧ ¬ x2 = -1 ∧ ¬ x4 = -1 ∧ x2.toInt < (I 122 s).toInt ∧ a.1 18 x2.toNatClampNeg = -1 ∧ fd (u2 (u2 a 2 7 10) 2 8 x2) (V t3) 3 = x4 ∧ PEm K P V M0 (t3, some (29, u2 (u2 a 2 7 10) 2 8 x2)) J
theorem op29 {a : sg} {x2 x4 : Int32} {v : Int64} {k4 : Nat} (hf : fd (u2 (u2 a 2 7 10) 2 8 x2) v 3 = x4) (n4 : ¬ x4 = -1) (h4 : x4.toInt = k4) (k9 : k4 < 10) : ms 29 15 v (u2 (u2 a 2 7 10) 2 8 x2) = (if x2 = x4 then 5 else if ¬ a.1 18 k4 = -1 then 5 else if oy a.1 x2 (a.1 12 2).toNatClampNeg 0 = true then 5 else 0, u2 (u2 (u2 a 2 7 10) 2 8 x2) 2 9 x4) := by
  have k8 : (u2 (u2 a 2 7 10) 2 8 x2).1 2 8 = x2 := u2_eq _ _ _ _
  have ko : ∀ p j, p ≠ 2 → (u2 (u2 a 2 7 10) 2 8 x2).1 p j = a.1 p j := fun p j hp => by rw [u2_ne _ _ _ _ (by omega), u2_ne _ _ _ _ (by omega)]
  have ey : ∀ k i, oy (u2 (u2 a 2 7 10) 2 8 x2).1 x2 k i = oy a.1 x2 k i := by
    intro k
    induction k with
    | zero => intro i; rfl
    | succ k ih =>
      intro i
      show (if (u2 (u2 a 2 7 10) 2 8 x2).1 18 i = x2 then true else oy (u2 (u2 a 2 7 10) 2 8 x2).1 x2 k (i + 1)) = (if a.1 18 i = x2 then true else oy a.1 x2 k (i + 1))
      rw [ih, ko 18 i (by decide)]
  rw [ms_15]
  show tk_open 29 v (u2 (u2 a 2 7 10) 2 8 x2) = _
  unfold tk_open
  rw [hf, if_neg n4, if_neg (by decide), k8, is_op_s h4 k9, ko 18 _ (by decide), ey, ko 12 2 (by decide)]
  by_cases c1 : x2 = x4
  · rw [if_pos c1, if_pos c1]
  · rw [if_neg c1, if_neg c1]
    by_cases c2 : a.1 18 k4 = -1
    · rw [show decide (¬ a.1 18 k4 = -1) = false from decide_eq_false (fun y => y c2), if_neg (show ¬ (false = true) by decide), if_neg (show ¬ ¬ a.1 18 k4 = -1 from fun y => y c2)]
    · rw [show decide (¬ a.1 18 k4 = -1) = true from decide_eq_true c2, if_pos rfl, if_pos (show ¬ a.1 18 k4 = -1 from c2)]
theorem x_open13 {x2 x3 x4 x5 : Int32} {t3 : Nat} {g1 : gc} (hT : TS K P V W N c) (hls : ml_ls l s) (hm : en_mem ml_tb mlX (xLay, I, L, R)) (hI : ml_TI l s I) (hG : rG s g I) (hr : (I 134 s).toInt < 4) (t3c : t3 < c) (t35 : t3 < 500) (tt : t < t3) (k3 : K t3 = 15) (h3 : x3.toInt = t3) (r1 : ∀ t' s' g', m = some (t', s', g') → t' = t3 + 1 ∧ s' = 30 ∧ g' = gc_st 0 10 g) (h5 : x5.toInt = ((240 + 4 * s + (I 134 s).toNatClampNeg : Nat) : Int)) (b2 : -1 ≤ x2.toInt ∧ x2.toInt ≤ 9) (b4 : -1 ≤ x4.toInt ∧ x4.toInt ≤ 9) (h : ∀ (J : sm_I) (L' : sm_L), TP K P V W N c R0 M0 s t J L' → Φ (none, (xLay, J, L', kM R))) : ∀ (f k : Nat) (J : sm_I) (x6 : Int32), x6.toInt = ((240 + 4 * s + k : Nat) : Int) → k + f = (I 134 s).toNatClampNeg → xfr I J → PSm K P W N c R0 m J L → (PWx P M0 5 t3 J ∨ ∃ a, opN K P V W M0 s t t3 x2 x4 a I L J ∧ ¬ x2 = x4 ∧ a.1 18 x4.toNatClampNeg = -1 ∧ ∀ k', k' < k → ¬ I 131 (240 + 4 * s + k') = x2) → sm_wp sm_P S (d + 4) 198 13 [.ref 107, .int x2, .int x3, .int x4, .int x5, .int x6] [] (xLay, J, L, kM R) (0, 0) Φ := by
  obtain ⟨hl1, hs1⟩ := ml_l1 hls
  have b34 := x_34 hs1 hm
  have bc := ml_cs hs1 hm
  have k0 : (((I 134 s).toNatClampNeg : Nat) : Int) = (I 134 s).toInt := kl_nat b34.1
  have n21 := hT.2.2.2.1 t3 t3c
  have n3 := tk_nat h3
  have r1' : ∀ t' s' g', m = some (t', s', g') → t < t' ∧ s' = 30 ∧ g' = gc_st 0 10 g := fun t' s' g' em => by
    obtain ⟨y1, y2, y3⟩ := r1 t' s' g' em
    exact ⟨by omega, y2, y3⟩
  -- a fault is known, of the grammar or of the meaning
  have endW : ∀ J : sm_I, xfr I J → PSm K P W N c R0 m J L → PWx P M0 5 t3 J → PX K P V W N c R0 M0 m none J L := fun J fJ pJ w => ⟨pJ, by
    cases em : m with
    | none => trivial
    | some q =>
      obtain ⟨t', s', g'⟩ := q
      obtain ⟨y1, -⟩ := r1 t' s' g' em
      rw [y1]
      exact PW_e w⟩
  have fin : ∀ J : sm_I, xfr I J → PSm K P W N c R0 m J L → (PWx P M0 5 t3 J ∨ ∃ a, opN K P V W M0 s t t3 x2 x4 a I L J ∧ ¬ x2 = x4 ∧ a.1 18 x4.toNatClampNeg = -1 ∧ ∀ k', k' < (I 134 s).toNatClampNeg → ¬ I 131 (240 + 4 * s + k') = x2) → ∃ o3, PX K P V W N c R0 M0 m o3 J L ∧ (m ≠ none → ∀ a3, o3 = some a3 → ¬ x2 = -1 ∧ ¬ x4 = -1 ∧ x2.toInt < (I 122 s).toInt ∧ ∃ a, rL K V W s t a I L ∧ a.1 18 x2.toNatClampNeg = -1 ∧ a3 = u2 (u2 (u2 a 2 7 10) 2 8 x2) 2 9 x4) := by
    intro J fJ pJ hz
    rcases hz with w | ⟨a, ⟨RL, N1, N2, N3, N4, N5, N6⟩, M1, M2, M3⟩
    · exact ⟨none, endW J fJ pJ w, fun _ a3 ea => by cases ea⟩
    · have d4 := ml_m1 N2
      obtain ⟨q4, hq4⟩ : ∃ q4 : Nat, x4.toInt = q4 := ⟨x4.toNatClampNeg, (kl_nat (by omega)).symm⟩
      rw [tk_nat hq4] at M2
      have ny : oy a.1 x2 (a.1 12 2).toNatClampNeg 0 = false := by
        cases eo : oy a.1 x2 (a.1 12 2).toNatClampNeg 0 with
        | false => rfl
        | true =>
          exfalso
          obtain ⟨j, -, j2, j3⟩ := (oy_iff _ _).mp eo
          have e12 : a.1 12 2 = I 122 s := RL.2.1.2.2.1
          have nt := kl_nat bc.2.2.1.1
          rw [e12] at j2
          rcases RL.2.2.2.1.1 j (by omega) with q | ⟨k', q⟩
          · rw [q.2] at j3; exact N1 j3.symm
          · obtain ⟨w1, -, -, -, -, w6, -⟩ := q
            rw [w6] at j3
            exact M3 k' (by omega) j3
      have em : ms 29 (K t3) (V t3) (u2 (u2 a 2 7 10) 2 8 x2) = (0, u2 (u2 (u2 a 2 7 10) 2 8 x2) 2 9 x4) := by
        rw [k3, op29 N5 N2 hq4 (by omega), if_neg M1, if_neg (fun y => y M2), ny]; rfl
      refine ⟨some (u2 (u2 (u2 a 2 7 10) 2 8 x2) 2 9 x4), ⟨pJ, ?_⟩, fun _ a3 ea => ⟨N1, N2, N3, a, RL, N4, (Option.some.inj ea).symm⟩⟩
      cases emm : m with
      | none => trivial
      | some q =>
        obtain ⟨t', s', g'⟩ := q
        obtain ⟨y1, y2, -⟩ := r1 t' s' g' emm
        have st := PE_st (by omega) n21 em N6
        rw [k3] at st
        rw [y1, y2]
        exact st
  intro f
  induction f with
  | zero =>
    intro k J x6 h6 hk fJ pJ hz
    have ek : k = (I 134 s).toNatClampNeg := by omega
    rw [ek] at hz
    obtain ⟨o3, XJ, ho⟩ := fin J fJ pJ hz
    refine u_X12_tellOpen_13 ⟨fun _ => x_openE hT hls hm hI hG hr fJ XJ r1' h5 (fun _ => b2) ho h, fun q => ?_⟩
    have := kl_nle q
    omega
  | succ f ih =>
    intro k J x6 h6 hk fJ pJ hz
    have s6 := ml_in1 (x := x6) (by omega)
    have n6 := tk_nat h6
    refine u_X12_tellOpen_13 ⟨fun q => ?_, fun _ => ⟨fun z => ⟨fun q => ?_, fun q => ⟨kl_in (by omega) (by omega), fun c1 => ?_, fun c1 => ?_⟩⟩, fun z => ?_⟩⟩
    · have := kl_le.mp q
      omega
    · rcases hz with w | ⟨a, ⟨RL, N1, -⟩, -⟩
      · exact x_openE hT hls hm hI hG hr fJ (endW J fJ pJ w) r1' h5 (fun _ => b2) (fun _ a3 ea => by cases ea) h
      · exact absurd q N1
    · rw [n6, fJ 131 _ (by omega)] at c1
      refine x_wrong (M0 := M0) (t := t3) hT (by decide) h3 (by omega) (by omega) pJ (fun _ => ?_) (fun H fH _ pH wH => ⟨H, L, R, rfl, ih (k + 1) H _ (by omega) (by omega) (xfr_tr fJ fH) pH (Or.inl wH)⟩)
      rcases hz with w | ⟨a, ⟨RL, N1, N2, N3, N4, N5, N6⟩, M1, M2, M3⟩
      · exact Or.inl (w z)
      · obtain ⟨pe1, pe2⟩ := N6 z
        have d4 := ml_m1 N2
        obtain ⟨q4, hq4⟩ : ∃ q4 : Nat, x4.toInt = q4 := ⟨x4.toNatClampNeg, (kl_nat (by omega)).symm⟩
        rw [tk_nat hq4] at M2
        have yy : oy a.1 x2 (a.1 12 2).toNatClampNeg 0 = true := by
          obtain ⟨i, hi, w1, w2, w3, w4, w5, w6, -⟩ := RL.2.2.2.1.2 k (by omega)
          have e12 : a.1 12 2 = I 122 s := RL.2.1.2.2.1
          have nt := kl_nat bc.2.2.1.1
          exact (oy_iff _ _).mpr ⟨i, Nat.zero_le _, by rw [e12]; omega, by rw [w6]; exact c1⟩
        refine Or.inr ⟨Or.inl pe1, ME_f (s := 29) (a := u2 (u2 a 2 7 10) 2 8 x2) (a' := u2 (u2 (u2 a 2 7 10) 2 8 x2) 2 9 x4) (by omega) n21 ?_ (by decide) pe2⟩
        rw [k3, op29 N5 N2 hq4 (by omega), if_neg M1, if_neg (fun y => y M2), if_pos yy]
    · rw [n6, fJ 131 _ (by omega)] at c1
      refine ih (k + 1) J _ (by omega) (by omega) fJ pJ ?_
      rcases hz with w | ⟨a, N0, M1, M2, M3⟩
      · exact Or.inl w
      · refine Or.inr ⟨a, N0, M1, M2, fun k' hk' => ?_⟩
        by_cases ck : k' = k
        · rw [ck]; exact c1
        · exact M3 k' (by omega)
    · have em := PS_n0 pJ z
      subst em
      exact x_openE (o3 := none) hT hls hm hI hG hr fJ (PX_F pJ) r1' h5 (fun _ => b2) (fun y => absurd rfl y) h
theorem x_open7 {x2 x3 x4 x5 : Int32} {t3 : Nat} {g1 : gc} {J : sm_I} (hT : TS K P V W N c) (hls : ml_ls l s) (hm : en_mem ml_tb mlX (xLay, I, L, R)) (hI : ml_TI l s I) (hG : rG s g I) (hr : (I 134 s).toInt < 4) (t3c : t3 < c) (t35 : t3 < 500) (tt : t < t3) (k3 : K t3 = 15) (h3 : x3.toInt = t3) (r1 : ∀ t' s' g', m = some (t', s', g') → t' = t3 + 1 ∧ s' = 30 ∧ g' = gc_st 0 10 g) (h5 : x5.toInt = ((240 + 4 * s + (I 134 s).toNatClampNeg : Nat) : Int)) (b2 : -1 ≤ x2.toInt ∧ x2.toInt ≤ 9) (b4 : -1 ≤ x4.toInt ∧ x4.toInt ≤ 9) (fJ : xfr I J) (pJ : PSm K P W N c R0 m J L) (hz : PWx P M0 5 t3 J ∨ ∃ a, opN K P V W M0 s t t3 x2 x4 a I L J) (h : ∀ (J : sm_I) (L' : sm_L), TP K P V W N c R0 M0 s t J L' → Φ (none, (xLay, J, L', kM R))) : sm_wp sm_P S (d + 4) 198 7 [.ref 107, .int x2, .int x3, .int x4, .int x5] [] (xLay, J, L, kM R) (0, 0) Φ := by
  obtain ⟨hl1, hs1⟩ := ml_l1 hls
  have b34 := x_34 hs1 hm
  have k0 : (((I 134 s).toNatClampNeg : Nat) : Int) = (I 134 s).toInt := kl_nat b34.1
  have n21 := hT.2.2.2.1 t3 t3c
  have q4s : ((4 : Int32) * (I 107 19)).toInt = 4 * (s : Int) := ml_mu (by decide) hI.2.1 (by omega) (by omega)
  have q10 : ((10 : Int32) * (I 107 19)).toInt = 10 * (s : Int) := ml_mu (by decide) hI.2.1 (by omega) (by omega)
  have go : ∀ H : sm_I, xfr I H → PSm K P W N c R0 m H L → (PWx P M0 5 t3 H ∨ ∃ a, opN K P V W M0 s t t3 x2 x4 a I L H ∧ ¬ x2 = x4 ∧ a.1 18 x4.toNatClampNeg = -1) → sm_wp sm_P S (d + 4) 198 12 [.ref 107, .int x2, .int x3, .int x4, .int x5] [] (xLay, H, L, kM R) (0, 0) Φ := by
    intro H fH pH zH
    refine u_X12_tellOpen_12 (fun n1 e1 => ?_)
    have e19 : H 107 19 = I 107 19 := fH 107 19 (by omega)
    have q1 : n1.toInt = ((240 + 4 * s + 0 : Nat) : Int) := by rw [e1, e19, ml_ad (by decide : (240 : Int32).toInt = 240) q4s (by omega) (by omega)]; omega
    refine x_open13 (g1 := g1) hT hls hm hI hG hr t3c t35 tt k3 h3 r1 h5 b2 b4 h (I 134 s).toNatClampNeg 0 H n1 q1 (by omega) fH pH ?_
    rcases zH with w | ⟨a, w1, w2, w3⟩
    · exact Or.inl w
    · exact Or.inr ⟨a, w1, w2, w3, fun k' hk' => absurd hk' (Nat.not_lt_zero k')⟩
  have wr : J 107 13 = 0 → (∀ a, opN K P V W M0 s t t3 x2 x4 a I L J → (ms 29 15 (V t3) (u2 (u2 a 2 7 10) 2 8 x2)).1 = 5) → sm_wp sm_P S (d + 3) 213 0 [.ref 107, .int (5 : Int32), .int x3] [] (xLay, J, L, (kM R)) (0, 0) (fun z => ∃ (I1 : sm_I) (L2 : sm_L) (R3 : sm_R), z = (none, (xLay, I1, L2, (kM R3))) ∧ sm_wp sm_P S (d + 4) 198 12 [.ref 107, .int x2, .int x3, .int x4, .int x5] [] (xLay, I1, L2, (kM R3)) (0, 0) Φ) := by
    intro z hbad
    refine x_wrong (M0 := M0) (t := t3) hT (by decide) h3 (by omega) (by omega) pJ (fun _ => ?_) (fun H fH _ pH wH => ⟨H, L, R, rfl, go H (xfr_tr fJ fH) pH (Or.inl wH)⟩)
    rcases hz with w | ⟨a, N0⟩
    · exact Or.inl (w z)
    · obtain ⟨pe1, pe2⟩ := N0.2.2.2.2.2.2 z
      refine Or.inr ⟨Or.inl pe1, ME_f (s := 29) (a := u2 (u2 a 2 7 10) 2 8 x2) (f := 5) (a' := (ms 29 15 (V t3) (u2 (u2 a 2 7 10) 2 8 x2)).2) (by omega) n21 ?_ (by decide) pe2⟩
      rw [k3]
      exact Prod.ext (hbad a N0) rfl
  have e19 : J 107 19 = I 107 19 := fJ 107 19 (by omega)
  refine u_X12_tellOpen_7 ⟨fun z => ⟨fun q => ?_, fun q => ⟨fun q2 => wr z (fun a N0 => ?_), fun q2 n6 e6 => ?_⟩⟩, fun z => ?_⟩
  · refine go J fJ pJ ?_
    rcases hz with w | ⟨a, N0⟩
    · exact Or.inl w
    · exact absurd q N0.2.2.1
  · have d4 := ml_m1 q
    obtain ⟨q4, hq4⟩ : ∃ q4 : Nat, x4.toInt = q4 := ⟨x4.toNatClampNeg, (kl_nat (by omega)).symm⟩
    rw [op29 N0.2.2.2.2.2.1 q hq4 (by omega), if_pos q2.symm]
  · have d4 := ml_m1 q
    obtain ⟨q4, hq4⟩ : ∃ q4 : Nat, x4.toInt = q4 := ⟨x4.toNatClampNeg, (kl_nat (by omega)).symm⟩
    have nq4 := tk_nat hq4
    rw [e19] at e6
    have q6 : n6.toInt = ((10 * s + q4 : Nat) : Int) := by rw [e6, ml_ad q10 rfl (by omega) (by omega)]; omega
    have n6n := tk_nat q6
    rw [n6n, fJ 135 _ (by omega)]
    refine ⟨kl_in (by omega) (by omega), fun c1 => go J fJ pJ ?_, fun c1 => wr z (fun a N0 => ?_)⟩
    · rcases hz with w | ⟨a, N0⟩
      · exact Or.inl w
      · exact Or.inr ⟨a, N0, fun y => q2 y.symm, by rw [nq4]; exact (rO_18 N0.1.2.2.2.1 (by omega)).mp c1⟩
    · have n18 : ¬ a.1 18 q4 = -1 := fun y => c1 ((rO_18 N0.1.2.2.2.1 (by omega)).mpr y)
      rw [op29 N0.2.2.2.2.2.1 q hq4 (by omega), if_neg (fun y => q2 y.symm), if_pos n18]
  · have em := PS_n0 pJ z
    subst em
    exact go J fJ pJ (Or.inl (fun y => absurd y z))
end
end
section
/-! tells of the reference, exact: open, from its start -/
section
variable {K : Nat → Int32} {P : Nat → Nat} {V W : Nat → Int64} {N : Nat → Int32} {c : Nat} {R0 : Option (Int32 × Nat)} {M0 : Option (Int32 × Nat) × sg}
variable {S : sm_C} {d : Nat} {Φ : sm_Z → Prop} {I : sm_I} {L : sm_L} {R : sm_R} {m : mo} {e : eo} {o : Option sg} {l s t : Nat} {g : gc}
/-- what is wrong further on is of no account -/
theorem x_wrongI {x1 x2 : Int32} {u : Nat} (hT : TS K P V W N c) (h2 : x2.toInt = u) (uc : u ≤ c) (u5 : u ≤ 500) (hS : PSm K P W N c R0 m I L) (hw : I 107 13 = 0 → 0 < (I 107 15).toInt ∧ ∃ j, j < u ∧ (I 107 16).toInt = P j) (h : Φ (none, (xLay, I, L, kM R))) : sm_wp sm_P S d 213 0 [.ref 107, .int x1, .int x2] [] (xLay, I, L, kM R) (0, 0) Φ := by
  have n2 := tk_nat h2
  have eP : (I 111 x2.toNatClampNeg).toInt = P u := by rw [n2]; exact (hS.1.1 u uc u5).2
  refine u_X12_wrong_0 ⟨kl_in (by omega) (by omega), fun _ => h, fun a => ?_⟩
  have z : I 107 13 = 0 := by
    have q := PS_f hS
    have a := kl_nlt a
    rw [kl_0] at a
    exact en_ofI (by rw [kl_0]; omega)
  obtain ⟨w1, j, j1, j2⟩ := hw z
  have lt := hT.2.2.2.2.1 j u j1 uc
  refine ⟨fun b => ?_, fun _ => ⟨fun _ => h, fun l => ?_⟩⟩
  · rw [b, kl_0] at w1; omega
  · exfalso
    apply l
    rw [kl_lt]; omega
/-- the first that is wrong is noted -/
theorem x_wrong0 {x1 x2 : Int32} {u : Nat} (h2 : x2.toInt = u) (uc : u ≤ c) (u5 : u ≤ 500) (hS : PSm K P W N c R0 m I L) (z : I 107 13 = 0) (hw : I 107 15 = 0) (h : ∀ J : sm_I, xfr I J → PSm K P W N c R0 m J L → J 107 15 = x1 → (J 107 16).toInt = P u → Φ (none, (xLay, J, L, kM R))) : sm_wp sm_P S d 213 0 [.ref 107, .int x1, .int x2] [] (xLay, I, L, kM R) (0, 0) Φ := by
  have n2 := tk_nat h2
  have eP : (I 111 x2.toNatClampNeg).toInt = P u := by rw [n2]; exact (hS.1.1 u uc u5).2
  refine u_X12_wrong_0 ⟨kl_in (by omega) (by omega), fun a => ?_, fun _ => ⟨fun _ J e => ?_, fun b => absurd hw b⟩⟩
  · rw [z] at a; exact absurd a (by decide)
  · have f : xfr I J := fun p j q => by rw [e, en_up_ne _ _ _ _ (by omega), en_up_ne _ _ _ _ (by omega)]
    have n11 : J 107 11 = I 107 11 := by rw [e, en_up_ne _ _ _ _ (by omega), en_up_ne _ _ _ _ (by omega)]
    have n13 : J 107 13 = I 107 13 := by rw [e, en_up_ne _ _ _ _ (by omega), en_up_ne _ _ _ _ (by omega)]
    have n14 : J 107 14 = I 107 14 := by rw [e, en_up_ne _ _ _ _ (by omega), en_up_ne _ _ _ _ (by omega)]
    refine h J f ?_ (by rw [e, en_up_ne _ _ _ _ (by omega), en_up_eq]) (by rw [e, en_up_eq]; exact eP)
    unfold PSm PFa at hS ⊢
    rw [n11, n13, n14]
    exact ⟨tx_fr hS.1 (fun p j _ _ => f p j (by omega)), hS.2⟩
/-- the rest of an open when the grammar has failed -/
theorem x_openF {J : sm_I} {x2 x3 x4 x5 : Int32} (hT : TS K P V W N c) (hls : ml_ls l s) (hm : en_mem ml_tb mlX (xLay, I, L, R)) (hI : ml_TI l s I) (hG : rG s g I) (hr : (I 134 s).toInt < 4) (h5 : x5.toInt = ((240 + 4 * s + (I 134 s).toNatClampNeg : Nat) : Int)) (fJ : xfr I J) (pJ : PSm K P W N c R0 none J L) (h : ∀ (J : sm_I) (L' : sm_L), TP K P V W N c R0 M0 s t J L' → Φ (none, (xLay, J, L', kM R))) : sm_wp sm_P S (d + 4) 198 7 [.ref 107, .int x2, .int x3, .int x4, .int x5] [] (xLay, J, L, kM R) (0, 0) Φ := by
  have nz := PS_no pJ
  have fin := x_openE (S := S) (d := d) (x2 := x2) (x4 := x4) (o3 := none) (m := none) (t := t) hT hls hm hI hG hr fJ (PX_F (V := V) (M0 := M0) pJ) (fun t' s' g' em => by cases em) h5 (fun y => absurd rfl y) (fun y => absurd rfl y) h
  exact u_X12_tellOpen_7 ⟨fun z => absurd z nz, fun _ => u_X12_tellOpen_12 (fun n1 _ => u_X12_tellOpen_13 ⟨fun _ => fin, fun _ => ⟨fun z => absurd z nz, fun _ => fin⟩⟩)⟩
theorem op27 {a : sg} {x2 : Int32} {v : Int64} {k2 : Nat} (hf : fd (u2 a 2 7 10) v 3 = x2) (n2 : ¬ x2 = -1) (h2 : x2.toInt = k2) (k9 : k2 < 10) : ms 27 15 v (u2 a 2 7 10) = (if ¬ a.1 18 k2 = -1 then 5 else 0, u2 (u2 a 2 7 10) 2 8 x2) := by
  rw [ms_15]
  show tk_open 27 v (u2 a 2 7 10) = _
  unfold tk_open
  rw [hf, if_neg n2, if_pos rfl, is_op_s h2 k9, u2_ne _ _ _ _ (by omega)]
  by_cases c2 : a.1 18 k2 = -1
  · rw [show decide (¬ a.1 18 k2 = -1) = false from decide_eq_false (fun y => y c2), if_neg (show ¬ (false = true) by decide), if_neg (show ¬ ¬ a.1 18 k2 = -1 from fun y => y c2)]
  · rw [show decide (¬ a.1 18 k2 = -1) = true from decide_eq_true c2, if_pos rfl, if_pos (show ¬ a.1 18 k2 = -1 from c2)]
theorem x_tellOpen (hT : TS K P V W N c) (hls : ml_ls l s) (hm : en_mem ml_tb mlX (xLay, I, L, R)) (hI : ml_TI l s I) (hX : PX K P V W N c R0 M0 (some (t, 0, g)) o I L) (hG : rG s g I) (hR : ∀ a, o = some a → rL K V W s t a I L) (ek : K t = 10) (hr : (I 134 s).toInt < 4) (h : ∀ (J : sm_I) (L' : sm_L), TP K P V W N c R0 M0 s t J L' → Φ (none, (xLay, J, L', kM R))) : sm_wp sm_P S (d + 4) 198 0 [.ref 107] [] (xLay, I, L, kM R) (0, 0) Φ := by
  obtain ⟨hl1, hs1⟩ := ml_l1 hls
  obtain ⟨sn, sv⟩ := ml_sn hls hI
  have bc := ml_cs hs1 hm
  have b34 := x_34 hs1 hm
  obtain ⟨⟨b0, b1⟩, hb⟩ := x_b117 hm
  have tc : t ≤ c := hX.1.2.2.2.2.2.1
  have k0 : (((I 134 s).toNatClampNeg : Nat) : Int) = (I 134 s).toInt := kl_nat b34.1
  have ok : gc_ok 0 10 g = true := by
    unfold gc_ok
    rw [if_pos ⟨rfl, by decide⟩]
    refine decide_eq_true ?_
    have := hG.2.2.2.2.2.1
    rw [show gw 10 = 10 from by decide, show (sm_room.getD 10 0).toInt = 4 from by decide]
    omega
  have q4s : ((4 : Int32) * (I 107 19)).toInt = 4 * (s : Int) := ml_mu (by decide) hI.2.1 (by omega) (by omega)
  have q24 : ((240 : Int32) + (4 : Int32) * (I 107 19)).toInt = 240 + 4 * (s : Int) := ml_ad (by decide) q4s (by omega) (by omega)
  have q10 : ((10 : Int32) * (I 107 19)).toInt = 10 * (s : Int) := ml_mu (by decide) hI.2.1 (by omega) (by omega)
  have x5v : ∀ (J : sm_I) (n : Int32), xfr I J → n = (((240 : Int32) + ((4 : Int32) * (J 107 19))) + (J 134 s)) → n.toInt = ((240 + 4 * s + (I 134 s).toNatClampNeg : Nat) : Int) := fun J n f en => by
    rw [en, f 107 19 (by omega), f 134 s (by omega), ml_ad q24 rfl (by omega) (by omega)]; omega
  refine u_X12_tellOpen_0 (x_go0 (k := 10) hT ek (by decide) (by decide) (by decide +kernel) (by decide) (by decide) ok hX (fun J1 m1 f1 X1 r1 => ⟨J1, L, R, rfl, ?_⟩))
  have m1s : ∀ t' s' g', m1 = some (t', s', g') → t' = t + 1 ∧ s' = 27 ∧ g' = gc_st 0 10 g := fun t' s' g' em => by
    rcases r1 with r1 | ⟨q1, q2, q3⟩
    · rw [r1] at em; cases em
    · rw [q3] at em
      obtain ⟨y1, y2, y3⟩ := mo_i em
      exact ⟨y1.symm, by rw [← y2]; decide +kernel, y3.symm⟩
  have c20 : J1 107 20 = I 107 20 := f1 107 20 (by omega)
  have cm1 : cntm J1 = cntm I := by unfold cntm; rw [c20]
  have fd1 : ∀ a, rL K V W s t a I L → ∀ k2 : Int32, ∀ u, u < c → K u = 15 → fd (u2 a 2 7 10) (V u) 3 = fdm I L (W u) 2 ∧ fd (u2 (u2 a 2 7 10) 2 8 k2) (V u) 3 = fdm I L (W u) 2 := fun a RL k2 u uc ku => by
    have RL1 := rL_a RL (Nat.le_refl t) b34.2 bc.2.2.2.1.2 hs1 (a' := u2 a 2 7 10) (fun p j hp => u2_ne _ _ _ _ (by omega)) (u2_ne _ _ _ _ (by omega)) rfl
    have RL2 := rL_a RL (Nat.le_refl t) b34.2 bc.2.2.2.1.2 hs1 (a' := u2 (u2 a 2 7 10) 2 8 k2) (fun p j hp => by rw [u2_ne _ _ _ _ (by omega), u2_ne _ _ _ _ (by omega)]) (by rw [u2_ne _ _ _ _ (by omega), u2_ne _ _ _ _ (by omega)]) rfl
    exact ⟨rN_fd hT RL1.1.2 tc (Or.inr (Or.inr (Or.inl ⟨rfl, rfl⟩))) (Or.inl (by unfold cnt cntm; rw [RL1.1.1])) uc ku, rN_fd hT RL2.1.2 tc (Or.inr (Or.inr (Or.inl ⟨rfl, rfl⟩))) (Or.inl (by unfold cnt cntm; rw [RL2.1.1])) uc ku⟩
  refine x_known (kd := 3) (s0 := 27) hT (by decide +kernel) X1 (fun t' s' g' em => (m1s t' s' g' em).2.1) (by rw [c20]; exact b0) (by rw [c20]; exact b1) (fun i hi => by rw [f1 117 i (by omega)]; exact hb i (by rw [← cm1]; exact hi)) (fun t' g' a1 em eo uc ku => ?_) (fun v a q => by rw [ms_15]; show tk_open 27 v a = _; unfold tk_open; rw [if_pos q]) (fun r8 J2 m2 f2 p2 r2 => ⟨r8, J2, L, R, rfl, ?_⟩)
  · obtain ⟨a, ea3, ea4⟩ := om (Or.inr rfl) eo
    subst ea4
    rw [fdm_cg f1]
    exact (fd1 a (hR a ea3) 0 t' uc ku).1
  have f12 : xfr I J2 := xfr_tr f1 f2
  -- what is known of the meaning behind the first NAME
  have hE2 : ∃ e, PEm K P V M0 e J2 ∧ (m2 ≠ none → t + 1 < c ∧ t + 1 < 500 ∧ K (t + 1) = 15 ∧ (J1 107 11).toInt = ((t + 1 : Nat) : Int) ∧ m2 = some (t + 2, 28, gc_st 0 10 g) ∧ r8 = fdm I L (W (t + 1)) 2 ∧ ((∃ u, u ≤ t + 2 ∧ (¬ r8 = -1 → u ≤ t + 1) ∧ e = (u, none)) ∨ (¬ r8 = -1 ∧ ∃ a, rL K V W s t a I L ∧ e = (t + 1, some (27, u2 a 2 7 10))))) := by
    rcases r2 with ⟨r2, -⟩ | ⟨t2, g2, em2, q1, q2, q3, q4, q5, q6, q7⟩
    · subst r2
      exact ⟨(0, none), PE_n (PS_no p2), fun y => absurd rfl y⟩
    · obtain ⟨z1, z2, z3⟩ := m1s t2 27 g2 em2
      subst z1
      have hS := X1.1
      rw [em2] at hS
      have h11 : (J1 107 11).toInt = ((t + 1 : Nat) : Int) := hS.2.2.2.2.1
      rw [fdm_cg f1] at q5
      have em' : m2 = some (t + 2, 28, gc_st 0 10 g) := by rw [q4, z3]; rw [show fw 27 15 = 28 from by decide +kernel]
      by_cases r1' : r8 = -1
      · exact ⟨(t + 2, none), q6 r1', fun _ => ⟨q1, q2, q3, h11, em', q5, Or.inl ⟨t + 2, Nat.le_refl _, fun y => absurd r1' y, rfl⟩⟩⟩
      · have pe := q7 r1'
        cases eo : o with
        | none =>
          rw [eo] at pe
          exact ⟨(t + 1, none), pe, fun _ => ⟨q1, q2, q3, h11, em', q5, Or.inl ⟨t + 1, by omega, fun _ => Nat.le_refl _, rfl⟩⟩⟩
        | some a =>
          rw [eo] at pe
          exact ⟨(t + 1, some (27, u2 a 2 7 10)), pe, fun _ => ⟨q1, q2, q3, h11, em', q5, Or.inr ⟨r1', a, hR a eo, rfl⟩⟩⟩
  obtain ⟨e, hE, E2⟩ := hE2
  refine x_must (i := 11) [] hT rfl p2 hE (fun t' s' g' em => ⟨?_, fun j hj => absurd hj List.not_mem_nil⟩) (fun J3 m3 f3 p3 pe3 r3 => ⟨J3, L, R, rfl, fun z => ?_, fun z => ?_⟩)
  · obtain ⟨-, -, -, -, y5, -⟩ := E2 (by rw [em]; exact Option.some_ne_none _)
    rw [em] at y5
    rw [(mo_i y5).2.1]; decide +kernel
  · -- both NAMES
    have z := PS_le0 p3 z
    rcases r3 with r3 | ⟨t3, s3, g3, em3, v1, v2, v3, v4⟩
    · subst r3; exact absurd z (PS_no p3)
    obtain ⟨u1, u5, u3, h8, y5, y6, y7⟩ := E2 (by rw [em3]; exact Option.some_ne_none _)
    rw [em3] at y5
    obtain ⟨w1, w2, w3⟩ := mo_i y5
    subst w1; subst w2; subst w3
    have v4 : m3 = some (t + 3, 29, gc_st 0 10 g) := by rw [v4, show fw 28 (Int32.ofNat 11) = 29 from by decide +kernel]
    have v3 : K (t + 2) = 11 := v3
    have f13 : xfr I J3 := xfr_tr f12 f3
    have d20 : J3 107 20 = I 107 20 := f13 107 20 (by omega)
    have cm3 : cntm J3 = cntm I := by unfold cntm; rw [d20]
    have n21a := hT.2.2.2.1 (t + 1) u1
    have n21b := hT.2.2.2.1 (t + 2) v1
    have b8 := (x_fb hm L (W (t + 1))).2.2
    rw [← y6] at b8
    have lt8 : ∀ a, rL K V W s t a I L → ¬ r8 = -1 → r8.toInt < (I 122 s).toInt := fun a RL n8 => by
      have q : r8 = -1 ∨ r8.toInt < (I 122 s).toInt := by
        rw [y6]
        exact fm_b (Q := fun r => r = -1 ∨ r.toInt < (I 122 s).toInt) (Or.inl rfl) (cntm I) 0 (fun j _ hj ej => Or.inr (RL.2.2.2.2.2.2.2 j (by omega) ej))
      exact q.resolve_left n8
    -- the checks, from the first on
    have after : ∀ (J : sm_I) (m4 : mo) (r16 : Int32), xfr I J → PSm K P W N c R0 m4 J L → J 107 13 = 0 → m4 = some (t + 4, 30, gc_st 0 10 g) → t + 3 < c → t + 3 < 500 → K (t + 3) = 15 → (J3 107 11).toInt = ((t + 3 : Nat) : Int) → (-1 ≤ r16.toInt ∧ r16.toInt ≤ 9) → ((∃ u, u ≤ t + 2 ∧ (¬ r8 = -1 → u ≤ t + 1) ∧ PEm K P V M0 (u, none) J) ∨ (∃ a, rL K V W s t a I L ∧ ¬ r8 = -1 ∧ a.1 18 r8.toNatClampNeg = -1 ∧ ((r16 = -1 ∧ PWx P M0 4 (t + 3) J) ∨ (¬ r16 = -1 ∧ opN K P V W M0 s t (t + 3) r8 r16 a I L J))) ∨ (∃ a, rL K V W s t a I L ∧ ¬ r8 = -1 ∧ ¬ a.1 18 r8.toNatClampNeg = -1 ∧ M0.1 = some (5, t + 1) ∧ (J 107 15 = 0 ∨ (0 < (J 107 15).toInt ∧ (J 107 16).toInt = P (t + 3))))) → ((vp_in (J 107 19) 2) ∧ ∀ n17 : Int32, n17 = (((240 : Int32) + ((4 : Int32) * (J 107 19))) + (J 134 (J 107 19).toNatClampNeg)) → (((J 107 13) = 0 → ((r8 = (-1 : Int32) → sm_wp sm_P S (d + 4) 198 7 [.ref 107, .int r8, .int (J3 107 11), .int r16, .int n17] [] (xLay, J, L, (kM R)) (0, 0) Φ) ∧ (¬ r8 = (-1 : Int32) → ∀ n18 : Int32, n18 = (((10 : Int32) * (J 107 19)) + r8) → (vp_in n18 20) ∧ (((J 135 n18.toNatClampNeg) = (-1 : Int32) → sm_wp sm_P S (d + 4) 198 7 [.ref 107, .int r8, .int (J3 107 11), .int r16, .int n17] [] (xLay, J, L, (kM R)) (0, 0) Φ) ∧ (¬ (J 135 n18.toNatClampNeg) = (-1 : Int32) → sm_wp sm_P S (d + 3) 213 0 [.ref 107, .int (5 : Int32), .int (J1 107 11)] [] (xLay, J, L, (kM R)) (0, 0) (fun z => ∃ (I19 : sm_I) (L20 : sm_L) (R21 : sm_R), z = (none, (xLay, I19, L20, (kM R21))) ∧ sm_wp sm_P S (d + 4) 198 7 [.ref 107, .int r8, .int (J3 107 11), .int r16, .int n17] [] (xLay, I19, L20, (kM R21)) (0, 0) Φ)))))) ∧ (¬ (J 107 13) = 0 → sm_wp sm_P S (d + 4) 198 7 [.ref 107, .int r8, .int (J3 107 11), .int r16, .int n17] [] (xLay, J, L, (kM R)) (0, 0) Φ))) := by
      intro J m4 r16 fJ pJ zJ em4 c3 c35 k3 h3 b16 Z
      have e19 : J 107 19 = I 107 19 := fJ 107 19 (by omega)
      rw [e19, sn]
      refine ⟨sv, fun n17 e17 => ?_⟩
      have h5 := x5v J n17 fJ (by rw [e19]; exact e17)
      have go : ∀ H : sm_I, xfr I H → PSm K P W N c R0 m4 H L → (PWx P M0 5 (t + 3) H ∨ ∃ a, opN K P V W M0 s t (t + 3) r8 r16 a I L H) → sm_wp sm_P S (d + 4) 198 7 [.ref 107, .int r8, .int (J3 107 11), .int r16, .int n17] [] (xLay, H, L, (kM R)) (0, 0) Φ := fun H fH pH zH => x_open7 (g1 := g) (t3 := t + 3) hT hls hm hI hG hr c3 c35 (by omega) k3 h3 (fun t' s' g' em => by rw [em4] at em; obtain ⟨x1, x2, x3⟩ := mo_i em; exact ⟨x1.symm, x2.symm, x3.symm⟩) h5 b8 b16 fH pH zH h
      refine ⟨fun _ => ⟨fun q => go J fJ pJ ?_, fun q n18 e18 => ?_⟩, fun y => absurd zJ y⟩
      · rcases Z with ⟨u, u1', u2', pe⟩ | ⟨a, RL, n8, -⟩ | ⟨a, RL, n8, -⟩
        · exact Or.inl (PE_W pe (by omega))
        · exact absurd q n8
        · exact absurd q n8
      · have d8 := ml_m1 q
        obtain ⟨x0, hx0⟩ : ∃ x0 : Nat, r8.toInt = x0 := ⟨r8.toNatClampNeg, (kl_nat (by omega)).symm⟩
        have x0n := tk_nat hx0
        have q18 : n18.toInt = ((10 * s + x0 : Nat) : Int) := by rw [e18, ml_ad q10 rfl (by omega) (by omega)]; omega
        have n18n := tk_nat q18
        rw [n18n, fJ 135 _ (by omega)]
        refine ⟨kl_in (by omega) (by omega), fun c1 => go J fJ pJ ?_, fun c1 => ?_⟩
        · rcases Z with ⟨u, u1', u2', pe⟩ | ⟨a, RL, n8, n18', q'⟩ | ⟨a, RL, n8, n18', -⟩
          · exact Or.inl (PE_W pe (by omega))
          · rcases q' with ⟨-, w⟩ | ⟨-, w⟩
            · exact Or.inl (PWx_mo w (by decide))
            · exact Or.inr ⟨a, w⟩
          · rw [x0n] at n18'
            exact absurd ((rO_18 RL.2.2.2.1 (by omega)).mp c1) n18'
        · refine x_wrong (M0 := M0) (t := t + 1) hT (by decide) h8 (by omega) (by omega) pJ (fun _ => ?_) (fun H fH _ pH wH => ⟨H, L, R, rfl, go H (xfr_tr fJ fH) pH (Or.inl (PE_W (K := K) (V := V) (PW_e wH) (by omega)))⟩)
          rcases Z with ⟨u, u1', u2', pe⟩ | ⟨a, RL, n8, n18', q'⟩ | ⟨a, RL, n8, n18', M5, q'⟩
          · exact Or.inl (PE_W pe (u2' q) zJ)
          · rw [x0n] at n18'
            exact absurd ((rO_18 RL.2.2.2.1 (by omega)).mpr n18') c1
          · refine Or.inr ⟨?_, M5⟩
            rcases q' with q' | ⟨q1', q2'⟩
            · exact Or.inl q'
            · exact Or.inr ⟨q1', t + 3, by omega, by omega, q2'⟩
    refine x_knownG (s0 := 29) (e := e) (M0 := M0) (V := V) hT (by decide +kernel) p3 pe3 (fun t' s' g' em => by rw [v4] at em; exact (mo_i em).2.1.symm) (by rw [d20]; exact b0) (by rw [d20]; exact b1) (fun i hi => by rw [f13 117 i (by omega)]; exact hb i (by rw [← cm3]; exact hi)) (fun J4 f4 p4 => ⟨_, J4, L, R, rfl, ?_⟩) (fun J4 m4 t4 g4 f4 p4 pe4 z4 em4 c4 c45 k4 h4 em4' => ?_)
    · -- the grammar fails at the second NAME
      have f14 : xfr I J4 := xfr_tr f13 f4
      have e19 : J4 107 19 = I 107 19 := f14 107 19 (by omega)
      have nz := PS_no p4
      rw [e19, sn]
      refine ⟨sv, fun n17 e17 => ⟨fun y => absurd y nz, fun _ => ?_⟩⟩
      exact x_openF hT hls hm hI hG hr (x5v J4 n17 f14 (by rw [e19]; exact e17)) f14 p4 h
    · rw [v4] at em4
      obtain ⟨x1, x2, x3⟩ := mo_i em4
      subst x1; subst x3
      have f14 : xfr I J4 := xfr_tr f13 f4
      have em4'' : m4 = some (t + 4, 30, gc_st 0 10 g) := by rw [em4', show fw 29 15 = 30 from by decide +kernel]
      have ef : fdm J3 L (W (t + 3)) 2 = fdm I L (W (t + 3)) 2 := fdm_cg f13
      rw [ef]
      have b16 := (x_fb hm L (W (t + 3))).2.2
      have n21c := hT.2.2.2.1 (t + 3) c4
      -- what is known of the meaning here
      have Z0 : (∃ u, u ≤ t + 2 ∧ (¬ r8 = -1 → u ≤ t + 1) ∧ PEm K P V M0 (u, none) J4) ∨ (∃ a, rL K V W s t a I L ∧ ¬ r8 = -1 ∧ a.1 18 r8.toNatClampNeg = -1 ∧ PEm K P V M0 (t + 3, some (29, u2 (u2 a 2 7 10) 2 8 r8)) J4) ∨ (∃ a, rL K V W s t a I L ∧ ¬ r8 = -1 ∧ ¬ a.1 18 r8.toNatClampNeg = -1 ∧ M0.1 = some (5, t + 1) ∧ J4 107 15 = 0) := by
        rcases y7 with ⟨u, w1, w2, we⟩ | ⟨n8, a, RL, we⟩
        · rw [we] at pe4
          exact Or.inl ⟨u, w1, w2, pe4⟩
        · rw [we] at pe4
          have d8 := ml_m1 n8
          obtain ⟨x0, hx0⟩ : ∃ x0 : Nat, r8.toInt = x0 := ⟨r8.toNatClampNeg, (kl_nat (by omega)).symm⟩
          have x0n := tk_nat hx0
          have hf : fd (u2 a 2 7 10) (V (t + 1)) 3 = r8 := by rw [(fd1 a RL 0 (t + 1) u1 u3).1, y6]
          have op := op27 hf n8 hx0 (by omega)
          by_cases c18 : a.1 18 x0 = -1
          · rw [if_neg (show ¬ ¬ a.1 18 x0 = -1 from fun y => y c18)] at op
            have s1 := PE_st (by omega) n21a (by rw [u3]; exact op) pe4
            rw [u3, show fw 27 15 = 28 from by decide +kernel] at s1
            have s2 := PE_st (a' := u2 (u2 a 2 7 10) 2 8 r8) (by omega) n21b (by rw [v3]; rfl) s1
            rw [v3, show fw 28 11 = 29 from by decide +kernel] at s2
            exact Or.inr (Or.inl ⟨a, RL, n8, by rw [x0n]; exact c18, s2⟩)
          · rw [if_pos (show ¬ a.1 18 x0 = -1 from c18)] at op
            obtain ⟨pe1, pe2⟩ := pe4 z4
            exact Or.inr (Or.inr ⟨a, RL, n8, by rw [x0n]; exact c18, ME_f (s := 27) (a := u2 a 2 7 10) (by omega) n21a (by rw [u3]; exact op) (by decide) pe2, pe1⟩)
      refine ⟨fun r16 => ?_, fun r16 => ⟨_, J4, L, R, rfl, after J4 m4 _ f14 p4 z4 em4'' c4 c45 k4 h4 b16 ?_⟩⟩
      · -- the second NAME is not known
        rcases Z0 with ⟨u, w1, w2, pe⟩ | ⟨a, RL, n8, n18', pe⟩ | ⟨a, RL, n8, n18', M5, pe⟩
        · refine x_wrongI hT h4 (by omega) (by omega) p4 (fun zz => ?_) ⟨J4, L, R, rfl, _, J4, L, R, rfl, after J4 m4 _ f14 p4 z4 em4'' c4 c45 k4 h4 b16 (Or.inl ⟨u, w1, w2, pe⟩)⟩
          obtain ⟨x1, j, x2, x3, x4⟩ := pe zz
          exact ⟨x1, j, by omega, x4⟩
        · refine x_wrong (M0 := M0) (t := t + 3) hT (by decide) h4 (by omega) (by omega) p4 (fun zz => ?_) (fun H fH _ pH wH => ⟨H, L, R, rfl, _, H, L, R, rfl, after H m4 _ (xfr_tr f14 fH) pH ?_ em4'' c4 c45 k4 h4 b16 (Or.inr (Or.inl ⟨a, RL, n8, n18', Or.inl ⟨r16, wH⟩⟩))⟩)
          · obtain ⟨pe1, pe2⟩ := pe zz
            refine Or.inr ⟨Or.inl pe1, ME_f (s := 29) (a := u2 (u2 a 2 7 10) 2 8 r8) (a' := u2 (u2 a 2 7 10) 2 8 r8) (by omega) n21c ?_ (by decide) pe2⟩
            rw [k4, ms_15]
            show tk_open 29 (V (t + 3)) _ = _
            unfold tk_open
            rw [(fd1 a RL r8 (t + 3) c4 k4).2, if_pos r16]
          · by_cases y : H 107 13 = 0
            · exact y
            · have em := PS_n0 pH y
              rw [em4''] at em; cases em
        · refine x_wrong0 h4 (by omega) (by omega) p4 z4 pe (fun H fH pH w5 w6 => ⟨H, L, R, rfl, _, H, L, R, rfl, after H m4 _ (xfr_tr f14 fH) pH ?_ em4'' c4 c45 k4 h4 b16 (Or.inr (Or.inr ⟨a, RL, n8, n18', M5, Or.inr ⟨by rw [w5]; decide, w6⟩⟩))⟩)
          by_cases y : H 107 13 = 0
          · exact y
          · have em := PS_n0 pH y
            rw [em4''] at em; cases em
      · rcases Z0 with q | ⟨a, RL, n8, n18', pe⟩ | ⟨a, RL, n8, n18', M5, pe⟩
        · exact Or.inl q
        · exact Or.inr (Or.inl ⟨a, RL, n8, n18', Or.inr ⟨r16, RL, n8, r16, lt8 a RL n8, n18', (fd1 a RL r8 (t + 3) c4 k4).2, pe⟩⟩)
        · exact Or.inr (Or.inr ⟨a, RL, n8, n18', M5, Or.inl pe⟩)
  · have nz : ¬ J3 107 13 = 0 := fun y => z (by rw [y]; decide)
    have em := PS_n0 p3 nz
    subst em
    have f13 : xfr I J3 := xfr_tr f12 f3
    have e19 : J3 107 19 = I 107 19 := f13 107 19 (by omega)
    rw [e19, sn]
    refine ⟨sv, fun n28 e28 => ⟨fun y => absurd y nz, fun _ => ?_⟩⟩
    exact x_openF hT hls hm hI hG hr (x5v J3 n28 f13 (by rw [e19]; exact e28)) f13 p3 h
end
end
section
/-! the reference's tell, exact: which one (wip/pe/mk98f.py) -/
section
variable {K : Nat → Int32} {P : Nat → Nat} {V W : Nat → Int64} {N : Nat → Int32} {c : Nat} {R0 : Option (Int32 × Nat)} {M0 : Option (Int32 × Nat) × sg}
variable {S : sm_C} {d : Nat} {Φ : sm_Z → Prop} {I : sm_I} {L : sm_L} {R : sm_R} {m : mo} {o : Option sg} {l s t : Nat} {g : gc}
theorem fw0_no : ∀ i, i < 22 → fw 0 (Int32.ofNat i) = -1 ∨ i = 0 ∨ i = 1 ∨ i = 2 ∨ i = 3 ∨ i = 6 ∨ i = 8 ∨ i = 10 ∨ i = 12 ∨ i = 21 := by decide +kernel
theorem x_tell (hT : TS K P V W N c) (hls : ml_ls l s) (hm : en_mem ml_tb mlX (xLay, I, L, R)) (hI : ml_TI l s I) (hX : PX K P V W N c R0 M0 (some (t, 0, g)) o I L) (hG : rG s g I) (hR : ∀ a, o = some a → rL K V W s t a I L) (n21 : K t ≠ 21) (h : ∀ (J : sm_I) (L' : sm_L), TP K P V W N c R0 M0 s t J L' → Φ (none, (xLay, J, L', kM R))) : sm_wp sm_P S (d + 7) 195 0 [.ref 107] [] (xLay, I, L, kM R) (0, 0) Φ := by
  obtain ⟨hl1, hs1⟩ := ml_l1 hls
  obtain ⟨sn, sv⟩ := ml_sn hls hI
  have bc := ml_cs hs1 hm
  have b34 := x_34 hs1 hm
  have b120 : 0 ≤ (I 120 s).toInt ∧ (I 120 s).toInt ≤ 12 := ml_row hm (p := 120) (n := 2) (q := (0, 12)) (fun _ => rfl) s (by omega)
  have z := PS_so hX.1
  have bt := hX.1.2.1
  have bt2 := hX.1.2.2.1
  have h11 : (I 107 11).toInt = t := hX.1.2.2.2.2.1
  have tc : t ≤ c := hX.1.2.2.2.2.2.1
  have t5 : t ≤ 500 := by omega
  have hSY : SY K (501 - t) t 0 g = R0 := hX.1.2.2.2.2.2.2.1
  have hs := SY_s t5 hSY
  have kr := hT.2.1 t
  have e110 := (hX.1.1.1 t tc t5).1
  obtain ⟨e, hE, -⟩ := PX_e hX
  -- the word is none that begins a tell
  have no : fw 0 (K t) = -1 → sm_wp sm_P S (d + 6) 123 0 [.ref 107, .int (1 : Int32)] [] (xLay, I, L, (kM R)) (0, 0) (fun z => ∃ (I65 : sm_I) (L66 : sm_L) (R67 : sm_R), z = (none, (xLay, I65, L66, (kM R67))) ∧ sm_wp sm_P S (d + 7) 195 30 [] [] (xLay, I65, L66, (kM R67)) (0, 0) Φ) := fun q => by
    refine x_fail (by decide) hX.1 hE (fun t' s' g' em => ?_) (fun J f _ p _ => ⟨J, L, R, rfl, u_X12_tell_30 (h J L ⟨none, none, PX_F p, Or.inl rfl⟩)⟩)
    obtain ⟨rfl, rfl, rfl⟩ := mo_i em
    have ef : gf 0 (K t) t g = 1 := by unfold gf; rw [if_pos (Or.inl q)]
    rw [ef, if_neg (by decide)] at hs
    exact hs.symm
  -- there are as many as there may be
  have full : ∀ k : Int32, K t = k → fw 0 k ≠ -1 → ¬ (k = 9 ∨ k = 13) → k.toInt < 15 → (sm_room.getD (gw k) 0).toInt < (g.tells (gw k) : Int) + 1 → ∀ t' s' g', (some (t, (0 : Int32), g) : mo) = some (t', s', g') → R0 = some (2, t') := fun k ek kf k9 k15 fu t' s' g' em => by
    obtain ⟨rfl, rfl, rfl⟩ := mo_i em
    have ef : gf 0 (K t) t g = 2 := by
      unfold gf
      rw [if_neg (by rw [ek]; exact fun y => y.elim (fun w => kf w) (fun w => k9 w.1)), if_neg n21]
      by_cases c5 : 500 ≤ t
      · rw [if_pos c5]
      · rw [if_neg c5, if_neg]
        rw [ek]
        unfold gc_ok
        rw [if_pos ⟨rfl, k15⟩]
        intro y
        have y := of_decide_eq_true y
        omega
    rw [ef, if_neg (by decide)] at hs
    exact hs.symm
  obtain ⟨G1, G2, G3, G4, G5, G6, G7⟩ := hG
  have kk : ∀ i, i < 22 → (kd_m.getD (K t).toNatClampNeg 0 = kd_m.getD i 0 ↔ K t = Int32.ofNat i) := fun i hi => kd_is kr.1 kr.2 hi
  have val : ∀ (n1 x : Int32), n1 = kd_m.getD (K t).toNatClampNeg 0 → n1.toInt = x.toInt → kd_m.getD (K t).toNatClampNeg 0 = x := fun n1 x en ex => by rw [← en]; exact en_ofI ex
  refine u_X12_tell_0 ⟨kl_in bt (by omega), fun n1 en => ?_⟩
  rw [tk_nat h11, e110] at en
  have dead : (∀ i, i < 22 → (i = 0 ∨ i = 1 ∨ i = 2 ∨ i = 3 ∨ i = 6 ∨ i = 8 ∨ i = 10 ∨ i = 12) → ¬ n1.toInt = (kd_m.getD i 0).toInt) → fw 0 (K t) = -1 := fun q => by
    obtain ⟨i, i1, i2⟩ := k_lt22 kr.1 kr.2
    rcases fw0_no i i1 with y | y
    · rw [i2]; exact y
    · exfalso
      have eq : n1 = kd_m.getD i 0 := by rw [en]; exact (kk i i1).mpr i2
      by_cases y21 : i = 21
      · rw [y21] at i2; exact n21 i2
      · exact q i i1 (by omega) (by rw [eq])
  rw [sn]
  have tl20 : n1.toInt = 20 → (vp_in (I 107 19) 2) ∧ (((I 118 s) = (4 : Int32) → sm_wp sm_P S (d + 6) 123 0 [.ref 107, .int (2 : Int32)] [] (xLay, I, L, (kM R)) (0, 0) (fun z => ∃ (I92 : sm_I) (L93 : sm_L) (R94 : sm_R), z = (none, (xLay, I92, L93, (kM R94))) ∧ sm_wp sm_P S (d + 7) 195 3 [.ref 107] [] (xLay, I92, L93, (kM R94)) (0, 0) Φ)) ∧ (¬ (I 118 s) = (4 : Int32) → sm_wp sm_P S (d + 7) 195 3 [.ref 107] [] (xLay, I, L, (kM R)) (0, 0) Φ)) := fun q => by
    have ek : K t = 0 := (kk 0 (by decide)).mp (val n1 20 en q)
    refine ⟨sv, fun fu => ?_, fun nf => ?_⟩
    · refine x_fail (by decide) hX.1 hE (full 0 ek (by decide +kernel) (by decide) (by decide) ?_) (fun J f _ p _ => ⟨J, L, R, rfl, u_X12_tell_3 ⟨fun y => absurd y (PS_no p), fun _ => u_X12_tell_30 (h J L ⟨none, none, PX_F p, Or.inl rfl⟩)⟩⟩)
      have y := congrArg Int32.toInt fu
      rw [show (4 : Int32).toInt = 4 from by decide] at y
      rw [show gw 0 = 0 from by decide, show (sm_room.getD 0 0).toInt = 4 from by decide]
      omega
    · have nf' : (I 118 s).toInt ≠ 4 := fun y => nf (en_ofI (by rw [y]; decide))
      exact u_X12_tell_3 ⟨fun _ => x_tellName0 (d := d + 2) hT hls hm hI hX ⟨G1, G2, G3, G4, G5, G6, G7⟩ hR ek (by omega) (fun J L' tp => ⟨J, L', R, rfl, u_X12_tell_30 (h J L' tp)⟩), fun y => absurd z y⟩
  have tl21 : n1.toInt = 21 → (vp_in (I 107 19) 2) ∧ (((I 119 s) = (6 : Int32) → sm_wp sm_P S (d + 6) 123 0 [.ref 107, .int (2 : Int32)] [] (xLay, I, L, (kM R)) (0, 0) (fun z => ∃ (I92 : sm_I) (L93 : sm_L) (R94 : sm_R), z = (none, (xLay, I92, L93, (kM R94))) ∧ sm_wp sm_P S (d + 7) 195 7 [.ref 107] [] (xLay, I92, L93, (kM R94)) (0, 0) Φ)) ∧ (¬ (I 119 s) = (6 : Int32) → sm_wp sm_P S (d + 7) 195 7 [.ref 107] [] (xLay, I, L, (kM R)) (0, 0) Φ)) := fun q => by
    have ek : K t = 1 := (kk 1 (by decide)).mp (val n1 21 en q)
    refine ⟨sv, fun fu => ?_, fun nf => ?_⟩
    · refine x_fail (by decide) hX.1 hE (full 1 ek (by decide +kernel) (by decide) (by decide) ?_) (fun J f _ p _ => ⟨J, L, R, rfl, u_X12_tell_7 ⟨fun y => absurd y (PS_no p), fun _ => u_X12_tell_30 (h J L ⟨none, none, PX_F p, Or.inl rfl⟩)⟩⟩)
      have y := congrArg Int32.toInt fu
      rw [show (6 : Int32).toInt = 6 from by decide] at y
      rw [show gw 1 = 1 from by decide, show (sm_room.getD 1 0).toInt = 6 from by decide]
      omega
    · have nf' : (I 119 s).toInt ≠ 6 := fun y => nf (en_ofI (by rw [y]; decide))
      exact u_X12_tell_7 ⟨fun _ => x_tellName1 (d := d + 2) hT hls hm hI hX ⟨G1, G2, G3, G4, G5, G6, G7⟩ hR ek (by omega) (fun J L' tp => ⟨J, L', R, rfl, u_X12_tell_30 (h J L' tp)⟩), fun y => absurd z y⟩
  have tl22 : n1.toInt = 22 → (vp_in (I 107 19) 2) ∧ (((I 120 s) = (12 : Int32) → sm_wp sm_P S (d + 6) 123 0 [.ref 107, .int (2 : Int32)] [] (xLay, I, L, (kM R)) (0, 0) (fun z => ∃ (I92 : sm_I) (L93 : sm_L) (R94 : sm_R), z = (none, (xLay, I92, L93, (kM R94))) ∧ sm_wp sm_P S (d + 7) 195 11 [.ref 107] [] (xLay, I92, L93, (kM R94)) (0, 0) Φ)) ∧ (¬ (I 120 s) = (12 : Int32) → sm_wp sm_P S (d + 7) 195 11 [.ref 107] [] (xLay, I, L, (kM R)) (0, 0) Φ)) := fun q => by
    have ek : K t = 2 := (kk 2 (by decide)).mp (val n1 22 en q)
    refine ⟨sv, fun fu => ?_, fun nf => ?_⟩
    · refine x_fail (by decide) hX.1 hE (full 2 ek (by decide +kernel) (by decide) (by decide) ?_) (fun J f _ p _ => ⟨J, L, R, rfl, u_X12_tell_11 ⟨fun y => absurd y (PS_no p), fun _ => u_X12_tell_30 (h J L ⟨none, none, PX_F p, Or.inl rfl⟩)⟩⟩)
      have y := congrArg Int32.toInt fu
      rw [show (12 : Int32).toInt = 12 from by decide] at y
      rw [show gw 2 = 2 from by decide, show (sm_room.getD 2 0).toInt = 12 from by decide]
      omega
    · have nf' : (I 120 s).toInt ≠ 12 := fun y => nf (en_ofI (by rw [y]; decide))
      exact u_X12_tell_11 ⟨fun _ => x_tellWay (d := d + 2) hT hls hm hI hX ⟨G1, G2, G3, G4, G5, G6, G7⟩ hR ek (by omega) (fun J L' tp => ⟨J, L', R, rfl, u_X12_tell_30 (h J L' tp)⟩), fun y => absurd z y⟩
  have tl23 : n1.toInt = 23 → (vp_in (I 107 19) 2) ∧ (((I 122 s) = (10 : Int32) → sm_wp sm_P S (d + 6) 123 0 [.ref 107, .int (2 : Int32)] [] (xLay, I, L, (kM R)) (0, 0) (fun z => ∃ (I92 : sm_I) (L93 : sm_L) (R94 : sm_R), z = (none, (xLay, I92, L93, (kM R94))) ∧ sm_wp sm_P S (d + 7) 195 15 [.ref 107] [] (xLay, I92, L93, (kM R94)) (0, 0) Φ)) ∧ (¬ (I 122 s) = (10 : Int32) → sm_wp sm_P S (d + 7) 195 15 [.ref 107] [] (xLay, I, L, (kM R)) (0, 0) Φ)) := fun q => by
    have ek : K t = 3 := (kk 3 (by decide)).mp (val n1 23 en q)
    refine ⟨sv, fun fu => ?_, fun nf => ?_⟩
    · refine x_fail (by decide) hX.1 hE (full 3 ek (by decide +kernel) (by decide) (by decide) ?_) (fun J f _ p _ => ⟨J, L, R, rfl, u_X12_tell_15 ⟨fun y => absurd y (PS_no p), fun _ => u_X12_tell_30 (h J L ⟨none, none, PX_F p, Or.inl rfl⟩)⟩⟩)
      have y := congrArg Int32.toInt fu
      rw [show (10 : Int32).toInt = 10 from by decide] at y
      rw [show gw 3 = 3 from by decide, show (sm_room.getD 3 0).toInt = 10 from by decide]
      omega
    · have nf' : (I 122 s).toInt ≠ 10 := fun y => nf (en_ofI (by rw [y]; decide))
      exact u_X12_tell_15 ⟨fun _ => x_tellTime (d := d + 2) hT hls hm hI hX ⟨G1, G2, G3, G4, G5, G6, G7⟩ hR ek (by omega) (fun J L' tp => ⟨J, L', R, rfl, u_X12_tell_30 (h J L' tp)⟩), fun y => absurd z y⟩
  have tl26 : n1.toInt = 26 → (vp_in (I 107 19) 2) ∧ (((I 125 s) = (10 : Int32) → sm_wp sm_P S (d + 6) 123 0 [.ref 107, .int (2 : Int32)] [] (xLay, I, L, (kM R)) (0, 0) (fun z => ∃ (I92 : sm_I) (L93 : sm_L) (R94 : sm_R), z = (none, (xLay, I92, L93, (kM R94))) ∧ sm_wp sm_P S (d + 7) 195 19 [.ref 107] [] (xLay, I92, L93, (kM R94)) (0, 0) Φ)) ∧ (¬ (I 125 s) = (10 : Int32) → sm_wp sm_P S (d + 7) 195 19 [.ref 107] [] (xLay, I, L, (kM R)) (0, 0) Φ)) := fun q => by
    have ek : K t = 6 := (kk 6 (by decide)).mp (val n1 26 en q)
    refine ⟨sv, fun fu => ?_, fun nf => ?_⟩
    · refine x_fail (by decide) hX.1 hE (full 6 ek (by decide +kernel) (by decide) (by decide) ?_) (fun J f _ p _ => ⟨J, L, R, rfl, u_X12_tell_19 ⟨fun y => absurd y (PS_no p), fun _ => u_X12_tell_30 (h J L ⟨none, none, PX_F p, Or.inl rfl⟩)⟩⟩)
      have y := congrArg Int32.toInt fu
      rw [show (10 : Int32).toInt = 10 from by decide] at y
      rw [show gw 6 = 6 from by decide, show (sm_room.getD 6 0).toInt = 10 from by decide]
      omega
    · have nf' : (I 125 s).toInt ≠ 10 := fun y => nf (en_ofI (by rw [y]; decide))
      exact u_X12_tell_19 ⟨fun _ => x_tellSay (d := d + 0) hT hls hm hI hX ⟨G1, G2, G3, G4, G5, G6, G7⟩ hR ek (by omega) (fun J L' tp => ⟨J, L', R, rfl, u_X12_tell_30 (h J L' tp)⟩), fun y => absurd z y⟩
  have tl27 : n1.toInt = 27 → (vp_in (I 107 19) 2) ∧ (((I 125 s) = (10 : Int32) → sm_wp sm_P S (d + 6) 123 0 [.ref 107, .int (2 : Int32)] [] (xLay, I, L, (kM R)) (0, 0) (fun z => ∃ (I92 : sm_I) (L93 : sm_L) (R94 : sm_R), z = (none, (xLay, I92, L93, (kM R94))) ∧ sm_wp sm_P S (d + 7) 195 19 [.ref 107] [] (xLay, I92, L93, (kM R94)) (0, 0) Φ)) ∧ (¬ (I 125 s) = (10 : Int32) → sm_wp sm_P S (d + 7) 195 19 [.ref 107] [] (xLay, I, L, (kM R)) (0, 0) Φ)) := fun q => by
    have ek : K t = 8 := (kk 8 (by decide)).mp (val n1 27 en q)
    refine ⟨sv, fun fu => ?_, fun nf => ?_⟩
    · refine x_fail (by decide) hX.1 hE (full 8 ek (by decide +kernel) (by decide) (by decide) ?_) (fun J f _ p _ => ⟨J, L, R, rfl, u_X12_tell_19 ⟨fun y => absurd y (PS_no p), fun _ => u_X12_tell_30 (h J L ⟨none, none, PX_F p, Or.inl rfl⟩)⟩⟩)
      have y := congrArg Int32.toInt fu
      rw [show (10 : Int32).toInt = 10 from by decide] at y
      rw [show gw 8 = 6 from by decide, show (sm_room.getD 6 0).toInt = 10 from by decide]
      omega
    · have nf' : (I 125 s).toInt ≠ 10 := fun y => nf (en_ofI (by rw [y]; decide))
      exact u_X12_tell_19 ⟨fun _ => x_tellSure (d := d + 0) hT hls hm hI hX ⟨G1, G2, G3, G4, G5, G6, G7⟩ hR ek (by omega) (fun J L' tp => ⟨J, L', R, rfl, u_X12_tell_30 (h J L' tp)⟩), fun y => absurd z y⟩
  have tl32 : n1.toInt = 32 → (vp_in (I 107 19) 2) ∧ (((I 134 s) = (4 : Int32) → sm_wp sm_P S (d + 6) 123 0 [.ref 107, .int (2 : Int32)] [] (xLay, I, L, (kM R)) (0, 0) (fun z => ∃ (I92 : sm_I) (L93 : sm_L) (R94 : sm_R), z = (none, (xLay, I92, L93, (kM R94))) ∧ sm_wp sm_P S (d + 7) 195 23 [.ref 107] [] (xLay, I92, L93, (kM R94)) (0, 0) Φ)) ∧ (¬ (I 134 s) = (4 : Int32) → sm_wp sm_P S (d + 7) 195 23 [.ref 107] [] (xLay, I, L, (kM R)) (0, 0) Φ)) := fun q => by
    have ek : K t = 10 := (kk 10 (by decide)).mp (val n1 32 en q)
    refine ⟨sv, fun fu => ?_, fun nf => ?_⟩
    · refine x_fail (by decide) hX.1 hE (full 10 ek (by decide +kernel) (by decide) (by decide) ?_) (fun J f _ p _ => ⟨J, L, R, rfl, u_X12_tell_23 ⟨fun y => absurd y (PS_no p), fun _ => u_X12_tell_30 (h J L ⟨none, none, PX_F p, Or.inl rfl⟩)⟩⟩)
      have y := congrArg Int32.toInt fu
      rw [show (4 : Int32).toInt = 4 from by decide] at y
      rw [show gw 10 = 10 from by decide, show (sm_room.getD 10 0).toInt = 4 from by decide]
      omega
    · have nf' : (I 134 s).toInt ≠ 4 := fun y => nf (en_ofI (by rw [y]; decide))
      exact u_X12_tell_23 ⟨fun _ => x_tellOpen (d := d + 2) hT hls hm hI hX ⟨G1, G2, G3, G4, G5, G6, G7⟩ hR ek (by omega) (fun J L' tp => ⟨J, L', R, rfl, u_X12_tell_30 (h J L' tp)⟩), fun y => absurd z y⟩
  have tl33 : n1.toInt = 33 → (vp_in (I 107 19) 2) ∧ (((I 136 s) = (5 : Int32) → sm_wp sm_P S (d + 6) 123 0 [.ref 107, .int (2 : Int32)] [] (xLay, I, L, (kM R)) (0, 0) (fun z => ∃ (I92 : sm_I) (L93 : sm_L) (R94 : sm_R), z = (none, (xLay, I92, L93, (kM R94))) ∧ sm_wp sm_P S (d + 7) 195 27 [.ref 107] [] (xLay, I92, L93, (kM R94)) (0, 0) Φ)) ∧ (¬ (I 136 s) = (5 : Int32) → sm_wp sm_P S (d + 7) 195 27 [.ref 107] [] (xLay, I, L, (kM R)) (0, 0) Φ)) := fun q => by
    have ek : K t = 12 := (kk 12 (by decide)).mp (val n1 33 en q)
    refine ⟨sv, fun fu => ?_, fun nf => ?_⟩
    · refine x_fail (by decide) hX.1 hE (full 12 ek (by decide +kernel) (by decide) (by decide) ?_) (fun J f _ p _ => ⟨J, L, R, rfl, u_X12_tell_27 ⟨fun y => absurd y (PS_no p), fun _ => u_X12_tell_30 (h J L ⟨none, none, PX_F p, Or.inl rfl⟩)⟩⟩)
      have y := congrArg Int32.toInt fu
      rw [show (5 : Int32).toInt = 5 from by decide] at y
      rw [show gw 12 = 12 from by decide, show (sm_room.getD 12 0).toInt = 5 from by decide]
      omega
    · have nf' : (I 136 s).toInt ≠ 5 := fun y => nf (en_ofI (by rw [y]; decide))
      exact u_X12_tell_27 ⟨fun _ => x_tellQuestion (d := d + 1) hT hls hm hI hX ⟨G1, G2, G3, G4, G5, G6, G7⟩ hR ek (by omega) (fun J L' tp => ⟨J, L', R, rfl, u_X12_tell_30 (h J L' tp)⟩), fun y => absurd z y⟩
  exact ⟨fun q20 => tl20 q20, fun q20 => ⟨fun q21 => tl21 q21, fun q21 => ⟨fun q22 => tl22 q22, fun q22 => ⟨fun q23 => tl23 q23, fun q23 => ⟨fun q24 => no (dead (fun i _ hi => by rw [q24]; rcases hi with rfl | rfl | rfl | rfl | rfl | rfl | rfl | rfl <;> decide)), fun q24 => ⟨fun q25 => no (dead (fun i _ hi => by rw [q25]; rcases hi with rfl | rfl | rfl | rfl | rfl | rfl | rfl | rfl <;> decide)), fun q25 => ⟨fun q26 => tl26 q26, fun q26 => ⟨fun q27 => tl27 q27, fun q27 => ⟨fun q28 => no (dead (fun i _ hi => by rw [q28]; rcases hi with rfl | rfl | rfl | rfl | rfl | rfl | rfl | rfl <;> decide)), fun q28 => ⟨fun q29 => no (dead (fun i _ hi => by rw [q29]; rcases hi with rfl | rfl | rfl | rfl | rfl | rfl | rfl | rfl <;> decide)), fun q29 => ⟨fun q30 => no (dead (fun i _ hi => by rw [q30]; rcases hi with rfl | rfl | rfl | rfl | rfl | rfl | rfl | rfl <;> decide)), fun q30 => ⟨fun q31 => no (dead (fun i _ hi => by rw [q31]; rcases hi with rfl | rfl | rfl | rfl | rfl | rfl | rfl | rfl <;> decide)), fun q31 => ⟨fun q32 => tl32 q32, fun q32 => ⟨fun q33 => tl33 q33, fun q33 => no (dead (fun i _ hi => by rcases hi with rfl | rfl | rfl | rfl | rfl | rfl | rfl | rfl <;> first | exact q20 | exact q21 | exact q22 | exact q23 | exact q26 | exact q27 | exact q32 | exact q33))⟩⟩⟩⟩⟩⟩⟩⟩⟩⟩⟩⟩⟩⟩
end
end
section
/-! WALKS: the pure table -/
def Fn (k : Nat) (N : Nat → Int) (i : Nat) : Int := if N (6 * (i / 6) + k) < 0 then N i else if N (6 * k + i % 6) < 0 then N i else if N i < 0 then N (6 * (i / 6) + k) + N (6 * k + i % 6) else if N (6 * (i / 6) + k) + N (6 * k + i % 6) < N i then N (6 * (i / 6) + k) + N (6 * k + i % 6) else N i
def Ft : Nat → (Nat → Int) → Nat → Int
  | 0, N => N
  | k + 1, N => Fn k (Ft k N)
/-- a table of ways: none is -1, a PLACE and itself 0 -/
def WB (B : Int) (N : Nat → Int) : Prop := (∀ i, i < 36 → -1 ≤ N i ∧ N i ≤ B) ∧ ∀ r, r < 6 → N (7 * r) = 0
theorem Fn_row {k r : Nat} {B : Int} {N : Nat → Int} (hk : k < 6) (h : WB B N) : Fn k N (6 * r + k) = N (6 * r + k) := by
  unfold Fn
  have e1 : (6 * r + k) / 6 = r := by omega
  have e2 : (6 * r + k) % 6 = k := by omega
  have e3 : N (6 * k + k) = 0 := by rw [show 6 * k + k = 7 * k by omega]; exact h.2 k hk
  rw [e1, e2, e3]
  repeat' split
  all_goals first
    | rfl
    | omega
theorem Fn_col {k c : Nat} {B : Int} {N : Nat → Int} (hk : k < 6) (hc : c < 6) (h : WB B N) : Fn k N (6 * k + c) = N (6 * k + c) := by
  unfold Fn
  have e1 : (6 * k + c) / 6 = k := by omega
  have e2 : (6 * k + c) % 6 = c := by omega
  have e3 : N (6 * k + k) = 0 := by rw [show 6 * k + k = 7 * k by omega]; exact h.2 k hk
  rw [e1, e2, e3]
  repeat' split
  all_goals first
    | rfl
    | omega
theorem WB_Fn {k : Nat} {B : Int} {N : Nat → Int} (hk : k < 6) (h : WB B N) (hB : 0 ≤ B) : WB (2 * B) (Fn k N) := by
  refine ⟨fun i hi => ?_, fun r hr => ?_⟩
  · have a := h.1 (6 * (i / 6) + k) (by omega)
    have b := h.1 (6 * k + i % 6) (by omega)
    have c := h.1 i hi
    unfold Fn
    split
    · omega
    · split
      · omega
      · split
        · omega
        · split
          · omega
          · omega
  · have a := h.1 (6 * (7 * r / 6) + k) (by omega)
    have b := h.1 (6 * k + 7 * r % 6) (by omega)
    have c := h.2 r hr
    unfold Fn
    rw [c]
    split
    · rfl
    · split
      · rfl
      · split
        · omega
        · split
          · omega
          · rfl
theorem WB_up {B C : Int} {N : Nat → Int} (h : WB B N) (hBC : B ≤ C) : WB C N := ⟨fun i hi => ⟨(h.1 i hi).1, Int.le_trans (h.1 i hi).2 hBC⟩, h.2⟩
theorem WB_Ft {N : Nat → Int} (h : WB 1440 N) : ∀ k, k ≤ 6 → WB (1440 * 2 ^ k) (Ft k N) := by
  intro k
  induction k with
  | zero => intro _; exact WB_up h (by decide)
  | succ k ih =>
    intro hk
    have g := WB_Fn (k := k) (by omega) (ih (by omega)) (Int.mul_nonneg (by decide) (Int.pow_nonneg (by decide)))
    refine WB_up g ?_
    rw [Int.pow_succ, Int.mul_comm (2 ^ k) 2, ← Int.mul_assoc, ← Int.mul_assoc, Int.mul_comm 2 1440]
    exact Int.le_refl _
theorem WB_F6 {N : Nat → Int} (h : WB 1440 N) (k : Nat) (hk : k ≤ 6) : WB 100000 (Ft k N) := WB_up (WB_Ft h k hk) (by
  rcases (by omega : k = 0 ∨ k = 1 ∨ k = 2 ∨ k = 3 ∨ k = 4 ∨ k = 5 ∨ k = 6) with e | e | e | e | e | e | e <;> subst e <;> decide)
/-- nothing leads from or to what is no PLACE -/
def WS (p : Nat) (N : Nat → Int) : Prop := (∀ a b, a < 6 → b < 6 → N (6 * a + b) = N (6 * b + a)) ∧ ∀ a b, a < 6 → b < 6 → a ≠ b → p ≤ a → N (6 * a + b) = -1
theorem WS_Fn {k p : Nat} {B : Int} {N : Nat → Int} (hk : k < 6) (h : WB B N) (g : WS p N) : WS p (Fn k N) := by
  have sym : ∀ a b, a < 6 → b < 6 → Fn k N (6 * a + b) = Fn k N (6 * b + a) := fun a b ha hb => by
    have e1 : (6 * a + b) / 6 = a := by omega
    have e2 : (6 * a + b) % 6 = b := by omega
    have e3 : (6 * b + a) / 6 = b := by omega
    have e4 : (6 * b + a) % 6 = a := by omega
    unfold Fn
    rw [e1, e2, e3, e4, g.1 a b ha hb, g.1 a k ha hk, g.1 k b hk hb, Int.add_comm (N (6 * k + a))]
    split <;> split <;> rfl
  refine ⟨sym, fun a b ha hb ab pa => ?_⟩
  have e1 : (6 * a + b) / 6 = a := by omega
  have e2 : (6 * a + b) % 6 = b := by omega
  by_cases c : a = k
  · rw [c, Fn_col (B := B) hk hb h, ← c]; exact g.2 a b ha hb ab pa
  · unfold Fn
    rw [e1, e2, g.2 a k ha hk c pa, if_pos (by decide)]
    exact g.2 a b ha hb ab pa
theorem Fn_out {k p : Nat} {B : Int} {N : Nat → Int} (hk : k < 6) (pk : p ≤ k) (h : WB B N) (g : WS p N) : ∀ i, i < 36 → Fn k N i = N i := fun i hi => by
  obtain ⟨a, b, ha, hb, e⟩ : ∃ a b, a < 6 ∧ b < 6 ∧ i = 6 * a + b := ⟨i / 6, i % 6, by omega, by omega, by omega⟩
  subst e
  have e1 : (6 * a + b) / 6 = a := by omega
  have e2 : (6 * a + b) % 6 = b := by omega
  by_cases c : a = k
  · rw [c]; exact Fn_col hk hb h
  · unfold Fn
    rw [e1, e2, g.1 a k ha hk, g.2 k a hk ha (fun q => c q.symm) pk, if_pos (by decide)]
theorem Fn_cg {k : Nat} {N N' : Nat → Int} (hk : k < 6) (h : ∀ i, i < 36 → N i = N' i) : ∀ i, i < 36 → Fn k N i = Fn k N' i := fun i hi => by
  unfold Fn
  rw [h i hi, h (6 * (i / 6) + k) (by omega), h (6 * k + i % 6) (by omega)]
theorem WS_Ft {p : Nat} {N : Nat → Int} (h : WB 1440 N) (g : WS p N) : ∀ k, k ≤ 6 → WS p (Ft k N) := by
  intro k
  induction k with
  | zero => intro _; exact g
  | succ k ih => intro hk; exact WS_Fn (by omega) (WB_F6 h k (by omega)) (ih (by omega))
/-- going on behind the last PLACE changes nothing -/
theorem Ft_out {p : Nat} {N : Nat → Int} (h : WB 1440 N) (g : WS p N) : ∀ m k, p ≤ k → k + m ≤ 6 → ∀ i, i < 36 → Ft (k + m) N i = Ft k N i := by
  intro m
  induction m with
  | zero => intro k _ _ i _; rfl
  | succ m ih =>
    intro k pk km i hi
    show Fn (k + m) (Ft (k + m) N) i = Ft k N i
    rw [Fn_out (k := k + m) (p := p) (by omega) (by omega) (WB_F6 h (k + m) (by omega)) (WS_Ft h g (k + m) (by omega)) i hi]
    exact ih k pk (by omega) i hi
def nv (x : Int32) : Int := if x.toInt < 0 then -1 else x.toInt
/-- ways -/
def wt (a : sg) : Prop := (∀ x y, x < 6 → y < 6 → a.1 13 (6 * x + y) = a.1 13 (6 * y + x)) ∧ (∀ x, x < 6 → a.1 13 (7 * x) = 0) ∧ (∀ x y : Nat, x < 6 → y < 6 → x ≠ y → (a.1 12 1).toInt ≤ x → a.1 13 (6 * x + y) = -2) ∧ ∀ i, i < 36 → a.1 13 i = -2 ∨ (0 ≤ (a.1 13 i).toInt ∧ (a.1 13 i).toInt ≤ 1440)
end
section
/-! conditions of the reference: walks, walk, move, breaks, pick (wip/pe/symd.py) -/
theorem p_X12_walks_0 {S : sm_C} {d : Nat} {Φ : sm_Z → Prop} {I : sm_I} {L : sm_L} {R : sm_R} (h : sm_wp sm_P S d 210 1 [.ref 107, .int (0 : Int32)] [] (xLay, I, L, (kM R)) (0, 0) Φ) : sm_wp sm_P S d 210 0 [.ref 107] [] (xLay, I, L, (kM R)) (0, 0) Φ := sm_wp_step (h)
theorem p_X12_walks_1 {S : sm_C} {d : Nat} {Φ : sm_Z → Prop} {I : sm_I} {L : sm_L} {R : sm_R} {x1 : Int32} (h : (((36 : Int32) ≤ x1 → sm_wp sm_P S d 210 4 [.ref 107, .int (0 : Int32)] [] (xLay, I, L, (kM R)) (0, 0) Φ) ∧ (¬ (36 : Int32) ≤ x1 → ∀ n1 : Int32, n1 = (((36 : Int32) * (I 107 18)) + x1) → (vp_in n1 72) ∧ (vp_in x1 36) ∧ ∀ I2 : sm_I, I2 = (sm_up I 139 x1.toNatClampNeg (I 121 n1.toNatClampNeg)) → sm_wp sm_P S d 210 1 [.ref 107, .int (x1 + (1 : Int32))] [] (xLay, I2, L, (kM R)) (0, 0) Φ))) : sm_wp sm_P S d 210 1 [.ref 107, .int x1] [] (xLay, I, L, (kM R)) (0, 0) Φ := sm_wp_step (⟨fun q3 => ((h).1 q3), fun q3 => ⟨((((h).2 q3) _ rfl)).1, ⟨(((((h).2 q3) _ rfl)).2).1, ((((((h).2 q3) _ rfl)).2).2 _ rfl)⟩⟩⟩)
theorem p_X12_walks_4 {S : sm_C} {d : Nat} {Φ : sm_Z → Prop} {I : sm_I} {L : sm_L} {R : sm_R} {x1 : Int32} (h : (((6 : Int32) ≤ x1 → Φ (none, (xLay, I, L, (kM R)))) ∧ (¬ (6 : Int32) ≤ x1 → sm_wp sm_P S d 210 6 [.ref 107, .int x1, .int (0 : Int32)] [] (xLay, I, L, (kM R)) (0, 0) Φ))) : sm_wp sm_P S d 210 4 [.ref 107, .int x1] [] (xLay, I, L, (kM R)) (0, 0) Φ := sm_wp_step (⟨fun q1 => ((h).1 q1), fun q1 => ((h).2 q1)⟩)
theorem p_X12_walks_6 {S : sm_C} {d : Nat} {Φ : sm_Z → Prop} {I : sm_I} {L : sm_L} {R : sm_R} {x1 : Int32} {x2 : Int32} (h : (((36 : Int32) ≤ x2 → sm_wp sm_P S d 210 4 [.ref 107, .int (x1 + (1 : Int32))] [] (xLay, I, L, (kM R)) (0, 0) Φ) ∧ (¬ (36 : Int32) ≤ x2 → (¬ (6 : Int32) = 0) ∧ ∀ n1 : Int32, n1 = (((6 : Int32) * (x2 / (6 : Int32))) + x1) → (vp_in n1 36) ∧ (¬ (6 : Int32) = 0) ∧ ∀ n2 : Int32, n2 = (((6 : Int32) * x1) + (x2 - x2 / (6 : Int32) * (6 : Int32))) → (vp_in n2 36) ∧ (((I 139 n1.toNatClampNeg) = (-1 : Int32) → sm_wp sm_P S d 210 6 [.ref 107, .int x1, .int (x2 + (1 : Int32))] [] (xLay, I, L, (kM R)) (0, 0) Φ) ∧ (¬ (I 139 n1.toNatClampNeg) = (-1 : Int32) → (((I 139 n2.toNatClampNeg) = (-1 : Int32) → sm_wp sm_P S d 210 6 [.ref 107, .int x1, .int (x2 + (1 : Int32))] [] (xLay, I, L, (kM R)) (0, 0) Φ) ∧ (¬ (I 139 n2.toNatClampNeg) = (-1 : Int32) → (vp_in x2 36) ∧ (((I 139 x2.toNatClampNeg) = (-1 : Int32) → ∀ n3 : Int32, n3 = ((I 139 n1.toNatClampNeg) + (I 139 n2.toNatClampNeg)) → (vp_in x2 36) ∧ ∀ I4 : sm_I, I4 = (sm_up I 139 x2.toNatClampNeg n3) → sm_wp sm_P S d 210 6 [.ref 107, .int x1, .int (x2 + (1 : Int32))] [] (xLay, I4, L, (kM R)) (0, 0) Φ) ∧ (¬ (I 139 x2.toNatClampNeg) = (-1 : Int32) → (vp_in x2 36) ∧ (((I 139 x2.toNatClampNeg) ≤ ((I 139 n1.toNatClampNeg) + (I 139 n2.toNatClampNeg)) → sm_wp sm_P S d 210 6 [.ref 107, .int x1, .int (x2 + (1 : Int32))] [] (xLay, I, L, (kM R)) (0, 0) Φ) ∧ (¬ (I 139 x2.toNatClampNeg) ≤ ((I 139 n1.toNatClampNeg) + (I 139 n2.toNatClampNeg)) → ∀ n5 : Int32, n5 = ((I 139 n1.toNatClampNeg) + (I 139 n2.toNatClampNeg)) → (vp_in x2 36) ∧ ∀ I6 : sm_I, I6 = (sm_up I 139 x2.toNatClampNeg n5) → sm_wp sm_P S d 210 6 [.ref 107, .int x1, .int (x2 + (1 : Int32))] [] (xLay, I6, L, (kM R)) (0, 0) Φ))))))))))) : sm_wp sm_P S d 210 6 [.ref 107, .int x1, .int x2] [] (xLay, I, L, (kM R)) (0, 0) Φ := sm_wp_step (⟨fun q11 => ((h).1 q11), fun q11 => ⟨(((h).2 q11)).1, ⟨(((((h).2 q11)).2 _ rfl)).1, ⟨((((((h).2 q11)).2 _ rfl)).2).1, ⟨((((((((h).2 q11)).2 _ rfl)).2).2 _ rfl)).1, ⟨fun q10 => ((((((((((h).2 q11)).2 _ rfl)).2).2 _ rfl)).2).1 q10), fun q10 => ⟨fun q9 => ((((((((((((h).2 q11)).2 _ rfl)).2).2 _ rfl)).2).2 q10)).1 q9), fun q9 => ⟨(((((((((((((h).2 q11)).2 _ rfl)).2).2 _ rfl)).2).2 q10)).2 q9)).1, ⟨fun q8 => ⟨(((((((((((((((((h).2 q11)).2 _ rfl)).2).2 _ rfl)).2).2 q10)).2 q9)).2).1 q8) _ rfl)).1, ((((((((((((((((((h).2 q11)).2 _ rfl)).2).2 _ rfl)).2).2 q10)).2 q9)).2).1 q8) _ rfl)).2 _ rfl)⟩, fun q8 => ⟨((((((((((((((((h).2 q11)).2 _ rfl)).2).2 _ rfl)).2).2 q10)).2 q9)).2).2 q8)).1, ⟨fun q7 => ((((((((((((((((((h).2 q11)).2 _ rfl)).2).2 _ rfl)).2).2 q10)).2 q9)).2).2 q8)).2).1 q7), fun q7 => ⟨((((((((((((((((((((h).2 q11)).2 _ rfl)).2).2 _ rfl)).2).2 q10)).2 q9)).2).2 q8)).2).2 q7) _ rfl)).1, (((((((((((((((((((((h).2 q11)).2 _ rfl)).2).2 _ rfl)).2).2 q10)).2 q9)).2).2 q8)).2).2 q7) _ rfl)).2 _ rfl)⟩⟩⟩⟩⟩⟩⟩⟩⟩⟩⟩⟩)
theorem p_X12_walk_0 {S : sm_C} {d : Nat} {Φ : sm_Z → Prop} {I : sm_I} {L : sm_L} {R : sm_R} {x1 : Int32} {x2 : Int32} (h : (vp_in (I 107 18) 2) ∧ ∀ n1 : Int32, n1 = ((I 119 (I 107 18).toNatClampNeg) - (1 : Int32)) → sm_wp sm_P S d 141 0 [.int x1, .int (0 : Int32), .int n1] [] (xLay, I, L, (kM R)) (0, 0) (fun z => ∃ (r4 : Int32) (I2 : sm_I) (L3 : sm_L), z = (some (.int r4), (xLay, I2, L3, (kM R))) ∧ ((r4 = 0 → Φ (some (.int (-1 : Int32)), (xLay, I2, L3, (kM R)))) ∧ (¬ r4 = 0 → (vp_in (I2 107 18) 2) ∧ ∀ n5 : Int32, n5 = ((I2 119 (I2 107 18).toNatClampNeg) - (1 : Int32)) → sm_wp sm_P S d 141 0 [.int x2, .int (0 : Int32), .int n5] [] (xLay, I2, L3, (kM R)) (0, 0) (fun z => ∃ (r8 : Int32) (I6 : sm_I) (L7 : sm_L), z = (some (.int r8), (xLay, I6, L7, (kM R))) ∧ ((r8 = 0 → Φ (some (.int (-1 : Int32)), (xLay, I6, L7, (kM R)))) ∧ (¬ r8 = 0 → (vp_in (((6 : Int32) * x1) + x2) 36) ∧ ∀ n9 : Int32, n9 = (I6 139 (((6 : Int32) * x1) + x2).toNatClampNeg) → ((n9 = (-1 : Int32) → Φ (some (.int (-2 : Int32)), (xLay, I6, L7, (kM R)))) ∧ (¬ n9 = (-1 : Int32) → Φ (some (.int n9), (xLay, I6, L7, (kM R)))))))))))) : sm_wp sm_P S (d + 1) 209 0 [.ref 107, .int x1, .int x2] [] (xLay, I, L, (kM R)) (0, 0) Φ := sm_wp_step (⟨(h).1, sm_ci0 (((h).2 _ rfl)) (fun r4 I2 L3 q14 => ⟨fun q13 => ((q14).1 q13), fun q13 => ⟨(((q14).2 q13)).1, sm_ci0 (((((q14).2 q13)).2 _ rfl)) (fun r8 I6 L7 q12 => ⟨fun q11 => ((q12).1 q11), fun q11 => ⟨(((q12).2 q11)).1, ⟨fun q10 => ((((((q12).2 q11)).2 _ rfl)).1 q10), fun q10 => ((((((q12).2 q11)).2 _ rfl)).2 q10)⟩⟩⟩)⟩⟩)⟩)
theorem p_X12_move_0 {S : sm_C} {d : Nat} {Φ : sm_Z → Prop} {I : sm_I} {L : sm_L} {R : sm_R} {x1 : Int32} {x2 : Int32} (h : sm_wp sm_P S d 141 0 [.int x1, .int (0 : Int32), .int ((I 107 46) - (1 : Int32))] [] (xLay, I, L, (kM R)) (0, 0) (fun z => ∃ (r3 : Int32) (I1 : sm_I) (L2 : sm_L), z = (some (.int r3), (xLay, I1, L2, (kM R))) ∧ ((r3 = 0 → Φ (some (.int (-1 : Int32)), (xLay, I1, L2, (kM R)))) ∧ (¬ r3 = 0 → sm_wp sm_P S d 141 0 [.int x2, .int (0 : Int32), .int (2 : Int32)] [] (xLay, I1, L2, (kM R)) (0, 0) (fun z => ∃ (r6 : Int32) (I4 : sm_I) (L5 : sm_L), z = (some (.int r6), (xLay, I4, L5, (kM R))) ∧ ((r6 = 0 → Φ (some (.int (-1 : Int32)), (xLay, I4, L5, (kM R)))) ∧ (¬ r6 = 0 → ((x2 = 0 → (vp_in x1 45) ∧ Φ (some (.int (I4 140 x1.toNatClampNeg)), (xLay, I4, L5, (kM R)))) ∧ (¬ x2 = 0 → ((x2 = (1 : Int32) → (vp_in x1 45) ∧ Φ (some (.int (I4 141 x1.toNatClampNeg)), (xLay, I4, L5, (kM R)))) ∧ (¬ x2 = (1 : Int32) → (vp_in x1 45) ∧ (((I4 142 x1.toNatClampNeg) = (-1 : Int32) → Φ (some (.int (-2 : Int32)), (xLay, I4, L5, (kM R)))) ∧ (¬ (I4 142 x1.toNatClampNeg) = (-1 : Int32) → (vp_in x1 45) ∧ Φ (some (.int (I4 142 x1.toNatClampNeg)), (xLay, I4, L5, (kM R)))))))))))))))) : sm_wp sm_P S (d + 1) 164 0 [.ref 107, .int x1, .int x2] [] (xLay, I, L, (kM R)) (0, 0) Φ := sm_wp_step (sm_ci0 (h) (fun r3 I1 L2 q13 => ⟨fun q12 => ((q13).1 q12), fun q12 => sm_ci0 (((q13).2 q12)) (fun r6 I4 L5 q11 => ⟨fun q10 => ((q11).1 q10), fun q10 => ⟨fun q9 => ⟨(((((q11).2 q10)).1 q9)).1, (((((q11).2 q10)).1 q9)).2⟩, fun q9 => ⟨fun q8 => ⟨(((((((q11).2 q10)).2 q9)).1 q8)).1, (((((((q11).2 q10)).2 q9)).1 q8)).2⟩, fun q8 => ⟨(((((((q11).2 q10)).2 q9)).2 q8)).1, ⟨fun q7 => (((((((((q11).2 q10)).2 q9)).2 q8)).2).1 q7), fun q7 => ⟨((((((((((q11).2 q10)).2 q9)).2 q8)).2).2 q7)).1, ((((((((((q11).2 q10)).2 q9)).2 q8)).2).2 q7)).2⟩⟩⟩⟩⟩⟩)⟩))
theorem p_X12_breaks_0 {S : sm_C} {d : Nat} {Φ : sm_Z → Prop} {I : sm_I} {L : sm_L} {R : sm_R} (h : sm_wp sm_P S d 107 1 [.ref 107, .int (0 : Int32)] [] (xLay, I, L, (kM R)) (0, 0) Φ) : sm_wp sm_P S d 107 0 [.ref 107] [] (xLay, I, L, (kM R)) (0, 0) Φ := sm_wp_step (h)
theorem p_X12_breaks_1 {S : sm_C} {d : Nat} {Φ : sm_Z → Prop} {I : sm_I} {L : sm_L} {R : sm_R} {x1 : Int32} (h : (((I 107 46) ≤ x1 → Φ (some (.int (-2 : Int32)), (xLay, I, L, (kM R)))) ∧ (¬ (I 107 46) ≤ x1 → (vp_in x1 45) ∧ (vp_in (I 140 x1.toNatClampNeg) 10) ∧ ∀ n1 : Int32, n1 = (I 138 (I 140 x1.toNatClampNeg).toNatClampNeg) → (vp_in x1 45) ∧ (vp_in (I 141 x1.toNatClampNeg) 10) ∧ ∀ n2 : Int32, n2 = (I 138 (I 141 x1.toNatClampNeg).toNatClampNeg) → ((n1 = (-1 : Int32) → sm_wp sm_P S d 107 1 [.ref 107, .int (x1 + (1 : Int32))] [] (xLay, I, L, (kM R)) (0, 0) Φ) ∧ (¬ n1 = (-1 : Int32) → ((n2 = (-1 : Int32) → sm_wp sm_P S d 107 1 [.ref 107, .int (x1 + (1 : Int32))] [] (xLay, I, L, (kM R)) (0, 0) Φ) ∧ (¬ n2 = (-1 : Int32) → ((n2 ≤ n1 → (vp_in x1 45) ∧ (((I 142 x1.toNatClampNeg) = (-1 : Int32) → Φ (some (.int x1), (xLay, I, L, (kM R)))) ∧ (¬ (I 142 x1.toNatClampNeg) = (-1 : Int32) → (vp_in x1 45) ∧ (((I 142 x1.toNatClampNeg) ≤ (n1 - n2) → sm_wp sm_P S d 107 1 [.ref 107, .int (x1 + (1 : Int32))] [] (xLay, I, L, (kM R)) (0, 0) Φ) ∧ (¬ (I 142 x1.toNatClampNeg) ≤ (n1 - n2) → Φ (some (.int x1), (xLay, I, L, (kM R)))))))) ∧ (¬ n2 ≤ n1 → (vp_in x1 45) ∧ (((I 142 x1.toNatClampNeg) = (-1 : Int32) → Φ (some (.int x1), (xLay, I, L, (kM R)))) ∧ (¬ (I 142 x1.toNatClampNeg) = (-1 : Int32) → (vp_in x1 45) ∧ (((I 142 x1.toNatClampNeg) ≤ (n2 - n1) → sm_wp sm_P S d 107 1 [.ref 107, .int (x1 + (1 : Int32))] [] (xLay, I, L, (kM R)) (0, 0) Φ) ∧ (¬ (I 142 x1.toNatClampNeg) ≤ (n2 - n1) → Φ (some (.int x1), (xLay, I, L, (kM R)))))))))))))))) : sm_wp sm_P S d 107 1 [.ref 107, .int x1] [] (xLay, I, L, (kM R)) (0, 0) Φ := sm_wp_step (⟨fun q10 => ((h).1 q10), fun q10 => ⟨(((h).2 q10)).1, ⟨((((h).2 q10)).2).1, ⟨((((((h).2 q10)).2).2 _ rfl)).1, ⟨(((((((h).2 q10)).2).2 _ rfl)).2).1, ⟨fun q9 => ((((((((((h).2 q10)).2).2 _ rfl)).2).2 _ rfl)).1 q9), fun q9 => ⟨fun q8 => ((((((((((((h).2 q10)).2).2 _ rfl)).2).2 _ rfl)).2 q9)).1 q8), fun q8 => ⟨fun q7 => ⟨(((((((((((((((h).2 q10)).2).2 _ rfl)).2).2 _ rfl)).2 q9)).2 q8)).1 q7)).1, ⟨fun q4 => (((((((((((((((((h).2 q10)).2).2 _ rfl)).2).2 _ rfl)).2 q9)).2 q8)).1 q7)).2).1 q4), fun q4 => ⟨((((((((((((((((((h).2 q10)).2).2 _ rfl)).2).2 _ rfl)).2 q9)).2 q8)).1 q7)).2).2 q4)).1, ⟨fun q3 => ((((((((((((((((((((h).2 q10)).2).2 _ rfl)).2).2 _ rfl)).2 q9)).2 q8)).1 q7)).2).2 q4)).2).1 q3), fun q3 => ((((((((((((((((((((h).2 q10)).2).2 _ rfl)).2).2 _ rfl)).2 q9)).2 q8)).1 q7)).2).2 q4)).2).2 q3)⟩⟩⟩⟩, fun q7 => ⟨(((((((((((((((h).2 q10)).2).2 _ rfl)).2).2 _ rfl)).2 q9)).2 q8)).2 q7)).1, ⟨fun q6 => (((((((((((((((((h).2 q10)).2).2 _ rfl)).2).2 _ rfl)).2 q9)).2 q8)).2 q7)).2).1 q6), fun q6 => ⟨((((((((((((((((((h).2 q10)).2).2 _ rfl)).2).2 _ rfl)).2 q9)).2 q8)).2 q7)).2).2 q6)).1, ⟨fun q5 => ((((((((((((((((((((h).2 q10)).2).2 _ rfl)).2).2 _ rfl)).2 q9)).2 q8)).2 q7)).2).2 q6)).2).1 q5), fun q5 => ((((((((((((((((((((h).2 q10)).2).2 _ rfl)).2).2 _ rfl)).2 q9)).2 q8)).2 q7)).2).2 q6)).2).2 q5)⟩⟩⟩⟩⟩⟩⟩⟩⟩⟩⟩⟩)
theorem p_X12_pick_0 {S : sm_C} {d : Nat} {Φ : sm_Z → Prop} {I : sm_I} {L : sm_L} {R : sm_R} {x1 : Int32} {x2 : Int32} (h : sm_wp sm_P S d 151 0 [.ref 107, .int x1] [] (xLay, I, L, (kM R)) (0, 0) (fun z => ∃ (r3 : Int32) (I1 : sm_I) (L2 : sm_L), z = (some (.int r3), (xLay, I1, L2, (kM R))) ∧ ((r3 = (-1 : Int32) → Φ (some (.int (0 : Int32)), (xLay, I1, L2, (kM R)))) ∧ (¬ r3 = (-1 : Int32) → ((x2 = (-1 : Int32) → (vp_in r3 60) ∧ ∀ I4 : sm_I, I4 = (sm_up I1 160 r3.toNatClampNeg x2) → Φ (some (.int (1 : Int32)), (xLay, I4, L2, (kM R)))) ∧ (¬ x2 = (-1 : Int32) → sm_wp sm_P S d 114 0 [.ref 107, .int r3] [] (xLay, I1, L2, (kM R)) (0, 0) (fun z => ∃ (r7 : Int32) (I5 : sm_I) (L6 : sm_L), z = (some (.int r7), (xLay, I5, L6, (kM R))) ∧ sm_wp sm_P S d 141 0 [.int x2, .int (0 : Int32), .int (r7 - (1 : Int32))] [] (xLay, I5, L6, (kM R)) (0, 0) (fun z => ∃ (r10 : Int32) (I8 : sm_I) (L9 : sm_L), z = (some (.int r10), (xLay, I8, L9, (kM R))) ∧ ((r10 = 0 → Φ (some (.int (0 : Int32)), (xLay, I8, L9, (kM R)))) ∧ (¬ r10 = 0 → (vp_in r3 60) ∧ ∀ I11 : sm_I, I11 = (sm_up I8 160 r3.toNatClampNeg x2) → Φ (some (.int (1 : Int32)), (xLay, I11, L9, (kM R))))))))))))) : sm_wp sm_P S (d + 1) 172 0 [.ref 107, .int x1, .int x2] [] (xLay, I, L, (kM R)) (0, 0) Φ := sm_wp_step (sm_ci0 (h) (fun r3 I1 L2 q17 => ⟨fun q16 => ⟨Or.inl rfl, ((q17).1 q16)⟩, fun q16 => ⟨fun q15 => ⟨(((((q17).2 q16)).1 q15)).1, ⟨Or.inr rfl, ((((((q17).2 q16)).1 q15)).2 _ rfl)⟩⟩, fun q15 => sm_ci0 (((((q17).2 q16)).2 q15)) (fun r7 I5 L6 q14 => sm_ci0 (q14) (fun r10 I8 L9 q13 => ⟨fun q12 => ⟨Or.inl rfl, ((q13).1 q12)⟩, fun q12 => ⟨(((q13).2 q12)).1, ⟨Or.inr rfl, ((((q13).2 q12)).2 _ rfl)⟩⟩⟩))⟩⟩))
theorem p_X12_itemAt_0 {S : sm_C} {d : Nat} {Φ : sm_Z → Prop} {I : sm_I} {L : sm_L} {R : sm_R} {x1 : Int32} (h : sm_wp sm_P S d 149 0 [.ref 107, .int x1] [] (xLay, I, L, (kM R)) (0, 0) (fun z => ∃ (r3 : Int32) (I1 : sm_I) (L2 : sm_L), z = (some (.int r3), (xLay, I1, L2, (kM R))) ∧ ((r3 = 0 → sm_wp sm_P S d 141 0 [.int (x1 - (100 : Int32)), .int (0 : Int32), .int ((I1 107 46) - (1 : Int32))] [] (xLay, I1, L2, (kM R)) (0, 0) (fun z => ∃ (r6 : Int32) (I4 : sm_I) (L5 : sm_L), z = (some (.int r6), (xLay, I4, L5, (kM R))) ∧ ((r6 = 0 → Φ (some (.int (-1 : Int32)), (xLay, I4, L5, (kM R)))) ∧ (¬ r6 = 0 → Φ (some (.int (x1 - (90 : Int32))), (xLay, I4, L5, (kM R))))))) ∧ (¬ r3 = 0 → (vp_in x1 10) ∧ (((I1 137 x1.toNatClampNeg) = 0 → Φ (some (.int x1), (xLay, I1, L2, (kM R)))) ∧ (¬ (I1 137 x1.toNatClampNeg) = 0 → Φ (some (.int (-1 : Int32)), (xLay, I1, L2, (kM R))))))))) : sm_wp sm_P S (d + 1) 151 0 [.ref 107, .int x1] [] (xLay, I, L, (kM R)) (0, 0) Φ := sm_wp_step (sm_ci0 (h) (fun r3 I1 L2 q11 => ⟨fun q10 => sm_ci0 (((q11).1 q10)) (fun r6 I4 L5 q8 => ⟨fun q7 => ((q8).1 q7), fun q7 => ((q8).2 q7)⟩), fun q10 => ⟨(((q11).2 q10)).1, ⟨fun q9 => (((((q11).2 q10)).2).1 q9), fun q9 => (((((q11).2 q10)).2).2 q9)⟩⟩⟩))
theorem p_X12_choices_0 {S : sm_C} {d : Nat} {Φ : sm_Z → Prop} {I : sm_I} {L : sm_L} {R : sm_R} {x1 : Int32} (h : (((10 : Int32) ≤ x1 → (((60 : Int32) ≤ x1 → (vp_in (x1 - (60 : Int32)) 10) ∧ ∀ n1 : Int32, n1 = (I 152 (x1 - (60 : Int32)).toNatClampNeg) → ((n1 = (-1 : Int32) → Φ (some (.int (0 : Int32)), (xLay, I, L, (kM R)))) ∧ (¬ n1 = (-1 : Int32) → Φ (some (.int (2 : Int32)), (xLay, I, L, (kM R)))))) ∧ (¬ (60 : Int32) ≤ x1 → (vp_in (x1 - (10 : Int32)) 45) ∧ ∀ n3 : Int32, n3 = (I 142 (x1 - (10 : Int32)).toNatClampNeg) → ((n3 = (-1 : Int32) → Φ (some (.int (0 : Int32)), (xLay, I, L, (kM R)))) ∧ (¬ n3 = (-1 : Int32) → Φ (some (.int (2 : Int32)), (xLay, I, L, (kM R)))))))) ∧ (¬ (10 : Int32) ≤ x1 → ∀ n6 : Int32, n6 = (((10 : Int32) * (I 107 18)) + x1) → (vp_in n6 20) ∧ Φ (some (.int (I 128 n6.toNatClampNeg)), (xLay, I, L, (kM R)))))) : sm_wp sm_P S d 114 0 [.ref 107, .int x1] [] (xLay, I, L, (kM R)) (0, 0) Φ := sm_wp_step (⟨fun q7 => ⟨fun q5 => ⟨(((((h).1 q7)).1 q5)).1, ⟨fun q2 => ((((((((h).1 q7)).1 q5)).2 _ rfl)).1 q2), fun q2 => ((((((((h).1 q7)).1 q5)).2 _ rfl)).2 q2)⟩⟩, fun q5 => ⟨(((((h).1 q7)).2 q5)).1, ⟨fun q4 => ((((((((h).1 q7)).2 q5)).2 _ rfl)).1 q4), fun q4 => ((((((((h).1 q7)).2 q5)).2 _ rfl)).2 q4)⟩⟩⟩, fun q7 => ⟨((((h).2 q7) _ rfl)).1, ((((h).2 q7) _ rfl)).2⟩⟩)
end
section
/-! the reference's walks, exact -/
section
variable {S : sm_C} {d : Nat} {Φ : sm_Z → Prop} {I : sm_I} {L : sm_L} {R : sm_R}
theorem dv36 : ∀ i : Nat, i < 36 → ((Int32.ofNat i) / (6 : Int32)).toInt = ((i / 6 : Nat) : Int) ∧ ((Int32.ofNat i) - (Int32.ofNat i) / (6 : Int32) * (6 : Int32)).toInt = ((i % 6 : Nat) : Int) := by decide +kernel
theorem n1_1 {x : Int32} : x = -1 ↔ x.toInt = -1 := ⟨fun e => by rw [e]; decide, fun e => en_ofI (by rw [e]; decide)⟩
theorem yw_6 {I0 : sm_I} {T : Nat → Int} {k : Nat} (hk : k < 6) (hT : WB 100000 T) (h : ∀ (J : sm_I) (x1 : Int32), x1.toInt = k → (∀ i, i < 36 → (J 139 i).toInt = Fn k T i) → (∀ p j, p ≠ 139 → J p j = I0 p j) → sm_wp sm_P S d 210 4 [.ref 107, .int (x1 + (1 : Int32))] [] (xLay, J, L, kM R) (0, 0) Φ) : ∀ (m i : Nat) (I : sm_I) (x1 x2 : Int32), x1.toInt = k → x2.toInt = i → i + m = 36 → (∀ j, j < i → (I 139 j).toInt = Fn k T j) → (∀ j, i ≤ j → j < 36 → (I 139 j).toInt = T j) → (∀ p j, p ≠ 139 → I p j = I0 p j) → sm_wp sm_P S d 210 6 [.ref 107, .int x1, .int x2] [] (xLay, I, L, kM R) (0, 0) Φ := by
  have c36 : (36 : Int32).toInt = 36 := by decide
  intro m
  induction m with
  | zero =>
    intro i I x1 x2 h1 h2 hm g1 g2 o
    refine p_X12_walks_6 ⟨fun _ => h I x1 h1 (fun j hj => g1 j (by omega)) o, fun a => ?_⟩
    have a := kl_nle a
    omega
  | succ m ih =>
    intro i I x1 x2 h1 h2 hm g1 g2 o
    have s2 := ml_in1 (x := x2) (by omega)
    have n2x := tk_nat h2
    have ex : x2 = Int32.ofNat i := en_ofI (by rw [h2, Int32.toInt_ofNat_of_lt (by omega)])
    obtain ⟨d1, d2⟩ := dv36 i (by omega)
    rw [← ex] at d1 d2
    have vi : vp_in x2 36 := kl_in (by omega) (by omega)
    have rw_ : (I 139 (6 * (i / 6) + k)).toInt = T (6 * (i / 6) + k) := by
      rcases Nat.lt_or_ge (6 * (i / 6) + k) i with c | c
      · rw [g1 _ c, Fn_row hk hT]
      · exact g2 _ c (by omega)
    have cl_ : (I 139 (6 * k + i % 6)).toInt = T (6 * k + i % 6) := by
      rcases Nat.lt_or_ge (6 * k + i % 6) i with c | c
      · rw [g1 _ c, Fn_col hk (by omega) hT]
      · exact g2 _ c (by omega)
    have me_ : (I 139 i).toInt = T i := g2 i (Nat.le_refl _) (by omega)
    have b1 := hT.1 (6 * (i / 6) + k) (by omega)
    have b2 := hT.1 (6 * k + i % 6) (by omega)
    have b3 := hT.1 i (by omega)
    have same : Fn k T i = T i → sm_wp sm_P S d 210 6 [.ref 107, .int x1, .int (x2 + (1 : Int32))] [] (xLay, I, L, kM R) (0, 0) Φ := fun e => ih (i + 1) I x1 _ h1 (by omega) (by omega) (fun j hj => by
      rcases Nat.lt_or_ge j i with c | c
      · exact g1 j c
      · have : j = i := by omega
        subst this
        rw [e]; exact me_) (fun j hj hj2 => g2 j (by omega) hj2) o
    have upd : ∀ (v : Int32) (I' : sm_I), v.toInt = Fn k T i → I' = sm_up I 139 x2.toNatClampNeg v → sm_wp sm_P S d 210 6 [.ref 107, .int x1, .int (x2 + (1 : Int32))] [] (xLay, I', L, kM R) (0, 0) Φ := fun v I' e e' => by
      rw [n2x] at e'
      refine ih (i + 1) I' x1 _ h1 (by omega) (by omega) (fun j hj => ?_) (fun j hj hj2 => ?_) (fun p j hp => ?_)
      · by_cases c : j = i
        · rw [c, e', en_up_eq]; exact e
        · rw [e', en_up_ne _ _ _ _ (by omega)]; exact g1 j (by omega)
      · rw [e', en_up_ne _ _ _ _ (by omega)]; exact g2 j (by omega) hj2
      · rw [e', en_up_ne _ _ _ _ (by omega)]; exact o p j hp
    refine p_X12_walks_6 ⟨fun a => ?_, fun _ => ⟨by decide, fun n1 e1 => ?_⟩⟩
    · have a := kl_le.mp a
      omega
    have q0 : ((6 : Int32) * (x2 / (6 : Int32))).toInt = 6 * ((i / 6 : Nat) : Int) := ml_mu (by decide) d1 (by omega) (by omega)
    have q1 : n1.toInt = ((6 * (i / 6) + k : Nat) : Int) := by rw [e1, ml_ad q0 h1 (by omega) (by omega)]; omega
    refine ⟨kl_in (by omega) (by omega), by decide, fun n2 e2 => ?_⟩
    have q3 : ((6 : Int32) * x1).toInt = 6 * (k : Int) := ml_mu (by decide) h1 (by omega) (by omega)
    have q2 : n2.toInt = ((6 * k + i % 6 : Nat) : Int) := by rw [e2, ml_ad q3 d2 (by omega) (by omega)]; omega
    have m1 := tk_nat q1
    have m2 := tk_nat q2
    rw [m1, m2]
    have sum : (I 139 (6 * (i / 6) + k) + I 139 (6 * k + i % 6)).toInt = T (6 * (i / 6) + k) + T (6 * k + i % 6) := ml_ad rw_ cl_ (by omega) (by omega)
    refine ⟨kl_in (by omega) (by omega), fun c1 => ?_, fun c1 => ⟨fun c2 => ?_, fun c2 => ⟨vi, ?_⟩⟩⟩
    · rw [n1_1, rw_] at c1
      refine same ?_
      unfold Fn
      rw [if_pos (by omega)]
    · rw [n1_1, cl_] at c2
      refine same ?_
      unfold Fn
      split
      · rfl
      · rw [if_pos (by omega)]
    · rw [n1_1, rw_] at c1
      rw [n1_1, cl_] at c2
      rw [n2x]
      refine ⟨fun c3 n3 e3 => ⟨vi, fun I4 e4 => ?_⟩, fun c3 => ⟨vi, fun c4 => ?_, fun c4 n5 e5 => ⟨vi, fun I6 e6 => ?_⟩⟩⟩
      · rw [n1_1, me_] at c3
        refine upd n3 I4 ?_ (by rw [n2x]; exact e4)
        rw [e3, sum]
        unfold Fn
        rw [if_neg (by omega), if_neg (by omega), if_pos (by omega)]
      · rw [n1_1, me_] at c3
        have c4 := kl_le.mp c4
        rw [me_, sum] at c4
        refine same ?_
        unfold Fn
        rw [if_neg (by omega), if_neg (by omega), if_neg (by omega), if_neg (by omega)]
      · rw [n1_1, me_] at c3
        have c4 := kl_nle c4
        rw [me_, sum] at c4
        refine upd n5 I6 ?_ (by rw [n2x]; exact e6)
        rw [e5, sum]
        unfold Fn
        rw [if_neg (by omega), if_neg (by omega), if_neg (by omega), if_pos (by omega)]
theorem yw_4 {I0 : sm_I} {N : Nat → Int} (hN : WB 1440 N) (h : ∀ J : sm_I, (∀ i, i < 36 → (J 139 i).toInt = Ft 6 N i) → (∀ p j, p ≠ 139 → J p j = I0 p j) → Φ (none, (xLay, J, L, kM R))) : ∀ (m k : Nat) (I : sm_I) (x1 : Int32), x1.toInt = k → k + m = 6 → (∀ i, i < 36 → (I 139 i).toInt = Ft k N i) → (∀ p j, p ≠ 139 → I p j = I0 p j) → sm_wp sm_P S d 210 4 [.ref 107, .int x1] [] (xLay, I, L, kM R) (0, 0) Φ := by
  have c6 : (6 : Int32).toInt = 6 := by decide
  intro m
  induction m with
  | zero =>
    intro k I x1 h1 hm g o
    have e : k = 6 := by omega
    subst e
    refine p_X12_walks_4 ⟨fun _ => h I g o, fun a => ?_⟩
    have a := kl_nle a
    omega
  | succ m ih =>
    intro k I x1 h1 hm g o
    refine p_X12_walks_4 ⟨fun a => ?_, fun _ => yw_6 (I0 := I0) (T := Ft k N) (by omega) (WB_F6 hN k (by omega)) (fun J x1 h1 gJ oJ => ih (k + 1) J _ ?_ (by omega) gJ oJ) 36 0 I x1 0 h1 (by decide) (by decide) (fun j hj => absurd hj (Nat.not_lt_zero j)) (fun j _ hj => g j hj) o⟩
    · have a := kl_le.mp a
      omega
    · have s := ml_in1 (x := x1) (by omega)
      omega
theorem yw_1 {I0 : sm_I} {l : Nat} (hl : (I0 107 18).toInt = l) (l1 : l ≤ 1) (hN : WB 1440 (fun i => (I0 121 (36 * l + i)).toInt)) (h : ∀ J : sm_I, (∀ i, i < 36 → (J 139 i).toInt = Ft 6 (fun i => (I0 121 (36 * l + i)).toInt) i) → (∀ p j, p ≠ 139 → J p j = I0 p j) → Φ (none, (xLay, J, L, kM R))) : ∀ (m i : Nat) (I : sm_I) (x1 : Int32), x1.toInt = i → i + m = 36 → (∀ j, j < i → I 139 j = I0 121 (36 * l + j)) → (∀ p j, p ≠ 139 → I p j = I0 p j) → sm_wp sm_P S d 210 1 [.ref 107, .int x1] [] (xLay, I, L, kM R) (0, 0) Φ := by
  have c36 : (36 : Int32).toInt = 36 := by decide
  intro m
  induction m with
  | zero =>
    intro i I x1 h1 hm g o
    refine p_X12_walks_1 ⟨fun _ => yw_4 (I0 := I0) hN h 6 0 I 0 (by decide) (by decide) (fun j hj => by rw [g j (by omega)]; rfl) o, fun a => ?_⟩
    have a := kl_nle a
    omega
  | succ m ih =>
    intro i I x1 h1 hm g o
    have s1 := ml_in1 (x := x1) (by omega)
    have nx := tk_nat h1
    have e18 : (I 107 18).toInt = l := by rw [o 107 18 (by omega)]; exact hl
    have q1 : ((36 : Int32) * (I 107 18)).toInt = 36 * (l : Int) := ml_mu (by decide) e18 (by omega) (by omega)
    refine p_X12_walks_1 ⟨fun a => ?_, fun _ n1 e1 => ?_⟩
    · have a := kl_le.mp a
      omega
    have q2 : n1.toInt = ((36 * l + i : Nat) : Int) := by rw [e1, ml_ad q1 h1 (by omega) (by omega)]; omega
    have m1 := tk_nat q2
    refine ⟨kl_in (by omega) (by omega), kl_in (by omega) (by omega), fun I2 e2 => ?_⟩
    rw [nx, m1, o 121 _ (by omega)] at e2
    refine ih (i + 1) I2 _ (by omega) (by omega) (fun j hj => ?_) (fun p j hp => ?_)
    · by_cases c : j = i
      · rw [c, e2, en_up_eq]
      · rw [e2, en_up_ne _ _ _ _ (by omega)]; exact g j (by omega)
    · rw [e2, en_up_ne _ _ _ _ (by omega)]; exact o p j hp
theorem y_walks {l : Nat} (hl : (I 107 18).toInt = l) (l1 : l ≤ 1) (hN : WB 1440 (fun i => (I 121 (36 * l + i)).toInt)) (h : ∀ J : sm_I, (∀ i, i < 36 → (J 139 i).toInt = Ft 6 (fun i => (I 121 (36 * l + i)).toInt) i) → (∀ p j, p ≠ 139 → J p j = I p j) → Φ (none, (xLay, J, L, kM R))) : sm_wp sm_P S d 210 0 [.ref 107] [] (xLay, I, L, kM R) (0, 0) Φ := p_X12_walks_0 (yw_1 (I0 := I) hl l1 hN h 36 0 I 0 (by decide) (by decide) (fun j hj => absurd hj (Nat.not_lt_zero j)) (fun _ _ _ => rfl))
end
end
section
/-! MOVES: the pure list -/
def mvc (ps pl : Nat → Int32) (a b : Nat) : Bool := (!decide (ps a = -1) && decide (ps a = ps b)) && !decide (pl a = pl b)
def mrow (c : Nat → Nat → Bool) (a : Nat) : Nat → List (Nat × Nat)
  | 0 => []
  | b + 1 => mrow c a b ++ (if (decide (a < b) && c a b) = true then [(a, b)] else [])
def mall (c : Nat → Nat → Bool) (T : Nat) : Nat → List (Nat × Nat)
  | 0 => []
  | a + 1 => mall c T a ++ mrow c a T
section
variable {c : Nat → Nat → Bool} {a T : Nat}
theorem mrow_0 : ∀ b, b ≤ a + 1 → mrow c a b = [] := by
  intro b
  induction b with
  | zero => intro _; rfl
  | succ b ih =>
    intro h
    show mrow c a b ++ (if (decide (a < b) && c a b) = true then [(a, b)] else []) = []
    rw [ih (by omega), if_neg (by rw [decide_eq_false (by omega)]; simp)]
    rfl
theorem mrow_s {b : Nat} (h : a < b) : mrow c a (b + 1) = mrow c a b ++ (if c a b = true then [(a, b)] else []) := by
  show mrow c a b ++ (if (decide (a < b) && c a b) = true then [(a, b)] else []) = _
  rw [decide_eq_true h, Bool.true_and]
theorem mrow_len : ∀ b, (mrow c a b).length ≤ b - (a + 1) := by
  intro b
  induction b with
  | zero => exact Nat.zero_le _
  | succ b ih =>
    by_cases h : a < b
    · rw [mrow_s h, List.length_append]
      split
      · show _ + 1 ≤ _
        omega
      · show _ + 0 ≤ _
        omega
    · rw [mrow_0 (b + 1) (by omega)]
      exact Nat.zero_le _
theorem mall_len (hT : T ≤ 10) : ∀ a, a ≤ 10 → (((mall c T a).length : Nat) : Int) ≤ ml_S a := by
  intro a
  induction a with
  | zero => intro _; exact Int.le_refl _
  | succ a ih =>
    intro h
    have i := ih (by omega)
    have s := ml_S_st a (by omega)
    have r := mrow_len (c := c) (a := a) T
    show (((mall c T a ++ mrow c a T).length : Nat) : Int) ≤ ml_S (a + 1)
    rw [List.length_append, s.1]
    omega
theorem mv_45 {b : Nat} (hT : T ≤ 10) (h : a < b) (hb : b < T) : (mall c T a ++ mrow c a b).length < 45 := by
  have i := mall_len (c := c) hT a (by omega)
  have s := ml_S_st a (by omega)
  have r := mrow_len (c := c) (a := a) b
  rw [List.length_append]
  omega
theorem gD_l {l m : List (Nat × Nat)} {j : Nat} (h : j < l.length) : (l ++ m).getD j (0, 0) = l.getD j (0, 0) := by
  rw [List.getD_eq_getElem?_getD, List.getD_eq_getElem?_getD, List.getElem?_append_left h]
theorem gD_n {l : List (Nat × Nat)} {x : Nat × Nat} : (l ++ [x]).getD l.length (0, 0) = x := by
  rw [List.getD_eq_getElem?_getD, List.getElem?_append_right (Nat.le_refl _)]
  simp
theorem mrow_b : ∀ b j, j < (mrow c a b).length → ((mrow c a b).getD j (0, 0)).1 = a ∧ a < ((mrow c a b).getD j (0, 0)).2 ∧ ((mrow c a b).getD j (0, 0)).2 < b ∧ c a ((mrow c a b).getD j (0, 0)).2 = true := by
  intro b
  induction b with
  | zero => intro j hj; exact absurd hj (Nat.not_lt_zero j)
  | succ b ih =>
    intro j hj
    by_cases h : a < b
    · rw [mrow_s h] at hj ⊢
      by_cases q : c a b = true
      · rw [if_pos q] at hj ⊢
        rw [List.length_append] at hj
        have hj : j < (mrow c a b).length + 1 := hj
        by_cases e : j < (mrow c a b).length
        · rw [gD_l e]
          obtain ⟨i1, i2, i3, i4⟩ := ih j e
          exact ⟨i1, i2, by omega, i4⟩
        · have e : j = (mrow c a b).length := by omega
          rw [e, gD_n]
          exact ⟨rfl, h, Nat.lt_succ_self b, q⟩
      · rw [if_neg q, List.append_nil] at hj ⊢
        obtain ⟨i1, i2, i3, i4⟩ := ih j hj
        exact ⟨i1, i2, by omega, i4⟩
    · rw [mrow_0 (b + 1) (by omega)] at hj
      exact absurd hj (Nat.not_lt_zero j)
/-- each MOVE is of two TIMES, the lesser ahead -/
theorem mall_b : ∀ n j, j < (mall c T n).length → ((mall c T n).getD j (0, 0)).1 < n ∧ ((mall c T n).getD j (0, 0)).1 < ((mall c T n).getD j (0, 0)).2 ∧ ((mall c T n).getD j (0, 0)).2 < T ∧ c ((mall c T n).getD j (0, 0)).1 ((mall c T n).getD j (0, 0)).2 = true := by
  intro n
  induction n with
  | zero => intro j hj; exact absurd hj (Nat.not_lt_zero j)
  | succ n ih =>
    intro j hj
    have hj : j < (mall c T n ++ mrow c n T).length := hj
    show ((mall c T n ++ mrow c n T).getD j (0, 0)).1 < n + 1 ∧ ((mall c T n ++ mrow c n T).getD j (0, 0)).1 < ((mall c T n ++ mrow c n T).getD j (0, 0)).2 ∧ ((mall c T n ++ mrow c n T).getD j (0, 0)).2 < T ∧ c ((mall c T n ++ mrow c n T).getD j (0, 0)).1 ((mall c T n ++ mrow c n T).getD j (0, 0)).2 = true
    by_cases e : j < (mall c T n).length
    · rw [gD_l e]
      obtain ⟨i1, i2, i3, i4⟩ := ih j e
      exact ⟨by omega, i2, i3, i4⟩
    · rw [List.length_append] at hj
      obtain ⟨i1, i2, i3, i4⟩ := mrow_b (c := c) (a := n) T (j - (mall c T n).length) (by omega)
      have g : (mall c T n ++ mrow c n T).getD j (0, 0) = (mrow c n T).getD (j - (mall c T n).length) (0, 0) := by
        rw [List.getD_eq_getElem?_getD, List.getD_eq_getElem?_getD, List.getElem?_append_right (by omega)]
      rw [g, i1]
      exact ⟨Nat.lt_succ_self n, i2, i3, i4⟩
theorem mrow_cg {c' : Nat → Nat → Bool} : ∀ b, (∀ i, i < b → c a i = c' a i) → mrow c a b = mrow c' a b := by
  intro b
  induction b with
  | zero => intro _; rfl
  | succ b ih =>
    intro h
    show mrow c a b ++ (if (decide (a < b) && c a b) = true then [(a, b)] else []) = mrow c' a b ++ (if (decide (a < b) && c' a b) = true then [(a, b)] else [])
    rw [ih (fun i hi => h i (by omega)), h b (by omega)]
theorem mall_cg {c' : Nat → Nat → Bool} : ∀ n, n ≤ T → (∀ i j, i < T → j < T → c i j = c' i j) → mall c T n = mall c' T n := by
  intro n
  induction n with
  | zero => intro _ _; rfl
  | succ n ih =>
    intro hn h
    show mall c T n ++ mrow c n T = mall c' T n ++ mrow c' n T
    rw [ih (by omega) h, mrow_cg T (fun i hi => h n i (by omega) hi)]
end
end
