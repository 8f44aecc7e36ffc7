/-! tells of the reference, exact: open -/
theorem oy_iff {s : sm_I} {x : Int32} : ∀ k i, oy s x k i = true ↔ ∃ j, i ≤ j ∧ j < i + k ∧ s 18 j = x := by
  intro k
  induction k with
  | zero =>
    intro i
    exact ⟨fun q => absurd (show false = true from q) (by decide), fun ⟨j, j1, j2, _⟩ => by omega⟩
  | succ k ih =>
    intro i
    show (if s 18 i = x then true else oy s x k (i + 1)) = true ↔ _
    by_cases c1 : s 18 i = x
    · rw [if_pos c1]
      exact ⟨fun _ => ⟨i, Nat.le_refl _, by omega, c1⟩, fun _ => rfl⟩
    · rw [if_neg c1, ih (i + 1)]
      refine ⟨fun ⟨j, j1, j2, j3⟩ => ⟨j, by omega, by omega, j3⟩, fun ⟨j, j1, j2, j3⟩ => ⟨j, ?_, by omega, j3⟩⟩
      rcases Nat.lt_or_ge i j with q | q
      · omega
      · have : j = i := by omega
        subst this
        exact absurd j3 c1
theorem is_op_s {x : Int32} {a : sg} {k : Nat} (hx : x.toInt = k) (hk : k < 10) : is_op x a = decide (¬ a.1 18 k = -1) := by
  have c10 : (10 : Int32).toInt = 10 := by decide
  unfold is_op
  rw [if_neg (fun q => by rw [kl_lt, kl_0] at q; omega), if_neg (fun q => by rw [kl_le, c10] at q; omega), tk_nat hx]
/-- the reference's rows of what is open, and the class's -/
theorem rO_18 {s i : Nat} {a : sg} {I : sm_I} (h : rO s a I) (hi : i < 10) : I 135 (10 * s + i) = -1 ↔ a.1 18 i = -1 := by
  rcases h.1 i hi with q | ⟨k, q⟩
  · exact ⟨fun _ => q.2, fun _ => q.1⟩
  · obtain ⟨q1, q2, q3, q4, q5, q6, q7, -⟩ := q
    exact ⟨fun y => by rw [y, show (-1 : Int32).toInt = -1 from by decide] at q3; omega, fun y => absurd y q7⟩
section
variable {K : Nat → Int32} {P : Nat → Nat} {V W : Nat → Int64} {N : Nat → Int32} {c : Nat} {R0 : Option (Int32 × Nat)} {M0 : Option (Int32 × Nat) × sg}
variable {S : sm_C} {d : Nat} {Φ : sm_Z → Prop} {I : sm_I} {L : sm_L} {R : sm_R} {m : mo} {e : eo} {o : Option sg} {l s t : Nat} {g : gc}
theorem PWx_mo {x y : Int32} {u : Nat} (h : PWx P M0 x u I) (hxy : x.toInt ≤ y.toInt) : PWx P M0 y u I := fun z => by
  obtain ⟨h1, j, h2, h3, h4⟩ := h z
  refine ⟨h1, j, h2, h3, ?_⟩
  rcases h4 with h4 | ⟨h4, h5⟩
  · exact Or.inl h4
  · refine Or.inr ⟨h4, fun q => h5 ?_⟩
    rw [kl_lt] at q ⊢
    omega
/-- a name that must be known, the meaning left to the caller -/
theorem x_knownG {so s0 : Int32} (hT : TS K P V W N c) (hm : mkx s0 15 [] = true) (hS : PSm K P W N c R0 m I L) (hE : PEm K P V M0 e I) (hs : ∀ t s g, m = some (t, s, g) → s = s0) (b0 : 0 ≤ (I 107 20).toInt) (b1 : (I 107 20).toInt ≤ 50) (hb : ∀ i, i < cntm I → 0 ≤ (I 117 i).toInt) (hF : ∀ J : sm_I, xfr I J → PSm K P W N c R0 none J L → Φ (some (.int 0), (xLay, J, L, kM R))) (hN : ∀ (J : sm_I) (m' : mo) (t : Nat) (g : gc), xfr I J → PSm K P W N c R0 m' J L → PEm K P V M0 e J → J 107 13 = 0 → m = some (t, s0, g) → t < c → t < 500 → K t = 15 → (I 107 11).toInt = t → m' = some (t + 1, fw s0 15, g) → ((fdm I L (W t) so = -1 → sm_wp sm_P S (d + 2) 213 0 [.ref 107, .int (4 : Int32), .int (I 107 11)] [] (xLay, J, L, (kM R)) (0, 0) (fun z => ∃ (I1 : sm_I) (L2 : sm_L) (R3 : sm_R), z = (none, (xLay, I1, L2, (kM R3))) ∧ Φ (some (.int (fdm I L (W t) so)), (xLay, I1, L2, (kM R3))))) ∧ (¬ fdm I L (W t) so = -1 → Φ (some (.int (fdm I L (W t) so)), (xLay, J, L, kM R))))) : sm_wp sm_P S (d + 3) 154 0 [.ref 107, .int so] [] (xLay, I, L, kM R) (0, 0) Φ := by
  refine u_X12_known_0 (x_must (i := 15) [] hT rfl hS hE (fun t s g em => ⟨by rw [hs t s g em]; exact hm, fun j hj => absurd hj List.not_mem_nil⟩) (fun J m' f p q rel => ⟨J, L, R, rfl, fun z => ?_, fun z => ?_⟩))
  · have z := PS_le0 p z
    rcases rel with rel | ⟨t, s, g, em, c1, c2, ek, b3⟩
    · subst rel; exact absurd z (PS_no p)
    · have es := hs t s g em
      subst es
      have ek : K t = 15 := ek
      have h11 : (I 107 11).toInt = t := by
        have hS' := hS
        rw [em] at hS'
        exact hS'.2.2.2.2.1
      have eW : L 113 t = W t := (hS.1.2 t c1 (by omega)).2
      have ef : fdm J L (W t) so = fdm I L (W t) so := fdm_cg f
      have e20 : J 107 20 = I 107 20 := f 107 20 (by omega)
      have ec : cntm J = cntm I := by unfold cntm; rw [e20]
      exact x_known3 (r := fdm I L (W t) so) (t := t) (by rw [e20]; exact b0) (by rw [e20]; exact b1) h11 (by omega) (fun i hi => by rw [f 117 i (by omega)]; exact hb i (by rw [← ec]; exact hi)) (hN J m' t g f p q z em c1 c2 ek h11 b3) (cntm J) 0 (-1) 0 (by decide) (by omega) (by rw [if_pos rfl, eW]; exact ef)
  · have nz : ¬ J 107 13 = 0 := fun y => z (by rw [y]; decide)
    have := PS_n0 p nz
    subst this
    exact hF J f p
/-- the rest of an open, from its row on -/
theorem x_openE {J : sm_I} {o3 : Option sg} {x2 x4 x5 : Int32} (hT : TS K P V W N c) (hls : ml_ls l s) (hm : en_mem ml_tb mlX (xLay, I, L, R)) (hI : ml_TI l s I) (hG : rG s g I) (hr : (I 134 s).toInt < 4) (f1 : xfr I J) (X1 : PX K P V W N c R0 M0 m o3 J L) (r1 : ∀ t' s' g', m = some (t', s', g') → t < t' ∧ s' = 30 ∧ g' = gc_st 0 10 g) (h5 : x5.toInt = ((240 + 4 * s + (I 134 s).toNatClampNeg : Nat) : Int)) (b2 : m ≠ none → -1 ≤ x2.toInt ∧ x2.toInt ≤ 9) (ho : m ≠ none → ∀ a3, o3 = some a3 → ¬ x2 = -1 ∧ ¬ x4 = -1 ∧ x2.toInt < (I 122 s).toInt ∧ ∃ a, rL K V W s t a I L ∧ a.1 18 x2.toNatClampNeg = -1 ∧ a3 = u2 (u2 (u2 a 2 7 10) 2 8 x2) 2 9 x4) (h : ∀ (J : sm_I) (L' : sm_L), TP K P V W N c R0 M0 s t J L' → Φ (none, (xLay, J, L', kM R))) : (vp_in x5 260) ∧ ∀ I1 : sm_I, I1 = (sm_up J 130 x5.toNatClampNeg x2) → (vp_in x5 260) ∧ ∀ I2 : sm_I, I2 = (sm_up I1 131 x5.toNatClampNeg x4) → sm_wp sm_P S (d + 3) 169 0 [.ref 107, .int (0 : Int32)] [] (xLay, I2, L, (kM R)) (0, 0) (fun z => ∃ (r6 : Int32) (I3 : sm_I) (L4 : sm_L) (R5 : sm_R), z = (some (.int r6), (xLay, I3, L4, (kM R5))) ∧ (vp_in x5 260) ∧ ∀ I7 : sm_I, I7 = (sm_up I3 132 x5.toNatClampNeg r6) → sm_wp sm_P S (d + 3) 169 0 [.ref 107, .int (0 : Int32)] [] (xLay, I7, L4, (kM R5)) (0, 0) (fun z => ∃ (r11 : Int32) (I8 : sm_I) (L9 : sm_L) (R10 : sm_R), z = (some (.int r11), (xLay, I8, L9, (kM R10))) ∧ (vp_in x5 260) ∧ ∀ I12 : sm_I, I12 = (sm_up I8 133 x5.toNatClampNeg r11) → sm_wp sm_P S (d + 3) 165 0 [.ref 107, .int (4 : Int32)] [] (xLay, I12, L9, (kM R10)) (0, 0) (fun z => ∃ (I13 : sm_I) (L14 : sm_L) (R15 : sm_R), z = (none, (xLay, I13, L14, (kM R15))) ∧ (((I13 107 13) ≤ 0 → ((x2 = (-1 : Int32) → (vp_in (I13 107 19) 2) ∧ ∀ n17 : Int32, n17 = ((I13 134 (I13 107 19).toNatClampNeg) + (1 : Int32)) → (vp_in (I13 107 19) 2) ∧ ∀ I18 : sm_I, I18 = (sm_up I13 134 (I13 107 19).toNatClampNeg n17) → Φ (none, (xLay, I18, L14, (kM R15)))) ∧ (¬ x2 = (-1 : Int32) → ∀ n19 : Int32, n19 = (((10 : Int32) * (I13 107 19)) + x2) → (vp_in n19 20) ∧ ∀ I20 : sm_I, I20 = (sm_up I13 135 n19.toNatClampNeg x5) → (vp_in (I20 107 19) 2) ∧ ∀ n21 : Int32, n21 = ((I20 134 (I20 107 19).toNatClampNeg) + (1 : Int32)) → (vp_in (I20 107 19) 2) ∧ ∀ I22 : sm_I, I22 = (sm_up I20 134 (I20 107 19).toNatClampNeg n21) → Φ (none, (xLay, I22, L14, (kM R15)))))) ∧ (¬ (I13 107 13) ≤ 0 → Φ (none, (xLay, I13, L14, (kM R15)))))))) := by
  obtain ⟨hl1, hs1⟩ := ml_l1 hls
  obtain ⟨sn, sv⟩ := ml_sn hls hI
  have bc := ml_cs hs1 hm
  have b34 := x_34 hs1 hm
  have k0 : (((I 134 s).toNatClampNeg : Nat) : Int) = (I 134 s).toInt := kl_nat b34.1
  obtain ⟨i5, hi5⟩ : ∃ i5, i5 = 240 + 4 * s + (I 134 s).toNatClampNeg := ⟨_, rfl⟩
  rw [← hi5] at h5
  have n5 := tk_nat h5
  have v5 : vp_in x5 260 := kl_in (by omega) (by omega)
  rw [n5]
  refine ⟨v5, fun I1 e1 => ⟨v5, fun I2 e2 => ?_⟩⟩
  have X2 : PX K P V W N c R0 M0 m o3 I2 L := by rw [e2, e1]; exact PX_up (by decide) (by omega) (PX_up (by decide) (by omega) X1)
  refine x_numU (s0 := 30) hT (by decide +kernel) (fun r a => u2 a 2 10 r) (fun v a hv => by rw [ms_16 hv]; rfl) X2 (fun t' s' g' em => (r1 t' s' g' em).2.1) (fun r6 I3 m3 o4 f3 X3 r3 => ⟨r6, I3, L, R, rfl, v5, fun I7 e7 => ?_⟩)
  have X7 : PX K P V W N c R0 M0 m3 o4 I7 L := by rw [e7]; exact PX_up (by decide) (by omega) X3
  have m3s : ∀ t' s' g', m3 = some (t', s', g') → t < t' ∧ s' = 5 ∧ g' = gc_st 0 10 g ∧ m ≠ none ∧ (o4 = none ∨ o4 = o3.map (fun a => u2 a 2 10 r6)) := fun t' s' g' em => by
    rcases r3 with r3 | ⟨t2, g2, em2, q2, q3, q4, q5⟩
    · rw [r3] at em; cases em
    · rw [q4] at em
      obtain ⟨y1, y2, y3⟩ := mo_i em
      obtain ⟨z1, z2, z3⟩ := r1 t2 30 g2 em2
      refine ⟨by omega, by rw [← y2]; decide +kernel, by rw [← y3]; exact z3, by rw [em2]; exact Option.some_ne_none _, ?_⟩
      rcases q5 with q5 | ⟨-, -, q5⟩
      · exact Or.inl q5
      · exact Or.inr q5
  refine x_numU (s0 := 5) hT (by decide +kernel) en_po (fun v a hv => by rw [ms_16 hv]; rfl) X7 (fun t' s' g' em => (m3s t' s' g' em).2.1) (fun r11 I8 m8 o8 f8 X8 r8 => ⟨r11, I8, L, R, rfl, v5, fun I12 e12 => ?_⟩)
  have X12 : PX K P V W N c R0 M0 m8 o8 I12 L := by rw [e12]; exact PX_up (by decide) (by omega) X8
  have m8s : ∀ t' s' g', m8 = some (t', s', g') → t < t' ∧ s' = 2 ∧ g' = gc_st 0 10 g ∧ m ≠ none ∧ ∀ a', o8 = some a' → ∃ a3, o3 = some a3 ∧ a' = en_po r11 (u2 a3 2 10 r6) := fun t' s' g' em => by
    rcases r8 with r8 | ⟨t2, g2, em2, q2, q3, q4, q5⟩
    · rw [r8] at em; cases em
    · rw [q4] at em
      obtain ⟨y1, y2, y3⟩ := mo_i em
      obtain ⟨z1, z2, z3, z4, z5⟩ := m3s t2 5 g2 em2
      refine ⟨by omega, by rw [← y2]; decide +kernel, by rw [← y3]; exact z3, z4, fun a' ea => ?_⟩
      rcases q5 with q5 | ⟨-, -, q5⟩
      · rw [q5] at ea; cases ea
      obtain ⟨a4, ea4, ea4'⟩ := om (Or.inr q5) ea
      obtain ⟨a3, ea3, ea3'⟩ := om z5 ea4
      exact ⟨a3, ea3, by rw [ea4', ea3']⟩
  refine x_mustT (i := 17) (s0 := 2) [] hT rfl (by decide +kernel) (fun v a => rfl) X12 (fun t' s' g' em => ⟨(m8s t' s' g' em).2.1, fun j hj => absurd hj List.not_mem_nil⟩) (fun J3 m9 f9 X9 r9 => ⟨J3, L, R, rfl, fun z => ?_, fun z => ?_⟩)
  · have z := PS_le0 X9.1 z
    rcases r9 with r9 | ⟨t3, g3, em3, v1, v2, v3, v4⟩
    · rw [r9] at X9; exact absurd z (PS_no X9.1)
    obtain ⟨y1, y2, y3, y4, y5⟩ := m8s t3 2 g3 em3
    have e4 : fw 2 (Int32.ofNat 17) = 0 := by decide +kernel
    have ft : ∀ p j, ¬ (130 ≤ p ∧ p ≤ 133 ∧ j = i5) → ¬ (p = 107 ∧ (j = 11 ∨ j = 13 ∨ j = 14 ∨ j = 15 ∨ j = 16)) → J3 p j = I p j := fun p j p1 p2 => by rw [f9 p j p2, e12, en_up_ne _ _ _ _ (by omega), f8 p j p2, e7, en_up_ne _ _ _ _ (by omega), f3 p j p2, e2, en_up_ne _ _ _ _ (by omega), e1, en_up_ne _ _ _ _ (by omega), f1 p j p2]
    have k130 : J3 130 i5 = x2 := by rw [f9 130 _ (by omega), e12, en_up_ne _ _ _ _ (by omega), f8 130 _ (by omega), e7, en_up_ne _ _ _ _ (by omega), f3 130 _ (by omega), e2, en_up_ne _ _ _ _ (by omega), e1, en_up_eq]
    have k131 : J3 131 i5 = x4 := by rw [f9 131 _ (by omega), e12, en_up_ne _ _ _ _ (by omega), f8 131 _ (by omega), e7, en_up_ne _ _ _ _ (by omega), f3 131 _ (by omega), e2, en_up_eq]
    have k132 : J3 132 i5 = r6 := by rw [f9 132 _ (by omega), e12, en_up_ne _ _ _ _ (by omega), f8 132 _ (by omega), e7, en_up_eq]
    have k133 : J3 133 i5 = r11 := by rw [f9 133 _ (by omega), e12, en_up_eq]
    have g19 : J3 107 19 = I 107 19 := ft 107 19 (by omega) (by omega)
    have g20 : J3 107 20 = I 107 20 := ft 107 20 (by omega) (by omega)
    have g134 : J3 134 s = I 134 s := ft 134 s (by omega) (by omega)
    have b2 := b2 y4
    -- counts
    have cG : ∀ J7 : sm_I, (∀ p j, p ≠ 135 → ¬ (p = 134 ∧ j = s) → J7 p j = J3 p j) → J7 134 s = I 134 s + 1 → rG s g3 J7 := fun J7 o7 r7 => by
      have o7' : ∀ p j, p ≠ 107 → p ≠ 135 → ¬ (p = 134 ∧ j = s) → ¬ (130 ≤ p ∧ p ≤ 133 ∧ j = i5) → J7 p j = I p j := fun p j p0 p1 p2 p3 => by rw [o7 p j p1 p2]; exact ft p j p3 (by omega)
      have r7i : (J7 134 s).toInt = (I 134 s).toInt + 1 := by rw [r7]; exact ml_in1 (by omega)
      rw [y3]
      unfold rG
      obtain ⟨G1, G2, G3, G4, G5, G6, G7⟩ := hG
      refine ⟨?_, ?_, ?_, ?_, ?_, ?_, ?_⟩
      · rw [o7' 118 s (by decide) (by decide) (by omega) (by omega), gc0_t (by decide), if_neg (by decide)]; exact G1
      · rw [o7' 119 s (by decide) (by decide) (by omega) (by omega), gc0_t (by decide), if_neg (by decide)]; exact G2
      · rw [o7' 120 s (by decide) (by decide) (by omega) (by omega), gc0_t (by decide), if_neg (by decide)]; exact G3
      · rw [o7' 122 s (by decide) (by decide) (by omega) (by omega), gc0_t (by decide), if_neg (by decide)]; exact G4
      · rw [o7' 125 s (by decide) (by decide) (by omega) (by omega), gc0_t (by decide), if_neg (by decide)]; exact G5
      · rw [r7i, gc0_t (by decide), if_pos (by decide)]; omega
      · rw [o7' 136 s (by decide) (by decide) (by omega) (by omega), gc0_t (by decide), if_neg (by decide)]; exact G7
    refine ⟨fun q => ?_, fun q n19 e19 => ?_⟩
    · rw [g19, sn]
      refine ⟨sv, fun n17 e17 => ⟨sv, fun J7 e7' => h J7 L ⟨m9, o8, ?_, Or.inr ⟨t3 + 1, g3, by rw [v4, e4], by omega, cG J7 (fun p j p1 p2 => by rw [e7', en_up_ne _ _ _ _ p2]) (by rw [e7', en_up_eq, e17, g134]), fun a' ea => ?_⟩⟩⟩⟩
      · rw [e7']; exact PX_up (by decide) (by omega) X9
      · obtain ⟨a3, ea3, -⟩ := y5 a' ea
        exact absurd q (ho y4 a3 ea3).1
    · have d2 := ml_m1 q
      have q10 : ((10 : Int32) * (I 107 19)).toInt = 10 * (s : Int) := ml_mu (by decide) hI.2.1 (by omega) (by omega)
      rw [g19] at e19
      obtain ⟨x0, hx0⟩ : ∃ x0 : Nat, x2.toInt = x0 := ⟨x2.toNatClampNeg, (kl_nat (by omega)).symm⟩
      have x0n := tk_nat hx0
      have q19 : n19.toInt = ((10 * s + x0 : Nat) : Int) := by rw [e19, ml_ad q10 rfl (by omega) (by omega)]; omega
      have n19n := tk_nat q19
      refine ⟨kl_in (by omega) (by omega), fun J20 e20 => ?_⟩
      rw [n19n] at e20
      have s20 : J20 107 19 = I 107 19 := by rw [e20, en_up_ne _ _ _ _ (by omega)]; exact g19
      rw [s20, sn]
      refine ⟨sv, fun n21 e21 => ⟨sv, fun J7 e7' => ?_⟩⟩
      have o7 : ∀ p j, ¬ (p = 135 ∧ j = 10 * s + x0) → ¬ (p = 134 ∧ j = s) → J7 p j = J3 p j := fun p j p1 p2 => by rw [e7', en_up_ne _ _ _ _ p2, e20, en_up_ne _ _ _ _ p1]
      have r7 : J7 134 s = I 134 s + 1 := by rw [e7', en_up_eq, e21, e20, en_up_ne _ _ _ _ (by omega), g134]
      have r7i : (J7 134 s).toInt = (I 134 s).toInt + 1 := by rw [r7]; exact ml_in1 (by omega)
      have k135 : J7 135 (10 * s + x0) = x5 := by rw [e7', en_up_ne _ _ _ _ (by omega), e20, en_up_eq]
      refine h J7 L ⟨m9, o8, ?_, Or.inr ⟨t3 + 1, g3, by rw [v4, e4], by omega, cG J7 (fun p j p1 p2 => o7 p j (by omega) p2) r7, fun a' ea => ?_⟩⟩
      · rw [e7', e20]; exact PX_up (by decide) (by omega) (PX_up (by decide) (by omega) X9)
      · obtain ⟨a3, ea3, ea'⟩ := y5 a' ea
        obtain ⟨n1, n2, lt, a, RL, a18, ea4⟩ := ho y4 a3 ea3
        subst ea4
        rw [x0n] at a18
        have d4 := ml_m1 n2
        have b7 : (u2 (u2 (u2 (u2 a 2 7 10) 2 8 x2) 2 9 x4) 2 10 r6).1 2 7 = 10 := by rw [u2_ne _ _ _ _ (by omega), u2_ne _ _ _ _ (by omega), u2_ne _ _ _ _ (by omega), u2_eq]
        have b8 : (u2 (u2 (u2 (u2 a 2 7 10) 2 8 x2) 2 9 x4) 2 10 r6).1 2 8 = x2 := by rw [u2_ne _ _ _ _ (by omega), u2_ne _ _ _ _ (by omega), u2_eq]
        have b9 : (u2 (u2 (u2 (u2 a 2 7 10) 2 8 x2) 2 9 x4) 2 10 r6).1 2 9 = x4 := by rw [u2_ne _ _ _ _ (by omega), u2_eq]
        have b10 : (u2 (u2 (u2 (u2 a 2 7 10) 2 8 x2) 2 9 x4) 2 10 r6).1 2 10 = r6 := u2_eq _ _ _ _
        have es : a' = spb 16 10 x2 x2 x4 r6 r11 (u2 (u2 (u2 (u2 a 2 7 10) 2 8 x2) 2 9 x4) 2 10 r6) := by
          rw [ea']
          unfold en_po
          rw [b7, if_neg (by decide), b8, b9, b10]
        have B : ∀ p j, p ≠ 2 → ¬ (17 ≤ p ∧ p ≤ 20 ∧ j = x0) → a'.1 p j = a.1 p j := fun p j p1 p2 => by rw [es, spb_o (by rw [x0n]; omega), u2_ne _ _ _ _ (by omega), u2_ne _ _ _ _ (by omega), u2_ne _ _ _ _ (by omega), u2_ne _ _ _ _ (by omega)]
        have SI := spb_i (cc := 16) (n := 10) (x := x2) (y := x4) (lo := r6) (hi := r11) (a := u2 (u2 (u2 (u2 a 2 7 10) 2 8 x2) 2 9 x4) 2 10 r6) hx0 (by omega) (by omega)
        rw [← es] at SI
        have o7I : ∀ p j, p ≠ 107 → ¬ (p = 135 ∧ j = 10 * s + x0) → ¬ (p = 134 ∧ j = s) → ¬ (130 ≤ p ∧ p ≤ 133 ∧ j = i5) → J7 p j = I p j := fun p j p0 p1 p2 p3 => by rw [o7 p j p1 p2]; exact ft p j p3 (by omega)
        have ec : J7 107 20 = I 107 20 := by rw [o7 107 20 (by omega) (by omega)]; exact g20
        obtain ⟨⟨R5, RN⟩, RC, RT, RO, RW, RS, RQ, RB⟩ := RL
        have ex2 : x2 = Int32.ofNat x0 := en_ofI (by rw [hx0, Int32.toInt_ofNat_of_lt (by omega)])
        have new : rO1 s x0 (I 134 s).toNatClampNeg a' J7 := by
          refine ⟨by rw [r7i]; omega, by rw [o7I 122 s (by decide) (by omega) (by omega) (by omega)]; omega, by rw [k135, h5, hi5], ?_, ?_, ?_, ?_, ?_, ?_⟩
          · rw [← hi5, o7 130 _ (by omega) (by omega), k130]; exact ex2
          · rw [SI.1]; exact ex2
          · rw [← hi5, o7 131 _ (by omega) (by omega), k131]; exact SI.2.1
          · rw [SI.2.1]; exact n2
          · rw [← hi5, o7 132 _ (by omega) (by omega), k132]; exact SI.2.2.1
          · rw [← hi5, o7 133 _ (by omega) (by omega), k133]; exact SI.2.2.2
        have old : ∀ i k, i < 10 → i ≠ x0 → rO1 s i k a I → rO1 s i k a' J7 := fun i k hi hne q => rO1_cg q b34.2 (fun c' c1 c2 => B c' i (by omega) (by omega)) (by rw [r7i]; omega) (by rw [o7I 122 s (by decide) (by omega) (by omega) (by omega)]; exact Int.le_refl _) (o7I 135 _ (by decide) (by omega) (by omega) (by omega)) (fun p j p1 p2 j1 j2 => o7I p j (by omega) (by omega) (by omega) (by omega))
        refine ⟨⟨?_, ?_⟩, ?_, ?_, ?_, ?_, ?_, ?_, ?_⟩
        · rw [es, spb_o (by omega), u2_ne _ _ _ _ (by omega), u2_ne _ _ _ _ (by omega), u2_ne _ _ _ _ (by omega), u2_ne _ _ _ _ (by omega), ec]; exact R5
        · have : cntm J7 = cntm I := by unfold cntm; rw [ec]
          rw [this]
          exact rN_cg RN (t3 + 1) (by omega) (fun i _ => ⟨by rw [es, spb_2]; rfl, B 10 i (by decide) (by omega), B 11 i (by decide) (by omega)⟩) (fun i _ => ⟨rfl, o7I 116 i (by decide) (by omega) (by omega) (by omega), o7I 117 i (by decide) (by omega) (by omega) (by omega)⟩)
        · unfold rC
          rw [B 12 0 (by decide) (by omega), B 12 1 (by decide) (by omega), B 12 2 (by decide) (by omega), B 12 3 (by decide) (by omega), B 12 4 (by decide) (by omega), o7I 118 s (by decide) (by omega) (by omega) (by omega), o7I 119 s (by decide) (by omega) (by omega) (by omega), o7I 122 s (by decide) (by omega) (by omega) (by omega), o7I 125 s (by decide) (by omega) (by omega) (by omega), o7I 136 s (by decide) (by omega) (by omega) (by omega)]
          exact RC
        · exact rT_cg RT (fun c' j hc => B c' j (by omega) (by omega)) (fun p j hp => o7I p j (by omega) (by omega) (by omega) (by omega))
        · refine ⟨fun i hi => ?_, fun k hk => ?_⟩
          · by_cases ci : i = x0
            · subst ci; exact Or.inr ⟨_, new⟩
            · rcases RO.1 i hi with q' | ⟨k, q'⟩
              · left
                rw [o7I 135 _ (by decide) (by omega) (by omega) (by omega), B 18 i (by decide) (by omega)]; exact q'
              · exact Or.inr ⟨k, old i k hi ci q'⟩
          · rw [r7i] at hk
            by_cases ck : k = (I 134 s).toNatClampNeg
            · rw [ck]; exact ⟨x0, by omega, new⟩
            · obtain ⟨i, hi, q'⟩ := RO.2 k (by omega)
              refine ⟨i, hi, old i k hi (fun y => ?_) q'⟩
              obtain ⟨-, -, -, -, -, -, w7, -⟩ := q'
              rw [y] at w7
              exact w7 a18
        · exact rW_cg RW (fun j => B 13 j (by decide) (by omega)) (fun j => o7I 121 j (by decide) (by omega) (by omega) (by omega))
        · exact rS_cg RS bc.2.2.2.1.2 hs1 (fun c' j hc => B c' j (by omega) (by omega)) (fun p j hp => o7I p j (by omega) (by omega) (by omega) (by omega))
        · exact rQ_cg RQ (fun c' j h1 h2 => B c' j (by omega) (by omega)) (fun p j hp => o7I p j (by omega) (by omega) (by omega) (by omega))
        · exact rB_cg RB ec (fun i _ => ⟨o7I 116 i (by decide) (by omega) (by omega) (by omega), o7I 117 i (by decide) (by omega) (by omega) (by omega)⟩) (by rw [o7I 122 s (by decide) (by omega) (by omega) (by omega)]; exact Int.le_refl _)
  · have nz : ¬ J3 107 13 = 0 := fun y => z (by rw [y]; decide)
    have em := PS_n0 X9.1 nz
    exact h J3 L ⟨m9, o8, X9, Or.inl em⟩
end
