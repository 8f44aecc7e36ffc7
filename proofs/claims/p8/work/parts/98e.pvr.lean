/-! tells of the reference, exact: open, from its start -/
section
variable {K : Nat → Int32} {P : Nat → Nat} {V W : Nat → Int64} {N : Nat → Int32} {c : Nat} {R0 : Option (Int32 × Nat)} {M0 : Option (Int32 × Nat) × sg}
variable {S : sm_C} {d : Nat} {Φ : sm_Z → Prop} {I : sm_I} {L : sm_L} {R : sm_R} {m : mo} {e : eo} {o : Option sg} {l s t : Nat} {g : gc}
/-- what is wrong further on is of no account -/
theorem x_wrongI {x1 x2 : Int32} {u : Nat} (hT : TS K P V W N c) (h2 : x2.toInt = u) (uc : u ≤ c) (u5 : u ≤ 500) (hS : PSm K P W N c R0 m I L) (hw : I 107 13 = 0 → 0 < (I 107 15).toInt ∧ ∃ j, j < u ∧ (I 107 16).toInt = P j) (h : Φ (none, (xLay, I, L, kM R))) : sm_wp sm_P S d 213 0 [.ref 107, .int x1, .int x2] [] (xLay, I, L, kM R) (0, 0) Φ := by
  have n2 := tk_nat h2
  have eP : (I 111 x2.toNatClampNeg).toInt = P u := by rw [n2]; exact (hS.1.1 u uc u5).2
  refine u_X12_wrong_0 ⟨kl_in (by omega) (by omega), fun _ => h, fun a => ?_⟩
  have z : I 107 13 = 0 := by
    have q := PS_f hS
    have a := kl_nlt a
    rw [kl_0] at a
    exact en_ofI (by rw [kl_0]; omega)
  obtain ⟨w1, j, j1, j2⟩ := hw z
  have lt := hT.2.2.2.2.1 j u j1 uc
  refine ⟨fun b => ?_, fun _ => ⟨fun _ => h, fun l => ?_⟩⟩
  · rw [b, kl_0] at w1; omega
  · exfalso
    apply l
    rw [kl_lt]; omega
/-- the first that is wrong is noted -/
theorem x_wrong0 {x1 x2 : Int32} {u : Nat} (h2 : x2.toInt = u) (uc : u ≤ c) (u5 : u ≤ 500) (hS : PSm K P W N c R0 m I L) (z : I 107 13 = 0) (hw : I 107 15 = 0) (h : ∀ J : sm_I, xfr I J → PSm K P W N c R0 m J L → J 107 15 = x1 → (J 107 16).toInt = P u → Φ (none, (xLay, J, L, kM R))) : sm_wp sm_P S d 213 0 [.ref 107, .int x1, .int x2] [] (xLay, I, L, kM R) (0, 0) Φ := by
  have n2 := tk_nat h2
  have eP : (I 111 x2.toNatClampNeg).toInt = P u := by rw [n2]; exact (hS.1.1 u uc u5).2
  refine u_X12_wrong_0 ⟨kl_in (by omega) (by omega), fun a => ?_, fun _ => ⟨fun _ J e => ?_, fun b => absurd hw b⟩⟩
  · rw [z] at a; exact absurd a (by decide)
  · have f : xfr I J := fun p j q => by rw [e, en_up_ne _ _ _ _ (by omega), en_up_ne _ _ _ _ (by omega)]
    have n11 : J 107 11 = I 107 11 := by rw [e, en_up_ne _ _ _ _ (by omega), en_up_ne _ _ _ _ (by omega)]
    have n13 : J 107 13 = I 107 13 := by rw [e, en_up_ne _ _ _ _ (by omega), en_up_ne _ _ _ _ (by omega)]
    have n14 : J 107 14 = I 107 14 := by rw [e, en_up_ne _ _ _ _ (by omega), en_up_ne _ _ _ _ (by omega)]
    refine h J f ?_ (by rw [e, en_up_ne _ _ _ _ (by omega), en_up_eq]) (by rw [e, en_up_eq]; exact eP)
    unfold PSm PFa at hS ⊢
    rw [n11, n13, n14]
    exact ⟨tx_fr hS.1 (fun p j _ _ => f p j (by omega)), hS.2⟩
/-- the rest of an open when the grammar has failed -/
theorem x_openF {J : sm_I} {x2 x3 x4 x5 : Int32} (hT : TS K P V W N c) (hls : ml_ls l s) (hm : en_mem ml_tb mlX (xLay, I, L, R)) (hI : ml_TI l s I) (hG : rG s g I) (hr : (I 134 s).toInt < 4) (h5 : x5.toInt = ((240 + 4 * s + (I 134 s).toNatClampNeg : Nat) : Int)) (fJ : xfr I J) (pJ : PSm K P W N c R0 none J L) (h : ∀ (J : sm_I) (L' : sm_L), TP K P V W N c R0 M0 s t J L' → Φ (none, (xLay, J, L', kM R))) : sm_wp sm_P S (d + 4) 198 7 [.ref 107, .int x2, .int x3, .int x4, .int x5] [] (xLay, J, L, kM R) (0, 0) Φ := by
  have nz := PS_no pJ
  have fin := x_openE (S := S) (d := d) (x2 := x2) (x4 := x4) (o3 := none) (m := none) (t := t) hT hls hm hI hG hr fJ (PX_F (V := V) (M0 := M0) pJ) (fun t' s' g' em => by cases em) h5 (fun y => absurd rfl y) (fun y => absurd rfl y) h
  exact u_X12_tellOpen_7 ⟨fun z => absurd z nz, fun _ => u_X12_tellOpen_12 (fun n1 _ => u_X12_tellOpen_13 ⟨fun _ => fin, fun _ => ⟨fun z => absurd z nz, fun _ => fin⟩⟩)⟩
theorem op27 {a : sg} {x2 : Int32} {v : Int64} {k2 : Nat} (hf : fd (u2 a 2 7 10) v 3 = x2) (n2 : ¬ x2 = -1) (h2 : x2.toInt = k2) (k9 : k2 < 10) : ms 27 15 v (u2 a 2 7 10) = (if ¬ a.1 18 k2 = -1 then 5 else 0, u2 (u2 a 2 7 10) 2 8 x2) := by
  rw [ms_15]
  show tk_open 27 v (u2 a 2 7 10) = _
  unfold tk_open
  rw [hf, if_neg n2, if_pos rfl, is_op_s h2 k9, u2_ne _ _ _ _ (by omega)]
  by_cases c2 : a.1 18 k2 = -1
  · rw [show decide (¬ a.1 18 k2 = -1) = false from decide_eq_false (fun y => y c2), if_neg (show ¬ (false = true) by decide), if_neg (show ¬ ¬ a.1 18 k2 = -1 from fun y => y c2)]
  · rw [show decide (¬ a.1 18 k2 = -1) = true from decide_eq_true c2, if_pos rfl, if_pos (show ¬ a.1 18 k2 = -1 from c2)]
theorem x_tellOpen (hT : TS K P V W N c) (hls : ml_ls l s) (hm : en_mem ml_tb mlX (xLay, I, L, R)) (hI : ml_TI l s I) (hX : PX K P V W N c R0 M0 (some (t, 0, g)) o I L) (hG : rG s g I) (hR : ∀ a, o = some a → rL K V W s t a I L) (ek : K t = 10) (hr : (I 134 s).toInt < 4) (h : ∀ (J : sm_I) (L' : sm_L), TP K P V W N c R0 M0 s t J L' → Φ (none, (xLay, J, L', kM R))) : sm_wp sm_P S (d + 4) 198 0 [.ref 107] [] (xLay, I, L, kM R) (0, 0) Φ := by
  obtain ⟨hl1, hs1⟩ := ml_l1 hls
  obtain ⟨sn, sv⟩ := ml_sn hls hI
  have bc := ml_cs hs1 hm
  have b34 := x_34 hs1 hm
  obtain ⟨⟨b0, b1⟩, hb⟩ := x_b117 hm
  have tc : t ≤ c := hX.1.2.2.2.2.2.1
  have k0 : (((I 134 s).toNatClampNeg : Nat) : Int) = (I 134 s).toInt := kl_nat b34.1
  have ok : gc_ok 0 10 g = true := by
    unfold gc_ok
    rw [if_pos ⟨rfl, by decide⟩]
    refine decide_eq_true ?_
    have := hG.2.2.2.2.2.1
    rw [show gw 10 = 10 from by decide, show (sm_room.getD 10 0).toInt = 4 from by decide]
    omega
  have q4s : ((4 : Int32) * (I 107 19)).toInt = 4 * (s : Int) := ml_mu (by decide) hI.2.1 (by omega) (by omega)
  have q24 : ((240 : Int32) + (4 : Int32) * (I 107 19)).toInt = 240 + 4 * (s : Int) := ml_ad (by decide) q4s (by omega) (by omega)
  have q10 : ((10 : Int32) * (I 107 19)).toInt = 10 * (s : Int) := ml_mu (by decide) hI.2.1 (by omega) (by omega)
  have x5v : ∀ (J : sm_I) (n : Int32), xfr I J → n = (((240 : Int32) + ((4 : Int32) * (J 107 19))) + (J 134 s)) → n.toInt = ((240 + 4 * s + (I 134 s).toNatClampNeg : Nat) : Int) := fun J n f en => by
    rw [en, f 107 19 (by omega), f 134 s (by omega), ml_ad q24 rfl (by omega) (by omega)]; omega
  refine u_X12_tellOpen_0 (x_go0 (k := 10) hT ek (by decide) (by decide) (by decide +kernel) (by decide) (by decide) ok hX (fun J1 m1 f1 X1 r1 => ⟨J1, L, R, rfl, ?_⟩))
  have m1s : ∀ t' s' g', m1 = some (t', s', g') → t' = t + 1 ∧ s' = 27 ∧ g' = gc_st 0 10 g := fun t' s' g' em => by
    rcases r1 with r1 | ⟨q1, q2, q3⟩
    · rw [r1] at em; cases em
    · rw [q3] at em
      obtain ⟨y1, y2, y3⟩ := mo_i em
      exact ⟨y1.symm, by rw [← y2]; decide +kernel, y3.symm⟩
  have c20 : J1 107 20 = I 107 20 := f1 107 20 (by omega)
  have cm1 : cntm J1 = cntm I := by unfold cntm; rw [c20]
  have fd1 : ∀ a, rL K V W s t a I L → ∀ k2 : Int32, ∀ u, u < c → K u = 15 → fd (u2 a 2 7 10) (V u) 3 = fdm I L (W u) 2 ∧ fd (u2 (u2 a 2 7 10) 2 8 k2) (V u) 3 = fdm I L (W u) 2 := fun a RL k2 u uc ku => by
    have RL1 := rL_a RL (Nat.le_refl t) b34.2 bc.2.2.2.1.2 hs1 (a' := u2 a 2 7 10) (fun p j hp => u2_ne _ _ _ _ (by omega)) (u2_ne _ _ _ _ (by omega)) rfl
    have RL2 := rL_a RL (Nat.le_refl t) b34.2 bc.2.2.2.1.2 hs1 (a' := u2 (u2 a 2 7 10) 2 8 k2) (fun p j hp => by rw [u2_ne _ _ _ _ (by omega), u2_ne _ _ _ _ (by omega)]) (by rw [u2_ne _ _ _ _ (by omega), u2_ne _ _ _ _ (by omega)]) rfl
    exact ⟨rN_fd hT RL1.1.2 tc (Or.inr (Or.inr (Or.inl ⟨rfl, rfl⟩))) (Or.inl (by unfold cnt cntm; rw [RL1.1.1])) uc ku, rN_fd hT RL2.1.2 tc (Or.inr (Or.inr (Or.inl ⟨rfl, rfl⟩))) (Or.inl (by unfold cnt cntm; rw [RL2.1.1])) uc ku⟩
  refine x_known (kd := 3) (s0 := 27) hT (by decide +kernel) X1 (fun t' s' g' em => (m1s t' s' g' em).2.1) (by rw [c20]; exact b0) (by rw [c20]; exact b1) (fun i hi => by rw [f1 117 i (by omega)]; exact hb i (by rw [← cm1]; exact hi)) (fun t' g' a1 em eo uc ku => ?_) (fun v a q => by rw [ms_15]; show tk_open 27 v a = _; unfold tk_open; rw [if_pos q]) (fun r8 J2 m2 f2 p2 r2 => ⟨r8, J2, L, R, rfl, ?_⟩)
  · obtain ⟨a, ea3, ea4⟩ := om (Or.inr rfl) eo
    subst ea4
    rw [fdm_cg f1]
    exact (fd1 a (hR a ea3) 0 t' uc ku).1
  have f12 : xfr I J2 := xfr_tr f1 f2
  -- what is known of the meaning behind the first NAME
  have hE2 : ∃ e, PEm K P V M0 e J2 ∧ (m2 ≠ none → t + 1 < c ∧ t + 1 < 500 ∧ K (t + 1) = 15 ∧ (J1 107 11).toInt = ((t + 1 : Nat) : Int) ∧ m2 = some (t + 2, 28, gc_st 0 10 g) ∧ r8 = fdm I L (W (t + 1)) 2 ∧ ((∃ u, u ≤ t + 2 ∧ (¬ r8 = -1 → u ≤ t + 1) ∧ e = (u, none)) ∨ (¬ r8 = -1 ∧ ∃ a, rL K V W s t a I L ∧ e = (t + 1, some (27, u2 a 2 7 10))))) := by
    rcases r2 with ⟨r2, -⟩ | ⟨t2, g2, em2, q1, q2, q3, q4, q5, q6, q7⟩
    · subst r2
      exact ⟨(0, none), PE_n (PS_no p2), fun y => absurd rfl y⟩
    · obtain ⟨z1, z2, z3⟩ := m1s t2 27 g2 em2
      subst z1
      have hS := X1.1
      rw [em2] at hS
      have h11 : (J1 107 11).toInt = ((t + 1 : Nat) : Int) := hS.2.2.2.2.1
      rw [fdm_cg f1] at q5
      have em' : m2 = some (t + 2, 28, gc_st 0 10 g) := by rw [q4, z3]; rw [show fw 27 15 = 28 from by decide +kernel]
      by_cases r1' : r8 = -1
      · exact ⟨(t + 2, none), q6 r1', fun _ => ⟨q1, q2, q3, h11, em', q5, Or.inl ⟨t + 2, Nat.le_refl _, fun y => absurd r1' y, rfl⟩⟩⟩
      · have pe := q7 r1'
        cases eo : o with
        | none =>
          rw [eo] at pe
          exact ⟨(t + 1, none), pe, fun _ => ⟨q1, q2, q3, h11, em', q5, Or.inl ⟨t + 1, by omega, fun _ => Nat.le_refl _, rfl⟩⟩⟩
        | some a =>
          rw [eo] at pe
          exact ⟨(t + 1, some (27, u2 a 2 7 10)), pe, fun _ => ⟨q1, q2, q3, h11, em', q5, Or.inr ⟨r1', a, hR a eo, rfl⟩⟩⟩
  obtain ⟨e, hE, E2⟩ := hE2
  refine x_must (i := 11) [] hT rfl p2 hE (fun t' s' g' em => ⟨?_, fun j hj => absurd hj List.not_mem_nil⟩) (fun J3 m3 f3 p3 pe3 r3 => ⟨J3, L, R, rfl, fun z => ?_, fun z => ?_⟩)
  · obtain ⟨-, -, -, -, y5, -⟩ := E2 (by rw [em]; exact Option.some_ne_none _)
    rw [em] at y5
    rw [(mo_i y5).2.1]; decide +kernel
  · -- both NAMES
    have z := PS_le0 p3 z
    rcases r3 with r3 | ⟨t3, s3, g3, em3, v1, v2, v3, v4⟩
    · subst r3; exact absurd z (PS_no p3)
    obtain ⟨u1, u5, u3, h8, y5, y6, y7⟩ := E2 (by rw [em3]; exact Option.some_ne_none _)
    rw [em3] at y5
    obtain ⟨w1, w2, w3⟩ := mo_i y5
    subst w1; subst w2; subst w3
    have v4 : m3 = some (t + 3, 29, gc_st 0 10 g) := by rw [v4, show fw 28 (Int32.ofNat 11) = 29 from by decide +kernel]
    have v3 : K (t + 2) = 11 := v3
    have f13 : xfr I J3 := xfr_tr f12 f3
    have d20 : J3 107 20 = I 107 20 := f13 107 20 (by omega)
    have cm3 : cntm J3 = cntm I := by unfold cntm; rw [d20]
    have n21a := hT.2.2.2.1 (t + 1) u1
    have n21b := hT.2.2.2.1 (t + 2) v1
    have b8 := (x_fb hm L (W (t + 1))).2.2
    rw [← y6] at b8
    have lt8 : ∀ a, rL K V W s t a I L → ¬ r8 = -1 → r8.toInt < (I 122 s).toInt := fun a RL n8 => by
      have q : r8 = -1 ∨ r8.toInt < (I 122 s).toInt := by
        rw [y6]
        exact fm_b (Q := fun r => r = -1 ∨ r.toInt < (I 122 s).toInt) (Or.inl rfl) (cntm I) 0 (fun j _ hj ej => Or.inr (RL.2.2.2.2.2.2.2 j (by omega) ej))
      exact q.resolve_left n8
    -- the checks, from the first on
    have after : ∀ (J : sm_I) (m4 : mo) (r16 : Int32), xfr I J → PSm K P W N c R0 m4 J L → J 107 13 = 0 → m4 = some (t + 4, 30, gc_st 0 10 g) → t + 3 < c → t + 3 < 500 → K (t + 3) = 15 → (J3 107 11).toInt = ((t + 3 : Nat) : Int) → (-1 ≤ r16.toInt ∧ r16.toInt ≤ 9) → ((∃ u, u ≤ t + 2 ∧ (¬ r8 = -1 → u ≤ t + 1) ∧ PEm K P V M0 (u, none) J) ∨ (∃ a, rL K V W s t a I L ∧ ¬ r8 = -1 ∧ a.1 18 r8.toNatClampNeg = -1 ∧ ((r16 = -1 ∧ PWx P M0 4 (t + 3) J) ∨ (¬ r16 = -1 ∧ opN K P V W M0 s t (t + 3) r8 r16 a I L J))) ∨ (∃ a, rL K V W s t a I L ∧ ¬ r8 = -1 ∧ ¬ a.1 18 r8.toNatClampNeg = -1 ∧ M0.1 = some (5, t + 1) ∧ (J 107 15 = 0 ∨ (0 < (J 107 15).toInt ∧ (J 107 16).toInt = P (t + 3))))) → ((vp_in (J 107 19) 2) ∧ ∀ n17 : Int32, n17 = (((240 : Int32) + ((4 : Int32) * (J 107 19))) + (J 134 (J 107 19).toNatClampNeg)) → (((J 107 13) = 0 → ((r8 = (-1 : Int32) → sm_wp sm_P S (d + 4) 198 7 [.ref 107, .int r8, .int (J3 107 11), .int r16, .int n17] [] (xLay, J, L, (kM R)) (0, 0) Φ) ∧ (¬ r8 = (-1 : Int32) → ∀ n18 : Int32, n18 = (((10 : Int32) * (J 107 19)) + r8) → (vp_in n18 20) ∧ (((J 135 n18.toNatClampNeg) = (-1 : Int32) → sm_wp sm_P S (d + 4) 198 7 [.ref 107, .int r8, .int (J3 107 11), .int r16, .int n17] [] (xLay, J, L, (kM R)) (0, 0) Φ) ∧ (¬ (J 135 n18.toNatClampNeg) = (-1 : Int32) → sm_wp sm_P S (d + 3) 213 0 [.ref 107, .int (5 : Int32), .int (J1 107 11)] [] (xLay, J, L, (kM R)) (0, 0) (fun z => ∃ (I19 : sm_I) (L20 : sm_L) (R21 : sm_R), z = (none, (xLay, I19, L20, (kM R21))) ∧ sm_wp sm_P S (d + 4) 198 7 [.ref 107, .int r8, .int (J3 107 11), .int r16, .int n17] [] (xLay, I19, L20, (kM R21)) (0, 0) Φ)))))) ∧ (¬ (J 107 13) = 0 → sm_wp sm_P S (d + 4) 198 7 [.ref 107, .int r8, .int (J3 107 11), .int r16, .int n17] [] (xLay, J, L, (kM R)) (0, 0) Φ))) := by
      intro J m4 r16 fJ pJ zJ em4 c3 c35 k3 h3 b16 Z
      have e19 : J 107 19 = I 107 19 := fJ 107 19 (by omega)
      rw [e19, sn]
      refine ⟨sv, fun n17 e17 => ?_⟩
      have h5 := x5v J n17 fJ (by rw [e19]; exact e17)
      have go : ∀ H : sm_I, xfr I H → PSm K P W N c R0 m4 H L → (PWx P M0 5 (t + 3) H ∨ ∃ a, opN K P V W M0 s t (t + 3) r8 r16 a I L H) → sm_wp sm_P S (d + 4) 198 7 [.ref 107, .int r8, .int (J3 107 11), .int r16, .int n17] [] (xLay, H, L, (kM R)) (0, 0) Φ := fun H fH pH zH => x_open7 (g1 := g) (t3 := t + 3) hT hls hm hI hG hr c3 c35 (by omega) k3 h3 (fun t' s' g' em => by rw [em4] at em; obtain ⟨x1, x2, x3⟩ := mo_i em; exact ⟨x1.symm, x2.symm, x3.symm⟩) h5 b8 b16 fH pH zH h
      refine ⟨fun _ => ⟨fun q => go J fJ pJ ?_, fun q n18 e18 => ?_⟩, fun y => absurd zJ y⟩
      · rcases Z with ⟨u, u1', u2', pe⟩ | ⟨a, RL, n8, -⟩ | ⟨a, RL, n8, -⟩
        · exact Or.inl (PE_W pe (by omega))
        · exact absurd q n8
        · exact absurd q n8
      · have d8 := ml_m1 q
        obtain ⟨x0, hx0⟩ : ∃ x0 : Nat, r8.toInt = x0 := ⟨r8.toNatClampNeg, (kl_nat (by omega)).symm⟩
        have x0n := tk_nat hx0
        have q18 : n18.toInt = ((10 * s + x0 : Nat) : Int) := by rw [e18, ml_ad q10 rfl (by omega) (by omega)]; omega
        have n18n := tk_nat q18
        rw [n18n, fJ 135 _ (by omega)]
        refine ⟨kl_in (by omega) (by omega), fun c1 => go J fJ pJ ?_, fun c1 => ?_⟩
        · rcases Z with ⟨u, u1', u2', pe⟩ | ⟨a, RL, n8, n18', q'⟩ | ⟨a, RL, n8, n18', -⟩
          · exact Or.inl (PE_W pe (by omega))
          · rcases q' with ⟨-, w⟩ | ⟨-, w⟩
            · exact Or.inl (PWx_mo w (by decide))
            · exact Or.inr ⟨a, w⟩
          · rw [x0n] at n18'
            exact absurd ((rO_18 RL.2.2.2.1 (by omega)).mp c1) n18'
        · refine x_wrong (M0 := M0) (t := t + 1) hT (by decide) h8 (by omega) (by omega) pJ (fun _ => ?_) (fun H fH _ pH wH => ⟨H, L, R, rfl, go H (xfr_tr fJ fH) pH (Or.inl (PE_W (K := K) (V := V) (PW_e wH) (by omega)))⟩)
          rcases Z with ⟨u, u1', u2', pe⟩ | ⟨a, RL, n8, n18', q'⟩ | ⟨a, RL, n8, n18', M5, q'⟩
          · exact Or.inl (PE_W pe (u2' q) zJ)
          · rw [x0n] at n18'
            exact absurd ((rO_18 RL.2.2.2.1 (by omega)).mpr n18') c1
          · refine Or.inr ⟨?_, M5⟩
            rcases q' with q' | ⟨q1', q2'⟩
            · exact Or.inl q'
            · exact Or.inr ⟨q1', t + 3, by omega, by omega, q2'⟩
    refine x_knownG (s0 := 29) (e := e) (M0 := M0) (V := V) hT (by decide +kernel) p3 pe3 (fun t' s' g' em => by rw [v4] at em; exact (mo_i em).2.1.symm) (by rw [d20]; exact b0) (by rw [d20]; exact b1) (fun i hi => by rw [f13 117 i (by omega)]; exact hb i (by rw [← cm3]; exact hi)) (fun J4 f4 p4 => ⟨_, J4, L, R, rfl, ?_⟩) (fun J4 m4 t4 g4 f4 p4 pe4 z4 em4 c4 c45 k4 h4 em4' => ?_)
    · -- the grammar fails at the second NAME
      have f14 : xfr I J4 := xfr_tr f13 f4
      have e19 : J4 107 19 = I 107 19 := f14 107 19 (by omega)
      have nz := PS_no p4
      rw [e19, sn]
      refine ⟨sv, fun n17 e17 => ⟨fun y => absurd y nz, fun _ => ?_⟩⟩
      exact x_openF hT hls hm hI hG hr (x5v J4 n17 f14 (by rw [e19]; exact e17)) f14 p4 h
    · rw [v4] at em4
      obtain ⟨x1, x2, x3⟩ := mo_i em4
      subst x1; subst x3
      have f14 : xfr I J4 := xfr_tr f13 f4
      have em4'' : m4 = some (t + 4, 30, gc_st 0 10 g) := by rw [em4', show fw 29 15 = 30 from by decide +kernel]
      have ef : fdm J3 L (W (t + 3)) 2 = fdm I L (W (t + 3)) 2 := fdm_cg f13
      rw [ef]
      have b16 := (x_fb hm L (W (t + 3))).2.2
      have n21c := hT.2.2.2.1 (t + 3) c4
      -- what is known of the meaning here
      have Z0 : (∃ u, u ≤ t + 2 ∧ (¬ r8 = -1 → u ≤ t + 1) ∧ PEm K P V M0 (u, none) J4) ∨ (∃ a, rL K V W s t a I L ∧ ¬ r8 = -1 ∧ a.1 18 r8.toNatClampNeg = -1 ∧ PEm K P V M0 (t + 3, some (29, u2 (u2 a 2 7 10) 2 8 r8)) J4) ∨ (∃ a, rL K V W s t a I L ∧ ¬ r8 = -1 ∧ ¬ a.1 18 r8.toNatClampNeg = -1 ∧ M0.1 = some (5, t + 1) ∧ J4 107 15 = 0) := by
        rcases y7 with ⟨u, w1, w2, we⟩ | ⟨n8, a, RL, we⟩
        · rw [we] at pe4
          exact Or.inl ⟨u, w1, w2, pe4⟩
        · rw [we] at pe4
          have d8 := ml_m1 n8
          obtain ⟨x0, hx0⟩ : ∃ x0 : Nat, r8.toInt = x0 := ⟨r8.toNatClampNeg, (kl_nat (by omega)).symm⟩
          have x0n := tk_nat hx0
          have hf : fd (u2 a 2 7 10) (V (t + 1)) 3 = r8 := by rw [(fd1 a RL 0 (t + 1) u1 u3).1, y6]
          have op := op27 hf n8 hx0 (by omega)
          by_cases c18 : a.1 18 x0 = -1
          · rw [if_neg (show ¬ ¬ a.1 18 x0 = -1 from fun y => y c18)] at op
            have s1 := PE_st (by omega) n21a (by rw [u3]; exact op) pe4
            rw [u3, show fw 27 15 = 28 from by decide +kernel] at s1
            have s2 := PE_st (a' := u2 (u2 a 2 7 10) 2 8 r8) (by omega) n21b (by rw [v3]; rfl) s1
            rw [v3, show fw 28 11 = 29 from by decide +kernel] at s2
            exact Or.inr (Or.inl ⟨a, RL, n8, by rw [x0n]; exact c18, s2⟩)
          · rw [if_pos (show ¬ a.1 18 x0 = -1 from c18)] at op
            obtain ⟨pe1, pe2⟩ := pe4 z4
            exact Or.inr (Or.inr ⟨a, RL, n8, by rw [x0n]; exact c18, ME_f (s := 27) (a := u2 a 2 7 10) (by omega) n21a (by rw [u3]; exact op) (by decide) pe2, pe1⟩)
      refine ⟨fun r16 => ?_, fun r16 => ⟨_, J4, L, R, rfl, after J4 m4 _ f14 p4 z4 em4'' c4 c45 k4 h4 b16 ?_⟩⟩
      · -- the second NAME is not known
        rcases Z0 with ⟨u, w1, w2, pe⟩ | ⟨a, RL, n8, n18', pe⟩ | ⟨a, RL, n8, n18', M5, pe⟩
        · refine x_wrongI hT h4 (by omega) (by omega) p4 (fun zz => ?_) ⟨J4, L, R, rfl, _, J4, L, R, rfl, after J4 m4 _ f14 p4 z4 em4'' c4 c45 k4 h4 b16 (Or.inl ⟨u, w1, w2, pe⟩)⟩
          obtain ⟨x1, j, x2, x3, x4⟩ := pe zz
          exact ⟨x1, j, by omega, x4⟩
        · refine x_wrong (M0 := M0) (t := t + 3) hT (by decide) h4 (by omega) (by omega) p4 (fun zz => ?_) (fun H fH _ pH wH => ⟨H, L, R, rfl, _, H, L, R, rfl, after H m4 _ (xfr_tr f14 fH) pH ?_ em4'' c4 c45 k4 h4 b16 (Or.inr (Or.inl ⟨a, RL, n8, n18', Or.inl ⟨r16, wH⟩⟩))⟩)
          · obtain ⟨pe1, pe2⟩ := pe zz
            refine Or.inr ⟨Or.inl pe1, ME_f (s := 29) (a := u2 (u2 a 2 7 10) 2 8 r8) (a' := u2 (u2 a 2 7 10) 2 8 r8) (by omega) n21c ?_ (by decide) pe2⟩
            rw [k4, ms_15]
            show tk_open 29 (V (t + 3)) _ = _
            unfold tk_open
            rw [(fd1 a RL r8 (t + 3) c4 k4).2, if_pos r16]
          · by_cases y : H 107 13 = 0
            · exact y
            · have em := PS_n0 pH y
              rw [em4''] at em; cases em
        · refine x_wrong0 h4 (by omega) (by omega) p4 z4 pe (fun H fH pH w5 w6 => ⟨H, L, R, rfl, _, H, L, R, rfl, after H m4 _ (xfr_tr f14 fH) pH ?_ em4'' c4 c45 k4 h4 b16 (Or.inr (Or.inr ⟨a, RL, n8, n18', M5, Or.inr ⟨by rw [w5]; decide, w6⟩⟩))⟩)
          by_cases y : H 107 13 = 0
          · exact y
          · have em := PS_n0 pH y
            rw [em4''] at em; cases em
      · rcases Z0 with q | ⟨a, RL, n8, n18', pe⟩ | ⟨a, RL, n8, n18', M5, pe⟩
        · exact Or.inl q
        · exact Or.inr (Or.inl ⟨a, RL, n8, n18', Or.inr ⟨r16, RL, n8, r16, lt8 a RL n8, n18', (fd1 a RL r8 (t + 3) c4 k4).2, pe⟩⟩)
        · exact Or.inr (Or.inr ⟨a, RL, n8, n18', M5, Or.inl pe⟩)
  · have nz : ¬ J3 107 13 = 0 := fun y => z (by rw [y]; decide)
    have em := PS_n0 p3 nz
    subst em
    have f13 : xfr I J3 := xfr_tr f12 f3
    have e19 : J3 107 19 = I 107 19 := f13 107 19 (by omega)
    rw [e19, sn]
    refine ⟨sv, fun n28 e28 => ⟨fun y => absurd y nz, fun _ => ?_⟩⟩
    exact x_openF hT hls hm hI hG hr (x5v J3 n28 f13 (by rw [e19]; exact e28)) f13 p3 h
end
