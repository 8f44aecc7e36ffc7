section
/-! tells of the reference, exact: time -/
section
variable {K : Nat → Int32} {P : Nat → Nat} {V W : Nat → Int64} {N : Nat → Int32} {c : Nat} {R0 : Option (Int32 × Nat)} {M0 : Option (Int32 × Nat) × sg}
variable {S : sm_C} {d : Nat} {Φ : sm_Z → Prop} {I : sm_I} {L : sm_L} {R : sm_R} {m : mo} {o : Option sg} {l s t : Nat} {g : gc}
/-- it goes on at a TOKEN that is known and means nothing by itself -/
theorem x_goT {i : Nat} {s0 : Int32} (ex : List Nat) (hT : TS K P V W N c) (hm : mkx s0 i ex = true) (ht : ∀ (v : Int64) (a : sg), ms s0 (Int32.ofNat i) v a = (0, a)) (hX : PX K P V W N c R0 M0 m o I L) (hg : ∀ t s g, m = some (t, s, g) → s = s0 ∧ K t = Int32.ofNat i) (h : ∀ (J : sm_I) (m' : mo), xfr I J → PX K P V W N c R0 M0 m' o J L → (m' = none ∨ ∃ t g, m = some (t, s0, g) ∧ t < c ∧ t < 500 ∧ K t = Int32.ofNat i ∧ m' = some (t + 1, fw s0 (Int32.ofNat i), g)) → Φ (none, (xLay, J, L, kM R))) : sm_wp sm_P S (d + 1) 136 0 [.ref 107] [] (xLay, I, L, kM R) (0, 0) Φ := by
  obtain ⟨e, hE, ee⟩ := PX_e hX
  obtain ⟨k1, k2, k3, k4, k5, k6⟩ := mkx_ok hm
  have gk : ∀ t s g, m = some (t, s, g) → g.alls ≤ 4 ∧ g.parts ≤ 3 := fun t s g em => by
    have hS := hX.1
    rw [em] at hS
    exact hS.2.2.2.2.2.2.2 (by rw [(hg t s g em).1]; exact k1)
  refine x_go (k := Int32.ofNat i) hT hX.1 hE (fun t s g em => ?_) (fun J m' f p q rel => h J m' f ⟨p, ?_⟩ ?_)
  · obtain ⟨es, ek⟩ := hg t s g em
    have gk := gk t s g em
    subst es
    obtain ⟨g1, g2, g3, g4⟩ := gc_in (g := g) k1 k2 k4 k5 gk
    exact ⟨ek, by rw [ek]; exact g4, k3, g3, g2, by rw [g1]; exact gk⟩
  · rcases rel with rel | ⟨t, s, g, em, b1, b2, b3⟩
    · rw [rel]; trivial
    · obtain ⟨es, ek⟩ := hg t s g em
      subst es
      rw [b3]
      rw [ee t s g em] at q
      cases eo : o with
      | none =>
        rw [eo] at q
        exact PE_w q (Nat.le_succ t)
      | some a =>
        rw [eo] at q
        have := PE_st (by omega) (hT.2.2.2.1 t b1) (by rw [ek]; exact ht (V t) a) q
        rw [ek] at this
        exact this
  · rcases rel with rel | ⟨t, s, g, em, b1, b2, b3⟩
    · exact Or.inl rel
    · obtain ⟨es, ek⟩ := hg t s g em
      have gk := gk t s g em
      subst es
      obtain ⟨g1, g2, g3, g4⟩ := gc_in (g := g) k1 k2 k4 k5 gk
      exact Or.inr ⟨t, g, em, b1, b2, ek, by rw [b3, g1]⟩
/-- lookups while a new name waits -/
theorem x_pend {k kd so : Int32} {a b : sg} {v : Int64} {J : sm_I} {u : Nat} (hT : TS K P V W N c) (f : xfr I J) (hR : rL K V W s t a I L) (tc : t ≤ c) (b0 : 0 ≤ (I 107 20).toInt) (b1 : (I 107 20).toInt ≤ 40) (hk : nm_kd (u2 a 2 7 k) ≠ kd) (hs : srt kd so) (h2 : b.2 = (nm_add v (u2 a 2 7 k)).2) (h10 : ∀ i, b.1 10 i = (nm_add v (u2 a 2 7 k)).1 10 i) (h11 : ∀ i, b.1 11 i = (nm_add v (u2 a 2 7 k)).1 11 i) (h5 : b.1 2 5 = (nm_add v (u2 a 2 7 k)).1 2 5) (uc : u < c) (ku : K u = 15) : fd b (V u) kd = fdm J L (W u) so := by
  have e5 : (u2 a 2 7 k).1 2 5 = I 107 20 := by rw [u2_ne _ _ _ _ (by omega)]; exact hR.1.1
  have ec : cnt (u2 a 2 7 k).1 = cntm I := by unfold cnt cntm; rw [e5]
  have ec2 : cnt b.1 = cntm I + 1 := by
    have q := nm_add_c (v := v) (a := u2 a 2 7 k) (by rw [e5]; exact b0) (by rw [e5]; exact b1)
    unfold cnt at q ⊢
    rw [h5, q]
    unfold cntm
    rw [e5]
  rw [fdm_cg f]
  refine rN_fd (t := t) hT (rN_cg hR.1.2 t (Nat.le_refl _) (fun i hi => ⟨?_, ?_, ?_⟩) (fun i _ => ⟨rfl, rfl, rfl⟩)) tc hs (Or.inr ⟨ec2, ?_⟩) uc ku
  · rw [h2, nm_add_2, ec]
    show (if i = cntm I then _ else a.2 i) = _
    rw [if_neg (by omega)]
  · rw [h10, nm_add_10, ec, if_neg (by omega), u2_ne _ _ _ _ (by omega)]
  · rw [h11, nm_add_11, ec, if_neg (by omega), u2_ne _ _ _ _ (by omega)]
  · rw [h10, nm_add_10, ec, if_pos rfl]; exact hk
/-- a TIME's person or place -/
theorem pl_last_s {cc : Nat} {r : Int32} {b : sg} {k : Nat} (h : (b.1 12 2).toInt = (k : Int) + 1) (hk : k < 10) : pl_last cc r b = u2 b cc k r := by
  unfold pl_last
  have c10 : (10 : Int32).toInt = 10 := by decide
  rw [if_neg (fun q => by rw [kl_le, kl_0] at q; omega), if_neg (fun q => by rw [kl_lt, c10] at q; omega)]
  have e : (b.1 12 2 - 1).toInt = (k : Int) := by rw [Int32.toInt_sub, kl_1]; rw [h]; exact (en_bmod (by omega) (by omega) (Or.inl rfl)).trans (by omega)
  rw [tk_nat e]
theorem x_time {J3 : sm_I} {m3 : mo} {o3 : Option sg} {g3 : gc} {t2 t3 : Nat} {x8 n9 y z : Int32} (hT : TS K P V W N c) (hls : ml_ls l s) (hm : en_mem ml_tb mlX (xLay, I, L, R)) (hI : ml_TI l s I) (hG : rG s g I) (hr : (I 122 s).toInt < 10) (tx0 : tx K P W N c I L) (ft : xfr I J3) (X3 : PX K P V W N c R0 M0 m3 o3 J3 L) (em3 : m3 = some (t3, 0, g3)) (eg : g3 = gc_st 0 3 g) (t23 : t2 < t3) (tt : t < t3) (u1 : t2 < c) (u5 : t2 < 500) (u3 : K t2 = 15) (h8 : x8.toInt = t2) (e9 : n9.toInt = 10 * (s : Int) + (I 122 s).toInt) (hA : ∀ a', o3 = some a' → ∃ a, rL K V W s t a I L ∧ a'.2 = (nm_add (V t2) (u2 a 2 7 3)).2 ∧ ∀ p j, (p ≠ 2 ∨ j = 5) → a'.1 p j = if p = 14 ∧ j = (I 122 s).toNatClampNeg then y else if p = 15 ∧ j = (I 122 s).toNatClampNeg then z else (nm_add (V t2) (u2 a 2 7 3)).1 p j) (h : ∀ (J : sm_I) (L' : sm_L), TP K P V W N c R0 M0 s t J L' → Φ (none, (xLay, J, L', kM R))) : (vp_in n9 20) ∧ ∀ I18 : sm_I, I18 = (sm_up J3 123 n9.toNatClampNeg y) → (vp_in n9 20) ∧ ∀ I19 : sm_I, I19 = (sm_up I18 124 n9.toNatClampNeg z) → (vp_in (I19 107 19) 2) ∧ ∀ n20 : Int32, n20 = (I19 122 (I19 107 19).toNatClampNeg) → sm_wp sm_P S d 155 0 [.ref 107, .int x8, .int (2 : Int32), .int n20] [] (xLay, I19, L, (kM R)) (0, 0) (fun z => ∃ (I21 : sm_I) (L22 : sm_L) (R23 : sm_R), z = (none, (xLay, I21, L22, (kM R23))) ∧ (vp_in (I21 107 19) 2) ∧ ∀ n25 : Int32, n25 = ((I21 122 (I21 107 19).toNatClampNeg) + (1 : Int32)) → (vp_in (I21 107 19) 2) ∧ ∀ I26 : sm_I, I26 = (sm_up I21 122 (I21 107 19).toNatClampNeg n25) → Φ (none, (xLay, I26, L22, (kM R23)))) := by
  obtain ⟨hl1, hs1⟩ := ml_l1 hls
  obtain ⟨sn, sv⟩ := ml_sn hls hI
  have bc := ml_cs hs1 hm
  have b34 := x_34 hs1 hm
  obtain ⟨⟨b0, b1⟩, hb⟩ := x_b117 hm
  have bs : (I 107 20).toInt ≤ ml_sum I s := hI.2.2.1
  unfold ml_sum at bs
  have b49 := ml_nm49 hls hI hm
  have v9 : vp_in n9 20 := kl_in (by omega) (by omega)
  have k0 : (((I 122 s).toNatClampNeg : Nat) : Int) = (I 122 s).toInt := kl_nat bc.2.2.1.1
  have n9n : n9.toNatClampNeg = 10 * s + (I 122 s).toNatClampNeg := tk_nat (by omega)
  refine ⟨v9, fun I18 e18 => ⟨v9, fun I19 e19 => ?_⟩⟩
  rw [n9n] at e18 e19
  have o19 : ∀ p j, ¬ ((p = 123 ∨ p = 124) ∧ j = 10 * s + (I 122 s).toNatClampNeg) → I19 p j = J3 p j := fun p j hp => by rw [e19, en_up_ne _ _ _ _ (by omega), e18, en_up_ne _ _ _ _ (by omega)]
  have X19 : PX K P V W N c R0 M0 m3 o3 I19 L := by rw [e19, e18]; exact PX_up (by decide) (by omega) (PX_up (by decide) (by omega) X3)
  have s19 : I19 107 19 = I 107 19 := by rw [o19 107 19 (by omega)]; exact ft 107 19 (by omega)
  have c19 : I19 107 20 = I 107 20 := by rw [o19 107 20 (by omega)]; exact ft 107 20 (by omega)
  have ecm : cntm I19 = cntm I := by unfold cntm; rw [c19]
  rw [s19, sn]
  refine ⟨sv, fun n20 e20 => ?_⟩
  have e20 : n20 = I 122 s := by rw [e20, o19 122 s (by omega)]; exact ft 122 s (by omega)
  refine x_knows (t := t2) h8 (by omega) (by rw [c19]; exact b0) (by rw [c19]; exact b49) X19 (fun J4 L4 e4J e4L X4 => ⟨J4, L4, R, rfl, ?_⟩)
  rw [ecm] at e4J e4L
  have o4 : ∀ p j, ¬ ((p = 116 ∨ p = 117) ∧ j = cntm I) → ¬ (p = 107 ∧ j = 20) → J4 p j = I19 p j := fun p j h1 h2 => by rw [e4J, en_up_ne _ _ _ _ (by omega), en_up_ne _ _ _ _ (by omega), en_up_ne _ _ _ _ (by omega)]
  have s4 : J4 107 19 = I 107 19 := by rw [o4 107 19 (by omega) (by omega)]; exact s19
  rw [s4, sn]
  refine ⟨sv, fun n31 en31 => ⟨sv, fun J5 e5 => h J5 L4 ⟨m3, o3, ?_, Or.inr ⟨t3, g3, em3, tt, ?_, fun a' ea => ?_⟩⟩⟩⟩
  · rw [e5]; exact PX_up (by decide) (by omega) X4
  all_goals
    have o5 : ∀ p j, ¬ ((p = 116 ∨ p = 117) ∧ j = cntm I) → ¬ (p = 122 ∧ j = s) → p ≠ 107 → ¬ ((p = 123 ∨ p = 124) ∧ j = 10 * s + (I 122 s).toNatClampNeg) → J5 p j = I p j := fun p j h1 h2 h3 h4 => by rw [e5, en_up_ne _ _ _ _ h2, o4 p j h1 (by omega), o19 p j h4, ft p j (by omega)]
    have r5 : J5 122 s = I 122 s + 1 := by rw [e5, en_up_eq, en31, o4 122 s (by omega) (by omega), o19 122 s (by omega), ft 122 s (by omega)]
    have r5i : (J5 122 s).toInt = (I 122 s).toInt + 1 := by rw [r5]; exact ml_in1 (by omega)
  · rw [eg]
    unfold rG
    obtain ⟨G1, G2, G3, G4, G5, G6, G7⟩ := hG
    refine ⟨?_, ?_, ?_, ?_, ?_, ?_, ?_⟩
    · rw [o5 118 s (by omega) (by omega) (by decide) (by omega), gc0_t (by decide), if_neg (by decide)]; exact G1
    · rw [o5 119 s (by omega) (by omega) (by decide) (by omega), gc0_t (by decide), if_neg (by decide)]; exact G2
    · rw [o5 120 s (by omega) (by omega) (by decide) (by omega), gc0_t (by decide), if_neg (by decide)]; exact G3
    · rw [r5i, gc0_t (by decide), if_pos (by decide)]; omega
    · rw [o5 125 s (by omega) (by omega) (by decide) (by omega), gc0_t (by decide), if_neg (by decide)]; exact G5
    · rw [o5 134 s (by omega) (by omega) (by decide) (by omega), gc0_t (by decide), if_neg (by decide)]; exact G6
    · rw [o5 136 s (by omega) (by omega) (by decide) (by omega), gc0_t (by decide), if_neg (by decide)]; exact G7
  · obtain ⟨a, RL, hA2, hA1⟩ := hA a' ea
    obtain ⟨⟨R5, RN⟩, RC, RT, RO, RW, RS, RQ, RB⟩ := RL
    have k7 : (u2 a 2 7 3).1 2 7 = 3 := u2_eq _ _ _ _
    have a12 : ∀ j, (u2 a 2 7 3).1 12 j = a.1 12 j := fun j => u2_ne _ _ _ _ (by omega)
    have ef : a.1 12 2 = I 122 s := RC.2.2.1
    obtain ⟨A1, A2, A3⟩ := nmA (v := V t2) (a := u2 a 2 7 3) (k := 3) (mx := 10) (f := 2) k7 (by decide) (fun b => by unfold nb_new; rw [if_neg (by decide), if_neg (by decide), if_pos (by decide)]) (by rw [a12, ef, show (10 : Int32).toInt = 10 from by decide]; exact hr) (by decide)
    have A4 : ∀ p j, ¬ (p = 12 ∧ j = 2) → p ≠ 2 → p ≠ 10 → p ≠ 11 → ¬ ((p = 14 ∨ p = 15) ∧ j = (I 122 s).toNatClampNeg) → a'.1 p j = a.1 p j := fun p j h1 h2 h3 h4 h5 => by rw [hA1 p j (by omega), if_neg (by omega), if_neg (by omega), A3 p j h3 h4 (by omega), if_neg h1, u2_ne _ _ _ _ (by omega)]
    have A5 : a'.1 12 2 = I 122 s + 1 := by rw [hA1 12 2 (by omega), if_neg (by omega), if_neg (by omega), A3 12 2 (by decide) (by decide) (by omega), if_pos ⟨rfl, rfl⟩, a12, ef]
    have eW : L 113 t2 = W t2 := (tx0.2 t2 u1 (by omega)).2
    refine ⟨?_, ?_, ?_, ?_, ?_, ?_, ?_, ?_⟩
    · have q := rN_new (a := u2 a 2 7 3) (I := I) (J := J5) (L' := L4) (t := t) (t' := t3) (u := t2) (W := W) (so := 2) (x := I 122 s) (L := L) (by rw [u2_ne _ _ _ _ (by omega)]; exact R5) b0 (by omega) (rN_cg RN t (Nat.le_refl _) (fun i _ => ⟨rfl, u2_ne _ _ _ _ (by omega), u2_ne _ _ _ _ (by omega)⟩) (fun i _ => ⟨rfl, rfl, rfl⟩)) (by omega) (by omega) u3 (by rw [A1]; exact Or.inr (Or.inr (Or.inl ⟨rfl, rfl⟩))) (by rw [A2, a12, ef]) (by rw [e5, en_up_ne _ _ _ _ (by omega), e4J, en_up_eq, c19]) (by rw [e5, en_up_ne _ _ _ _ (by omega), e4J, en_up_ne _ _ _ _ (by omega), en_up_ne _ _ _ _ (by omega), en_up_eq]) (by rw [e5, en_up_ne _ _ _ _ (by omega), e4J, en_up_ne _ _ _ _ (by omega), en_up_eq, e20]) (fun i hi => ⟨o5 116 i (by omega) (by omega) (by decide) (by omega), o5 117 i (by omega) (by omega) (by decide) (by omega)⟩) (by rw [e4L, en_up_eq, eW]) (fun i hi => by rw [e4L, en_up_ne _ _ _ _ (by omega)])
      refine ⟨by rw [hA1 2 5 (by omega), if_neg (by omega), if_neg (by omega)]; exact q.1, rN_cg q.2 t3 (Nat.le_refl _) (fun i _ => ⟨by rw [hA2], by rw [hA1 10 i (by omega), if_neg (by omega), if_neg (by omega)], by rw [hA1 11 i (by omega), if_neg (by omega), if_neg (by omega)]⟩) (fun i _ => ⟨rfl, rfl, rfl⟩)⟩
    · unfold rC
      refine ⟨?_, ?_, ?_, ?_, ?_⟩
      · rw [A4 12 0 (by omega) (by omega) (by omega) (by omega) (by omega), o5 118 s (by omega) (by omega) (by decide) (by omega)]; exact RC.1
      · rw [A4 12 1 (by omega) (by omega) (by omega) (by omega) (by omega), o5 119 s (by omega) (by omega) (by decide) (by omega)]; exact RC.2.1
      · rw [A5, r5]
      · rw [A4 12 3 (by omega) (by omega) (by omega) (by omega) (by omega), o5 125 s (by omega) (by omega) (by decide) (by omega)]; exact RC.2.2.2.1
      · rw [A4 12 4 (by omega) (by omega) (by omega) (by omega) (by omega), o5 136 s (by omega) (by omega) (by decide) (by omega)]; exact RC.2.2.2.2
    · intro i hi
      have hs2 : s ≤ 1 := hs1
      by_cases ci : i = (I 122 s).toNatClampNeg
      · refine ⟨fun _ => ?_, fun q => ?_⟩
        · rw [hA1 14 i (by omega), if_pos ⟨rfl, ci⟩, hA1 15 i (by omega), if_neg (by omega), if_pos ⟨rfl, ci⟩]
          have y1 : J5 123 (10 * s + i) = y := by rw [ci, e5, en_up_ne _ _ _ _ (by omega), o4 _ _ (by omega) (by omega), e19, en_up_ne _ _ _ _ (by omega), e18, en_up_eq]
          have y2 : J5 124 (10 * s + i) = z := by rw [ci, e5, en_up_ne _ _ _ _ (by omega), o4 _ _ (by omega) (by omega), e19, en_up_eq]
          exact ⟨y1.symm, y2.symm⟩
        · rw [r5i] at q; omega
      · rw [A4 14 i (by omega) (by omega) (by omega) (by omega) (by omega), A4 15 i (by omega) (by omega) (by omega) (by omega) (by omega), o5 123 _ (by omega) (by omega) (by decide) (by omega), o5 124 _ (by omega) (by omega) (by decide) (by omega), r5i]
        exact ⟨fun q => (RT i hi).1 (by omega), fun q => (RT i hi).2 (by omega)⟩
    · exact rO_cg RO b34.2 (fun c' j h1 h2 => A4 c' j (by omega) (by omega) (by omega) (by omega) (by omega)) (by rw [r5i]; omega) (o5 134 s (by omega) (by omega) (by decide) (by omega)) (fun j => o5 135 j (by omega) (by omega) (by decide) (by omega)) (fun p j h1 h2 _ _ => o5 p j (by omega) (by omega) (by omega) (by omega))
    · exact rW_cg RW (fun j => A4 13 j (by omega) (by omega) (by omega) (by omega) (by omega)) (fun j => o5 121 j (by omega) (by omega) (by decide) (by omega))
    · exact rS_cg RS bc.2.2.2.1.2 hs1 (fun c' j hc => A4 c' j (by omega) (by omega) (by omega) (by omega) (by omega)) (fun p j hp => o5 p j (by omega) (by omega) (by omega) (by omega))
    · exact rQ_cg RQ (fun c' j h1 h2 => A4 c' j (by omega) (by omega) (by omega) (by omega) (by omega)) (fun p j hp => o5 p j (by omega) (by omega) (by omega) (by omega))
    · exact rB_new (so := 2) (x := I 122 s) RB b0 (by omega) (by rw [e5, en_up_ne _ _ _ _ (by omega), e4J, en_up_eq, c19]) (by rw [e5, en_up_ne _ _ _ _ (by omega), e4J, en_up_ne _ _ _ _ (by omega), en_up_ne _ _ _ _ (by omega), en_up_eq]) (by rw [e5, en_up_ne _ _ _ _ (by omega), e4J, en_up_ne _ _ _ _ (by omega), en_up_eq, e20]) (fun i hi => ⟨o5 116 i (by omega) (by omega) (by decide) (by omega), o5 117 i (by omega) (by omega) (by decide) (by omega)⟩) (by rw [r5i]; omega) (fun _ => by rw [r5i]; omega)
theorem x_tellTime (hT : TS K P V W N c) (hls : ml_ls l s) (hm : en_mem ml_tb mlX (xLay, I, L, R)) (hI : ml_TI l s I) (hX : PX K P V W N c R0 M0 (some (t, 0, g)) o I L) (hG : rG s g I) (hR : ∀ a, o = some a → rL K V W s t a I L) (ek : K t = 3) (hr : (I 122 s).toInt < 10) (h : ∀ (J : sm_I) (L' : sm_L), TP K P V W N c R0 M0 s t J L' → Φ (none, (xLay, J, L', kM R))) : sm_wp sm_P S (d + 4) 202 0 [.ref 107] [] (xLay, I, L, kM R) (0, 0) Φ := by
  obtain ⟨hl1, hs1⟩ := ml_l1 hls
  obtain ⟨sn, sv⟩ := ml_sn hls hI
  have bc := ml_cs hs1 hm
  have b34 := x_34 hs1 hm
  obtain ⟨⟨b0, b1⟩, hb⟩ := x_b117 hm
  have bs : (I 107 20).toInt ≤ ml_sum I s := hI.2.2.1
  unfold ml_sum at bs
  have tc : t ≤ c := hX.1.2.2.2.2.2.1
  have k0 : (((I 122 s).toNatClampNeg : Nat) : Int) = (I 122 s).toInt := kl_nat bc.2.2.1.1
  have ok : gc_ok 0 3 g = true := by
    unfold gc_ok
    rw [if_pos ⟨rfl, by decide⟩]
    refine decide_eq_true ?_
    have := hG.2.2.2.1
    rw [show gw 3 = 3 from by decide, show (sm_room.getD 3 0).toInt = 10 from by decide]
    omega
  refine u_X12_tellTime_0 (x_go0 (k := 3) hT ek (by decide) (by decide) (by decide +kernel) (by decide) (by decide) ok hX (fun J1 m1 f1 X1 r1 => ⟨J1, L, R, rfl, ?_⟩))
  have e1 : ∀ t' s' g', m1 = some (t', s', g') → t' = t + 1 ∧ s' = 6 ∧ g' = gc_st 0 3 g := fun t' s' g' em => by
    rcases r1 with r1 | ⟨q1, q2, q3⟩
    · rw [r1] at em; cases em
    · rw [q3] at em
      obtain ⟨y1, y2, y3⟩ := mo_i em
      exact ⟨y1.symm, by rw [← y2]; decide +kernel, y3.symm⟩
  have c20 : J1 107 20 = I 107 20 := f1 107 20 (by omega)
  refine x_named (s0 := 6) hT (by decide +kernel) (fun v a => by rw [ms_15]; rfl) X1 (fun t' s' g' em => (e1 t' s' g' em).2.1) (by rw [c20]; exact b0) (by rw [c20]; exact b1) (fun t' g' a1 em eo uc ku => ?_) (fun J2 m2 o2 f2 X2 r2 => ⟨_, J2, L, R, rfl, ?_⟩)
  · obtain ⟨a, ea3, ea4⟩ := om (Or.inr rfl) eo
    subst ea4
    exact x_hn hT f1 (hR a ea3) tc 3 uc ku (by omega)
  have f12 : xfr I J2 := xfr_tr f1 f2
  have e19 : J2 107 19 = I 107 19 := f12 107 19 (by omega)
  have e122 : J2 122 s = I 122 s := f12 122 s (by omega)
  have d20 : J2 107 20 = I 107 20 := f12 107 20 (by omega)
  have e2 : ∀ t' s' g', m2 = some (t', s', g') → t' = t + 2 ∧ s' = 7 ∧ g' = gc_st 0 3 g ∧ t + 1 < c ∧ t + 1 < 500 ∧ K (t + 1) = 15 ∧ (J1 107 11).toInt = ((t + 1 : Nat) : Int) ∧ ∀ a2, o2 = some a2 → ∃ a, rL K V W s t a I L ∧ a2 = nm_add (V (t + 1)) (u2 a 2 7 3) := fun t' s' g' em => by
    rcases r2 with r2 | ⟨t2, g2, em2, q1, q2, q3, q4, q5⟩
    · rw [r2] at em; cases em
    · rw [q4] at em
      obtain ⟨y1, y2, y3⟩ := mo_i em
      obtain ⟨z1, z2, z3⟩ := e1 t2 6 g2 em2
      subst z1
      have hS := X1.1
      rw [em2] at hS
      refine ⟨by omega, by rw [← y2]; decide +kernel, by rw [← y3]; exact z3, q1, q2, q3, hS.2.2.2.2.1, fun a2 ea => ?_⟩
      rcases q5 with q5 | ⟨q5, -⟩
      · rw [q5] at ea; cases ea
      obtain ⟨a1, ea1, ea1'⟩ := om (Or.inr q5) ea
      obtain ⟨a, ea3, ea4⟩ := om (Or.inr rfl) ea1
      subst ea4
      exact ⟨a, hR a ea3, ea1'⟩
  rw [e19, sn]
  refine ⟨sv, fun n9 e9 => ?_⟩
  have q1 : ((10 : Int32) * (I 107 19)).toInt = 10 * (s : Int) := ml_mu (by decide) hI.2.1 (by omega) (by omega)
  have q9 : n9.toInt = 10 * (s : Int) + (I 122 s).toInt := by rw [e9, e122]; exact ml_ad q1 rfl (by omega) (by omega)
  refine x_is (i := 4) hT (by decide) rfl X2.1 (fun r13 _ hr13 => ⟨r13, J2, L, R, rfl, fun r0 => ?_, fun r1' => ?_⟩)
  · refine x_mustT (i := 17) (s0 := 7) [4] hT rfl (by decide +kernel) (fun v a => rfl) X2 (fun t' s' g' em => ⟨(e2 t' s' g' em).2.1, fun j hj ekj => ?_⟩) (fun J3 m3 f3 X3 r3 => ⟨J3, L, R, rfl, fun z => ?_, fun z => ?_⟩)
    · rw [List.mem_singleton.mp hj] at ekj
      exact absurd r0 (hr13.mpr ⟨t', s', g', em, ekj⟩)
    · have z := PS_le0 X3.1 z
      rcases r3 with r3 | ⟨t3, g3, em3, v1, v2, v3, v4⟩
      · rw [r3] at X3; exact absurd z (PS_no X3.1)
      obtain ⟨y1, y2, y3, y4, y5, y6, y7, y8⟩ := e2 t3 7 g3 em3
      refine x_time (t2 := t + 1) (t3 := t3 + 1) hT hls hm hI hG hr hX.1.1 (xfr_tr f12 f3) X3 v4 y3 (by omega) (by omega) y4 y5 y6 y7 q9 (fun a' ea => ?_) h
      obtain ⟨a, RL, ea'⟩ := y8 a' ea
      subst ea'
      refine ⟨a, RL, rfl, fun p j hp => ?_⟩
      have ef : a.1 12 2 = I 122 s := RL.2.1.2.2.1
      obtain ⟨A1, A2, A3⟩ := nmA (v := V (t + 1)) (a := u2 a 2 7 3) (k := 3) (mx := 10) (f := 2) (u2_eq _ _ _ _) (by decide) (fun b => by unfold nb_new; rw [if_neg (by decide), if_neg (by decide), if_pos (by decide)]) (by rw [u2_ne _ _ _ _ (by omega), ef, show (10 : Int32).toInt = 10 from by decide]; exact hr) (by decide)
      have T := (RL.2.2.1 (I 122 s).toNatClampNeg (by omega)).2 (by omega)
      by_cases c1 : p = 14 ∧ j = (I 122 s).toNatClampNeg
      · rw [if_pos c1, c1.1, c1.2, A3 14 _ (by decide) (by decide) (by omega), if_neg (by omega), u2_ne _ _ _ _ (by omega)]; exact T.1
      · rw [if_neg c1]
        by_cases c2 : p = 15 ∧ j = (I 122 s).toNatClampNeg
        · rw [if_pos c2, c2.1, c2.2, A3 15 _ (by decide) (by decide) (by omega), if_neg (by omega), u2_ne _ _ _ _ (by omega)]; exact T.2
        · rw [if_neg c2]
    · have nz : ¬ J3 107 13 = 0 := fun y => z (by rw [y]; decide)
      have em := PS_n0 X3.1 nz
      exact h J3 L ⟨m3, o2, X3, Or.inl em⟩
  · -- of .. in ..
    obtain ⟨tk, sk, gk, emk, ekk⟩ := hr13.mp r1'
    refine x_goT (i := 4) (s0 := 7) [17] hT (by decide +kernel) (fun v a => rfl) X2 (fun t' s' g' em => ⟨(e2 t' s' g' em).2.1, ?_⟩) (fun J3 m3 f3 X3 r3 => ⟨J3, L, R, rfl, ?_⟩)
    · rw [emk] at em
      rw [← (mo_i em).1]; exact ekk
    have f13 : xfr I J3 := xfr_tr f12 f3
    have g20 : J3 107 20 = I 107 20 := f13 107 20 (by omega)
    have cm3 : cntm J3 = cntm I := by unfold cntm; rw [g20]
    have e3 : ∀ t' s' g', m3 = some (t', s', g') → t' = t + 3 ∧ s' = 8 ∧ g' = gc_st 0 3 g ∧ t + 1 < c ∧ t + 1 < 500 ∧ K (t + 1) = 15 ∧ (J1 107 11).toInt = ((t + 1 : Nat) : Int) ∧ ∀ a2, o2 = some a2 → ∃ a, rL K V W s t a I L ∧ a2 = nm_add (V (t + 1)) (u2 a 2 7 3) := fun t' s' g' em => by
      rcases r3 with r3 | ⟨t3, g3, em3, v1, v2, v3, v4⟩
      · rw [r3] at em; cases em
      · rw [v4] at em
        obtain ⟨y1, y2, y3⟩ := mo_i em
        obtain ⟨z1, z2, z3, z4⟩ := e2 t3 7 g3 em3
        exact ⟨by omega, by rw [← y2]; decide +kernel, by rw [← y3]; exact z3, z4⟩
    have nk3 : ∀ a : sg, nm_kd (u2 a 2 7 3) = 3 := fun a => by unfold nm_kd; rw [u2_eq]; decide
    refine x_knownS (kd := 0) (s0 := 8) hT (by decide +kernel) X3 (fun t' s' g' em => (e3 t' s' g' em).2.1) (by rw [g20]; exact b0) (by rw [g20]; exact b1) (fun i hi => by rw [f13 117 i (by omega)]; exact hb i (by rw [← cm3]; exact hi)) (fun t' g' a1 em eo uc ku => ?_) (fun r a => pl_last 14 r a) (fun v a => by rw [ms_15]; rfl) (fun r37 J4 m4 o4 f4 X4 r4 => ⟨r37, J4, L, R, rfl, ?_⟩)
    · obtain ⟨-, -, -, -, -, -, -, y8⟩ := e3 t' 8 g' em
      obtain ⟨a, RL, ea'⟩ := y8 a1 eo
      subst ea'
      exact x_pend (k := 3) hT f13 RL tc b0 (by omega) (by rw [nk3]; decide) (Or.inl ⟨rfl, rfl⟩) rfl (fun _ => rfl) (fun _ => rfl) rfl uc ku
    have f14 : xfr I J4 := xfr_tr f13 f4
    have times : ∀ a, rL K V W s t a I L → ((nm_add (V (t + 1)) (u2 a 2 7 3)).1 12 2).toInt = (((I 122 s).toNatClampNeg : Nat) : Int) + 1 := fun a RL => by
      have ef : a.1 12 2 = I 122 s := RL.2.1.2.2.1
      obtain ⟨A1, A2, A3⟩ := nmA (v := V (t + 1)) (a := u2 a 2 7 3) (k := 3) (mx := 10) (f := 2) (u2_eq _ _ _ _) (by decide) (fun b => by unfold nb_new; rw [if_neg (by decide), if_neg (by decide), if_pos (by decide)]) (by rw [u2_ne _ _ _ _ (by omega), ef, show (10 : Int32).toInt = 10 from by decide]; exact hr) (by decide)
      rw [A3 12 2 (by decide) (by decide) (by omega), if_pos ⟨rfl, rfl⟩, u2_ne _ _ _ _ (by omega), ef, k0]
      exact ml_in1 (by omega)
    have e4 : ∀ t' s' g', m4 = some (t', s', g') → t' = t + 4 ∧ s' = 9 ∧ g' = gc_st 0 3 g ∧ t + 1 < c ∧ t + 1 < 500 ∧ K (t + 1) = 15 ∧ (J1 107 11).toInt = ((t + 1 : Nat) : Int) ∧ ∀ a2, o4 = some a2 → ∃ a, rL K V W s t a I L ∧ a2 = u2 (nm_add (V (t + 1)) (u2 a 2 7 3)) 14 (I 122 s).toNatClampNeg r37 := fun t' s' g' em => by
      rcases r4 with ⟨r4, -⟩ | ⟨t4, g4, em4, v1, v2, v3, v4, v5, v6⟩
      · rw [r4] at em; cases em
      · rw [v4] at em
        obtain ⟨y1, y2, y3⟩ := mo_i em
        obtain ⟨z1, z2, z3, z4, z5, z6, z7, z8⟩ := e3 t4 8 g4 em4
        refine ⟨by omega, by rw [← y2]; decide +kernel, by rw [← y3]; exact z3, z4, z5, z6, z7, fun a2 ea => ?_⟩
        rcases v6 with v6 | ⟨-, v6⟩
        · rw [v6] at ea; cases ea
        obtain ⟨a3, ea1, ea1'⟩ := om (Or.inr v6) ea
        obtain ⟨a, RL, ea'⟩ := z8 a3 ea1
        refine ⟨a, RL, ?_⟩
        rw [ea1', ea']
        exact pl_last_s (times a RL) (by omega)
    refine x_mustT (i := 5) (s0 := 9) [] hT rfl (by decide +kernel) (fun v a => rfl) X4 (fun t' s' g' em => ⟨(e4 t' s' g' em).2.1, fun j hj => absurd hj List.not_mem_nil⟩) (fun J5 m5 f5 X5 r5 => ⟨J5, L, R, rfl, ?_⟩)
    have f15 : xfr I J5 := xfr_tr f14 f5
    have h20 : J5 107 20 = I 107 20 := f15 107 20 (by omega)
    have cm5 : cntm J5 = cntm I := by unfold cntm; rw [h20]
    have e5 : ∀ t' s' g', m5 = some (t', s', g') → t' = t + 5 ∧ s' = 10 ∧ g' = gc_st 0 3 g ∧ t + 1 < c ∧ t + 1 < 500 ∧ K (t + 1) = 15 ∧ (J1 107 11).toInt = ((t + 1 : Nat) : Int) ∧ ∀ a2, o4 = some a2 → ∃ a, rL K V W s t a I L ∧ a2 = u2 (nm_add (V (t + 1)) (u2 a 2 7 3)) 14 (I 122 s).toNatClampNeg r37 := fun t' s' g' em => by
      rcases r5 with r5 | ⟨t5, g5, em5, v1, v2, v3, v4⟩
      · rw [r5] at em; cases em
      · rw [v4] at em
        obtain ⟨y1, y2, y3⟩ := mo_i em
        obtain ⟨z1, z2, z3, z4⟩ := e4 t5 9 g5 em5
        exact ⟨by omega, by rw [← y2]; decide +kernel, by rw [← y3]; exact z3, z4⟩
    refine x_knownS (kd := 1) (s0 := 10) hT (by decide +kernel) X5 (fun t' s' g' em => (e5 t' s' g' em).2.1) (by rw [h20]; exact b0) (by rw [h20]; exact b1) (fun i hi => by rw [f15 117 i (by omega)]; exact hb i (by rw [← cm5]; exact hi)) (fun t' g' a1 em eo uc ku => ?_) (fun r a => pl_last 15 r a) (fun v a => by rw [ms_15]; rfl) (fun r45 J6 m6 o6 f6 X6 r6 => ⟨r45, J6, L, R, rfl, ?_⟩)
    · obtain ⟨-, -, -, -, -, -, -, y8⟩ := e5 t' 10 g' em
      obtain ⟨a, RL, ea'⟩ := y8 a1 eo
      subst ea'
      exact x_pend (k := 3) (v := V (t + 1)) hT f15 RL tc b0 (by omega) (by rw [nk3]; decide) (Or.inr (Or.inl ⟨rfl, rfl⟩)) rfl (fun _ => u2_ne _ _ _ _ (by omega)) (fun _ => u2_ne _ _ _ _ (by omega)) (u2_ne _ _ _ _ (by omega)) uc ku
    have f16 : xfr I J6 := xfr_tr f15 f6
    have e6 : ∀ t' s' g', m6 = some (t', s', g') → t' = t + 6 ∧ s' = 2 ∧ g' = gc_st 0 3 g ∧ t + 1 < c ∧ t + 1 < 500 ∧ K (t + 1) = 15 ∧ (J1 107 11).toInt = ((t + 1 : Nat) : Int) ∧ ∀ a2, o6 = some a2 → ∃ a, rL K V W s t a I L ∧ a2 = u2 (u2 (nm_add (V (t + 1)) (u2 a 2 7 3)) 14 (I 122 s).toNatClampNeg r37) 15 (I 122 s).toNatClampNeg r45 := fun t' s' g' em => by
      rcases r6 with ⟨r6, -⟩ | ⟨t6, g6, em6, v1, v2, v3, v4, v5, v6⟩
      · rw [r6] at em; cases em
      · rw [v4] at em
        obtain ⟨y1, y2, y3⟩ := mo_i em
        obtain ⟨z1, z2, z3, z4, z5, z6, z7, z8⟩ := e5 t6 10 g6 em6
        refine ⟨by omega, by rw [← y2]; decide +kernel, by rw [← y3]; exact z3, z4, z5, z6, z7, fun a2 ea => ?_⟩
        rcases v6 with v6 | ⟨-, v6⟩
        · rw [v6] at ea; cases ea
        obtain ⟨a3, ea1, ea1'⟩ := om (Or.inr v6) ea
        obtain ⟨a, RL, ea'⟩ := z8 a3 ea1
        refine ⟨a, RL, ?_⟩
        rw [ea1', ea']
        exact pl_last_s (by rw [u2_ne _ _ _ _ (by omega)]; exact times a RL) (by omega)
    refine x_mustT (i := 17) (s0 := 2) [] hT rfl (by decide +kernel) (fun v a => rfl) X6 (fun t' s' g' em => ⟨(e6 t' s' g' em).2.1, fun j hj => absurd hj List.not_mem_nil⟩) (fun J7 m7 f7 X7 r7 => ⟨J7, L, R, rfl, fun z => ?_, fun z => ?_⟩)
    · have z := PS_le0 X7.1 z
      rcases r7 with r7 | ⟨t7, g7, em7, v1, v2, v3, v4⟩
      · rw [r7] at X7; exact absurd z (PS_no X7.1)
      obtain ⟨y1, y2, y3, y4, y5, y6, y7, y8⟩ := e6 t7 2 g7 em7
      refine x_time (t2 := t + 1) (t3 := t7 + 1) hT hls hm hI hG hr hX.1.1 (xfr_tr f16 f7) X7 v4 y3 (by omega) (by omega) y4 y5 y6 y7 q9 (fun a' ea => ?_) h
      obtain ⟨a, RL, ea'⟩ := y8 a' ea
      subst ea'
      refine ⟨a, RL, rfl, fun p j hp => ?_⟩
      by_cases c1 : p = 14 ∧ j = (I 122 s).toNatClampNeg
      · rw [if_pos c1, c1.1, c1.2, u2_ne _ _ _ _ (by omega), u2_eq]
      · rw [if_neg c1]
        by_cases c2 : p = 15 ∧ j = (I 122 s).toNatClampNeg
        · rw [if_pos c2, c2.1, c2.2, u2_eq]
        · rw [if_neg c2, u2_ne _ _ _ _ (by omega), u2_ne _ _ _ _ (by omega)]
    · have nz : ¬ J7 107 13 = 0 := fun y => z (by rw [y]; decide)
      have em := PS_n0 X7.1 nz
      exact h J7 L ⟨m7, o6, X7, Or.inl em⟩
end
end
section
/-! tells of the reference, exact: a span -/
/-- nothing but the span i, and the reader's place, fault and worst -/
def sfr (i : Nat) (I J : sm_I) : Prop := ∀ p j, ¬ (130 ≤ p ∧ p ≤ 133 ∧ j = i) → ¬ (p = 107 ∧ (j = 11 ∨ j = 13 ∨ j = 14 ∨ j = 15 ∨ j = 16)) → J p j = I p j
theorem sfr_x {i : Nat} {I J H : sm_I} (h : sfr i I J) (g : xfr J H) : sfr i I H := fun p j a b => (g p j b).trans (h p j a b)
theorem sfr_u {i p : Nat} {x : Int32} {I J H : sm_I} (h : sfr i I J) (p1 : 130 ≤ p) (p2 : p ≤ 133) (e : H = sm_up J p i x) : sfr i I H := fun q j a b => by rw [e, en_up_ne _ _ _ _ (by omega)]; exact h q j a b
/-- the same but for what the reader holds of a span -/
def spb0 (a0 b : sg) : Prop := b.2 = a0.2 ∧ (∀ p j, p ≠ 2 → b.1 p j = a0.1 p j) ∧ b.1 2 5 = a0.1 2 5 ∧ b.1 2 7 = a0.1 2 7
theorem spb0_u {a0 b : sg} {j : Nat} {x : Int32} (h : spb0 a0 b) (j1 : j = 8 ∨ j = 9 ∨ j = 10) : spb0 a0 (u2 b 2 j x) := ⟨h.1, fun p q hp => by rw [u2_ne _ _ _ _ (by omega)]; exact h.2.1 p q hp, by rw [u2_ne _ _ _ _ (by omega)]; exact h.2.2.1, by rw [u2_ne _ _ _ _ (by omega)]; exact h.2.2.2⟩
def spok (t0 : Nat) (g0 : gc) (i : Nat) (o : Option sg) (I J : sm_I) (m' : mo) (o' : Option sg) : Prop := sfr i I J ∧ (m' = none ∨ ∃ t', m' = some (t', 26, g0) ∧ t0 < t' ∧ ∀ a', o' = some a' → ∃ a0, o = some a0 ∧ ∃ b, a' = en_sp (J 133 i) b ∧ spb0 a0 b ∧ b.1 2 8 = J 130 i ∧ b.1 2 9 = J 131 i ∧ b.1 2 10 = J 132 i ∧ 0 ≤ (J 130 i).toInt ∧ (J 130 i).toInt ≤ 9 ∧ -1 ≤ (J 131 i).toInt ∧ (J 131 i).toInt ≤ 9)
section
variable {K : Nat → Int32} {P : Nat → Nat} {V W : Nat → Int64} {N : Nat → Int32} {c : Nat} {R0 : Option (Int32 × Nat)} {M0 : Option (Int32 × Nat) × sg}
variable {S : sm_C} {d : Nat} {Φ : sm_Z → Prop} {I H : sm_I} {L : sm_L} {R : sm_R} {m : mo} {o o3 : Option sg} {x1 : Int32} {i t0 : Nat} {g0 : gc}
theorem x_spS (hT : TS K P V W N c) (h1 : x1.toInt = i) (hi : i < 260) (fH : sfr i I H) (XH : PX K P V W N c R0 M0 m o3 H L) (rm : ∀ t' s' g', m = some (t', s', g') → t0 < t' ∧ s' = 21 ∧ g' = g0) (ro : m ≠ none → ∀ b, o3 = some b → ∃ a0, o = some a0 ∧ spb0 a0 b ∧ b.1 2 8 = H 130 i ∧ b.1 2 9 = H 131 i ∧ 0 ≤ (H 130 i).toInt ∧ (H 130 i).toInt ≤ 9 ∧ -1 ≤ (H 131 i).toInt ∧ (H 131 i).toInt ≤ 9) (h : ∀ (J : sm_I) (m' : mo) (o' : Option sg), PX K P V W N c R0 M0 m' o' J L → spok t0 g0 i o I J m' o' → Φ (none, (xLay, J, L, kM R))) : sm_wp sm_P S (d + 3) 169 0 [.ref 107, .int (1 : Int32)] [] (xLay, H, L, kM R) (0, 0) (fun z => ∃ (r41 : Int32) (I38 : sm_I) (L39 : sm_L) (R40 : sm_R), z = (some (.int r41), (xLay, I38, L39, kM R40)) ∧ (vp_in x1 260) ∧ ∀ I42 : sm_I, I42 = (sm_up I38 132 x1.toNatClampNeg r41) → sm_wp sm_P S (d + 3) 169 0 [.ref 107, .int (1 : Int32)] [] (xLay, I42, L39, kM R40) (0, 0) (fun z => ∃ (r52 : Int32) (I49 : sm_I) (L50 : sm_L) (R51 : sm_R), z = (some (.int r52), (xLay, I49, L50, kM R51)) ∧ (vp_in x1 260) ∧ ∀ I53 : sm_I, I53 = (sm_up I49 133 x1.toNatClampNeg r52) → Φ (none, (xLay, I53, L50, kM R51)))) := by
  have v : vp_in x1 260 := kl_in (by omega) (by omega)
  have n1 := tk_nat h1
  refine x_numS (s0 := 21) (s1 := 22) hT (by decide +kernel) (by decide +kernel) (by decide +kernel) (by decide +kernel) (by decide +kernel) (fun r a => u2 a 2 10 r) (fun v a hv => by rw [ms_16 hv]; rfl) (fun v a hv => by rw [ms_16 hv]; rfl) (fun v a => rfl) XH (fun t' s' g' em => (rm t' s' g' em).2.1) (fun r J m1 o1 f X1 r1 => ⟨r, J, L, R, rfl, v, fun J2 e2 => ?_⟩)
  rw [n1] at e2
  have X2 : PX K P V W N c R0 M0 m1 o1 J2 L := by rw [e2]; exact PX_up (by decide) (by omega) X1
  have e21 : ∀ t' s' g', m1 = some (t', s', g') → t0 < t' ∧ s' = 23 ∧ g' = g0 := fun t' s' g' em => by
    rcases r1 with r1 | ⟨t2, g2, u, em2, q1, q2, q3, q4, q5⟩
    · rw [r1] at em; cases em
    · rw [q4] at em
      obtain ⟨y1, y2, y3⟩ := mo_i em
      obtain ⟨z1, z2, z3⟩ := rm t2 21 g2 em2
      exact ⟨by omega, by rw [← y2]; decide +kernel, by rw [← y3]; exact z3⟩
  refine x_numS (s0 := 23) (s1 := 24) hT (by decide +kernel) (by decide +kernel) (by decide +kernel) (by decide +kernel) (by decide +kernel) en_sp (fun v a hv => by rw [ms_16 hv]; rfl) (fun v a hv => by rw [ms_16 hv]; rfl) (fun v a => rfl) X2 (fun t' s' g' em => (e21 t' s' g' em).2.1) (fun r' J3 m3 o3' f3 X3 r3 => ⟨r', J3, L, R, rfl, v, fun J4 e4 => ?_⟩)
  rw [n1] at e4
  have X4 : PX K P V W N c R0 M0 m3 o3' J4 L := by rw [e4]; exact PX_up (by decide) (by omega) X3
  refine h J4 m3 o3' X4 ⟨?_, ?_⟩
  · exact sfr_u (sfr_x (sfr_u (sfr_x fH f) (by decide) (by decide) e2) f3) (by decide) (by decide) e4
  · rcases r3 with r3 | ⟨t2, g2, u, em2, q1, q2, q3, q4, q5⟩
    · exact Or.inl r3
    · obtain ⟨z1, z2, z3⟩ := e21 t2 23 g2 em2
      refine Or.inr ⟨u + 1, ?_, by omega, fun a' ea => ?_⟩
      · rw [q4, z3, show fw 23 16 = 26 from by decide +kernel]
      · rcases q5 with q5 | ⟨-, -, q5⟩
        · rw [q5] at ea; cases ea
        obtain ⟨b2, eb, eb'⟩ := om (Or.inr q5) ea
        rcases r1 with r1 | ⟨t4, g4, u4, em4, p1, p2, p3, p4, p5⟩
        · rw [r1] at em2; cases em2
        rcases p5 with p5 | ⟨-, -, p5⟩
        · rw [p5] at eb; cases eb
        obtain ⟨b1, ec, ec'⟩ := om (Or.inr p5) eb
        obtain ⟨a0, ea0, w1, w2, w3, w4⟩ := ro (by rw [em4]; exact Option.some_ne_none _) b1 ec
        have k30 : J4 130 i = H 130 i := by rw [e4, en_up_ne _ _ _ _ (by omega), f3 130 i (by omega), e2, en_up_ne _ _ _ _ (by omega), f 130 i (by omega)]
        have k31 : J4 131 i = H 131 i := by rw [e4, en_up_ne _ _ _ _ (by omega), f3 131 i (by omega), e2, en_up_ne _ _ _ _ (by omega), f 131 i (by omega)]
        have k32 : J4 132 i = r := by rw [e4, en_up_ne _ _ _ _ (by omega), f3 132 i (by omega), e2, en_up_eq]
        have k33 : J4 133 i = r' := by rw [e4, en_up_eq]
        refine ⟨a0, ea0, b2, by rw [k33]; exact eb', ?_⟩
        subst ec'
        rw [k30, k31, k32]
        exact ⟨spb0_u w1 (by omega), by rw [u2_ne _ _ _ _ (by omega)]; exact w2, by rw [u2_ne _ _ _ _ (by omega)]; exact w3, u2_eq _ _ _ _, w4⟩
theorem x_spU (hT : TS K P V W N c) (h1 : x1.toInt = i) (hi : i < 260) (fH : sfr i I H) (XH : PX K P V W N c R0 M0 m o3 H L) (rm : ∀ t' s' g', m = some (t', s', g') → t0 < t' ∧ s' = 19 ∧ g' = g0) (ro : m ≠ none → ∀ b, o3 = some b → ∃ a0, o = some a0 ∧ spb0 a0 b ∧ b.1 2 8 = H 130 i ∧ b.1 2 9 = H 131 i ∧ 0 ≤ (H 130 i).toInt ∧ (H 130 i).toInt ≤ 9 ∧ -1 ≤ (H 131 i).toInt ∧ (H 131 i).toInt ≤ 9) (h : ∀ (J : sm_I) (m' : mo) (o' : Option sg), PX K P V W N c R0 M0 m' o' J L → spok t0 g0 i o I J m' o' → Φ (none, (xLay, J, L, kM R))) : sm_wp sm_P S (d + 3) 169 0 [.ref 107, .int (0 : Int32)] [] (xLay, H, L, kM R) (0, 0) (fun z => ∃ (r41 : Int32) (I38 : sm_I) (L39 : sm_L) (R40 : sm_R), z = (some (.int r41), (xLay, I38, L39, kM R40)) ∧ (vp_in x1 260) ∧ ∀ I42 : sm_I, I42 = (sm_up I38 132 x1.toNatClampNeg r41) → sm_wp sm_P S (d + 3) 169 0 [.ref 107, .int (0 : Int32)] [] (xLay, I42, L39, kM R40) (0, 0) (fun z => ∃ (r52 : Int32) (I49 : sm_I) (L50 : sm_L) (R51 : sm_R), z = (some (.int r52), (xLay, I49, L50, kM R51)) ∧ (vp_in x1 260) ∧ ∀ I53 : sm_I, I53 = (sm_up I49 133 x1.toNatClampNeg r52) → Φ (none, (xLay, I53, L50, kM R51)))) := by
  have v : vp_in x1 260 := kl_in (by omega) (by omega)
  have n1 := tk_nat h1
  refine x_numU (s0 := 19) hT (by decide +kernel) (fun r a => u2 a 2 10 r) (fun v a hv => by rw [ms_16 hv]; rfl) XH (fun t' s' g' em => (rm t' s' g' em).2.1) (fun r J m1 o1 f X1 r1 => ⟨r, J, L, R, rfl, v, fun J2 e2 => ?_⟩)
  rw [n1] at e2
  have X2 : PX K P V W N c R0 M0 m1 o1 J2 L := by rw [e2]; exact PX_up (by decide) (by omega) X1
  have e21 : ∀ t' s' g', m1 = some (t', s', g') → t0 < t' ∧ s' = 25 ∧ g' = g0 := fun t' s' g' em => by
    rcases r1 with r1 | ⟨t2, g2, em2, q2, q3, q4, q5⟩
    · rw [r1] at em; cases em
    · rw [q4] at em
      obtain ⟨y1, y2, y3⟩ := mo_i em
      obtain ⟨z1, z2, z3⟩ := rm t2 19 g2 em2
      exact ⟨by omega, by rw [← y2]; decide +kernel, by rw [← y3]; exact z3⟩
  refine x_numU (s0 := 25) hT (by decide +kernel) en_sp (fun v a hv => by rw [ms_16 hv]; rfl) X2 (fun t' s' g' em => (e21 t' s' g' em).2.1) (fun r' J3 m3 o3' f3 X3 r3 => ⟨r', J3, L, R, rfl, v, fun J4 e4 => ?_⟩)
  rw [n1] at e4
  have X4 : PX K P V W N c R0 M0 m3 o3' J4 L := by rw [e4]; exact PX_up (by decide) (by omega) X3
  refine h J4 m3 o3' X4 ⟨?_, ?_⟩
  · exact sfr_u (sfr_x (sfr_u (sfr_x fH f) (by decide) (by decide) e2) f3) (by decide) (by decide) e4
  · rcases r3 with r3 | ⟨t2, g2, em2, q2, q3, q4, q5⟩
    · exact Or.inl r3
    · obtain ⟨z1, z2, z3⟩ := e21 t2 25 g2 em2
      refine Or.inr ⟨t2 + 1, ?_, by omega, fun a' ea => ?_⟩
      · rw [q4, z3, show fw 25 16 = 26 from by decide +kernel]
      · rcases q5 with q5 | ⟨-, -, q5⟩
        · rw [q5] at ea; cases ea
        obtain ⟨b2, eb, eb'⟩ := om (Or.inr q5) ea
        rcases r1 with r1 | ⟨t4, g4, em4, p2, p3, p4, p5⟩
        · rw [r1] at em2; cases em2
        rcases p5 with p5 | ⟨-, -, p5⟩
        · rw [p5] at eb; cases eb
        obtain ⟨b1, ec, ec'⟩ := om (Or.inr p5) eb
        obtain ⟨a0, ea0, w1, w2, w3, w4⟩ := ro (by rw [em4]; exact Option.some_ne_none _) b1 ec
        have k30 : J4 130 i = H 130 i := by rw [e4, en_up_ne _ _ _ _ (by omega), f3 130 i (by omega), e2, en_up_ne _ _ _ _ (by omega), f 130 i (by omega)]
        have k31 : J4 131 i = H 131 i := by rw [e4, en_up_ne _ _ _ _ (by omega), f3 131 i (by omega), e2, en_up_ne _ _ _ _ (by omega), f 131 i (by omega)]
        have k32 : J4 132 i = r := by rw [e4, en_up_ne _ _ _ _ (by omega), f3 132 i (by omega), e2, en_up_eq]
        have k33 : J4 133 i = r' := by rw [e4, en_up_eq]
        refine ⟨a0, ea0, b2, by rw [k33]; exact eb', ?_⟩
        subst ec'
        rw [k30, k31, k32]
        exact ⟨spb0_u w1 (by omega), by rw [u2_ne _ _ _ _ (by omega)]; exact w2, by rw [u2_ne _ _ _ _ (by omega)]; exact w3, u2_eq _ _ _ _, w4⟩
theorem x_tellSpan (hT : TS K P V W N c) (h1 : x1.toInt = i) (hi : i < 260) (b0 : 0 ≤ (I 107 20).toInt) (b1 : (I 107 20).toInt ≤ 50) (hb : ∀ j, j < cntm I → 0 ≤ (I 117 j).toInt) (hf : ∀ nm, -1 ≤ (fdm I L nm 2).toInt ∧ (fdm I L nm 2).toInt ≤ 9) (hX : PX K P V W N c R0 M0 m o I L) (hs : ∀ t' s' g', m = some (t', s', g') → t' = t0 ∧ s' = 17 ∧ g' = g0) (hl : ∀ a0, o = some a0 → ∀ b, spb0 a0 b → ∀ u, u < c → K u = 15 → fd b (V u) 3 = fdm I L (W u) 2) (h : ∀ (J : sm_I) (m' : mo) (o' : Option sg), PX K P V W N c R0 M0 m' o' J L → spok t0 g0 i o I J m' o' → Φ (none, (xLay, J, L, kM R))) : sm_wp sm_P S (d + 4) 201 0 [.ref 107, .int x1] [] (xLay, I, L, kM R) (0, 0) Φ := by
  have v : vp_in x1 260 := kl_in (by omega) (by omega)
  have n1 := tk_nat h1
  have rf : ∀ a0 : sg, spb0 a0 a0 := fun a0 => ⟨rfl, fun _ _ _ => rfl, rfl, rfl⟩
  refine u_X12_tellSpan_0 (x_knownS (kd := 3) (s0 := 17) hT (by decide +kernel) hX (fun t' s' g' em => (hs t' s' g' em).2.1) b0 b1 hb (fun t' g' a1 em eo uc ku => hl a1 eo a1 (rf a1) t' uc ku) (fun r a => u2 (u2 a 2 8 r) 2 9 (-1)) (fun v a => by rw [ms_15]; rfl) (fun r4 J1 m1 o1 f1 X1 r1 => ⟨r4, J1, L, R, rfl, ?_⟩))
  have e1 : ∀ t' s' g', m1 = some (t', s', g') → t' = t0 + 1 ∧ s' = 18 ∧ g' = g0 ∧ ∀ b, o1 = some b → ∃ a0, o = some a0 ∧ b = u2 (u2 a0 2 8 r4) 2 9 (-1) ∧ 0 ≤ r4.toInt ∧ r4.toInt ≤ 9 := fun t' s' g' em => by
    rcases r1 with ⟨r1, -⟩ | ⟨t2, g2, em2, q1, q2, q3, q4, q5, q6⟩
    · rw [r1] at em; cases em
    · rw [q4] at em
      obtain ⟨y1, y2, y3⟩ := mo_i em
      obtain ⟨z1, z2, z3⟩ := hs t2 17 g2 em2
      refine ⟨by omega, by rw [← y2]; decide +kernel, by rw [← y3]; exact z3, fun b eb => ?_⟩
      rcases q6 with q6 | ⟨q7, q6⟩
      · rw [q6] at eb; cases eb
      obtain ⟨a0, ea, ea'⟩ := om (Or.inr q6) eb
      have := hf (W t2)
      rw [← q5] at this
      have q7 := ml_m1 q7
      exact ⟨a0, ea, ea', by omega, by omega⟩
  refine x_is (i := 14) hT (by decide) rfl X1.1 (fun r8 _ hr8 => ⟨r8, J1, L, R, rfl, fun r0 => ?_, fun r0 => ?_⟩)
  · refine x_mustT (i := 11) (s0 := 18) [14] hT rfl (by decide +kernel) (fun v a => rfl) X1 (fun t' s' g' em => ⟨(e1 t' s' g' em).2.1, fun j hj ekj => ?_⟩) (fun J2 m2 f2 X2 r2 => ⟨J2, L, R, rfl, fun z => ?_, fun z => ?_⟩)
    · rw [List.mem_singleton.mp hj] at ekj
      exact absurd r0 (hr8.mpr ⟨t', s', g', em, ekj⟩)
    · have z := PS_le0 X2.1 z
      have f12 : xfr I J2 := xfr_tr f1 f2
      have c20 : J2 107 20 = I 107 20 := f12 107 20 (by omega)
      have cm2 : cntm J2 = cntm I := by unfold cntm; rw [c20]
      have e2 : ∀ t' s' g', m2 = some (t', s', g') → t' = t0 + 2 ∧ s' = 20 ∧ g' = g0 ∧ ∀ b, o1 = some b → ∃ a0, o = some a0 ∧ b = u2 (u2 a0 2 8 r4) 2 9 (-1) ∧ 0 ≤ r4.toInt ∧ r4.toInt ≤ 9 := fun t' s' g' em => by
        rcases r2 with r2 | ⟨t3, g3, em3, v1, v2, v3, v4⟩
        · rw [r2] at em; cases em
        · rw [v4] at em
          obtain ⟨y1, y2, y3⟩ := mo_i em
          obtain ⟨z1, z2, z3, z4⟩ := e1 t3 18 g3 em3
          exact ⟨by omega, by rw [← y2]; decide +kernel, by rw [← y3]; exact z3, z4⟩
      refine x_knownS (kd := 3) (s0 := 20) hT (by decide +kernel) X2 (fun t' s' g' em => (e2 t' s' g' em).2.1) (by rw [c20]; exact b0) (by rw [c20]; exact b1) (fun j hj => by rw [f12 117 j (by omega)]; exact hb j (by rw [← cm2]; exact hj)) (fun t' g' a1 em eo uc ku => ?_) (fun r a => u2 a 2 9 r) (fun v a => by rw [ms_15]; rfl) (fun r16 J3 m3 o3 f3 X3 r3 => ⟨r16, J3, L, R, rfl, v, fun J4 e4 => ⟨v, fun J5 e5 => ?_⟩⟩)
      · obtain ⟨-, -, -, y8⟩ := e2 t' 20 g' em
        obtain ⟨a0, ea, ea', -⟩ := y8 a1 eo
        subst ea'
        rw [fdm_cg f12]
        exact hl a0 ea _ (spb0_u (spb0_u (rf a0) (by omega)) (by omega)) t' uc ku
      rw [n1] at e4 e5
      have f13 : xfr I J3 := xfr_tr f12 f3
      have sf3 : sfr i I J3 := fun p j _ b => f13 p j b
      have sf5 : sfr i I J5 := sfr_u (sfr_u sf3 (by decide) (by decide) e4) (by decide) (by decide) e5
      have X5 : PX K P V W N c R0 M0 m3 o3 J5 L := by rw [e5, e4]; exact PX_up (by decide) (by omega) (PX_up (by decide) (by omega) X3)
      have k30 : J5 130 i = r4 := by rw [e5, en_up_eq]
      have k31 : J5 131 i = r16 := by rw [e5, en_up_ne _ _ _ _ (by omega), e4, en_up_eq]
      refine ⟨fun _ => ?_, fun q => absurd r0 q⟩
      refine sm_wp_mono (x_spS (H := J5) (o := o) (t0 := t0) (g0 := g0) hT h1 hi sf5 X5 (fun t' s' g' em => ?_) (fun nm b eb => ?_) h) (fun z hq => ?_)
      · rcases r3 with ⟨r3, -⟩ | ⟨t3, g3, em3, q1, q2, q3, q4, q5, q6⟩
        · rw [r3] at em; cases em
        · rw [q4] at em
          obtain ⟨y1, y2, y3⟩ := mo_i em
          obtain ⟨z1, z2, z3, -⟩ := e2 t3 20 g3 em3
          exact ⟨by omega, by rw [← y2]; decide +kernel, by rw [← y3]; exact z3⟩
      · rcases r3 with ⟨r3, -⟩ | ⟨t3, g3, em3, q1, q2, q3, q4, q5, q6⟩
        · exact absurd r3 nm
        · rcases q6 with q6 | ⟨q7, q6⟩
          · rw [q6] at eb; cases eb
          obtain ⟨b2, eb2, eb2'⟩ := om (Or.inr q6) eb
          obtain ⟨-, -, -, y8⟩ := e2 t3 20 g3 em3
          obtain ⟨a0, ea, ea', w0, w9⟩ := y8 b2 eb2
          subst ea'
          subst eb2'
          have := hf (W t3)
          rw [← fdm_cg f12, ← q5] at this
          refine ⟨a0, ea, spb0_u (spb0_u (spb0_u (rf a0) (by omega)) (by omega)) (by omega), ?_, ?_, ?_⟩
          · rw [k30, u2_ne _ _ _ _ (by omega), u2_ne _ _ _ _ (by omega), u2_eq]
          · rw [k31, u2_eq]
          · rw [k30, k31]; exact ⟨w0, w9, this.1, this.2⟩
      · obtain ⟨r41, I38, L39, R40, ez, w1, w2⟩ := hq
        refine ⟨r41, I38, L39, R40, ez, w1, fun I42 e42 => ⟨fun _ => w2 I42 e42, fun q => absurd r0 q⟩⟩
    · have nz : ¬ J2 107 13 = 0 := fun y => z (by rw [y]; decide)
      have em2 := PS_n0 X2.1 nz
      subst em2
      refine ⟨v, fun J4 e4 => ⟨v, fun J5 e5 => ⟨fun _ => ?_, fun q => absurd r0 q⟩⟩⟩
      rw [n1] at e4 e5
      have f12 : xfr I J2 := xfr_tr f1 f2
      have sf5 : sfr i I J5 := sfr_u (sfr_u (fun p j _ b => f12 p j b) (by decide) (by decide) e4) (by decide) (by decide) e5
      have X5 : PX K P V W N c R0 M0 none none J5 L := PX_F (by rw [e5, e4]; exact PS_up (by decide) (by omega) (PS_up (by decide) (by omega) X2.1))
      refine sm_wp_mono (x_spS (H := J5) (o := o) (t0 := t0) (g0 := g0) hT h1 hi sf5 X5 (fun t' s' g' em => by cases em) (fun nm => absurd rfl nm) h) (fun z hq => ?_)
      obtain ⟨r41, I38, L39, R40, ez, w1, w2⟩ := hq
      refine ⟨r41, I38, L39, R40, ez, w1, fun I42 e42 => ⟨fun _ => w2 I42 e42, fun q => absurd r0 q⟩⟩
  · obtain ⟨tk, sk, gk, emk, ekk⟩ := hr8.mp r0
    refine x_goT (i := 14) (s0 := 18) [11] hT (by decide +kernel) (fun v a => rfl) X1 (fun t' s' g' em => ⟨(e1 t' s' g' em).2.1, ?_⟩) (fun J2 m2 f2 X2 r2 => ⟨J2, L, R, rfl, v, fun J4 e4 => ⟨v, fun J5 e5 => ?_⟩⟩)
    · rw [emk] at em
      rw [← (mo_i em).1]; exact ekk
    rw [n1] at e4 e5
    have f12 : xfr I J2 := xfr_tr f1 f2
    have sf5 : sfr i I J5 := sfr_u (sfr_u (fun p j _ b => f12 p j b) (by decide) (by decide) e4) (by decide) (by decide) e5
    have X5 : PX K P V W N c R0 M0 m2 o1 J5 L := by rw [e5, e4]; exact PX_up (by decide) (by omega) (PX_up (by decide) (by omega) X2)
    have k30 : J5 130 i = r4 := by rw [e5, en_up_eq]
    have k31 : J5 131 i = -1 := by rw [e5, en_up_ne _ _ _ _ (by omega), e4, en_up_eq]
    refine ⟨fun q => absurd q r0, fun _ => ?_⟩
    refine sm_wp_mono (x_spU (H := J5) (o := o) (t0 := t0) (g0 := g0) hT h1 hi sf5 X5 (fun t' s' g' em => ?_) (fun nm b eb => ?_) h) (fun z hq => ?_)
    · rcases r2 with r2 | ⟨t3, g3, em3, v1, v2, v3, v4⟩
      · rw [r2] at em; cases em
      · rw [v4] at em
        obtain ⟨y1, y2, y3⟩ := mo_i em
        obtain ⟨z1, z2, z3, -⟩ := e1 t3 18 g3 em3
        exact ⟨by omega, by rw [← y2]; decide +kernel, by rw [← y3]; exact z3⟩
    · obtain ⟨-, -, -, y8⟩ := e1 tk sk gk emk
      obtain ⟨a0, ea, ea', w0, w9⟩ := y8 b eb
      subst ea'
      refine ⟨a0, ea, spb0_u (spb0_u (rf a0) (by omega)) (by omega), ?_, ?_, ?_⟩
      · rw [k30, u2_ne _ _ _ _ (by omega), u2_eq]
      · rw [k31, u2_eq]
      · rw [k30, k31]; exact ⟨w0, w9, by decide, by decide⟩
    · obtain ⟨r41, I38, L39, R40, ez, w1, w2⟩ := hq
      refine ⟨r41, I38, L39, R40, ez, w1, fun I42 e42 => ⟨fun q => absurd q r0, fun _ => w2 I42 e42⟩⟩
end
end
section
/-! tells of the reference, exact: ask -/
theorem spb_o {cc n : Nat} {row x y lo hi : Int32} {a : sg} {p j : Nat} (h : ¬ (cc + 1 ≤ p ∧ p ≤ cc + 4 ∧ j = row.toNatClampNeg)) : (spb cc n row x y lo hi a).1 p j = a.1 p j := by
  unfold spb
  by_cases c1 : row < 0
  · rw [if_pos c1]
  · rw [if_neg c1]
    by_cases c2 : Int32.ofNat n ≤ row
    · rw [if_pos c2]
    · rw [if_neg c2, u2_ne _ _ _ _ (by omega), u2_ne _ _ _ _ (by omega), u2_ne _ _ _ _ (by omega), u2_ne _ _ _ _ (by omega)]
theorem spb_2 {cc n : Nat} {row x y lo hi : Int32} {a : sg} : (spb cc n row x y lo hi a).2 = a.2 := by
  unfold spb
  by_cases c1 : row < 0
  · rw [if_pos c1]
  · rw [if_neg c1]
    by_cases c2 : Int32.ofNat n ≤ row
    · rw [if_pos c2]
    · rw [if_neg c2]; rfl
theorem spb_i {cc n k : Nat} {row x y lo hi : Int32} {a : sg} (hk : row.toInt = k) (hn : k < n) (n2 : n ≤ 200) : (spb cc n row x y lo hi a).1 (cc + 1) k = x ∧ (spb cc n row x y lo hi a).1 (cc + 2) k = y ∧ (spb cc n row x y lo hi a).1 (cc + 3) k = lo ∧ (spb cc n row x y lo hi a).1 (cc + 4) k = hi := by
  have e : (Int32.ofNat n).toInt = (n : Int) := Int32.toInt_ofNat_of_lt (by omega)
  have es : spb cc n row x y lo hi a = u2 (u2 (u2 (u2 a (cc + 1) k x) (cc + 2) k y) (cc + 3) k lo) (cc + 4) k hi := by
    unfold spb
    rw [if_neg (fun q => by rw [kl_lt, kl_0] at q; omega), if_neg (fun q => by rw [kl_le, e] at q; omega), tk_nat hk]
  rw [es]
  refine ⟨?_, ?_, ?_, ?_⟩
  · rw [u2_ne _ _ _ _ (by omega), u2_ne _ _ _ _ (by omega), u2_ne _ _ _ _ (by omega), u2_eq]
  · rw [u2_ne _ _ _ _ (by omega), u2_ne _ _ _ _ (by omega), u2_eq]
  · rw [u2_ne _ _ _ _ (by omega), u2_eq]
  · rw [u2_eq]
section
variable {K : Nat → Int32} {P : Nat → Nat} {V W : Nat → Int64} {N : Nat → Int32} {c : Nat} {R0 : Option (Int32 × Nat)} {M0 : Option (Int32 × Nat) × sg}
variable {S : sm_C} {d : Nat} {Φ : sm_Z → Prop} {I : sm_I} {L : sm_L} {R : sm_R} {m : mo} {o : Option sg} {l s t : Nat} {g : gc}
theorem x_tellQuestion (hT : TS K P V W N c) (hls : ml_ls l s) (hm : en_mem ml_tb mlX (xLay, I, L, R)) (hI : ml_TI l s I) (hX : PX K P V W N c R0 M0 (some (t, 0, g)) o I L) (hG : rG s g I) (hR : ∀ a, o = some a → rL K V W s t a I L) (ek : K t = 12) (hr : (I 136 s).toInt < 5) (h : ∀ (J : sm_I) (L' : sm_L), TP K P V W N c R0 M0 s t J L' → Φ (none, (xLay, J, L', kM R))) : sm_wp sm_P S (d + 5) 199 0 [.ref 107] [] (xLay, I, L, kM R) (0, 0) Φ := by
  obtain ⟨hl1, hs1⟩ := ml_l1 hls
  obtain ⟨sn, sv⟩ := ml_sn hls hI
  have bc := ml_cs hs1 hm
  have b34 := x_34 hs1 hm
  obtain ⟨⟨b0, b1⟩, hb⟩ := x_b117 hm
  have bs : (I 107 20).toInt ≤ ml_sum I s := hI.2.2.1
  unfold ml_sum at bs
  have b49 := ml_nm49 hls hI hm
  have tc : t ≤ c := hX.1.2.2.2.2.2.1
  have q0 := bc.2.2.2.2
  have kq : (((I 136 s).toNatClampNeg : Nat) : Int) = (I 136 s).toInt := kl_nat q0.1
  have ok : gc_ok 0 12 g = true := by
    unfold gc_ok
    rw [if_pos ⟨rfl, by decide⟩]
    refine decide_eq_true ?_
    have := hG.2.2.2.2.2.2
    rw [show gw 12 = 12 from by decide, show (sm_room.getD 12 0).toInt = 5 from by decide]
    omega
  refine u_X12_tellQuestion_0 (x_go0 (k := 12) hT ek (by decide) (by decide) (by decide +kernel) (by decide) (by decide) ok hX (fun J1 m1 f1 X1 r1 => ⟨J1, L, R, rfl, ?_⟩))
  have e1 : ∀ t' s' g', m1 = some (t', s', g') → t' = t + 1 ∧ s' = 15 ∧ g' = gc_st 0 12 g := fun t' s' g' em => by
    rcases r1 with r1 | ⟨q1, q2, q3⟩
    · rw [r1] at em; cases em
    · rw [q3] at em
      obtain ⟨y1, y2, y3⟩ := mo_i em
      exact ⟨y1.symm, by rw [← y2]; decide +kernel, y3.symm⟩
  have c20 : J1 107 20 = I 107 20 := f1 107 20 (by omega)
  refine x_named (s0 := 15) hT (by decide +kernel) (fun v a => by rw [ms_15]; rfl) X1 (fun t' s' g' em => (e1 t' s' g' em).2.1) (by rw [c20]; exact b0) (by rw [c20]; exact b1) (fun t' g' a1 em eo uc ku => ?_) (fun J2 m2 o2 f2 X2 r2 => ⟨_, J2, L, R, rfl, ?_⟩)
  · obtain ⟨a, ea3, ea4⟩ := om (Or.inr rfl) eo
    subst ea4
    exact x_hn hT f1 (hR a ea3) tc 12 uc ku (by omega)
  have f12 : xfr I J2 := xfr_tr f1 f2
  have e2 : ∀ t' s' g', m2 = some (t', s', g') → t' = t + 2 ∧ s' = 16 ∧ g' = gc_st 0 12 g ∧ t + 1 < c ∧ t + 1 < 500 ∧ K (t + 1) = 15 ∧ (J1 107 11).toInt = ((t + 1 : Nat) : Int) ∧ ∀ a2, o2 = some a2 → ∃ a, rL K V W s t a I L ∧ a2 = nm_add (V (t + 1)) (u2 a 2 7 12) := fun t' s' g' em => by
    rcases r2 with r2 | ⟨t2, g2, em2, q1, q2, q3, q4, q5⟩
    · rw [r2] at em; cases em
    · rw [q4] at em
      obtain ⟨y1, y2, y3⟩ := mo_i em
      obtain ⟨z1, z2, z3⟩ := e1 t2 15 g2 em2
      subst z1
      have hS := X1.1
      rw [em2] at hS
      refine ⟨by omega, by rw [← y2]; decide +kernel, by rw [← y3]; exact z3, q1, q2, q3, hS.2.2.2.2.1, fun a2 ea => ?_⟩
      rcases q5 with q5 | ⟨q5, -⟩
      · rw [q5] at ea; cases ea
      obtain ⟨a1, ea1, ea1'⟩ := om (Or.inr q5) ea
      obtain ⟨a, ea3, ea4⟩ := om (Or.inr rfl) ea1
      subst ea4
      exact ⟨a, hR a ea3, ea1'⟩
  refine x_mustT (i := 18) (s0 := 16) [] hT rfl (by decide +kernel) (fun v a => rfl) X2 (fun t' s' g' em => ⟨(e2 t' s' g' em).2.1, fun j hj => absurd hj List.not_mem_nil⟩) (fun J3 m3 f3 X3 r3 => ⟨J3, L, R, rfl, fun z => ?_, fun z => ?_⟩)
  · have f13 : xfr I J3 := xfr_tr f12 f3
    have e19 : J3 107 19 = I 107 19 := f13 107 19 (by omega)
    have e136 : J3 136 s = I 136 s := f13 136 s (by omega)
    have d20 : J3 107 20 = I 107 20 := f13 107 20 (by omega)
    have cm3 : cntm J3 = cntm I := by unfold cntm; rw [d20]
    have e3 : ∀ t' s' g', m3 = some (t', s', g') → t' = t + 3 ∧ s' = 17 ∧ g' = gc_st 0 12 g ∧ t + 1 < c ∧ t + 1 < 500 ∧ K (t + 1) = 15 ∧ (J1 107 11).toInt = ((t + 1 : Nat) : Int) ∧ ∀ a2, o2 = some a2 → ∃ a, rL K V W s t a I L ∧ a2 = nm_add (V (t + 1)) (u2 a 2 7 12) := fun t' s' g' em => by
      rcases r3 with r3 | ⟨t3, g3, em3, v1, v2, v3, v4⟩
      · rw [r3] at em; cases em
      · rw [v4] at em
        obtain ⟨y1, y2, y3⟩ := mo_i em
        obtain ⟨z1, z2, z3, z4⟩ := e2 t3 16 g3 em3
        exact ⟨by omega, by rw [← y2]; decide +kernel, by rw [← y3]; exact z3, z4⟩
    rw [e19, sn]
    refine ⟨sv, fun n27 e27 => ?_⟩
    have q1 : ((6 : Int32) * (I 107 19)).toInt = 6 * (s : Int) := ml_mu (by decide) hI.2.1 (by omega) (by omega)
    have q2 : ((248 : Int32) + (6 : Int32) * (I 107 19)).toInt = 248 + 6 * (s : Int) := ml_ad (by decide) q1 (by omega) (by omega)
    have q27 : n27.toInt = ((248 + 6 * s + (I 136 s).toNatClampNeg : Nat) : Int) := by
      rw [e27, e136, ml_ad q2 rfl (by omega) (by omega)]; omega
    refine x_tellSpan (t0 := t + 3) (g0 := gc_st 0 12 g) hT q27 (by omega) (by rw [d20]; exact b0) (by rw [d20]; exact b1) (fun j hj => by rw [f13 117 j (by omega)]; exact hb j (by rw [← cm3]; exact hj)) (fun nm => by rw [fdm_cg f13]; exact (x_fb hm L nm).2.2) X3 (fun t' s' g' em => ⟨(e3 t' s' g' em).1, (e3 t' s' g' em).2.1, (e3 t' s' g' em).2.2.1⟩) (fun a0 ea0 b hb0 u uc ku => ?_) (fun J4 m4 o4 X4 r4 => ⟨J4, L, R, rfl, ?_⟩)
    · obtain ⟨t', s', g', em', -⟩ := PS_0 X3.1 z
      obtain ⟨-, -, -, -, -, -, -, y8⟩ := e3 t' s' g' em'
      obtain ⟨a, RL, ea'⟩ := y8 a0 ea0
      subst ea'
      exact x_pend (k := 12) (v := V (t + 1)) hT f13 RL tc b0 (by omega) (by unfold nm_kd; rw [u2_eq]; decide) (Or.inr (Or.inr (Or.inl ⟨rfl, rfl⟩))) hb0.1 (fun i => hb0.2.1 10 i (by decide)) (fun i => hb0.2.1 11 i (by decide)) hb0.2.2.1 uc ku
    obtain ⟨sf4, r4⟩ := r4
    refine x_mustT (i := 17) (s0 := 26) [9, 13] hT rfl (by decide +kernel) (fun v a => rfl) X4 (fun t' s' g' em => ?_) (fun J5 m5 f5 X5 r5 => ⟨J5, L, R, rfl, fun z5 => ?_, fun z5 => ?_⟩)
    · rcases r4 with r4 | ⟨t4, em4, v1, v2⟩
      · rw [r4] at em; cases em
      · rw [em4] at em
        obtain ⟨y1, y2, y3⟩ := mo_i em
        refine ⟨y2.symm, fun j hj _ => ⟨?_, by rw [← y3]; exact gc0_l (by decide)⟩⟩
        rcases List.mem_cons.mp hj with q | q
        · exact Or.inl q
        · exact Or.inr (List.mem_singleton.mp q)
    · have z5 := PS_le0 X5.1 z5
      rcases r5 with r5 | ⟨t5, g5, em5, v1, v2, v3, v4⟩
      · rw [r5] at X5; exact absurd z5 (PS_no X5.1)
      rcases r4 with r4 | ⟨t4, em4, w1, w2⟩
      · rw [r4] at em5; cases em5
      rw [em4] at em5
      obtain ⟨y1, y2, y3⟩ := mo_i em5
      obtain ⟨t', s', g', em', -⟩ := PS_0 X3.1 z
      obtain ⟨-, -, -, u1, u5, u3, h8, y8⟩ := e3 t' s' g' em'
      -- frame from the start
      have ft : ∀ p j, ¬ (130 ≤ p ∧ p ≤ 133 ∧ j = 248 + 6 * s + (I 136 s).toNatClampNeg) → ¬ (p = 107 ∧ (j = 11 ∨ j = 13 ∨ j = 14 ∨ j = 15 ∨ j = 16)) → J5 p j = I p j := fun p j h1 h2 => by rw [f5 p j h2, sf4 p j h1 h2, f13 p j h2]
      have g19 : J5 107 19 = I 107 19 := ft 107 19 (by omega) (by omega)
      have g20 : J5 107 20 = I 107 20 := ft 107 20 (by omega) (by omega)
      have g136 : J5 136 s = I 136 s := ft 136 s (by omega) (by omega)
      have ecm : cntm J5 = cntm I := by unfold cntm; rw [g20]
      have e4 : fw 26 (Int32.ofNat 17) = 0 := by decide +kernel
      rw [g19, sn]
      refine ⟨sv, fun n36 e36 => ?_⟩
      rw [g136] at e36
      refine x_knows (t := t + 1) h8 (by omega) (by rw [g20]; exact b0) (by rw [g20]; exact b49) X5 (fun J6 L6 e6J e6L X6 => ⟨J6, L6, R, rfl, ?_⟩)
      rw [ecm] at e6J e6L
      have o6 : ∀ p j, ¬ ((p = 116 ∨ p = 117) ∧ j = cntm I) → ¬ (p = 107 ∧ j = 20) → J6 p j = J5 p j := fun p j h1 h2 => by rw [e6J, en_up_ne _ _ _ _ (by omega), en_up_ne _ _ _ _ (by omega), en_up_ne _ _ _ _ (by omega)]
      have s6 : J6 107 19 = I 107 19 := by rw [o6 107 19 (by omega) (by omega)]; exact g19
      rw [s6, sn]
      refine ⟨sv, fun n41 e41 => ⟨sv, fun J7 e7 => h J7 L6 ⟨m5, o4, ?_, Or.inr ⟨t5 + 1, g5, by rw [v4, e4], by omega, ?_, fun a' ea => ?_⟩⟩⟩⟩
      · rw [e7]; exact PX_up (by decide) (by omega) X6
      all_goals
        have o7 : ∀ p j, ¬ ((p = 116 ∨ p = 117) ∧ j = cntm I) → ¬ (p = 136 ∧ j = s) → p ≠ 107 → ¬ (130 ≤ p ∧ p ≤ 133 ∧ j = 248 + 6 * s + (I 136 s).toNatClampNeg) → J7 p j = I p j := fun p j h1 h2 h3 h4 => by rw [e7, en_up_ne _ _ _ _ h2, o6 p j h1 (by omega), ft p j h4 (by omega)]
        have r7 : J7 136 s = I 136 s + 1 := by rw [e7, en_up_eq, e41, o6 136 s (by omega) (by omega), g136]
        have r7i : (J7 136 s).toInt = (I 136 s).toInt + 1 := by rw [r7]; exact ml_in1 (by omega)
      · rw [← y3]
        unfold rG
        obtain ⟨G1, G2, G3, G4, G5, G6, G7⟩ := hG
        refine ⟨?_, ?_, ?_, ?_, ?_, ?_, ?_⟩
        · rw [o7 118 s (by omega) (by omega) (by decide) (by omega), gc0_t (by decide), if_neg (by decide)]; exact G1
        · rw [o7 119 s (by omega) (by omega) (by decide) (by omega), gc0_t (by decide), if_neg (by decide)]; exact G2
        · rw [o7 120 s (by omega) (by omega) (by decide) (by omega), gc0_t (by decide), if_neg (by decide)]; exact G3
        · rw [o7 122 s (by omega) (by omega) (by decide) (by omega), gc0_t (by decide), if_neg (by decide)]; exact G4
        · rw [o7 125 s (by omega) (by omega) (by decide) (by omega), gc0_t (by decide), if_neg (by decide)]; exact G5
        · rw [o7 134 s (by omega) (by omega) (by decide) (by omega), gc0_t (by decide), if_neg (by decide)]; exact G6
        · rw [r7i, gc0_t (by decide), if_pos (by decide)]; omega
      · obtain ⟨a0, ea0, b, eb, hb0, b8, b9, b10, -⟩ := w2 a' ea
        obtain ⟨a, RL, ea'⟩ := y8 a0 ea0
        subst ea'
        obtain ⟨⟨R5, RN⟩, RC, RT, RO, RW, RS, RQ, RB⟩ := RL
        have a12 : ∀ j, (u2 a 2 7 12).1 12 j = a.1 12 j := fun j => u2_ne _ _ _ _ (by omega)
        have ef : a.1 12 4 = I 136 s := RC.2.2.2.2
        obtain ⟨A1, A2, A3⟩ := nmA (v := V (t + 1)) (a := u2 a 2 7 12) (k := 12) (mx := 5) (f := 4) (u2_eq _ _ _ _) (by decide) (fun b => by unfold nb_new; rw [if_neg (by decide), if_neg (by decide), if_neg (by decide), if_pos (by decide)]) (by rw [a12, ef, show (5 : Int32).toInt = 5 from by decide]; exact hr) (by decide)
        have b7 : b.1 2 7 = 12 := by rw [hb0.2.2.2, A3 2 7 (by decide) (by decide) (by omega), if_neg (by omega), u2_eq]
        have b124 : b.1 12 4 = I 136 s + 1 := by rw [hb0.2.1 12 4 (by decide), A3 12 4 (by decide) (by decide) (by omega), if_pos ⟨rfl, rfl⟩, a12, ef]
        have row : (b.1 12 4 - 1).toInt = (((I 136 s).toNatClampNeg : Nat) : Int) := by rw [b124, i32_a1]; exact kq.symm
        have rown := tk_nat row
        have es : a' = spb 29 5 (b.1 12 4 - 1) (b.1 2 8) (b.1 2 9) (b.1 2 10) (J4 133 (248 + 6 * s + (I 136 s).toNatClampNeg)) b := by rw [eb]; unfold en_sp; rw [if_pos b7]
        have B1 : ∀ p j, p ≠ 2 → p ≠ 10 → p ≠ 11 → ¬ (p = 12 ∧ j = 4) → ¬ (30 ≤ p ∧ p ≤ 33 ∧ j = (I 136 s).toNatClampNeg) → a'.1 p j = a.1 p j := fun p j h1 h2 h3 h4 h5 => by rw [es, spb_o (by rw [rown]; omega), hb0.2.1 p j h1, A3 p j h2 h3 (by omega), if_neg h4, u2_ne _ _ _ _ (by omega)]
        have SI := spb_i (cc := 29) (n := 5) (x := b.1 2 8) (y := b.1 2 9) (lo := b.1 2 10) (hi := J4 133 (248 + 6 * s + (I 136 s).toNatClampNeg)) (a := b) row (by omega) (by omega)
        rw [← es] at SI
        have eW : L 113 (t + 1) = W (t + 1) := (hX.1.1.2 (t + 1) u1 (by omega)).2
        refine ⟨?_, ?_, ?_, ?_, ?_, ?_, ?_, ?_⟩
        · have q := rN_new (a := u2 a 2 7 12) (I := I) (J := J7) (L' := L6) (t := t) (t' := t5 + 1) (u := t + 1) (W := W) (so := 4) (x := I 136 s) (L := L) (by rw [u2_ne _ _ _ _ (by omega)]; exact R5) b0 (by omega) (rN_cg RN t (Nat.le_refl _) (fun i _ => ⟨rfl, u2_ne _ _ _ _ (by omega), u2_ne _ _ _ _ (by omega)⟩) (fun i _ => ⟨rfl, rfl, rfl⟩)) (by omega) (by omega) u3 (by rw [A1]; exact Or.inr (Or.inr (Or.inr (Or.inr ⟨rfl, rfl⟩)))) (by rw [A2, a12, ef]) (by rw [e7, en_up_ne _ _ _ _ (by omega), e6J, en_up_eq, g20]) (by rw [e7, en_up_ne _ _ _ _ (by omega), e6J, en_up_ne _ _ _ _ (by omega), en_up_ne _ _ _ _ (by omega), en_up_eq]) (by rw [e7, en_up_ne _ _ _ _ (by omega), e6J, en_up_ne _ _ _ _ (by omega), en_up_eq, e36]) (fun i hi => ⟨o7 116 i (by omega) (by omega) (by decide) (by omega), o7 117 i (by omega) (by omega) (by decide) (by omega)⟩) (by rw [e6L, en_up_eq, eW]) (fun i hi => by rw [e6L, en_up_ne _ _ _ _ (by omega)])
          refine ⟨by rw [es, spb_o (by omega), hb0.2.2.1]; exact q.1, rN_cg q.2 (t5 + 1) (Nat.le_refl _) (fun i _ => ⟨by rw [es, spb_2, hb0.1], by rw [es, spb_o (by omega), hb0.2.1 10 i (by decide)], by rw [es, spb_o (by omega), hb0.2.1 11 i (by decide)]⟩) (fun i _ => ⟨rfl, rfl, rfl⟩)⟩
        · unfold rC
          refine ⟨?_, ?_, ?_, ?_, ?_⟩
          · rw [B1 12 0 (by omega) (by omega) (by omega) (by omega) (by omega), o7 118 s (by omega) (by omega) (by decide) (by omega)]; exact RC.1
          · rw [B1 12 1 (by omega) (by omega) (by omega) (by omega) (by omega), o7 119 s (by omega) (by omega) (by decide) (by omega)]; exact RC.2.1
          · rw [B1 12 2 (by omega) (by omega) (by omega) (by omega) (by omega), o7 122 s (by omega) (by omega) (by decide) (by omega)]; exact RC.2.2.1
          · rw [B1 12 3 (by omega) (by omega) (by omega) (by omega) (by omega), o7 125 s (by omega) (by omega) (by decide) (by omega)]; exact RC.2.2.2.1
          · rw [es, spb_o (by omega), b124, r7]
        · exact rT_cg RT (fun c' j hc => B1 c' j (by omega) (by omega) (by omega) (by omega) (by omega)) (fun p j hp => o7 p j (by omega) (by omega) (by omega) (by omega))
        · exact rO_cg RO b34.2 (fun c' j h1 h2 => B1 c' j (by omega) (by omega) (by omega) (by omega) (by omega)) (by rw [o7 122 s (by omega) (by omega) (by decide) (by omega)]; exact Int.le_refl _) (o7 134 s (by omega) (by omega) (by decide) (by omega)) (fun j => o7 135 j (by omega) (by omega) (by decide) (by omega)) (fun p j h1 h2 _ _ => o7 p j (by omega) (by omega) (by omega) (by omega))
        · exact rW_cg RW (fun j => B1 13 j (by omega) (by omega) (by omega) (by omega) (by omega)) (fun j => o7 121 j (by omega) (by omega) (by decide) (by omega))
        · exact rS_cg RS bc.2.2.2.1.2 hs1 (fun c' j hc => B1 c' j (by omega) (by omega) (by omega) (by omega) (by omega)) (fun p j hp => o7 p j (by omega) (by omega) (by omega) (by omega))
        · intro q hq hq2
          rw [r7i] at hq2
          by_cases cq : q = (I 136 s).toNatClampNeg
          · have val : ∀ p, 130 ≤ p → p ≤ 133 → J7 p (248 + 6 * s + q) = J4 p (248 + 6 * s + (I 136 s).toNatClampNeg) := fun p p1 p2 => by rw [cq, e7, en_up_ne _ _ _ _ (by omega), o6 p _ (by omega) (by omega), f5 p _ (by omega)]
            rw [val 130 (by decide) (by decide), val 131 (by decide) (by decide), val 132 (by decide) (by decide), val 133 (by decide) (by decide), cq, ← b8, ← b9, ← b10]
            exact SI
          · rw [B1 30 q (by omega) (by omega) (by omega) (by omega) (by omega), B1 31 q (by omega) (by omega) (by omega) (by omega) (by omega), B1 32 q (by omega) (by omega) (by omega) (by omega) (by omega), B1 33 q (by omega) (by omega) (by omega) (by omega) (by omega), o7 130 _ (by omega) (by omega) (by decide) (by omega), o7 131 _ (by omega) (by omega) (by decide) (by omega), o7 132 _ (by omega) (by omega) (by decide) (by omega), o7 133 _ (by omega) (by omega) (by decide) (by omega)]
            exact RQ q hq (by omega)
        · exact rB_new (so := 4) (x := I 136 s) RB b0 (by omega) (by rw [e7, en_up_ne _ _ _ _ (by omega), e6J, en_up_eq, g20]) (by rw [e7, en_up_ne _ _ _ _ (by omega), e6J, en_up_ne _ _ _ _ (by omega), en_up_ne _ _ _ _ (by omega), en_up_eq]) (by rw [e7, en_up_ne _ _ _ _ (by omega), e6J, en_up_ne _ _ _ _ (by omega), en_up_eq, e36]) (fun i hi => ⟨o7 116 i (by omega) (by omega) (by decide) (by omega), o7 117 i (by omega) (by omega) (by decide) (by omega)⟩) (by rw [o7 122 s (by omega) (by omega) (by decide) (by omega)]; exact Int.le_refl _) (fun y => absurd y (by decide))
    · have nz : ¬ J5 107 13 = 0 := fun y => z5 (by rw [y]; decide)
      have em := PS_n0 X5.1 nz
      exact h J5 L ⟨m5, o4, X5, Or.inl em⟩
  · have em3 := PS_n0 X3.1 z
    subst em3
    refine x_must (i := 17) [] hT rfl X3.1 (e := (0, none)) (M0 := M0) (V := V) (PE_n z) (fun t' s' g' em => by cases em) (fun J4 m4 f4 X4 _ r4 => ⟨J4, L, R, rfl, fun z4 => ?_, fun z4 => ?_⟩)
    · exfalso
      rcases r4 with r4 | ⟨t4, s4, g4, em4, -⟩
      · subst r4; exact PS_no X4 (PS_le0 X4 z4)
      · cases em4
    · have em := PS_n0 X4 (fun y => z4 (by rw [y]; decide))
      subst em
      exact h J4 L ⟨none, none, PX_F X4, Or.inl rfl⟩
end
end
section
/-! tells of the reference, exact: all spans of a choice -/
theorem ad6 {n q : Nat} {x : Int32} {a : sg} (n9 : n < 10) (q4 : q < 4) (hx : x.toInt = n) (h22 : (a.1 22 n).toInt = (q : Int) + 1) (h3 : (a.1 23 (4 * n + q)).toInt < 3) : ad_pt6 x a = u2 a 23 (4 * n + q) (a.1 23 (4 * n + q) + 1) := by
  have c4 : (4 : Int32).toInt = 4 := by decide
  have c40 : (40 : Int32).toInt = 40 := by decide
  have c3 : (3 : Int32).toInt = 3 := by decide
  have nx := tk_nat hx
  have m : (x * 4).toInt = (n : Int) * 4 := ml_mu hx c4 (by omega) (by omega)
  have s1 : (x * 4 + a.1 22 n).toInt = (n : Int) * 4 + ((q : Int) + 1) := ml_ad m h22 (by omega) (by omega)
  have s2 : (x * 4 + a.1 22 n - 1).toInt = ((4 * n + q : Nat) : Int) := by rw [Int32.toInt_sub, kl_1, s1]; exact (en_bmod (by omega) (by omega) (Or.inl rfl)).trans (by omega)
  have nn := tk_nat s2
  unfold ad_pt6
  rw [nx, if_neg (fun y => by rw [kl_lt, kl_0] at y; omega), if_neg (fun y => by rw [kl_le, c40] at y; omega), nn, if_neg (fun y => by rw [kl_le, c3] at y; omega)]
theorem adp_f {n q : Nat} {a : sg} (n9 : n < 10) (q4 : q < 4) (h12 : (a.1 12 3).toInt = (n : Int) + 1) (h22 : (a.1 22 n).toInt = (q : Int) + 1) (h3 : (a.1 23 (4 * n + q)).toInt < 3) : ad_part false a = u2 a 23 (4 * n + q) (a.1 23 (4 * n + q) + 1) := by
  have c10 : (10 : Int32).toInt = 10 := by decide
  have e : (a.1 12 3 - 1).toInt = (n : Int) := by rw [Int32.toInt_sub, kl_1, h12]; exact (en_bmod (by omega) (by omega) (Or.inl rfl)).trans (by omega)
  unfold ad_part
  rw [if_neg (fun y => by rw [kl_lt, kl_0] at y; omega), if_pos (by rw [kl_lt, c10]; omega), if_neg (by decide)]
  exact ad6 n9 q4 e h22 h3
theorem adp_t {n q : Nat} {a : sg} (n9 : n < 10) (q3 : q < 3) (h12 : (a.1 12 3).toInt = (n : Int) + 1) (h22 : (a.1 22 n).toInt = (q : Int) + 1) (h0 : a.1 23 (4 * n + q + 1) = 0) : ad_part true a = u2 (u2 a 22 n (a.1 22 n + 1)) 23 (4 * n + (q + 1)) 1 := by
  have c10 : (10 : Int32).toInt = 10 := by decide
  have c4 : (4 : Int32).toInt = 4 := by decide
  have e : (a.1 12 3 - 1).toInt = (n : Int) := by rw [Int32.toInt_sub, kl_1, h12]; exact (en_bmod (by omega) (by omega) (Or.inl rfl)).trans (by omega)
  have en := tk_nat e
  unfold ad_part
  rw [if_neg (fun y => by rw [kl_lt, kl_0] at y; omega), if_pos (by rw [kl_lt, c10]; omega), if_pos rfl, en, if_neg (fun y => by rw [kl_le, c4] at y; omega)]
  have s := ml_in1 (x := a.1 22 n) (by omega)
  have k23 : (u2 a 22 n (a.1 22 n + 1)).1 23 (4 * n + (q + 1)) = 0 := by rw [u2_ne _ _ _ _ (by omega), show 4 * n + (q + 1) = 4 * n + q + 1 by omega]; exact h0
  rw [ad6 (q := q + 1) n9 (by omega) e (by rw [u2_eq]; omega) (by rw [k23]; decide), k23]
  rfl
/-- a SAYING while it is read: q choices are done, of the next one pc spans; e: as the class counts these -/
def rH (s n q e pc : Nat) (A a : sg) (I : sm_I) : Prop := (a.2 = A.2 ∧ (∀ u j, u ≠ 2 → ¬ (u = 22 ∧ j = n) → ¬ (u = 23 ∧ 4 * n ≤ j ∧ j < 4 * n + 4) → ¬ (25 ≤ u ∧ u ≤ 28 ∧ 12 * n ≤ j ∧ j < 12 * n + 12) → a.1 u j = A.1 u j) ∧ a.1 2 5 = A.1 2 5 ∧ a.1 2 7 = A.1 2 7) ∧ (a.1 22 n).toInt = (q : Int) + 1 ∧ (a.1 23 (4 * n + q)).toInt = e ∧ (∀ q', q < q' → q' < 4 → a.1 23 (4 * n + q') = 0) ∧ (∀ q', q' < q → rA s n q' a I) ∧ ∀ p, p < pc → a.1 25 (12 * n + 3 * q + p) = I 130 (120 * s + 12 * n + 3 * q + p) ∧ a.1 26 (12 * n + 3 * q + p) = I 131 (120 * s + 12 * n + 3 * q + p) ∧ a.1 27 (12 * n + 3 * q + p) = I 132 (120 * s + 12 * n + 3 * q + p) ∧ a.1 28 (12 * n + 3 * q + p) = I 133 (120 * s + 12 * n + 3 * q + p)
theorem rH_I {s n q e pc : Nat} {A a : sg} {I J : sm_I} (h : rH s n q e pc A a I) (n9 : n < 10) (q4 : q < 4) (p3 : pc ≤ 3) (h9 : ∀ q', q' < q → J 129 (4 * (10 * s + n) + q') = I 129 (4 * (10 * s + n) + q')) (hI : ∀ p j, 130 ≤ p → p ≤ 133 → 120 * s + 12 * n ≤ j → j < 120 * s + 12 * n + 3 * q + pc → J p j = I p j) : rH s n q e pc A a J := by
  obtain ⟨h1, h2, h3, h4, h5, h6⟩ := h
  refine ⟨h1, h2, h3, h4, fun q' hq => rA_cg (h5 q' hq) n9 (by omega) (fun _ _ _ _ _ _ => rfl) rfl (h9 q' hq) (fun p j p1 p2 j1 j2 => hI p j p1 p2 (by omega) (by omega)), fun p hp => ?_⟩
  rw [hI 130 _ (by decide) (by decide) (by omega) (by omega), hI 131 _ (by decide) (by decide) (by omega) (by omega), hI 132 _ (by decide) (by decide) (by omega) (by omega), hI 133 _ (by decide) (by decide) (by omega) (by omega)]
  exact h6 p hp
/-- one span more -/
theorem rH_sp {s n q pc : Nat} {A a b : sg} {I J : sm_I} {hi : Int32} (h : rH s n q (pc + 1) pc A a I) (hs : s ≤ 1) (n9 : n < 10) (q4 : q < 4) (p3 : pc < 3) (h12 : (A.1 12 3).toInt = (n : Int) + 1) (h7 : A.1 2 7 ≠ 12) (hb : spb0 a b) (h9 : ∀ q', q' < q → J 129 (4 * (10 * s + n) + q') = I 129 (4 * (10 * s + n) + q')) (hI : ∀ p j, 130 ≤ p → p ≤ 133 → 120 * s + 12 * n ≤ j → j < 120 * s + 12 * n + 3 * q + pc → J p j = I p j) (e0 : b.1 2 8 = J 130 (120 * s + 12 * n + 3 * q + pc)) (e1 : b.1 2 9 = J 131 (120 * s + 12 * n + 3 * q + pc)) (e2 : b.1 2 10 = J 132 (120 * s + 12 * n + 3 * q + pc)) (e3 : hi = J 133 (120 * s + 12 * n + 3 * q + pc)) : rH s n q (pc + 1) (pc + 1) A (en_sp hi b) J := by
  have h' := rH_I h n9 q4 (by omega) h9 hI
  obtain ⟨⟨g1, g2, g3, g4⟩, h2, h3, h4, h5, h6⟩ := h'
  have c4 : (4 : Int32).toInt = 4 := by decide
  have c3 : (3 : Int32).toInt = 3 := by decide
  have c10 : (10 : Int32).toInt = 10 := by decide
  have c40 : (40 : Int32).toInt = 40 := by decide
  have b7 : ¬ b.1 2 7 = 12 := by rw [hb.2.2.2, g4]; exact h7
  have b12 : (b.1 12 3).toInt = (n : Int) + 1 := by rw [hb.2.1 12 3 (by decide), g2 12 3 (by decide) (by omega) (by omega) (by omega)]; exact h12
  have b22 : (b.1 22 n).toInt = (q : Int) + 1 := by rw [hb.2.1 22 n (by decide)]; exact h2
  have b23 : (b.1 23 (4 * n + q)).toInt = (pc : Int) + 1 := by rw [hb.2.1 23 _ (by decide), h3]; omega
  have x : (b.1 12 3 - 1).toInt = (n : Int) := by rw [Int32.toInt_sub, kl_1, b12]; exact (en_bmod (by omega) (by omega) (Or.inl rfl)).trans (by omega)
  have xn := tk_nat x
  have va : va22 (b.1 12 3 - 1) b = b.1 22 n := by
    unfold va22
    rw [if_neg (fun y => by rw [kl_lt, kl_0] at y; omega), if_neg (fun y => by rw [kl_le, c10] at y; omega), xn]
  have y1 : (b.1 22 n - 1).toInt = (q : Int) := by rw [Int32.toInt_sub, kl_1, b22]; exact (en_bmod (by omega) (by omega) (Or.inl rfl)).trans (by omega)
  have m : ((b.1 12 3 - 1) * 4).toInt = (n : Int) * 4 := ml_mu x c4 (by omega) (by omega)
  have s1 : ((b.1 12 3 - 1) * 4 + (b.1 22 n - 1)).toInt = ((4 * n + q : Nat) : Int) := (ml_ad m y1 (by omega) (by omega)).trans (by omega)
  have s1n := tk_nat s1
  have pa : pa_of (b.1 12 3 - 1) (b.1 22 n - 1) b = b.1 23 (4 * n + q) := by
    unfold pa_of
    rw [if_neg (fun y => by rw [kl_lt, kl_0] at y; omega), if_neg (fun y => by rw [kl_le, c40] at y; omega), s1n]
  have m2 : (((b.1 12 3 - 1) * 4 + (b.1 22 n - 1)) * 3).toInt = ((4 * n + q : Nat) : Int) * 3 := ml_mu s1 c3 (by omega) (by omega)
  have s2 : (((b.1 12 3 - 1) * 4 + (b.1 22 n - 1)) * 3 + b.1 23 (4 * n + q)).toInt = ((4 * n + q : Nat) : Int) * 3 + ((pc : Int) + 1) := ml_ad m2 b23 (by omega) (by omega)
  have la : (la_span b).toInt = ((12 * n + 3 * q + pc : Nat) : Int) := by
    unfold la_span
    rw [va, pa, Int32.toInt_sub, kl_1, s2]
    exact (en_bmod (by omega) (by omega) (Or.inl rfl)).trans (by omega)
  have lan := tk_nat la
  have es : en_sp hi b = spb 24 120 (la_span b) (b.1 2 8) (b.1 2 9) (b.1 2 10) hi b := by unfold en_sp; rw [if_neg b7]
  have B : ∀ u j, u ≠ 2 → ¬ (25 ≤ u ∧ u ≤ 28 ∧ j = 12 * n + 3 * q + pc) → (en_sp hi b).1 u j = a.1 u j := fun u j u1 u2 => by rw [es, spb_o (by rw [lan]; omega), hb.2.1 u j u1]
  have SI := spb_i (cc := 24) (n := 120) (x := b.1 2 8) (y := b.1 2 9) (lo := b.1 2 10) (hi := hi) (a := b) la (by omega) (by omega)
  rw [← es] at SI
  refine ⟨⟨by rw [es, spb_2, hb.1, g1], fun u j u1 u2 u3 u4 => ?_, by rw [es, spb_o (by omega), hb.2.2.1, g3], by rw [es, spb_o (by omega), hb.2.2.2, g4]⟩, ?_, ?_, fun q' q1 q2 => ?_, fun q' hq => ?_, fun p hp => ?_⟩
  · rw [B u j u1 (by omega)]; exact g2 u j u1 u2 u3 u4
  · rw [B 22 n (by decide) (by omega)]; exact h2
  · rw [B 23 _ (by decide) (by omega)]; exact h3
  · rw [B 23 _ (by decide) (by omega)]; exact h4 q' q1 q2
  · exact rA_cg (h5 q' hq) n9 (by omega) (fun c j c1 c2 j1 j2 => B c j (by omega) (by omega)) (B 23 _ (by decide) (by omega)) rfl (fun _ _ _ _ _ _ => rfl)
  · by_cases cp : p = pc
    · subst cp
      rw [← e0, ← e1, ← e2, ← e3]; exact SI
    · rw [B 25 _ (by decide) (by omega), B 26 _ (by decide) (by omega), B 27 _ (by decide) (by omega), B 28 _ (by decide) (by omega)]
      exact h6 p (by omega)
/-- and: one span more is awaited -/
theorem rH_and {s n q pc : Nat} {A a : sg} {I : sm_I} (h : rH s n q pc pc A a I) (n9 : n < 10) (q4 : q < 4) (p3 : pc < 3) (h12 : (A.1 12 3).toInt = (n : Int) + 1) : rH s n q (pc + 1) pc A (ad_part false a) I := by
  obtain ⟨⟨g1, g2, g3, g4⟩, h2, h3, h4, h5, h6⟩ := h
  have a12 : (a.1 12 3).toInt = (n : Int) + 1 := by rw [g2 12 3 (by decide) (by omega) (by omega) (by omega)]; exact h12
  rw [adp_f n9 q4 a12 h2 (by omega)]
  refine ⟨⟨g1, fun u j u1 u2' u3 u4 => by rw [u2_ne _ _ _ _ (by omega)]; exact g2 u j u1 u2' u3 u4, by rw [u2_ne _ _ _ _ (by omega)]; exact g3, by rw [u2_ne _ _ _ _ (by omega)]; exact g4⟩, by rw [u2_ne _ _ _ _ (by omega)]; exact h2, ?_, fun q' q1 q2 => by rw [u2_ne _ _ _ _ (by omega)]; exact h4 q' q1 q2, fun q' hq => ?_, fun p hp => ?_⟩
  · rw [u2_eq]; have := ml_in1 (x := a.1 23 (4 * n + q)) (by omega); omega
  · exact rA_cg (h5 q' hq) n9 (by omega) (fun c j c1 c2 j1 j2 => u2_ne _ _ _ _ (by omega)) (u2_ne _ _ _ _ (by omega)) rfl (fun _ _ _ _ _ _ => rfl)
  · rw [u2_ne _ _ _ _ (by omega), u2_ne _ _ _ _ (by omega), u2_ne _ _ _ _ (by omega), u2_ne _ _ _ _ (by omega)]
    exact h6 p hp
/-- nothing but the choice i, and the reader's place, fault and worst -/
def afr (i : Nat) (I J : sm_I) : Prop := ∀ p j, ¬ (p = 129 ∧ j = i) → ¬ (130 ≤ p ∧ p ≤ 133 ∧ 3 * i ≤ j ∧ j < 3 * i + 3) → ¬ (p = 107 ∧ (j = 11 ∨ j = 13 ∨ j = 14 ∨ j = 15 ∨ j = 16)) → J p j = I p j
section
variable {K : Nat → Int32} {P : Nat → Nat} {V W : Nat → Int64} {N : Nat → Int32} {c : Nat} {R0 : Option (Int32 × Nat)} {M0 : Option (Int32 × Nat) × sg}
variable {S : sm_C} {d : Nat} {Φ : sm_Z → Prop} {I0 : sm_I} {L : sm_L} {R : sm_R} {x1 : Int32} {i s n q t0 al : Nat} {tl : Int32} {ts : Nat → Nat} {A : sg}
/-- a word that joins, where there is room for more -/
theorem x_join {k : Int32} {I : sm_I} {m : mo} {o : Option sg} {t : Nat} {g : gc} (F : sg → sg) (hT : TS K P V W N c) (hk : k = 9 ∨ k = 13) (ek : K t = k) (htl : g.tell ≠ 12) (hF : ∀ (v : Int64) (a : sg), ms 26 k v a = (0, F a)) (ok : (gc_st 26 k g).alls ≤ 4 ∧ (gc_st 26 k g).parts ≤ 3) (hX : PX K P V W N c R0 M0 m o I L) (hm : m = none ∨ m = some (t, 26, g)) (h : ∀ (J : sm_I) (m' : mo), xfr I J → PX K P V W N c R0 M0 m' (o.map F) J L → (m' = none ∨ (m = some (t, 26, g) ∧ m' = some (t + 1, 17, gc_st 26 k g))) → Φ (none, (xLay, J, L, kM R))) : sm_wp sm_P S (d + 1) 136 0 [.ref 107] [] (xLay, I, L, kM R) (0, 0) Φ := by
  obtain ⟨e, hE, ee⟩ := PX_e hX
  have n21 : k ≠ 21 := by rcases hk with rfl | rfl <;> decide
  have kf : fw 26 k = 17 := by rcases hk with rfl | rfl <;> decide +kernel
  have st : ∀ t' s' g', m = some (t', s', g') → t' = t ∧ s' = 26 ∧ g' = g := fun t' s' g' em => by
    rcases hm with hm | hm
    · rw [hm] at em; cases em
    · rw [hm] at em
      obtain ⟨y1, y2, y3⟩ := mo_i em
      exact ⟨y1.symm, y2.symm, y3.symm⟩
  refine x_go (k := k) hT hX.1 hE (fun t' s' g' em => ?_) (fun J m' f p q rel => h J m' f ⟨p, ?_⟩ ?_)
  · obtain ⟨y1, y2, y3⟩ := st t' s' g' em
    subst y1; subst y2; subst y3
    refine ⟨ek, by rw [ek]; exact n21, by rw [kf]; decide, fun z => htl z.2, ?_, ok⟩
    unfold gc_ok
    rw [if_neg (fun z => absurd z.1 (by decide)), decide_eq_true ok.1, decide_eq_true ok.2]; rfl
  · rcases rel with rel | ⟨t', s', g', em, b1, b2, b3⟩
    · rw [rel]; trivial
    · obtain ⟨y1, y2, y3⟩ := st t' s' g' em
      subst y1; subst y2; subst y3
      rw [b3]
      rw [ee t' 26 g' em] at q
      cases eo : o with
      | none =>
        rw [eo] at q
        exact PE_w q (Nat.le_succ t')
      | some a =>
        rw [eo] at q
        have := PE_st (by omega) (hT.2.2.2.1 t' b1) (by rw [ek]; exact hF (V t') a) q
        rw [ek] at this
        exact this
  · rcases rel with rel | ⟨t', s', g', em, b1, b2, b3⟩
    · exact Or.inl rel
    · obtain ⟨y1, y2, y3⟩ := st t' s' g' em
      subst y1; subst y2; subst y3
      exact Or.inr ⟨em, by rw [b3, kf]⟩
/-- no room for what the word joins -/
theorem x_full {k : Int32} {I : sm_I} {m : mo} {o : Option sg} {t : Nat} {g : gc} (hT : TS K P V W N c) (hk : k = 9 ∨ k = 13) (ek : K t = k) (htl : g.tell ≠ 12) (no : ¬ ((gc_st 26 k g).alls ≤ 4 ∧ (gc_st 26 k g).parts ≤ 3)) (hX : PX K P V W N c R0 M0 m o I L) (hm : m = some (t, 26, g)) : ∀ t' s' g', m = some (t', s', g') → R0 = some (2, t') := fun t' s' g' em => by
  have n21 : k ≠ 21 := by rcases hk with rfl | rfl <;> decide
  have kf : fw 26 k ≠ -1 := by rcases hk with rfl | rfl <;> decide +kernel
  rw [hm] at em
  obtain ⟨y1, y2, y3⟩ := mo_i em
  subst y1; subst y2; subst y3
  have hS := hX.1
  rw [hm] at hS
  obtain ⟨t2, s2, g2, em2, h11, tc, t5, hs, -⟩ := PS_0 hS (PS_so hS)
  obtain ⟨y1, y2, y3⟩ := mo_i em2
  subst y1; subst y2; subst y3
  have hs := SY_s t5 hs
  have ef : gf 26 (K t) t g = 2 := by
    unfold gf
    rw [ek, if_neg (fun z => z.elim (fun y => kf y) (fun y => htl y.2)), if_neg n21]
    by_cases c5 : 500 ≤ t
    · rw [if_pos c5]
    · rw [if_neg c5, if_neg]
      unfold gc_ok
      rw [if_neg (fun z => absurd z.1 (by decide))]
      intro y
      have y := Bool.and_eq_true_iff.mp y
      exact no ⟨of_decide_eq_true y.1, of_decide_eq_true y.2⟩
  rw [ef, if_neg (by decide)] at hs
  exact hs.symm
theorem ms_13 (v : Int64) (a : sg) : ms 26 13 v a = (0, ad_part false a) := by
  unfold ms
  rw [if_neg (fun z => absurd z.1 (by decide))]
  unfold tk_take
  rw [if_neg (by decide), if_neg (by decide), if_neg (by decide), if_neg (by decide), if_neg (by decide), if_neg (by decide), if_pos (by decide), if_neg (by decide), if_pos rfl]
theorem ms_9 (v : Int64) (a : sg) : ms 26 9 v a = (0, ad_part true a) := by
  unfold ms
  rw [if_neg (fun z => absurd z.1 (by decide))]
  unfold tk_take
  rw [if_neg (by decide), if_neg (by decide), if_neg (by decide), if_neg (by decide), if_neg (by decide), if_neg (by decide), if_pos (by decide), if_pos rfl]
theorem gs13 {g : gc} : gc_st 26 13 g = ⟨g.tell, g.alls, g.parts + 1, g.tells⟩ := by unfold gc_st; rw [if_neg (fun z => absurd z.1 (by decide)), if_neg (by decide), if_pos rfl]
theorem gs9 {g : gc} : gc_st 26 9 g = ⟨g.tell, g.alls + 1, 1, g.tells⟩ := by unfold gc_st; rw [if_neg (fun z => absurd z.1 (by decide)), if_pos rfl]
theorem x_tellAll1 (hT : TS K P V W N c) (h1 : x1.toInt = i) (hi : i = 4 * (10 * s + n) + q) (hs : s ≤ 1) (n9 : n < 10) (q4 : q < 4) (b0 : 0 ≤ (I0 107 20).toInt) (b1 : (I0 107 20).toInt ≤ 50) (hb : ∀ j, j < cntm I0 → 0 ≤ (I0 117 j).toInt) (hf : ∀ nm, -1 ≤ (fdm I0 L nm 2).toInt ∧ (fdm I0 L nm 2).toInt ≤ 9) (al4 : al ≤ 4) (htl : tl ≠ 12) (Q : Prop) (hQ : Q → (∀ {u : Nat} {b : sg}, u < c → K u = 15 → b.2 = A.2 → (∀ j, b.1 10 j = A.1 10 j ∧ b.1 11 j = A.1 11 j) → b.1 2 5 = A.1 2 5 → fd b (V u) 3 = fdm I0 L (W u) 2) ∧ (A.1 12 3).toInt = (n : Int) + 1 ∧ A.1 2 7 ≠ 12) (h : ∀ (J : sm_I) (m' : mo) (o' : Option sg), PX K P V W N c R0 M0 m' o' J L → afr i I0 J → (m' = none ∨ ∃ t' g', m' = some (t', 26, g') ∧ t0 < t' ∧ g'.alls = al ∧ g'.tell = tl ∧ g'.tells = ts ∧ (J 129 i).toInt = g'.parts ∧ 1 ≤ g'.parts ∧ K t' ≠ 13 ∧ ∀ a', o' = some a' → Q ∧ rH s n q g'.parts g'.parts A a' J) → Φ (none, (xLay, J, L, kM R))) : ∀ (f : Nat) (I : sm_I) (x2 : Int32) (m : mo) (o : Option sg), PX K P V W N c R0 M0 m o I L → afr i I0 I → (¬ x2 = 0 → m = none ∨ ∃ t g, m = some (t, 17, g) ∧ t0 ≤ t ∧ g.alls = al ∧ g.tell = tl ∧ g.tells = ts ∧ (I 129 i).toInt + 1 = g.parts ∧ 1 ≤ g.parts ∧ 3 < g.parts + f ∧ ∀ a, o = some a → Q ∧ rH s n q g.parts (g.parts - 1) A a I) → (x2 = 0 → m = none ∨ ∃ t' g', m = some (t', 26, g') ∧ t0 < t' ∧ g'.alls = al ∧ g'.tell = tl ∧ g'.tells = ts ∧ (I 129 i).toInt = g'.parts ∧ 1 ≤ g'.parts ∧ K t' ≠ 13 ∧ ∀ a', o = some a' → Q ∧ rH s n q g'.parts g'.parts A a' I) → sm_wp sm_P S (d + 5) 196 1 [.ref 107, .int x1, .int x2] [] (xLay, I, L, kM R) (0, 0) Φ := by
  have n1 := tk_nat h1
  have v : vp_in x1 80 := kl_in (by omega) (by omega)
  have c3 : (3 : Int32).toInt = 3 := by decide
  intro f
  induction f with
  | zero =>
    intro I x2 m o hX hfr H1 H0
    refine u_X12_tellAll_1 ⟨fun e => h I m o hX hfr (H0 e), fun e => ⟨fun z => ?_, fun z => h I m o hX hfr (Or.inl (PS_n0 hX.1 z))⟩⟩
    exfalso
    rcases H1 e with q' | ⟨t, g, em, a1, a2, a3, a4, a5, a51, a6, a7⟩
    · rw [q'] at hX; exact PS_no hX.1 z
    · have hS := hX.1
      rw [em] at hS
      have := (hS.2.2.2.2.2.2.2 (by decide)).2
      omega
  | succ f ih =>
    intro I x2 m o hX hfr H1 H0
    refine u_X12_tellAll_1 ⟨fun e => h I m o hX hfr (H0 e), fun e => ⟨fun z => ⟨v, fun n2 e2 => ?_⟩, fun z => h I m o hX hfr (Or.inl (PS_n0 hX.1 z))⟩⟩
    rcases H1 e with q' | ⟨t, g, em, a1, a2, a3, a4, a5, a51, a6, a7⟩
    · exfalso; rw [q'] at hX; exact PS_no hX.1 z
    have gp : g.parts ≤ 3 := by
      have hS := hX.1
      rw [em] at hS
      exact (hS.2.2.2.2.2.2.2 (by decide)).2
    obtain ⟨pc, hpc⟩ : ∃ pc, g.parts = pc + 1 := ⟨g.parts - 1, by omega⟩
    rw [n1] at e2
    have m3 : ((3 : Int32) * x1).toInt = 3 * (i : Int) := ml_mu c3 h1 (by omega) (by omega)
    have q2 : n2.toInt = ((3 * i + pc : Nat) : Int) := by rw [e2, ml_ad m3 rfl (by omega) (by omega)]; omega
    have e20 : I 107 20 = I0 107 20 := hfr 107 20 (by omega) (by omega) (by omega)
    have f116 : ∀ j, I 116 j = I0 116 j ∧ I 117 j = I0 117 j := fun j => ⟨hfr 116 j (by omega) (by omega) (by omega), hfr 117 j (by omega) (by omega) (by omega)⟩
    have cm : cntm I = cntm I0 := by unfold cntm; rw [e20]
    have efd : ∀ nm so, fdm I L nm so = fdm I0 L nm so := fun nm so => by unfold fdm; rw [cm, fm_cg f116]
    refine x_tellSpan (t0 := t) (g0 := g) hT q2 (by omega) (by rw [e20]; exact b0) (by rw [e20]; exact b1) (fun j hj => by rw [(f116 j).2]; exact hb j (by rw [← cm]; exact hj)) (fun nm => by rw [efd]; exact hf nm) hX (fun t' s' g' em' => by rw [em] at em'; obtain ⟨y1, y2, y3⟩ := mo_i em'; exact ⟨y1.symm, y2.symm, y3.symm⟩) (fun a0 ea0 b hb0 u uc ku => ?_) (fun J2 m2 o2 X2 r2 => ⟨J2, L, R, rfl, fun z2 => ⟨v, fun n6 e6 => ⟨v, fun J7 e7 => ?_⟩⟩, fun z2 => ?_⟩)
    · obtain ⟨hq, ⟨g1, g2, g3, g4⟩, -⟩ := a7 a0 ea0
      rw [efd]
      refine (hQ hq).1 uc ku (by rw [hb0.1, g1]) (fun j => ⟨?_, ?_⟩) (by rw [hb0.2.2.1, g3])
      · rw [hb0.2.1 10 j (by decide), g2 10 j (by decide) (by omega) (by omega) (by omega)]
      · rw [hb0.2.1 11 j (by decide), g2 11 j (by decide) (by omega) (by omega) (by omega)]
    · obtain ⟨sf2, r2⟩ := r2
      have z2 := PS_le0 X2.1 z2
      rcases r2 with r2 | ⟨t2, em2, w1, w2⟩
      · rw [r2] at X2; exact absurd z2 (PS_no X2.1)
      rw [n1] at e6 e7
      have s129 : J2 129 i = I 129 i := sf2 129 i (by omega) (by omega)
      have s6 : n6.toInt = (pc : Int) + 1 := by rw [e6, s129]; have := ml_in1 (x := I 129 i) (by omega); omega
      have o7 : ∀ p j, ¬ (p = 129 ∧ j = i) → J7 p j = J2 p j := fun p j hp => by rw [e7, en_up_ne _ _ _ _ hp]
      have c7 : (J7 129 i).toInt = (pc : Int) + 1 := by rw [e7, en_up_eq]; exact s6
      have X7 : PX K P V W N c R0 M0 m2 o2 J7 L := by rw [e7]; exact PX_up (by decide) (by omega) X2
      have fr7 : afr i I0 J7 := fun p j p1 p2 p3 => by rw [o7 p j p1, sf2 p j (by omega) p3]; exact hfr p j p1 p2 p3
      have H7 : ∀ a', o2 = some a' → Q ∧ rH s n q (pc + 1) (pc + 1) A a' J7 := fun a' ea => by
        obtain ⟨a0, ea0, b, eb, hb0, k8, k9, k10, -⟩ := w2 a' ea
        rw [eb]
        obtain ⟨hq, R7⟩ := a7 a0 ea0
        rw [hpc] at R7
        have ix : 3 * i + pc = 120 * s + 12 * n + 3 * q + pc := by omega
        rw [ix] at k8 k9 k10 ⊢
        refine ⟨hq, rH_sp R7 hs n9 q4 (by omega) (hQ hq).2.1 (hQ hq).2.2 hb0 (fun q' hq => ?_) (fun p j p1 p2 j1 j2 => ?_) ?_ ?_ ?_ ?_⟩
        · rw [o7 129 _ (by omega), sf2 129 _ (by omega) (by omega)]
        · rw [o7 p j (by omega), sf2 p j (by omega) (by omega)]
        · rw [o7 130 _ (by omega)]; exact k8
        · rw [o7 131 _ (by omega)]; exact k9
        · rw [o7 132 _ (by omega)]; exact k10
        · rw [o7 133 _ (by omega)]
      refine x_is (i := 13) hT (by decide) rfl X7.1 (fun r _ hr => ⟨r, J7, L, R, rfl, fun r0 => ⟨fun _ => ?_, fun y => absurd r0 y⟩, fun r1 => ⟨v, fun c30 => ?_, fun c30 => ⟨fun y => absurd y r1, fun _ => ?_⟩⟩⟩)
      · refine ih J7 r m2 o2 X7 fr7 (fun y => absurd r0 y) (fun _ => Or.inr ⟨t2, g, em2, by omega, a2, a3, a4, by rw [c7, hpc]; omega, by omega, fun ek => ?_, fun a' ea => by rw [hpc]; exact H7 a' ea⟩)
        exact absurd r0 (hr.mpr ⟨t2, 26, g, em2, ek⟩)
      · -- full
        rw [n1] at c30
        have p3 : pc + 1 = 3 := by
          have := congrArg Int32.toInt c30
          rw [c7, c3] at this; omega
        obtain ⟨tk, sk, gk, emk, ek⟩ := hr.mp r1
        rw [em2] at emk
        obtain ⟨y1, y2, y3⟩ := mo_i emk
        subst y1; subst y2; subst y3
        have full := x_full (k := 13) hT (Or.inr rfl) ek (by rw [a3]; exact htl) (by rw [gs13]; intro y; have := y.2; have : g.parts + 1 ≤ 3 := this; omega) X7 em2
        obtain ⟨e', hE', -⟩ := PX_e X7
        refine x_fail (by decide) X7.1 hE' full (fun J8 f8 _ p8 _ => ⟨J8, L, R, rfl, fun y => absurd y r1, fun _ => ?_⟩)
        refine x_go (k := 0) (e := (0, none)) (M0 := M0) hT p8 (PE_n (PS_no p8)) (fun t' s' g' em' => by cases em') (fun J9 m9 f9 p9 _ r9 => ⟨J9, L, R, rfl, ?_⟩)
        have e9 : m9 = none := by
          rcases r9 with r9 | ⟨t', s', g', em', -⟩
          · exact r9
          · cases em'
        subst e9
        refine ih J9 r none none (PX_F p9) (fun p j p1 p2 p3 => by rw [f9 p j p3, f8 p j p3]; exact fr7 p j p1 p2 p3) (fun _ => Or.inl rfl) (fun _ => Or.inl rfl)
      · rw [n1] at c30
        have p3 : pc + 1 ≠ 3 := fun y => c30 (en_ofI (by rw [c7, c3]; omega))
        obtain ⟨tk, sk, gk, emk, ek⟩ := hr.mp r1
        rw [em2] at emk
        obtain ⟨y1, y2, y3⟩ := mo_i emk
        subst y1; subst y2; subst y3
        refine x_join (k := 13) (t := t2) (g := g) (ad_part false) hT (Or.inr rfl) ek (by rw [a3]; exact htl) ms_13 (by rw [gs13]; exact ⟨by show g.alls ≤ 4; omega, by show g.parts + 1 ≤ 3; omega⟩) X7 (Or.inr em2) (fun J9 m9 f9 X9 r9 => ⟨J9, L, R, rfl, ?_⟩)
        refine ih J9 r m9 (o2.map (ad_part false)) X9 (fun p j p1 p2 p3 => by rw [f9 p j p3]; exact fr7 p j p1 p2 p3) (fun _ => ?_) (fun y => absurd y r1)
        rcases r9 with r9 | ⟨-, r9⟩
        · exact Or.inl r9
        · refine Or.inr ⟨t2 + 1, gc_st 26 13 g, r9, by omega, ?_⟩
          rw [gs13]
          refine ⟨a2, a3, a4, ?_, Nat.le_add_left 1 g.parts, ?_, fun a' ea => ?_⟩
          · show (J9 129 i).toInt + 1 = ((g.parts + 1 : Nat) : Int)
            rw [f9 129 i (by omega), c7]; omega
          · show 3 < g.parts + 1 + f
            omega
          · show Q ∧ rH s n q (g.parts + 1) (g.parts + 1 - 1) A a' J9
            obtain ⟨a2', eb, eb'⟩ := om (Or.inr rfl) ea
            obtain ⟨hq, R8⟩ := H7 a2' eb
            refine ⟨hq, ?_⟩
            rw [eb', hpc]
            exact rH_I (rH_and R8 n9 q4 (by omega) (hQ hq).2.1) n9 q4 (by omega) (fun q' hq => f9 129 _ (by omega)) (fun p j p1 p2 _ _ => f9 p j (by omega))
    · have nz : ¬ J2 107 13 = 0 := fun y => z2 (by rw [y]; decide)
      have em' := PS_n0 X2.1 nz
      refine h J2 m2 o2 X2 (fun p j p1 p2 p3 => ?_) (Or.inl em')
      rw [r2.1 p j (by omega) p3]; exact hfr p j p1 p2 p3
end
end
section
/-! tells of the reference, exact: the choices of a SAYING -/
/-- a choice is done -/
theorem rH_done {s n q pc : Nat} {A a : sg} {I : sm_I} (h : rH s n q pc pc A a I) (p1 : 1 ≤ pc) (p3 : pc ≤ 3) (h9 : (I 129 (4 * (10 * s + n) + q)).toInt = pc) : ∀ q', q' < q + 1 → rA s n q' a I := by
  obtain ⟨h1, h2, h3, h4, h5, h6⟩ := h
  intro q' hq
  by_cases c1 : q' = q
  · subst c1
    refine ⟨en_ofI (by rw [h3, h9]), by omega, by omega, fun p hp => h6 p (by omega)⟩
  · exact h5 q' (by omega)
/-- or: another choice is awaited -/
theorem rH_or {s n q pc : Nat} {A a : sg} {I : sm_I} (h : rH s n q pc pc A a I) (p1 : 1 ≤ pc) (p3 : pc ≤ 3) (h9 : (I 129 (4 * (10 * s + n) + q)).toInt = pc) (n9 : n < 10) (q3 : q < 3) (h12 : (A.1 12 3).toInt = (n : Int) + 1) : rH s n (q + 1) 1 0 A (ad_part true a) I := by
  have hd := rH_done h p1 p3 h9
  obtain ⟨⟨g1, g2, g3, g4⟩, h2, h3, h4, h5, h6⟩ := h
  have a12 : (a.1 12 3).toInt = (n : Int) + 1 := by rw [g2 12 3 (by decide) (by omega) (by omega) (by omega)]; exact h12
  rw [adp_t n9 q3 a12 h2 (by have := h4 (q + 1) (by omega) (by omega); rw [show 4 * n + q + 1 = 4 * n + (q + 1) by omega]; exact this)]
  have s1 := ml_in1 (x := a.1 22 n) (by omega)
  refine ⟨⟨g1, fun u j u1 u2' u3 u4 => by rw [u2_ne _ _ _ _ (by omega), u2_ne _ _ _ _ (by omega)]; exact g2 u j u1 u2' u3 u4, by rw [u2_ne _ _ _ _ (by omega), u2_ne _ _ _ _ (by omega)]; exact g3, by rw [u2_ne _ _ _ _ (by omega), u2_ne _ _ _ _ (by omega)]; exact g4⟩, by rw [u2_ne _ _ _ _ (by omega), u2_eq]; omega, by rw [u2_eq]; decide, fun q' q1 q2 => by rw [u2_ne _ _ _ _ (by omega), u2_ne _ _ _ _ (by omega)]; exact h4 q' (by omega) q2, fun q' hq => ?_, fun p hp => absurd hp (Nat.not_lt_zero p)⟩
  exact rA_cg (hd q' hq) n9 (by omega) (fun c j c1 c2 j1 j2 => by rw [u2_ne _ _ _ _ (by omega), u2_ne _ _ _ _ (by omega)]) (by rw [u2_ne _ _ _ _ (by omega), u2_ne _ _ _ _ (by omega)]) rfl (fun _ _ _ _ _ _ => rfl)
/-- all choices of a SAYING are read -/
def rF (s n al : Nat) (A a : sg) (I : sm_I) : Prop := (a.2 = A.2 ∧ (∀ u j, u ≠ 2 → ¬ (u = 22 ∧ j = n) → ¬ (u = 23 ∧ 4 * n ≤ j ∧ j < 4 * n + 4) → ¬ (25 ≤ u ∧ u ≤ 28 ∧ 12 * n ≤ j ∧ j < 12 * n + 12) → a.1 u j = A.1 u j) ∧ a.1 2 5 = A.1 2 5) ∧ (a.1 22 n).toInt = al ∧ ∀ q', q' < al → rA s n q' a I
theorem rF_I {s n al : Nat} {A a : sg} {I J : sm_I} (h : rF s n al A a I) (n9 : n < 10) (al4 : al ≤ 4) (h9 : ∀ q', q' < al → J 129 (4 * (10 * s + n) + q') = I 129 (4 * (10 * s + n) + q')) (hI : ∀ p j, 130 ≤ p → p ≤ 133 → 120 * s + 12 * n ≤ j → j < 120 * s + 12 * n + 12 → J p j = I p j) : rF s n al A a J :=
  ⟨h.1, h.2.1, fun q' hq => rA_cg (h.2.2 q' hq) n9 (by omega) (fun _ _ _ _ _ _ => rfl) rfl (h9 q' hq) (fun p j p1 p2 j1 j2 => hI p j p1 p2 (by omega) (by omega))⟩
/-- nothing but the SAYING k, and the reader's place, fault and worst -/
def bfr (k : Nat) (I J : sm_I) : Prop := ∀ p j, ¬ (p = 128 ∧ j = k) → ¬ (p = 129 ∧ 4 * k ≤ j ∧ j < 4 * k + 4) → ¬ (130 ≤ p ∧ p ≤ 133 ∧ 12 * k ≤ j ∧ j < 12 * k + 12) → ¬ (p = 107 ∧ (j = 11 ∨ j = 13 ∨ j = 14 ∨ j = 15 ∨ j = 16)) → J p j = I p j
section
variable {K : Nat → Int32} {P : Nat → Nat} {V W : Nat → Int64} {N : Nat → Int32} {c : Nat} {R0 : Option (Int32 × Nat)} {M0 : Option (Int32 × Nat) × sg}
variable {S : sm_C} {d : Nat} {Φ : sm_Z → Prop} {I0 : sm_I} {L : sm_L} {R : sm_R} {x1 x2 : Int32} {s n t0 : Nat} {tl : Int32} {ts : Nat → Nat} {A : sg}
theorem x_say10 (hT : TS K P V W N c) (h1 : x1.toInt = ((10 * s + n : Nat) : Int)) (hs : s ≤ 1) (n9 : n < 10) (b0 : 0 ≤ (I0 107 20).toInt) (b1 : (I0 107 20).toInt ≤ 50) (hb : ∀ j, j < cntm I0 → 0 ≤ (I0 117 j).toInt) (hf : ∀ nm, -1 ≤ (fdm I0 L nm 2).toInt ∧ (fdm I0 L nm 2).toInt ≤ 9) (htl : tl ≠ 12) (Q : Prop) (hQ : Q → (∀ {u : Nat} {b : sg}, u < c → K u = 15 → b.2 = A.2 → (∀ j, b.1 10 j = A.1 10 j ∧ b.1 11 j = A.1 11 j) → b.1 2 5 = A.1 2 5 → fd b (V u) 3 = fdm I0 L (W u) 2) ∧ (A.1 12 3).toInt = (n : Int) + 1 ∧ A.1 2 7 ≠ 12) (hend : ∀ (J : sm_I) (m' : mo) (o' : Option sg), PX K P V W N c R0 M0 m' o' J L → bfr (10 * s + n) I0 J → (m' = none ∨ ∃ t' g', m' = some (t', 0, g') ∧ t0 < t' ∧ g'.tells = ts ∧ (J 128 (10 * s + n)).toInt = g'.alls ∧ 1 ≤ g'.alls ∧ g'.alls ≤ 4 ∧ ∀ a', o' = some a' → Q ∧ rF s n g'.alls A a' J) → (((J 107 13) ≤ 0 → (vp_in (J 107 19) 2) ∧ ∀ n5 : Int32, n5 = (J 125 (J 107 19).toNatClampNeg) → sm_wp sm_P S (d + 5) 155 0 [.ref 107, .int x2, .int (3 : Int32), .int n5] [] (xLay, J, L, (kM R)) (0, 0) (fun z => ∃ (I6 : sm_I) (L7 : sm_L) (R8 : sm_R), z = (none, (xLay, I6, L7, (kM R8))) ∧ (vp_in (I6 107 19) 2) ∧ ∀ n10 : Int32, n10 = ((I6 125 (I6 107 19).toNatClampNeg) + (1 : Int32)) → (vp_in (I6 107 19) 2) ∧ ∀ I11 : sm_I, I11 = (sm_up I6 125 (I6 107 19).toNatClampNeg n10) → Φ (none, (xLay, I11, L7, (kM R8))))) ∧ (¬ (J 107 13) ≤ 0 → Φ (none, (xLay, J, L, (kM R)))))) (hF : ∀ (J : sm_I), PSm K P W N c R0 none J L → Φ (none, (xLay, J, L, kM R))) : ∀ (f : Nat) (I : sm_I) (x3 : Int32) (m : mo) (o : Option sg), PX K P V W N c R0 M0 m o I L → bfr (10 * s + n) I0 I → (¬ x3 = 0 → m = none ∨ ∃ t g, m = some (t, 17, g) ∧ t0 ≤ t ∧ g.tell = tl ∧ g.tells = ts ∧ (I 128 (10 * s + n)).toInt + 1 = g.alls ∧ 1 ≤ g.alls ∧ g.parts = 1 ∧ 4 < g.alls + f ∧ ∀ a, o = some a → Q ∧ rH s n (g.alls - 1) 1 0 A a I) → (x3 = 0 → m = none ∨ ∃ t' g', m = some (t', 26, g') ∧ t0 < t' ∧ g'.tells = ts ∧ (I 128 (10 * s + n)).toInt = g'.alls ∧ 1 ≤ g'.alls ∧ K t' ≠ 9 ∧ K t' ≠ 13 ∧ ∀ a', o = some a' → Q ∧ rF s n g'.alls A a' I) → sm_wp sm_P S (d + 6) 200 10 [.ref 107, .int x1, .int x2, .int x3] [] (xLay, I, L, kM R) (0, 0) Φ := by
  have n1 := tk_nat h1
  have v : vp_in x1 20 := kl_in (by omega) (by omega)
  have c4 : (4 : Int32).toInt = 4 := by decide
  -- the end of the SAYING
  have fin : ∀ (I : sm_I) (m : mo) (o : Option sg), PX K P V W N c R0 M0 m o I L → bfr (10 * s + n) I0 I → (m = none ∨ ∃ t' g', m = some (t', 26, g') ∧ t0 < t' ∧ g'.tells = ts ∧ (I 128 (10 * s + n)).toInt = g'.alls ∧ 1 ≤ g'.alls ∧ K t' ≠ 9 ∧ K t' ≠ 13 ∧ ∀ a', o = some a' → Q ∧ rF s n g'.alls A a' I) → sm_wp sm_P S (d + 5) 165 0 [.ref 107, .int (4 : Int32)] [] (xLay, I, L, (kM R)) (0, 0) (fun z => ∃ (I1 : sm_I) (L2 : sm_L) (R3 : sm_R), z = (none, (xLay, I1, L2, (kM R3))) ∧ (((I1 107 13) ≤ 0 → (vp_in (I1 107 19) 2) ∧ ∀ n5 : Int32, n5 = (I1 125 (I1 107 19).toNatClampNeg) → sm_wp sm_P S (d + 5) 155 0 [.ref 107, .int x2, .int (3 : Int32), .int n5] [] (xLay, I1, L2, (kM R3)) (0, 0) (fun z => ∃ (I6 : sm_I) (L7 : sm_L) (R8 : sm_R), z = (none, (xLay, I6, L7, (kM R8))) ∧ (vp_in (I6 107 19) 2) ∧ ∀ n10 : Int32, n10 = ((I6 125 (I6 107 19).toNatClampNeg) + (1 : Int32)) → (vp_in (I6 107 19) 2) ∧ ∀ I11 : sm_I, I11 = (sm_up I6 125 (I6 107 19).toNatClampNeg n10) → Φ (none, (xLay, I11, L7, (kM R8))))) ∧ (¬ (I1 107 13) ≤ 0 → Φ (none, (xLay, I1, L2, (kM R3)))))) := by
    intro I m o hX hfr hm
    refine x_mustT (i := 17) (s0 := 26) [9, 13] hT rfl (by decide +kernel) (fun v a => rfl) hX (fun t' s' g' em => ?_) (fun J m2 f2 X2 r2 => ⟨J, L, R, rfl, hend J m2 o X2 (fun p j p1 p2 p3 p4 => by rw [f2 p j p4]; exact hfr p j p1 p2 p3 p4) ?_⟩)
    · rcases hm with hm | ⟨t4, g4, em4, w1, w2, w3, w4, w5, w6, w7⟩
      · rw [hm] at em; cases em
      · rw [em4] at em
        obtain ⟨y1, y2, y3⟩ := mo_i em
        subst y1
        refine ⟨y2.symm, fun j hj ekj => ?_⟩
        rcases List.mem_cons.mp hj with q | q
        · rw [q] at ekj; exact absurd ekj w5
        · rw [List.mem_singleton.mp q] at ekj; exact absurd ekj w6
    · rcases r2 with r2 | ⟨t2, g2, em2, v1, v2, v3, v4⟩
      · exact Or.inl r2
      · rcases hm with hm | ⟨t4, g4, em4, w1, w2, w3, w4, w5, w6, w7⟩
        · rw [hm] at em2; cases em2
        · have em2' := em2
          rw [em4] at em2'
          obtain ⟨y1, y2, y3⟩ := mo_i em2'
          subst y1; subst y3
          have ga : g4.alls ≤ 4 := by
            have hS := hX.1
            rw [em4] at hS
            exact (hS.2.2.2.2.2.2.2 (by decide)).1
          refine Or.inr ⟨t4 + 1, g4, by rw [v4, show fw 26 (Int32.ofNat 17) = 0 from by decide +kernel], by omega, w2, ?_, w4, ga, fun a' ea => ?_⟩
          · rw [f2 128 _ (by omega)]; exact w3
          · obtain ⟨q1, q2⟩ := w7 a' ea
            exact ⟨q1, rF_I q2 n9 ga (fun q' _ => f2 129 _ (by omega)) (fun p j p1 p2 _ _ => f2 p j (by omega))⟩
  intro f
  induction f with
  | zero =>
    intro I x3 m o hX hfr H1 H0
    refine u_X12_tellSaying_10 ⟨fun e => fin I m o hX hfr (H0 e), fun e => ⟨fun z => ?_, fun z => fin I m o hX hfr (Or.inl (PS_n0 hX.1 z))⟩⟩
    exfalso
    rcases H1 e with q' | ⟨t, g, em, a1, a2, a3, a4, a5, a6, a7, a8⟩
    · rw [q'] at hX; exact PS_no hX.1 z
    · have hS := hX.1
      rw [em] at hS
      have := (hS.2.2.2.2.2.2.2 (by decide)).1
      omega
  | succ f ih =>
    intro I x3 m o hX hfr H1 H0
    refine u_X12_tellSaying_10 ⟨fun e => fin I m o hX hfr (H0 e), fun e => ⟨fun z => ⟨v, fun n2 e2 => ?_⟩, fun z => fin I m o hX hfr (Or.inl (PS_n0 hX.1 z))⟩⟩
    rcases H1 e with q' | ⟨t, g, em, a1, a2, a3, a4, a5, a6, a7, a8⟩
    · exfalso; rw [q'] at hX; exact PS_no hX.1 z
    have ga : g.alls ≤ 4 := by
      have hS := hX.1
      rw [em] at hS
      exact (hS.2.2.2.2.2.2.2 (by decide)).1
    obtain ⟨q, hq⟩ : ∃ q, g.alls = q + 1 := ⟨g.alls - 1, by omega⟩
    rw [n1] at e2
    have m4 : ((4 : Int32) * x1).toInt = 4 * ((10 * s + n : Nat) : Int) := ml_mu c4 h1 (by omega) (by omega)
    have q2 : n2.toInt = ((4 * (10 * s + n) + q : Nat) : Int) := by rw [e2, ml_ad m4 rfl (by omega) (by omega)]; omega
    have n2n := tk_nat q2
    have e20 : I 107 20 = I0 107 20 := hfr 107 20 (by omega) (by omega) (by omega) (by omega)
    have f116 : ∀ j, I 116 j = I0 116 j ∧ I 117 j = I0 117 j := fun j => ⟨hfr 116 j (by omega) (by omega) (by omega) (by omega), hfr 117 j (by omega) (by omega) (by omega) (by omega)⟩
    have cm : cntm I = cntm I0 := by unfold cntm; rw [e20]
    have efd : ∀ nm so, fdm I L nm so = fdm I0 L nm so := fun nm so => by unfold fdm; rw [cm, fm_cg f116]
    refine u_X12_tellAll_0 ⟨kl_in (by omega) (by omega), fun I1 e1 => ?_⟩
    rw [n2n] at e1
    have o1 : ∀ p j, ¬ (p = 129 ∧ j = 4 * (10 * s + n) + q) → I1 p j = I p j := fun p j hp => by rw [e1, en_up_ne _ _ _ _ hp]
    have X1 : PX K P V W N c R0 M0 m o I1 L := by rw [e1]; exact PX_up (by decide) (by omega) hX
    have z1 : (I1 129 (4 * (10 * s + n) + q)).toInt = 0 := by rw [e1, en_up_eq]; decide
    refine x_tellAll1 (I0 := I) (A := A) (al := q + 1) (tl := tl) (ts := ts) (t0 := t0) (s := s) (n := n) (q := q) hT q2 rfl hs n9 (by omega) (by rw [e20]; exact b0) (by rw [e20]; exact b1) (fun j hj => by rw [(f116 j).2]; exact hb j (by rw [← cm]; exact hj)) (fun nm => by rw [efd]; exact hf nm) (by omega) htl Q (fun hq' => ⟨fun {u b} uc ku w1 w2 w3 => by rw [efd]; exact (hQ hq').1 uc ku w1 w2 w3, (hQ hq').2⟩) (fun J2 m2 o2 X2 fr2 r2 => ⟨J2, L, R, rfl, fun z2 => ⟨v, fun n34 e34 => ⟨v, fun J3 e3 => ?_⟩⟩, fun z2 => ?_⟩) 3 I1 1 m o X1 (fun p j p1 _ _ => o1 p j p1) (fun _ => Or.inr ⟨t, g, em, a1, hq, a2, a3, by rw [z1, a6]; rfl, by omega, by omega, fun a ea => ?_⟩) (fun y => absurd y (by decide))
    · obtain ⟨y1, y2⟩ := a8 a ea
      rw [hq] at y2
      rw [a6]
      exact ⟨y1, rH_I y2 n9 (by omega) (by omega) (fun q' _ => o1 _ _ (by omega)) (fun p j p1 p2 _ _ => o1 _ _ (by omega))⟩
    · rw [n1] at e34 e3
      have z2 := PS_le0 X2.1 z2
      rcases r2 with r2 | ⟨t2, g2, em2, w1, w2, w3, w4, w5, w6, w7, w8⟩
      · rw [r2] at X2; exact absurd z2 (PS_no X2.1)
      have s128 : J2 128 (10 * s + n) = I 128 (10 * s + n) := fr2 128 _ (by omega) (by omega) (by omega)
      have s34 : n34.toInt = (q : Int) + 1 := by rw [e34, s128]; have := ml_in1 (x := I 128 (10 * s + n)) (by omega); omega
      have o3' : ∀ p j, ¬ (p = 128 ∧ j = 10 * s + n) → J3 p j = J2 p j := fun p j hp => by rw [e3, en_up_ne _ _ _ _ hp]
      have c3' : (J3 128 (10 * s + n)).toInt = (q : Int) + 1 := by rw [e3, en_up_eq]; exact s34
      have X3 : PX K P V W N c R0 M0 m2 o2 J3 L := by rw [e3]; exact PX_up (by decide) (by omega) X2
      have fr3 : bfr (10 * s + n) I0 J3 := fun p j p1 p2 p3 p4 => by rw [o3' p j p1, fr2 p j (by omega) (by omega) p4]; exact hfr p j p1 p2 p3 p4
      have g2p : g2.parts ≤ 3 := by
        have hS := X2.1
        rw [em2] at hS
        exact (hS.2.2.2.2.2.2.2 (by decide)).2
      have h9 : (J3 129 (4 * (10 * s + n) + q)).toInt = g2.parts := by rw [o3' _ _ (by omega)]; exact w5
      have H3 : ∀ a', o2 = some a' → Q ∧ rH s n q g2.parts g2.parts A a' J3 := fun a' ea => by
        obtain ⟨y1, y2⟩ := w8 a' ea
        exact ⟨y1, rH_I y2 n9 (by omega) g2p (fun q' _ => o3' _ _ (by omega)) (fun p j p1 p2 _ _ => o3' _ _ (by omega))⟩
      refine x_is (i := 9) hT (by decide) rfl X3.1 (fun r _ hr => ⟨r, J3, L, R, rfl, fun r0 => ⟨fun _ => ?_, fun y => absurd r0 y⟩, fun r1 => ⟨v, fun c40 => ?_, fun c40 => ⟨fun y => absurd y r1, fun _ => ?_⟩⟩⟩)
      · refine ih J3 r m2 o2 X3 fr3 (fun y => absurd r0 y) (fun _ => Or.inr ⟨t2, g2, em2, w1, w4, by rw [c3', w2]; omega, by omega, fun ek => ?_, w7, fun a' ea => ?_⟩)
        · exact absurd r0 (hr.mpr ⟨t2, 26, g2, em2, ek⟩)
        · obtain ⟨y1, y2⟩ := H3 a' ea
          rw [w2]
          exact ⟨y1, ⟨y2.1.1, y2.1.2.1, y2.1.2.2.1⟩, by rw [y2.2.1]; omega, rH_done y2 w6 g2p h9⟩
      · rw [n1] at c40
        have p4 : q + 1 = 4 := by
          have := congrArg Int32.toInt c40
          rw [c3', c4] at this; omega
        obtain ⟨tk, sk, gk, emk, ek⟩ := hr.mp r1
        rw [em2] at emk
        obtain ⟨y1, y2, y3⟩ := mo_i emk
        subst y1; subst y2; subst y3
        have full := x_full (k := 9) hT (Or.inl rfl) ek (by rw [w3]; exact htl) (by rw [gs9]; intro y; have := y.1; have : g2.alls + 1 ≤ 4 := this; omega) X3 em2
        obtain ⟨e', hE', -⟩ := PX_e X3
        refine x_fail (by decide) X3.1 hE' full (fun J8 f8 _ p8 _ => ⟨J8, L, R, rfl, fun y => absurd y r1, fun _ => ?_⟩)
        refine x_go (k := 0) (e := (0, none)) (M0 := M0) hT p8 (PE_n (PS_no p8)) (fun t' s' g' em' => by cases em') (fun J9 m9 f9 p9 _ r9 => ⟨J9, L, R, rfl, ?_⟩)
        have e9 : m9 = none := by
          rcases r9 with r9 | ⟨t', s', g', em', -⟩
          · exact r9
          · cases em'
        subst e9
        exact ih J9 r none none (PX_F p9) (fun p j p1 p2 p3 p4 => by rw [f9 p j p4, f8 p j p4]; exact fr3 p j p1 p2 p3 p4) (fun _ => Or.inl rfl) (fun _ => Or.inl rfl)
      · rw [n1] at c40
        have p4 : q + 1 ≠ 4 := fun y => c40 (en_ofI (by rw [c3', c4]; omega))
        obtain ⟨tk, sk, gk, emk, ek⟩ := hr.mp r1
        rw [em2] at emk
        obtain ⟨y1, y2, y3⟩ := mo_i emk
        subst y1; subst y2; subst y3
        refine x_join (k := 9) (t := t2) (g := g2) (ad_part true) hT (Or.inl rfl) ek (by rw [w3]; exact htl) ms_9 (by rw [gs9]; exact ⟨by show g2.alls + 1 ≤ 4; omega, by show (1 : Nat) ≤ 3; omega⟩) X3 (Or.inr em2) (fun J9 m9 f9 X9 r9 => ⟨J9, L, R, rfl, ?_⟩)
        refine ih J9 r m9 (o2.map (ad_part true)) X9 (fun p j p1 p2 p3 p4 => by rw [f9 p j p4]; exact fr3 p j p1 p2 p3 p4) (fun _ => ?_) (fun y => absurd y r1)
        rcases r9 with r9 | ⟨-, r9⟩
        · exact Or.inl r9
        · refine Or.inr ⟨t2 + 1, gc_st 26 9 g2, r9, by omega, ?_⟩
          rw [gs9]
          refine ⟨w3, w4, ?_, Nat.le_add_left 1 g2.alls, rfl, ?_, fun a' ea => ?_⟩
          · show (J9 128 (10 * s + n)).toInt + 1 = ((g2.alls + 1 : Nat) : Int)
            rw [f9 128 _ (by omega), c3', w2]; omega
          · show 4 < g2.alls + 1 + f
            omega
          · show Q ∧ rH s n (g2.alls + 1 - 1) 1 0 A a' J9
            obtain ⟨a2', eb, eb'⟩ := om (Or.inr rfl) ea
            obtain ⟨hq', R8⟩ := H3 a2' eb
            refine ⟨hq', ?_⟩
            rw [eb', w2]
            exact rH_I (rH_or R8 w6 g2p h9 n9 (by omega) (hQ hq').2.1) n9 (by omega) (by omega) (fun q' _ => f9 129 _ (by omega)) (fun p j p1 p2 _ _ => f9 p j (by omega))
    · have nz : ¬ J2 107 13 = 0 := fun y => z2 (by rw [y]; decide)
      have em' := PS_n0 X2.1 nz
      subst em'
      exact hF J2 X2.1
end
end
