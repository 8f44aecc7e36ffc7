/-! tells of the reference, exact: time -/
section
variable {K : Nat → Int32} {P : Nat → Nat} {V W : Nat → Int64} {N : Nat → Int32} {c : Nat} {R0 : Option (Int32 × Nat)} {M0 : Option (Int32 × Nat) × sg}
variable {S : sm_C} {d : Nat} {Φ : sm_Z → Prop} {I : sm_I} {L : sm_L} {R : sm_R} {m : mo} {o : Option sg} {l s t : Nat} {g : gc}
/-- it goes on at a TOKEN that is known and means nothing by itself -/
theorem x_goT {i : Nat} {s0 : Int32} (ex : List Nat) (hT : TS K P V W N c) (hm : mkx s0 i ex = true) (ht : ∀ (v : Int64) (a : sg), ms s0 (Int32.ofNat i) v a = (0, a)) (hX : PX K P V W N c R0 M0 m o I L) (hg : ∀ t s g, m = some (t, s, g) → s = s0 ∧ K t = Int32.ofNat i) (h : ∀ (J : sm_I) (m' : mo), xfr I J → PX K P V W N c R0 M0 m' o J L → (m' = none ∨ ∃ t g, m = some (t, s0, g) ∧ t < c ∧ t < 500 ∧ K t = Int32.ofNat i ∧ m' = some (t + 1, fw s0 (Int32.ofNat i), g)) → Φ (none, (xLay, J, L, kM R))) : sm_wp sm_P S (d + 1) 136 0 [.ref 107] [] (xLay, I, L, kM R) (0, 0) Φ := by
  obtain ⟨e, hE, ee⟩ := PX_e hX
  obtain ⟨k1, k2, k3, k4, k5, k6⟩ := mkx_ok hm
  have gk : ∀ t s g, m = some (t, s, g) → g.alls ≤ 4 ∧ g.parts ≤ 3 := fun t s g em => by
    have hS := hX.1
    rw [em] at hS
    exact hS.2.2.2.2.2.2.2 (by rw [(hg t s g em).1]; exact k1)
  refine x_go (k := Int32.ofNat i) hT hX.1 hE (fun t s g em => ?_) (fun J m' f p q rel => h J m' f ⟨p, ?_⟩ ?_)
  · obtain ⟨es, ek⟩ := hg t s g em
    have gk := gk t s g em
    subst es
    obtain ⟨g1, g2, g3, g4⟩ := gc_in (g := g) k1 k2 k4 k5 gk
    exact ⟨ek, by rw [ek]; exact g4, k3, g3, g2, by rw [g1]; exact gk⟩
  · rcases rel with rel | ⟨t, s, g, em, b1, b2, b3⟩
    · rw [rel]; trivial
    · obtain ⟨es, ek⟩ := hg t s g em
      subst es
      rw [b3]
      rw [ee t s g em] at q
      cases eo : o with
      | none =>
        rw [eo] at q
        exact PE_w q (Nat.le_succ t)
      | some a =>
        rw [eo] at q
        have := PE_st (by omega) (hT.2.2.2.1 t b1) (by rw [ek]; exact ht (V t) a) q
        rw [ek] at this
        exact this
  · rcases rel with rel | ⟨t, s, g, em, b1, b2, b3⟩
    · exact Or.inl rel
    · obtain ⟨es, ek⟩ := hg t s g em
      have gk := gk t s g em
      subst es
      obtain ⟨g1, g2, g3, g4⟩ := gc_in (g := g) k1 k2 k4 k5 gk
      exact Or.inr ⟨t, g, em, b1, b2, ek, by rw [b3, g1]⟩
/-- lookups while a new name waits -/
theorem x_pend {k kd so : Int32} {a b : sg} {v : Int64} {J : sm_I} {u : Nat} (hT : TS K P V W N c) (f : xfr I J) (hR : rL K V W s t a I L) (tc : t ≤ c) (b0 : 0 ≤ (I 107 20).toInt) (b1 : (I 107 20).toInt ≤ 40) (hk : nm_kd (u2 a 2 7 k) ≠ kd) (hs : srt kd so) (h2 : b.2 = (nm_add v (u2 a 2 7 k)).2) (h10 : ∀ i, b.1 10 i = (nm_add v (u2 a 2 7 k)).1 10 i) (h11 : ∀ i, b.1 11 i = (nm_add v (u2 a 2 7 k)).1 11 i) (h5 : b.1 2 5 = (nm_add v (u2 a 2 7 k)).1 2 5) (uc : u < c) (ku : K u = 15) : fd b (V u) kd = fdm J L (W u) so := by
  have e5 : (u2 a 2 7 k).1 2 5 = I 107 20 := by rw [u2_ne _ _ _ _ (by omega)]; exact hR.1.1
  have ec : cnt (u2 a 2 7 k).1 = cntm I := by unfold cnt cntm; rw [e5]
  have ec2 : cnt b.1 = cntm I + 1 := by
    have q := nm_add_c (v := v) (a := u2 a 2 7 k) (by rw [e5]; exact b0) (by rw [e5]; exact b1)
    unfold cnt at q ⊢
    rw [h5, q]
    unfold cntm
    rw [e5]
  rw [fdm_cg f]
  refine rN_fd (t := t) hT (rN_cg hR.1.2 t (Nat.le_refl _) (fun i hi => ⟨?_, ?_, ?_⟩) (fun i _ => ⟨rfl, rfl, rfl⟩)) tc hs (Or.inr ⟨ec2, ?_⟩) uc ku
  · rw [h2, nm_add_2, ec]
    show (if i = cntm I then _ else a.2 i) = _
    rw [if_neg (by omega)]
  · rw [h10, nm_add_10, ec, if_neg (by omega), u2_ne _ _ _ _ (by omega)]
  · rw [h11, nm_add_11, ec, if_neg (by omega), u2_ne _ _ _ _ (by omega)]
  · rw [h10, nm_add_10, ec, if_pos rfl]; exact hk
/-- a TIME's person or place -/
theorem pl_last_s {cc : Nat} {r : Int32} {b : sg} {k : Nat} (h : (b.1 12 2).toInt = (k : Int) + 1) (hk : k < 10) : pl_last cc r b = u2 b cc k r := by
  unfold pl_last
  have c10 : (10 : Int32).toInt = 10 := by decide
  rw [if_neg (fun q => by rw [kl_le, kl_0] at q; omega), if_neg (fun q => by rw [kl_lt, c10] at q; omega)]
  have e : (b.1 12 2 - 1).toInt = (k : Int) := by rw [Int32.toInt_sub, kl_1]; rw [h]; exact (en_bmod (by omega) (by omega) (Or.inl rfl)).trans (by omega)
  rw [tk_nat e]
theorem x_time {J3 : sm_I} {m3 : mo} {o3 : Option sg} {g3 : gc} {t2 t3 : Nat} {x8 n9 y z : Int32} (hT : TS K P V W N c) (hls : ml_ls l s) (hm : en_mem ml_tb mlX (xLay, I, L, R)) (hI : ml_TI l s I) (hG : rG s g I) (hr : (I 122 s).toInt < 10) (tx0 : tx K P W N c I L) (ft : xfr I J3) (X3 : PX K P V W N c R0 M0 m3 o3 J3 L) (em3 : m3 = some (t3, 0, g3)) (eg : g3 = gc_st 0 3 g) (t23 : t2 < t3) (tt : t < t3) (u1 : t2 < c) (u5 : t2 < 500) (u3 : K t2 = 15) (h8 : x8.toInt = t2) (e9 : n9.toInt = 10 * (s : Int) + (I 122 s).toInt) (hA : ∀ a', o3 = some a' → ∃ a, rL K V W s t a I L ∧ a'.2 = (nm_add (V t2) (u2 a 2 7 3)).2 ∧ ∀ p j, (p ≠ 2 ∨ j = 5) → a'.1 p j = if p = 14 ∧ j = (I 122 s).toNatClampNeg then y else if p = 15 ∧ j = (I 122 s).toNatClampNeg then z else (nm_add (V t2) (u2 a 2 7 3)).1 p j) (h : ∀ (J : sm_I) (L' : sm_L), TP K P V W N c R0 M0 s t J L' → Φ (none, (xLay, J, L', kM R))) : (vp_in n9 20) ∧ ∀ I18 : sm_I, I18 = (sm_up J3 123 n9.toNatClampNeg y) → (vp_in n9 20) ∧ ∀ I19 : sm_I, I19 = (sm_up I18 124 n9.toNatClampNeg z) → (vp_in (I19 107 19) 2) ∧ ∀ n20 : Int32, n20 = (I19 122 (I19 107 19).toNatClampNeg) → sm_wp sm_P S d 155 0 [.ref 107, .int x8, .int (2 : Int32), .int n20] [] (xLay, I19, L, (kM R)) (0, 0) (fun z => ∃ (I21 : sm_I) (L22 : sm_L) (R23 : sm_R), z = (none, (xLay, I21, L22, (kM R23))) ∧ (vp_in (I21 107 19) 2) ∧ ∀ n25 : Int32, n25 = ((I21 122 (I21 107 19).toNatClampNeg) + (1 : Int32)) → (vp_in (I21 107 19) 2) ∧ ∀ I26 : sm_I, I26 = (sm_up I21 122 (I21 107 19).toNatClampNeg n25) → Φ (none, (xLay, I26, L22, (kM R23)))) := by
  obtain ⟨hl1, hs1⟩ := ml_l1 hls
  obtain ⟨sn, sv⟩ := ml_sn hls hI
  have bc := ml_cs hs1 hm
  have b34 := x_34 hs1 hm
  obtain ⟨⟨b0, b1⟩, hb⟩ := x_b117 hm
  have bs : (I 107 20).toInt ≤ ml_sum I s := hI.2.2.1
  unfold ml_sum at bs
  have b49 := ml_nm49 hls hI hm
  have v9 : vp_in n9 20 := kl_in (by omega) (by omega)
  have k0 : (((I 122 s).toNatClampNeg : Nat) : Int) = (I 122 s).toInt := kl_nat bc.2.2.1.1
  have n9n : n9.toNatClampNeg = 10 * s + (I 122 s).toNatClampNeg := tk_nat (by omega)
  refine ⟨v9, fun I18 e18 => ⟨v9, fun I19 e19 => ?_⟩⟩
  rw [n9n] at e18 e19
  have o19 : ∀ p j, ¬ ((p = 123 ∨ p = 124) ∧ j = 10 * s + (I 122 s).toNatClampNeg) → I19 p j = J3 p j := fun p j hp => by rw [e19, en_up_ne _ _ _ _ (by omega), e18, en_up_ne _ _ _ _ (by omega)]
  have X19 : PX K P V W N c R0 M0 m3 o3 I19 L := by rw [e19, e18]; exact PX_up (by decide) (by omega) (PX_up (by decide) (by omega) X3)
  have s19 : I19 107 19 = I 107 19 := by rw [o19 107 19 (by omega)]; exact ft 107 19 (by omega)
  have c19 : I19 107 20 = I 107 20 := by rw [o19 107 20 (by omega)]; exact ft 107 20 (by omega)
  have ecm : cntm I19 = cntm I := by unfold cntm; rw [c19]
  rw [s19, sn]
  refine ⟨sv, fun n20 e20 => ?_⟩
  have e20 : n20 = I 122 s := by rw [e20, o19 122 s (by omega)]; exact ft 122 s (by omega)
  refine x_knows (t := t2) h8 (by omega) (by rw [c19]; exact b0) (by rw [c19]; exact b49) X19 (fun J4 L4 e4J e4L X4 => ⟨J4, L4, R, rfl, ?_⟩)
  rw [ecm] at e4J e4L
  have o4 : ∀ p j, ¬ ((p = 116 ∨ p = 117) ∧ j = cntm I) → ¬ (p = 107 ∧ j = 20) → J4 p j = I19 p j := fun p j h1 h2 => by rw [e4J, en_up_ne _ _ _ _ (by omega), en_up_ne _ _ _ _ (by omega), en_up_ne _ _ _ _ (by omega)]
  have s4 : J4 107 19 = I 107 19 := by rw [o4 107 19 (by omega) (by omega)]; exact s19
  rw [s4, sn]
  refine ⟨sv, fun n31 en31 => ⟨sv, fun J5 e5 => h J5 L4 ⟨m3, o3, ?_, Or.inr ⟨t3, g3, em3, tt, ?_, fun a' ea => ?_⟩⟩⟩⟩
  · rw [e5]; exact PX_up (by decide) (by omega) X4
  all_goals
    have o5 : ∀ p j, ¬ ((p = 116 ∨ p = 117) ∧ j = cntm I) → ¬ (p = 122 ∧ j = s) → p ≠ 107 → ¬ ((p = 123 ∨ p = 124) ∧ j = 10 * s + (I 122 s).toNatClampNeg) → J5 p j = I p j := fun p j h1 h2 h3 h4 => by rw [e5, en_up_ne _ _ _ _ h2, o4 p j h1 (by omega), o19 p j h4, ft p j (by omega)]
    have r5 : J5 122 s = I 122 s + 1 := by rw [e5, en_up_eq, en31, o4 122 s (by omega) (by omega), o19 122 s (by omega), ft 122 s (by omega)]
    have r5i : (J5 122 s).toInt = (I 122 s).toInt + 1 := by rw [r5]; exact ml_in1 (by omega)
  · rw [eg]
    unfold rG
    obtain ⟨G1, G2, G3, G4, G5, G6, G7⟩ := hG
    refine ⟨?_, ?_, ?_, ?_, ?_, ?_, ?_⟩
    · rw [o5 118 s (by omega) (by omega) (by decide) (by omega), gc0_t (by decide), if_neg (by decide)]; exact G1
    · rw [o5 119 s (by omega) (by omega) (by decide) (by omega), gc0_t (by decide), if_neg (by decide)]; exact G2
    · rw [o5 120 s (by omega) (by omega) (by decide) (by omega), gc0_t (by decide), if_neg (by decide)]; exact G3
    · rw [r5i, gc0_t (by decide), if_pos (by decide)]; omega
    · rw [o5 125 s (by omega) (by omega) (by decide) (by omega), gc0_t (by decide), if_neg (by decide)]; exact G5
    · rw [o5 134 s (by omega) (by omega) (by decide) (by omega), gc0_t (by decide), if_neg (by decide)]; exact G6
    · rw [o5 136 s (by omega) (by omega) (by decide) (by omega), gc0_t (by decide), if_neg (by decide)]; exact G7
  · obtain ⟨a, RL, hA2, hA1⟩ := hA a' ea
    obtain ⟨⟨R5, RN⟩, RC, RT, RO, RW, RS, RQ, RB⟩ := RL
    have k7 : (u2 a 2 7 3).1 2 7 = 3 := u2_eq _ _ _ _
    have a12 : ∀ j, (u2 a 2 7 3).1 12 j = a.1 12 j := fun j => u2_ne _ _ _ _ (by omega)
    have ef : a.1 12 2 = I 122 s := RC.2.2.1
    obtain ⟨A1, A2, A3⟩ := nmA (v := V t2) (a := u2 a 2 7 3) (k := 3) (mx := 10) (f := 2) k7 (by decide) (fun b => by unfold nb_new; rw [if_neg (by decide), if_neg (by decide), if_pos (by decide)]) (by rw [a12, ef, show (10 : Int32).toInt = 10 from by decide]; exact hr) (by decide)
    have A4 : ∀ p j, ¬ (p = 12 ∧ j = 2) → p ≠ 2 → p ≠ 10 → p ≠ 11 → ¬ ((p = 14 ∨ p = 15) ∧ j = (I 122 s).toNatClampNeg) → a'.1 p j = a.1 p j := fun p j h1 h2 h3 h4 h5 => by rw [hA1 p j (by omega), if_neg (by omega), if_neg (by omega), A3 p j h3 h4 (by omega), if_neg h1, u2_ne _ _ _ _ (by omega)]
    have A5 : a'.1 12 2 = I 122 s + 1 := by rw [hA1 12 2 (by omega), if_neg (by omega), if_neg (by omega), A3 12 2 (by decide) (by decide) (by omega), if_pos ⟨rfl, rfl⟩, a12, ef]
    have eW : L 113 t2 = W t2 := (tx0.2 t2 u1 (by omega)).2
    refine ⟨?_, ?_, ?_, ?_, ?_, ?_, ?_, ?_⟩
    · have q := rN_new (a := u2 a 2 7 3) (I := I) (J := J5) (L' := L4) (t := t) (t' := t3) (u := t2) (W := W) (so := 2) (x := I 122 s) (L := L) (by rw [u2_ne _ _ _ _ (by omega)]; exact R5) b0 (by omega) (rN_cg RN t (Nat.le_refl _) (fun i _ => ⟨rfl, u2_ne _ _ _ _ (by omega), u2_ne _ _ _ _ (by omega)⟩) (fun i _ => ⟨rfl, rfl, rfl⟩)) (by omega) (by omega) u3 (by rw [A1]; exact Or.inr (Or.inr (Or.inl ⟨rfl, rfl⟩))) (by rw [A2, a12, ef]) (by rw [e5, en_up_ne _ _ _ _ (by omega), e4J, en_up_eq, c19]) (by rw [e5, en_up_ne _ _ _ _ (by omega), e4J, en_up_ne _ _ _ _ (by omega), en_up_ne _ _ _ _ (by omega), en_up_eq]) (by rw [e5, en_up_ne _ _ _ _ (by omega), e4J, en_up_ne _ _ _ _ (by omega), en_up_eq, e20]) (fun i hi => ⟨o5 116 i (by omega) (by omega) (by decide) (by omega), o5 117 i (by omega) (by omega) (by decide) (by omega)⟩) (by rw [e4L, en_up_eq, eW]) (fun i hi => by rw [e4L, en_up_ne _ _ _ _ (by omega)])
      refine ⟨by rw [hA1 2 5 (by omega), if_neg (by omega), if_neg (by omega)]; exact q.1, rN_cg q.2 t3 (Nat.le_refl _) (fun i _ => ⟨by rw [hA2], by rw [hA1 10 i (by omega), if_neg (by omega), if_neg (by omega)], by rw [hA1 11 i (by omega), if_neg (by omega), if_neg (by omega)]⟩) (fun i _ => ⟨rfl, rfl, rfl⟩)⟩
    · unfold rC
      refine ⟨?_, ?_, ?_, ?_, ?_⟩
      · rw [A4 12 0 (by omega) (by omega) (by omega) (by omega) (by omega), o5 118 s (by omega) (by omega) (by decide) (by omega)]; exact RC.1
      · rw [A4 12 1 (by omega) (by omega) (by omega) (by omega) (by omega), o5 119 s (by omega) (by omega) (by decide) (by omega)]; exact RC.2.1
      · rw [A5, r5]
      · rw [A4 12 3 (by omega) (by omega) (by omega) (by omega) (by omega), o5 125 s (by omega) (by omega) (by decide) (by omega)]; exact RC.2.2.2.1
      · rw [A4 12 4 (by omega) (by omega) (by omega) (by omega) (by omega), o5 136 s (by omega) (by omega) (by decide) (by omega)]; exact RC.2.2.2.2
    · intro i hi
      have hs2 : s ≤ 1 := hs1
      by_cases ci : i = (I 122 s).toNatClampNeg
      · refine ⟨fun _ => ?_, fun q => ?_⟩
        · rw [hA1 14 i (by omega), if_pos ⟨rfl, ci⟩, hA1 15 i (by omega), if_neg (by omega), if_pos ⟨rfl, ci⟩]
          have y1 : J5 123 (10 * s + i) = y := by rw [ci, e5, en_up_ne _ _ _ _ (by omega), o4 _ _ (by omega) (by omega), e19, en_up_ne _ _ _ _ (by omega), e18, en_up_eq]
          have y2 : J5 124 (10 * s + i) = z := by rw [ci, e5, en_up_ne _ _ _ _ (by omega), o4 _ _ (by omega) (by omega), e19, en_up_eq]
          exact ⟨y1.symm, y2.symm⟩
        · rw [r5i] at q; omega
      · rw [A4 14 i (by omega) (by omega) (by omega) (by omega) (by omega), A4 15 i (by omega) (by omega) (by omega) (by omega) (by omega), o5 123 _ (by omega) (by omega) (by decide) (by omega), o5 124 _ (by omega) (by omega) (by decide) (by omega), r5i]
        exact ⟨fun q => (RT i hi).1 (by omega), fun q => (RT i hi).2 (by omega)⟩
    · exact rO_cg RO b34.2 (fun c' j h1 h2 => A4 c' j (by omega) (by omega) (by omega) (by omega) (by omega)) (by rw [r5i]; omega) (o5 134 s (by omega) (by omega) (by decide) (by omega)) (fun j => o5 135 j (by omega) (by omega) (by decide) (by omega)) (fun p j h1 h2 _ _ => o5 p j (by omega) (by omega) (by omega) (by omega))
    · exact rW_cg RW (fun j => A4 13 j (by omega) (by omega) (by omega) (by omega) (by omega)) (fun j => o5 121 j (by omega) (by omega) (by decide) (by omega))
    · exact rS_cg RS bc.2.2.2.1.2 hs1 (fun c' j hc => A4 c' j (by omega) (by omega) (by omega) (by omega) (by omega)) (fun p j hp => o5 p j (by omega) (by omega) (by omega) (by omega))
    · exact rQ_cg RQ (fun c' j h1 h2 => A4 c' j (by omega) (by omega) (by omega) (by omega) (by omega)) (fun p j hp => o5 p j (by omega) (by omega) (by omega) (by omega))
    · exact rB_new (so := 2) (x := I 122 s) RB b0 (by omega) (by rw [e5, en_up_ne _ _ _ _ (by omega), e4J, en_up_eq, c19]) (by rw [e5, en_up_ne _ _ _ _ (by omega), e4J, en_up_ne _ _ _ _ (by omega), en_up_ne _ _ _ _ (by omega), en_up_eq]) (by rw [e5, en_up_ne _ _ _ _ (by omega), e4J, en_up_ne _ _ _ _ (by omega), en_up_eq, e20]) (fun i hi => ⟨o5 116 i (by omega) (by omega) (by decide) (by omega), o5 117 i (by omega) (by omega) (by decide) (by omega)⟩) (by rw [r5i]; omega) (fun _ => by rw [r5i]; omega)
theorem x_tellTime (hT : TS K P V W N c) (hls : ml_ls l s) (hm : en_mem ml_tb mlX (xLay, I, L, R)) (hI : ml_TI l s I) (hX : PX K P V W N c R0 M0 (some (t, 0, g)) o I L) (hG : rG s g I) (hR : ∀ a, o = some a → rL K V W s t a I L) (ek : K t = 3) (hr : (I 122 s).toInt < 10) (h : ∀ (J : sm_I) (L' : sm_L), TP K P V W N c R0 M0 s t J L' → Φ (none, (xLay, J, L', kM R))) : sm_wp sm_P S (d + 4) 202 0 [.ref 107] [] (xLay, I, L, kM R) (0, 0) Φ := by
  obtain ⟨hl1, hs1⟩ := ml_l1 hls
  obtain ⟨sn, sv⟩ := ml_sn hls hI
  have bc := ml_cs hs1 hm
  have b34 := x_34 hs1 hm
  obtain ⟨⟨b0, b1⟩, hb⟩ := x_b117 hm
  have bs : (I 107 20).toInt ≤ ml_sum I s := hI.2.2.1
  unfold ml_sum at bs
  have tc : t ≤ c := hX.1.2.2.2.2.2.1
  have k0 : (((I 122 s).toNatClampNeg : Nat) : Int) = (I 122 s).toInt := kl_nat bc.2.2.1.1
  have ok : gc_ok 0 3 g = true := by
    unfold gc_ok
    rw [if_pos ⟨rfl, by decide⟩]
    refine decide_eq_true ?_
    have := hG.2.2.2.1
    rw [show gw 3 = 3 from by decide, show (sm_room.getD 3 0).toInt = 10 from by decide]
    omega
  refine u_X12_tellTime_0 (x_go0 (k := 3) hT ek (by decide) (by decide) (by decide +kernel) (by decide) (by decide) ok hX (fun J1 m1 f1 X1 r1 => ⟨J1, L, R, rfl, ?_⟩))
  have e1 : ∀ t' s' g', m1 = some (t', s', g') → t' = t + 1 ∧ s' = 6 ∧ g' = gc_st 0 3 g := fun t' s' g' em => by
    rcases r1 with r1 | ⟨q1, q2, q3⟩
    · rw [r1] at em; cases em
    · rw [q3] at em
      obtain ⟨y1, y2, y3⟩ := mo_i em
      exact ⟨y1.symm, by rw [← y2]; decide +kernel, y3.symm⟩
  have c20 : J1 107 20 = I 107 20 := f1 107 20 (by omega)
  refine x_named (s0 := 6) hT (by decide +kernel) (fun v a => by rw [ms_15]; rfl) X1 (fun t' s' g' em => (e1 t' s' g' em).2.1) (by rw [c20]; exact b0) (by rw [c20]; exact b1) (fun t' g' a1 em eo uc ku => ?_) (fun J2 m2 o2 f2 X2 r2 => ⟨_, J2, L, R, rfl, ?_⟩)
  · obtain ⟨a, ea3, ea4⟩ := om (Or.inr rfl) eo
    subst ea4
    exact x_hn hT f1 (hR a ea3) tc 3 uc ku (by omega)
  have f12 : xfr I J2 := xfr_tr f1 f2
  have e19 : J2 107 19 = I 107 19 := f12 107 19 (by omega)
  have e122 : J2 122 s = I 122 s := f12 122 s (by omega)
  have d20 : J2 107 20 = I 107 20 := f12 107 20 (by omega)
  have e2 : ∀ t' s' g', m2 = some (t', s', g') → t' = t + 2 ∧ s' = 7 ∧ g' = gc_st 0 3 g ∧ t + 1 < c ∧ t + 1 < 500 ∧ K (t + 1) = 15 ∧ (J1 107 11).toInt = ((t + 1 : Nat) : Int) ∧ ∀ a2, o2 = some a2 → ∃ a, rL K V W s t a I L ∧ a2 = nm_add (V (t + 1)) (u2 a 2 7 3) := fun t' s' g' em => by
    rcases r2 with r2 | ⟨t2, g2, em2, q1, q2, q3, q4, q5⟩
    · rw [r2] at em; cases em
    · rw [q4] at em
      obtain ⟨y1, y2, y3⟩ := mo_i em
      obtain ⟨z1, z2, z3⟩ := e1 t2 6 g2 em2
      subst z1
      have hS := X1.1
      rw [em2] at hS
      refine ⟨by omega, by rw [← y2]; decide +kernel, by rw [← y3]; exact z3, q1, q2, q3, hS.2.2.2.2.1, fun a2 ea => ?_⟩
      rcases q5 with q5 | ⟨q5, -⟩
      · rw [q5] at ea; cases ea
      obtain ⟨a1, ea1, ea1'⟩ := om (Or.inr q5) ea
      obtain ⟨a, ea3, ea4⟩ := om (Or.inr rfl) ea1
      subst ea4
      exact ⟨a, hR a ea3, ea1'⟩
  rw [e19, sn]
  refine ⟨sv, fun n9 e9 => ?_⟩
  have q1 : ((10 : Int32) * (I 107 19)).toInt = 10 * (s : Int) := ml_mu (by decide) hI.2.1 (by omega) (by omega)
  have q9 : n9.toInt = 10 * (s : Int) + (I 122 s).toInt := by rw [e9, e122]; exact ml_ad q1 rfl (by omega) (by omega)
  refine x_is (i := 4) hT (by decide) rfl X2.1 (fun r13 _ hr13 => ⟨r13, J2, L, R, rfl, fun r0 => ?_, fun r1' => ?_⟩)
  · refine x_mustT (i := 17) (s0 := 7) [4] hT rfl (by decide +kernel) (fun v a => rfl) X2 (fun t' s' g' em => ⟨(e2 t' s' g' em).2.1, fun j hj ekj => ?_⟩) (fun J3 m3 f3 X3 r3 => ⟨J3, L, R, rfl, fun z => ?_, fun z => ?_⟩)
    · rw [List.mem_singleton.mp hj] at ekj
      exact absurd r0 (hr13.mpr ⟨t', s', g', em, ekj⟩)
    · have z := PS_le0 X3.1 z
      rcases r3 with r3 | ⟨t3, g3, em3, v1, v2, v3, v4⟩
      · rw [r3] at X3; exact absurd z (PS_no X3.1)
      obtain ⟨y1, y2, y3, y4, y5, y6, y7, y8⟩ := e2 t3 7 g3 em3
      refine x_time (t2 := t + 1) (t3 := t3 + 1) hT hls hm hI hG hr hX.1.1 (xfr_tr f12 f3) X3 v4 y3 (by omega) (by omega) y4 y5 y6 y7 q9 (fun a' ea => ?_) h
      obtain ⟨a, RL, ea'⟩ := y8 a' ea
      subst ea'
      refine ⟨a, RL, rfl, fun p j hp => ?_⟩
      have ef : a.1 12 2 = I 122 s := RL.2.1.2.2.1
      obtain ⟨A1, A2, A3⟩ := nmA (v := V (t + 1)) (a := u2 a 2 7 3) (k := 3) (mx := 10) (f := 2) (u2_eq _ _ _ _) (by decide) (fun b => by unfold nb_new; rw [if_neg (by decide), if_neg (by decide), if_pos (by decide)]) (by rw [u2_ne _ _ _ _ (by omega), ef, show (10 : Int32).toInt = 10 from by decide]; exact hr) (by decide)
      have T := (RL.2.2.1 (I 122 s).toNatClampNeg (by omega)).2 (by omega)
      by_cases c1 : p = 14 ∧ j = (I 122 s).toNatClampNeg
      · rw [if_pos c1, c1.1, c1.2, A3 14 _ (by decide) (by decide) (by omega), if_neg (by omega), u2_ne _ _ _ _ (by omega)]; exact T.1
      · rw [if_neg c1]
        by_cases c2 : p = 15 ∧ j = (I 122 s).toNatClampNeg
        · rw [if_pos c2, c2.1, c2.2, A3 15 _ (by decide) (by decide) (by omega), if_neg (by omega), u2_ne _ _ _ _ (by omega)]; exact T.2
        · rw [if_neg c2]
    · have nz : ¬ J3 107 13 = 0 := fun y => z (by rw [y]; decide)
      have em := PS_n0 X3.1 nz
      exact h J3 L ⟨m3, o2, X3, Or.inl em⟩
  · -- of .. in ..
    obtain ⟨tk, sk, gk, emk, ekk⟩ := hr13.mp r1'
    refine x_goT (i := 4) (s0 := 7) [17] hT (by decide +kernel) (fun v a => rfl) X2 (fun t' s' g' em => ⟨(e2 t' s' g' em).2.1, ?_⟩) (fun J3 m3 f3 X3 r3 => ⟨J3, L, R, rfl, ?_⟩)
    · rw [emk] at em
      rw [← (mo_i em).1]; exact ekk
    have f13 : xfr I J3 := xfr_tr f12 f3
    have g20 : J3 107 20 = I 107 20 := f13 107 20 (by omega)
    have cm3 : cntm J3 = cntm I := by unfold cntm; rw [g20]
    have e3 : ∀ t' s' g', m3 = some (t', s', g') → t' = t + 3 ∧ s' = 8 ∧ g' = gc_st 0 3 g ∧ t + 1 < c ∧ t + 1 < 500 ∧ K (t + 1) = 15 ∧ (J1 107 11).toInt = ((t + 1 : Nat) : Int) ∧ ∀ a2, o2 = some a2 → ∃ a, rL K V W s t a I L ∧ a2 = nm_add (V (t + 1)) (u2 a 2 7 3) := fun t' s' g' em => by
      rcases r3 with r3 | ⟨t3, g3, em3, v1, v2, v3, v4⟩
      · rw [r3] at em; cases em
      · rw [v4] at em
        obtain ⟨y1, y2, y3⟩ := mo_i em
        obtain ⟨z1, z2, z3, z4⟩ := e2 t3 7 g3 em3
        exact ⟨by omega, by rw [← y2]; decide +kernel, by rw [← y3]; exact z3, z4⟩
    have nk3 : ∀ a : sg, nm_kd (u2 a 2 7 3) = 3 := fun a => by unfold nm_kd; rw [u2_eq]; decide
    refine x_knownS (kd := 0) (s0 := 8) hT (by decide +kernel) X3 (fun t' s' g' em => (e3 t' s' g' em).2.1) (by rw [g20]; exact b0) (by rw [g20]; exact b1) (fun i hi => by rw [f13 117 i (by omega)]; exact hb i (by rw [← cm3]; exact hi)) (fun t' g' a1 em eo uc ku => ?_) (fun r a => pl_last 14 r a) (fun v a => by rw [ms_15]; rfl) (fun r37 J4 m4 o4 f4 X4 r4 => ⟨r37, J4, L, R, rfl, ?_⟩)
    · obtain ⟨-, -, -, -, -, -, -, y8⟩ := e3 t' 8 g' em
      obtain ⟨a, RL, ea'⟩ := y8 a1 eo
      subst ea'
      exact x_pend (k := 3) hT f13 RL tc b0 (by omega) (by rw [nk3]; decide) (Or.inl ⟨rfl, rfl⟩) rfl (fun _ => rfl) (fun _ => rfl) rfl uc ku
    have f14 : xfr I J4 := xfr_tr f13 f4
    have times : ∀ a, rL K V W s t a I L → ((nm_add (V (t + 1)) (u2 a 2 7 3)).1 12 2).toInt = (((I 122 s).toNatClampNeg : Nat) : Int) + 1 := fun a RL => by
      have ef : a.1 12 2 = I 122 s := RL.2.1.2.2.1
      obtain ⟨A1, A2, A3⟩ := nmA (v := V (t + 1)) (a := u2 a 2 7 3) (k := 3) (mx := 10) (f := 2) (u2_eq _ _ _ _) (by decide) (fun b => by unfold nb_new; rw [if_neg (by decide), if_neg (by decide), if_pos (by decide)]) (by rw [u2_ne _ _ _ _ (by omega), ef, show (10 : Int32).toInt = 10 from by decide]; exact hr) (by decide)
      rw [A3 12 2 (by decide) (by decide) (by omega), if_pos ⟨rfl, rfl⟩, u2_ne _ _ _ _ (by omega), ef, k0]
      exact ml_in1 (by omega)
    have e4 : ∀ t' s' g', m4 = some (t', s', g') → t' = t + 4 ∧ s' = 9 ∧ g' = gc_st 0 3 g ∧ t + 1 < c ∧ t + 1 < 500 ∧ K (t + 1) = 15 ∧ (J1 107 11).toInt = ((t + 1 : Nat) : Int) ∧ ∀ a2, o4 = some a2 → ∃ a, rL K V W s t a I L ∧ a2 = u2 (nm_add (V (t + 1)) (u2 a 2 7 3)) 14 (I 122 s).toNatClampNeg r37 := fun t' s' g' em => by
      rcases r4 with ⟨r4, -⟩ | ⟨t4, g4, em4, v1, v2, v3, v4, v5, v6⟩
      · rw [r4] at em; cases em
      · rw [v4] at em
        obtain ⟨y1, y2, y3⟩ := mo_i em
        obtain ⟨z1, z2, z3, z4, z5, z6, z7, z8⟩ := e3 t4 8 g4 em4
        refine ⟨by omega, by rw [← y2]; decide +kernel, by rw [← y3]; exact z3, z4, z5, z6, z7, fun a2 ea => ?_⟩
        rcases v6 with v6 | ⟨-, v6⟩
        · rw [v6] at ea; cases ea
        obtain ⟨a3, ea1, ea1'⟩ := om (Or.inr v6) ea
        obtain ⟨a, RL, ea'⟩ := z8 a3 ea1
        refine ⟨a, RL, ?_⟩
        rw [ea1', ea']
        exact pl_last_s (times a RL) (by omega)
    refine x_mustT (i := 5) (s0 := 9) [] hT rfl (by decide +kernel) (fun v a => rfl) X4 (fun t' s' g' em => ⟨(e4 t' s' g' em).2.1, fun j hj => absurd hj List.not_mem_nil⟩) (fun J5 m5 f5 X5 r5 => ⟨J5, L, R, rfl, ?_⟩)
    have f15 : xfr I J5 := xfr_tr f14 f5
    have h20 : J5 107 20 = I 107 20 := f15 107 20 (by omega)
    have cm5 : cntm J5 = cntm I := by unfold cntm; rw [h20]
    have e5 : ∀ t' s' g', m5 = some (t', s', g') → t' = t + 5 ∧ s' = 10 ∧ g' = gc_st 0 3 g ∧ t + 1 < c ∧ t + 1 < 500 ∧ K (t + 1) = 15 ∧ (J1 107 11).toInt = ((t + 1 : Nat) : Int) ∧ ∀ a2, o4 = some a2 → ∃ a, rL K V W s t a I L ∧ a2 = u2 (nm_add (V (t + 1)) (u2 a 2 7 3)) 14 (I 122 s).toNatClampNeg r37 := fun t' s' g' em => by
      rcases r5 with r5 | ⟨t5, g5, em5, v1, v2, v3, v4⟩
      · rw [r5] at em; cases em
      · rw [v4] at em
        obtain ⟨y1, y2, y3⟩ := mo_i em
        obtain ⟨z1, z2, z3, z4⟩ := e4 t5 9 g5 em5
        exact ⟨by omega, by rw [← y2]; decide +kernel, by rw [← y3]; exact z3, z4⟩
    refine x_knownS (kd := 1) (s0 := 10) hT (by decide +kernel) X5 (fun t' s' g' em => (e5 t' s' g' em).2.1) (by rw [h20]; exact b0) (by rw [h20]; exact b1) (fun i hi => by rw [f15 117 i (by omega)]; exact hb i (by rw [← cm5]; exact hi)) (fun t' g' a1 em eo uc ku => ?_) (fun r a => pl_last 15 r a) (fun v a => by rw [ms_15]; rfl) (fun r45 J6 m6 o6 f6 X6 r6 => ⟨r45, J6, L, R, rfl, ?_⟩)
    · obtain ⟨-, -, -, -, -, -, -, y8⟩ := e5 t' 10 g' em
      obtain ⟨a, RL, ea'⟩ := y8 a1 eo
      subst ea'
      exact x_pend (k := 3) (v := V (t + 1)) hT f15 RL tc b0 (by omega) (by rw [nk3]; decide) (Or.inr (Or.inl ⟨rfl, rfl⟩)) rfl (fun _ => u2_ne _ _ _ _ (by omega)) (fun _ => u2_ne _ _ _ _ (by omega)) (u2_ne _ _ _ _ (by omega)) uc ku
    have f16 : xfr I J6 := xfr_tr f15 f6
    have e6 : ∀ t' s' g', m6 = some (t', s', g') → t' = t + 6 ∧ s' = 2 ∧ g' = gc_st 0 3 g ∧ t + 1 < c ∧ t + 1 < 500 ∧ K (t + 1) = 15 ∧ (J1 107 11).toInt = ((t + 1 : Nat) : Int) ∧ ∀ a2, o6 = some a2 → ∃ a, rL K V W s t a I L ∧ a2 = u2 (u2 (nm_add (V (t + 1)) (u2 a 2 7 3)) 14 (I 122 s).toNatClampNeg r37) 15 (I 122 s).toNatClampNeg r45 := fun t' s' g' em => by
      rcases r6 with ⟨r6, -⟩ | ⟨t6, g6, em6, v1, v2, v3, v4, v5, v6⟩
      · rw [r6] at em; cases em
      · rw [v4] at em
        obtain ⟨y1, y2, y3⟩ := mo_i em
        obtain ⟨z1, z2, z3, z4, z5, z6, z7, z8⟩ := e5 t6 10 g6 em6
        refine ⟨by omega, by rw [← y2]; decide +kernel, by rw [← y3]; exact z3, z4, z5, z6, z7, fun a2 ea => ?_⟩
        rcases v6 with v6 | ⟨-, v6⟩
        · rw [v6] at ea; cases ea
        obtain ⟨a3, ea1, ea1'⟩ := om (Or.inr v6) ea
        obtain ⟨a, RL, ea'⟩ := z8 a3 ea1
        refine ⟨a, RL, ?_⟩
        rw [ea1', ea']
        exact pl_last_s (by rw [u2_ne _ _ _ _ (by omega)]; exact times a RL) (by omega)
    refine x_mustT (i := 17) (s0 := 2) [] hT rfl (by decide +kernel) (fun v a => rfl) X6 (fun t' s' g' em => ⟨(e6 t' s' g' em).2.1, fun j hj => absurd hj List.not_mem_nil⟩) (fun J7 m7 f7 X7 r7 => ⟨J7, L, R, rfl, fun z => ?_, fun z => ?_⟩)
    · have z := PS_le0 X7.1 z
      rcases r7 with r7 | ⟨t7, g7, em7, v1, v2, v3, v4⟩
      · rw [r7] at X7; exact absurd z (PS_no X7.1)
      obtain ⟨y1, y2, y3, y4, y5, y6, y7, y8⟩ := e6 t7 2 g7 em7
      refine x_time (t2 := t + 1) (t3 := t7 + 1) hT hls hm hI hG hr hX.1.1 (xfr_tr f16 f7) X7 v4 y3 (by omega) (by omega) y4 y5 y6 y7 q9 (fun a' ea => ?_) h
      obtain ⟨a, RL, ea'⟩ := y8 a' ea
      subst ea'
      refine ⟨a, RL, rfl, fun p j hp => ?_⟩
      by_cases c1 : p = 14 ∧ j = (I 122 s).toNatClampNeg
      · rw [if_pos c1, c1.1, c1.2, u2_ne _ _ _ _ (by omega), u2_eq]
      · rw [if_neg c1]
        by_cases c2 : p = 15 ∧ j = (I 122 s).toNatClampNeg
        · rw [if_pos c2, c2.1, c2.2, u2_eq]
        · rw [if_neg c2, u2_ne _ _ _ _ (by omega), u2_ne _ _ _ _ (by omega)]
    · have nz : ¬ J7 107 13 = 0 := fun y => z (by rw [y]; decide)
      have em := PS_n0 X7.1 nz
      exact h J7 L ⟨m7, o6, X7, Or.inl em⟩
end
