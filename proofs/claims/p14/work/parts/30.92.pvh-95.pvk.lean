section
/-! tells of the reference, exact: way -/
theorem rL_a {K : Nat → Int32} {V W : Nat → Int64} {s t t' : Nat} {a a' : sg} {I : sm_I} {L : sm_L} (h : rL K V W s t a I L) (ht : t ≤ t') (b34 : (I 134 s).toInt ≤ 4) (b25 : (I 125 s).toInt ≤ 10) (hs : s ≤ 1) (ha : ∀ p j, 10 ≤ p → a'.1 p j = a.1 p j) (h5 : a'.1 2 5 = a.1 2 5) (h2 : a'.2 = a.2) : rL K V W s t' a' I L := by
  obtain ⟨⟨R5, RN⟩, RC, RT, RO, RW, RS, RQ, RB⟩ := h
  refine ⟨⟨by rw [h5]; exact R5, rN_cg RN t' ht (fun i _ => ⟨by rw [h2], ha 10 i (by decide), ha 11 i (by decide)⟩) (fun i _ => ⟨rfl, rfl, rfl⟩)⟩, ?_, rT_cg RT (fun c j hc => ha c j (by omega)) (fun _ _ _ => rfl), rO_cg RO b34 (fun c j h1 h2 => ha c j (by omega)) (Int.le_refl _) rfl (fun _ => rfl) (fun _ _ _ _ _ _ => rfl), rW_cg RW (fun j => ha 13 j (by decide)) (fun _ => rfl), rS_cg RS b25 hs (fun c j hc => ha c j (by omega)) (fun _ _ _ => rfl), rQ_cg RQ (fun c j h1 h2 => ha c j (by omega)) (fun _ _ _ => rfl), RB⟩
  unfold rC
  rw [ha 12 0 (by decide), ha 12 1 (by decide), ha 12 2 (by decide), ha 12 3 (by decide), ha 12 4 (by decide)]
  exact RC
/-- what is looked up has its bounds -/
theorem x_fb {I : sm_I} {L : sm_L} {R : sm_R} (hm : en_mem ml_tb mlX (xLay, I, L, R)) (L' : sm_L) (nm : Int64) : (-1 ≤ (fdm I L' nm 0).toInt ∧ (fdm I L' nm 0).toInt ≤ 3) ∧ (-1 ≤ (fdm I L' nm 1).toInt ∧ (fdm I L' nm 1).toInt ≤ 5) ∧ (-1 ≤ (fdm I L' nm 2).toInt ∧ (fdm I L' nm 2).toInt ≤ 9) := by
  have b := ml_nm hm
  have n : ((cntm I : Nat) : Int) = (I 107 20).toInt := kl_nat b.1
  have rw_ : ∀ j, j < cntm I → (0 ≤ (I 117 j).toInt ∧ (I 117 j).toInt ≤ 9) ∧ ((I 116 j).toInt = 0 → (I 117 j).toInt ≤ 3) ∧ ((I 116 j).toInt = 1 → (I 117 j).toInt ≤ 5) := fun j hj => by
    have q : 0 ≤ (I 117 j).toInt ∧ (I 117 j).toInt ≤ 9 := ml_row hm (p := 117) (n := 50) (q := (0, 9)) (fun _ => rfl) j (by omega)
    have N := hm.2.2.2.2.2.2.2.2.1 j (by omega)
    exact ⟨q, N⟩
  have z0 : (0 : Int32).toInt = 0 := by decide
  have z1 : (1 : Int32).toInt = 1 := by decide
  refine ⟨?_, ?_, ?_⟩
  · refine fm_b (Q := fun r => -1 ≤ r.toInt ∧ r.toInt ≤ 3) (by decide) (cntm I) 0 (fun j _ hj e => ?_)
    have q := rw_ j (by omega)
    have := q.2.1 (by rw [e]; exact z0)
    omega
  · refine fm_b (Q := fun r => -1 ≤ r.toInt ∧ r.toInt ≤ 5) (by decide) (cntm I) 0 (fun j _ hj e => ?_)
    have q := rw_ j (by omega)
    have := q.2.2 (by rw [e]; exact z1)
    omega
  · refine fm_b (Q := fun r => -1 ≤ r.toInt ∧ r.toInt ≤ 9) (by decide) (cntm I) 0 (fun j _ hj e => ?_)
    have q := rw_ j (by omega)
    omega
theorem ms_15 (s : Int32) (v : Int64) (a : sg) : ms s 15 v a = tk_take s 15 v a := by unfold ms; rw [if_neg (fun z => absurd z.1 (by decide))]
theorem ms_16 {s : Int32} {v : Int64} {a : sg} (h : lg_cmp v 1440 ≤ 0) : ms s 16 v a = tk_take s 16 v a := by unfold ms; rw [if_neg (fun z => z.2 h)]
section
variable {K : Nat → Int32} {P : Nat → Nat} {V W : Nat → Int64} {N : Nat → Int32} {c : Nat} {R0 : Option (Int32 × Nat)} {M0 : Option (Int32 × Nat) × sg}
variable {S : sm_C} {d : Nat} {Φ : sm_Z → Prop} {I : sm_I} {L : sm_L} {R : sm_R} {o : Option sg} {l s t : Nat} {g : gc}
/-- an index of a way -/
theorem x_wi {s : Nat} {x y n : Int32} {z : Int32} (hs : s ≤ 1) (hz : z.toInt = s) (x0 : 0 ≤ x.toInt) (x1 : x.toInt ≤ 5) (y0 : 0 ≤ y.toInt) (y1 : y.toInt ≤ 5) (en : n = ((((36 : Int32) * z) + ((6 : Int32) * x)) + y)) : vp_in n 72 ∧ ∃ i : Nat, i < 36 ∧ n.toNatClampNeg = 36 * s + i ∧ (x * 6 + y).toNatClampNeg = i ∧ (i : Int) = 6 * x.toInt + y.toInt := by
  have c6 : (6 : Int32).toInt = 6 := by decide
  have q1 : ((36 : Int32) * z).toInt = 36 * (s : Int) := ml_mu (by decide) hz (by omega) (by omega)
  have q2 : ((6 : Int32) * x).toInt = 6 * x.toInt := ml_mu (by decide) rfl (by omega) (by omega)
  have q3 : (((36 : Int32) * z) + ((6 : Int32) * x)).toInt = 36 * (s : Int) + 6 * x.toInt := ml_ad q1 q2 (by omega) (by omega)
  have q4 : n.toInt = 36 * (s : Int) + 6 * x.toInt + y.toInt := by rw [en]; exact ml_ad q3 rfl (by omega) (by omega)
  have m : (x * 6).toInt = x.toInt * 6 := ml_mu rfl c6 (by omega) (by omega)
  have p : (x * 6 + y).toInt = x.toInt * 6 + y.toInt := ml_ad m rfl (by omega) (by omega)
  have n1 := kl_nat (i := n) (by omega)
  have n2 := kl_nat (i := x * 6 + y) (by omega)
  exact ⟨kl_in (by omega) (by omega), (x * 6 + y).toNatClampNeg, by omega, by omega, rfl, by omega⟩
theorem x_tellWay4 {m : mo} {o1 : Option sg} {I1 : sm_I} {x1 x3 : Int32} (hT : TS K P V W N c) (hls : ml_ls l s) (hm : en_mem ml_tb mlX (xLay, I, L, R)) (hI : ml_TI l s I) (hG : rG s g I) (hr : (I 120 s).toInt < 12) (f1 : xfr I I1) (X1 : PX K P V W N c R0 M0 m o1 I1 L) (r1 : ∀ t' s' g', m = some (t', s', g') → t < t' ∧ s' = 5 ∧ g' = gc_st 0 2 g) (b1 : m ≠ none → -1 ≤ x1.toInt ∧ x1.toInt ≤ 5) (b3 : m ≠ none → -1 ≤ x3.toInt ∧ x3.toInt ≤ 5) (ho : ∀ a1, o1 = some a1 → ¬ x1 = -1 ∧ ¬ x3 = -1 ∧ ¬ x1 = x3 ∧ ∃ a, rL K V W s t a I L ∧ a1 = u2 (u2 (u2 a 2 7 2) 2 8 x1) 2 9 x3) (h : ∀ (J : sm_I) (L' : sm_L), TP K P V W N c R0 M0 s t J L' → Φ (none, (xLay, J, L', kM R))) : sm_wp sm_P S (d + 4) 203 4 [.ref 107, .int x1, .int x3] [] (xLay, I1, L, kM R) (0, 0) Φ := by
  obtain ⟨hl1, hs1⟩ := ml_l1 hls
  obtain ⟨sn, sv⟩ := ml_sn hls hI
  have bc := ml_cs hs1 hm
  have b34 := x_34 hs1 hm
  have b120 : 0 ≤ (I 120 s).toInt ∧ (I 120 s).toInt ≤ 12 := ml_row hm (p := 120) (n := 2) (q := (0, 12)) (fun _ => rfl) s (by omega)
  refine u_X12_tellWay_4 (x_numU (s0 := 5) hT (by decide +kernel) en_po (fun v a hv => by rw [ms_16 hv]; rfl) X1 (fun t' s' g' em => (r1 t' s' g' em).2.1) (fun r J2 m2 o2 f2 X2 r2 => ⟨r, J2, L, R, rfl, ?_⟩))
  have e2 : ∀ t' s' g', m2 = some (t', s', g') → t < t' ∧ s' = 2 ∧ g' = gc_st 0 2 g ∧ m ≠ none ∧ (o2 = none ∨ 0 ≤ r.toInt ∧ r.toInt ≤ 1440 ∧ o2 = o1.map (en_po r)) := fun t' s' g' em => by
    rcases r2 with r2 | ⟨t2, g2, em2, q1, q2, q3, q4⟩
    · rw [r2] at em; cases em
    · rw [q3] at em
      obtain ⟨y1, y2, y3⟩ := mo_i em
      obtain ⟨z1, z2, z3⟩ := r1 t2 5 g2 em2
      exact ⟨by omega, by rw [← y2]; decide +kernel, by rw [← y3]; exact z3, (by rw [em2]; exact Option.some_ne_none _), q4⟩
  refine x_mustT (i := 17) (s0 := 2) [] hT rfl (by decide +kernel) (fun v a => rfl) X2 (fun t' s' g' em => ⟨(e2 t' s' g' em).2.1, fun j hj => absurd hj List.not_mem_nil⟩) (fun J3 m3 f3 X3 r3 => ⟨J3, L, R, rfl, fun z => ?_, fun z => ?_⟩)
  · have z := PS_le0 X3.1 z
    have n3 : m3 ≠ none := fun q => by rw [q] at X3; exact PS_no X3.1 z
    rcases r3 with r3 | ⟨t3, g3, em3, v1, v2, v3, v4⟩
    · exact absurd r3 n3
    obtain ⟨y1, y2, y3, y4, y5⟩ := e2 t3 2 g3 em3
    have ft : xfr I J3 := xfr_tr f1 (xfr_tr f2 f3)
    have e19 : J3 107 19 = I 107 19 := ft 107 19 (by omega)
    have e4 : fw 2 (Int32.ofNat 17) = 0 := by decide +kernel
    have b1 := b1 y4
    have b3 := b3 y4
    rw [e19, sn]
    refine ⟨sv, fun n9 e9 => ⟨sv, fun J10 e10 => ?_⟩⟩
    have o10 : ∀ p j, ¬ (p = 120 ∧ j = s) → p ≠ 107 → J10 p j = I p j := fun p j h1 h2 => by rw [e10, en_up_ne _ _ _ _ h1, ft p j (by omega)]
    have X10 : PX K P V W N c R0 M0 m3 o2 J10 L := by rw [e10]; exact PX_up (by decide) (by omega) X3
    have r10 : (J10 120 s).toInt = (I 120 s).toInt + 1 := by rw [e10, en_up_eq, e9, ft 120 s (by omega)]; exact ml_in1 (by omega)
    have s10 : J10 107 19 = I 107 19 := by rw [e10, en_up_ne _ _ _ _ (by omega)]; exact e19
    have fin : ∀ J : sm_I, (∀ p j, p ≠ 121 → J p j = J10 p j) → PX K P V W N c R0 M0 m3 o2 J L → (∀ a', o2 = some a' → rW s a' J) → Φ (none, (xLay, J, L, kM R)) := by
      intro J oJ XJ hW
      refine h J L ⟨m3, o2, XJ, Or.inr ⟨t3 + 1, g3, by rw [v4, e4], by omega, ?_, fun a' ea => ?_⟩⟩
      · rw [y3]
        unfold rG
        obtain ⟨G1, G2, G3, G4, G5, G6, G7⟩ := hG
        refine ⟨?_, ?_, ?_, ?_, ?_, ?_, ?_⟩
        · rw [oJ _ _ (by decide), o10 118 s (by omega) (by decide), gc0_t (by decide), if_neg (by decide)]; exact G1
        · rw [oJ _ _ (by decide), o10 119 s (by omega) (by decide), gc0_t (by decide), if_neg (by decide)]; exact G2
        · rw [oJ _ _ (by decide), r10, gc0_t (by decide), if_pos (by decide)]; omega
        · rw [oJ _ _ (by decide), o10 122 s (by omega) (by decide), gc0_t (by decide), if_neg (by decide)]; exact G4
        · rw [oJ _ _ (by decide), o10 125 s (by omega) (by decide), gc0_t (by decide), if_neg (by decide)]; exact G5
        · rw [oJ _ _ (by decide), o10 134 s (by omega) (by decide), gc0_t (by decide), if_neg (by decide)]; exact G6
        · rw [oJ _ _ (by decide), o10 136 s (by omega) (by decide), gc0_t (by decide), if_neg (by decide)]; exact G7
      · have hw := hW a' ea
        rcases y5 with y5 | ⟨y6, y7, y5⟩
        · rw [y5] at ea; cases ea
        obtain ⟨a1, ea1, ea2⟩ := om (Or.inr y5) ea
        obtain ⟨n1, n2, n3', a, RL, ea4⟩ := ho a1 ea1
        subst ea2
        subst ea4
        have A : ∀ p j, p ≠ 2 → p ≠ 13 → (en_po r (u2 (u2 (u2 a 2 7 2) 2 8 x1) 2 9 x3)).1 p j = a.1 p j := fun p j h1 h2 => by
          have base : (u2 (u2 (u2 a 2 7 2) 2 8 x1) 2 9 x3).1 p j = a.1 p j := by rw [u2_ne _ _ _ _ (by omega), u2_ne _ _ _ _ (by omega), u2_ne _ _ _ _ (by omega)]
          unfold en_po
          rw [if_pos (by rw [u2_ne _ _ _ _ (by omega), u2_ne _ _ _ _ (by omega), u2_eq])]
          unfold ad_path ad_w
          repeat' split
          all_goals first | exact base | (rw [u2_ne _ _ _ _ (by omega), u2_ne _ _ _ _ (by omega)]; exact base)
        have A2 : (en_po r (u2 (u2 (u2 a 2 7 2) 2 8 x1) 2 9 x3)).2 = a.2 := by
          unfold en_po
          rw [if_pos (by rw [u2_ne _ _ _ _ (by omega), u2_ne _ _ _ _ (by omega), u2_eq])]
          unfold ad_path ad_w
          repeat' split
          all_goals rfl
        have A5 : (en_po r (u2 (u2 (u2 a 2 7 2) 2 8 x1) 2 9 x3)).1 2 5 = a.1 2 5 := by
          have base : (u2 (u2 (u2 a 2 7 2) 2 8 x1) 2 9 x3).1 2 5 = a.1 2 5 := by rw [u2_ne _ _ _ _ (by omega), u2_ne _ _ _ _ (by omega), u2_ne _ _ _ _ (by omega)]
          unfold en_po
          rw [if_pos (by rw [u2_ne _ _ _ _ (by omega), u2_ne _ _ _ _ (by omega), u2_eq])]
          unfold ad_path ad_w
          repeat' split
          all_goals first | exact base | (rw [u2_ne _ _ _ _ (by omega), u2_ne _ _ _ _ (by omega)]; exact base)
        obtain ⟨⟨R5, RN⟩, RC, RT, RO, RW, RS, RQ, RB⟩ := RL
        have oJI : ∀ p j, p ≠ 121 → p ≠ 120 → p ≠ 107 → J p j = I p j := fun p j h1 h2 h3 => by rw [oJ p j h1, o10 p j (by omega) h3]
        have ec : J 107 20 = I 107 20 := by rw [oJ _ _ (by decide), e10, en_up_ne _ _ _ _ (by omega), ft 107 20 (by omega)]
        refine ⟨⟨by rw [A5, ec]; exact R5, ?_⟩, ?_, rT_cg RT (fun c' j hc => A c' j (by omega) (by omega)) (fun p j hp => oJI p j (by omega) (by omega) (by omega)), rO_cg RO b34.2 (fun c' j h1 h2 => A c' j (by omega) (by omega)) (by rw [oJI 122 s (by decide) (by decide) (by decide)]; exact Int.le_refl _) (oJI 134 s (by decide) (by decide) (by decide)) (fun j => oJI 135 j (by decide) (by decide) (by decide)) (fun p j h1 h2 _ _ => oJI p j (by omega) (by omega) (by omega)), hw, rS_cg RS bc.2.2.2.1.2 hs1 (fun c' j hc => A c' j (by omega) (by omega)) (fun p j hp => oJI p j (by omega) (by omega) (by omega)), rQ_cg RQ (fun c' j h1 h2 => A c' j (by omega) (by omega)) (fun p j hp => oJI p j (by omega) (by omega) (by omega)), rB_cg RB ec (fun i _ => ⟨oJI 116 i (by decide) (by decide) (by decide), oJI 117 i (by decide) (by decide) (by decide)⟩) (by rw [oJI 122 s (by decide) (by decide) (by decide)]; exact Int.le_refl _)⟩
        · have : cntm J = cntm I := by unfold cntm; rw [ec]
          rw [this]
          exact rN_cg RN (t3 + 1) (by omega) (fun i _ => ⟨by rw [A2], A 10 i (by decide) (by decide), A 11 i (by decide) (by decide)⟩) (fun i _ => ⟨rfl, oJI 116 i (by decide) (by decide) (by decide), oJI 117 i (by decide) (by decide) (by decide)⟩)
        · unfold rC
          rw [A 12 0 (by decide) (by decide), A 12 1 (by decide) (by decide), A 12 2 (by decide) (by decide), A 12 3 (by decide) (by decide), A 12 4 (by decide) (by decide), oJI 118 s (by decide) (by decide) (by decide), oJI 119 s (by decide) (by decide) (by decide), oJI 122 s (by decide) (by decide) (by decide), oJI 125 s (by decide) (by decide) (by decide), oJI 136 s (by decide) (by decide) (by decide)]
          exact RC
    have noW : (x1 = -1 ∨ x3 = -1 ∨ x1 = x3) → Φ (none, (xLay, J10, L, kM R)) := fun q => fin J10 (fun _ _ _ => rfl) X10 (fun a' ea => by
      exfalso
      rcases y5 with y5 | ⟨y6, y7, y5⟩
      · rw [y5] at ea; cases ea
      obtain ⟨a1, ea1, ea2⟩ := om (Or.inr y5) ea
      obtain ⟨n1, n2, n3', -⟩ := ho a1 ea1
      rcases q with q | q | q
      · exact n1 q
      · exact n2 q
      · exact n3' q)
    refine ⟨fun q => noW (Or.inl q), fun q1 => ⟨fun q => noW (Or.inr (Or.inl q)), fun q2 => ⟨fun q => noW (Or.inr (Or.inr q)), fun q3 n11 e11 => ?_⟩⟩⟩
    have d1 := ml_m1 q1
    have d3 := ml_m1 q2
    rw [s10] at e11
    obtain ⟨w1, i, i1, i2, i3, i4⟩ := x_wi hs1 hI.2.1 (by omega) b1.2 (by omega) b3.2 e11
    have e121 : J10 121 n11.toNatClampNeg = I 121 (36 * s + i) := by rw [i2]; exact o10 _ _ (by omega) (by decide)
    have cz : (-2 : Int32) < 0 := by decide
    have two : ∀ J12 : sm_I, J12 = sm_up J10 121 n11.toNatClampNeg r → (∀ a, rW s a I → 0 ≤ r.toInt → en_po r (u2 (u2 (u2 a 2 7 2) 2 8 x1) 2 9 x3) = ad_w x1 x3 r (u2 (u2 (u2 a 2 7 2) 2 8 x1) 2 9 x3)) → ∀ n13 : Int32, n13 = ((((36 : Int32) * (J12 107 19)) + ((6 : Int32) * x3)) + x1) → (vp_in n13 72) ∧ ∀ J14 : sm_I, J14 = (sm_up J12 121 n13.toNatClampNeg r) → Φ (none, (xLay, J14, L, (kM R))) := by
      intro J12 e12 hpo n13 e13
      rw [e12, en_up_ne _ _ _ _ (by omega), s10] at e13
      obtain ⟨w2, k, k1, k2, k3, k4⟩ := x_wi hs1 hI.2.1 (by omega) b3.2 (by omega) b1.2 e13
      refine ⟨w2, fun J14 e14 => fin J14 (fun p j hp => by rw [e14, en_up_ne _ _ _ _ (by omega), e12, en_up_ne _ _ _ _ (by omega)]) (by rw [e14, e12]; exact PX_up (by decide) (by omega) (PX_up (by decide) (by omega) X10)) (fun a' ea => ?_)⟩
      rcases y5 with y5 | ⟨y6, y7, y5⟩
      · rw [y5] at ea; cases ea
      obtain ⟨a1, ea1, ea2⟩ := om (Or.inr y5) ea
      obtain ⟨n1, n2, n3', a, RL, ea4⟩ := ho a1 ea1
      subst ea2
      subst ea4
      have RW := RL.2.2.2.2.1
      rw [hpo a RW y6]
      intro j hj
      unfold ad_w
      rw [i3, k3]
      by_cases cj : j = k
      · right
        rw [cj, u2_eq, e14, k2, en_up_eq]; exact ⟨y6, rfl⟩
      · rw [u2_ne _ _ _ _ (by omega), e14, k2, en_up_ne _ _ _ _ (by omega), e12, i2]
        by_cases ci : j = i
        · right
          rw [ci, u2_eq, en_up_eq]; exact ⟨y6, rfl⟩
        · rw [u2_ne _ _ _ _ (by omega), en_up_ne _ _ _ _ (by omega), u2_ne _ _ _ _ (by omega), u2_ne _ _ _ _ (by omega), u2_ne _ _ _ _ (by omega), o10 121 _ (by omega) (by decide)]
          exact RW j hj
    have po : ∀ a, rW s a I → en_po r (u2 (u2 (u2 a 2 7 2) 2 8 x1) 2 9 x3) = (if a.1 13 i < 0 then ad_w x1 x3 r (u2 (u2 (u2 a 2 7 2) 2 8 x1) 2 9 x3) else if a.1 13 i ≤ r then u2 (u2 (u2 a 2 7 2) 2 8 x1) 2 9 x3 else ad_w x1 x3 r (u2 (u2 (u2 a 2 7 2) 2 8 x1) 2 9 x3)) := by
      intro a _
      have c6 : (6 : Int32).toInt = 6 := by decide
      have k8 : (u2 (u2 (u2 a 2 7 2) 2 8 x1) 2 9 x3).1 2 8 = x1 := by rw [u2_ne _ _ _ _ (by omega), u2_eq]
      have k9 : (u2 (u2 (u2 a 2 7 2) 2 8 x1) 2 9 x3).1 2 9 = x3 := u2_eq _ _ _ _
      have k13 : (u2 (u2 (u2 a 2 7 2) 2 8 x1) 2 9 x3).1 13 i = a.1 13 i := by rw [u2_ne _ _ _ _ (by omega), u2_ne _ _ _ _ (by omega), u2_ne _ _ _ _ (by omega)]
      unfold en_po
      rw [if_pos (by rw [u2_ne _ _ _ _ (by omega), u2_ne _ _ _ _ (by omega), u2_eq]), k8, k9]
      unfold ad_path
      rw [if_neg (fun q => by rw [kl_lt, kl_0] at q; omega), if_neg (fun q => by rw [kl_le, c6] at q; omega), if_neg (fun q => by rw [kl_lt, kl_0] at q; omega), if_pos (by rw [kl_lt, c6]; omega), i3, k13]
    refine ⟨w1, fun q => ⟨w1, fun J12 e12 => two J12 e12 (fun a RW y6 => ?_)⟩, fun q => ⟨w1, fun q4 => ⟨w1, fun J12 e12 => two J12 e12 (fun a RW y6 => ?_)⟩, fun q4 => ?_⟩⟩
    · rw [po a RW]
      rw [e121] at q
      rcases RW i i1 with y | y
      · rw [if_pos (by rw [y.2]; exact cz)]
      · rw [q] at y
        exact absurd y.1 (by decide)
    · rw [po a RW]
      rw [e121] at q q4
      rcases RW i i1 with y | y
      · exact absurd y.1 q
      · rw [kl_lt] at q4
        rw [if_neg (fun p => by rw [y.2, kl_lt, kl_0] at p; omega), if_neg (fun p => by rw [y.2, kl_le] at p; omega)]
    · refine fin J10 (fun _ _ _ => rfl) X10 (fun a' ea => ?_)
      rcases y5 with y5 | ⟨y6, y7, y5⟩
      · rw [y5] at ea; cases ea
      obtain ⟨a1, ea1, ea2⟩ := om (Or.inr y5) ea
      obtain ⟨n1, n2, n3', a, RL, ea4⟩ := ho a1 ea1
      subst ea2
      subst ea4
      have RW := RL.2.2.2.2.1
      rw [po a RW]
      rw [e121] at q q4
      have q4 := kl_nlt q4
      rcases RW i i1 with y | y
      · exact absurd y.1 q
      · rw [if_neg (fun p => by rw [y.2, kl_lt, kl_0] at p; omega), if_pos (by rw [y.2, kl_le]; exact q4)]
        refine rW_cg RW (fun j => by rw [u2_ne _ _ _ _ (by omega), u2_ne _ _ _ _ (by omega), u2_ne _ _ _ _ (by omega)]) (fun j => o10 121 j (by omega) (by decide))
  · have nz : ¬ J3 107 13 = 0 := fun y => z (by rw [y]; decide)
    have em := PS_n0 X3.1 nz
    exact h J3 L ⟨m3, o2, X3, Or.inl em⟩
theorem x_tellWay (hT : TS K P V W N c) (hls : ml_ls l s) (hm : en_mem ml_tb mlX (xLay, I, L, R)) (hI : ml_TI l s I) (hX : PX K P V W N c R0 M0 (some (t, 0, g)) o I L) (hG : rG s g I) (hR : ∀ a, o = some a → rL K V W s t a I L) (ek : K t = 2) (hr : (I 120 s).toInt < 12) (h : ∀ (J : sm_I) (L' : sm_L), TP K P V W N c R0 M0 s t J L' → Φ (none, (xLay, J, L', kM R))) : sm_wp sm_P S (d + 4) 203 0 [.ref 107] [] (xLay, I, L, kM R) (0, 0) Φ := by
  obtain ⟨hl1, hs1⟩ := ml_l1 hls
  have bc := ml_cs hs1 hm
  have b34 := x_34 hs1 hm
  obtain ⟨⟨b0, b1⟩, hb⟩ := x_b117 hm
  have tc : t ≤ c := hX.1.2.2.2.2.2.1
  have ok : gc_ok 0 2 g = true := by
    unfold gc_ok
    rw [if_pos ⟨rfl, by decide⟩]
    refine decide_eq_true ?_
    have := hG.2.2.1
    rw [show gw 2 = 2 from by decide, show (sm_room.getD 2 0).toInt = 12 from by decide]
    omega
  refine u_X12_tellWay_0 (x_go0 (k := 2) hT ek (by decide) (by decide) (by decide +kernel) (by decide) (by decide) ok hX (fun J1 m1 f1 X1 r1 => ⟨J1, L, R, rfl, ?_⟩))
  have e1 : ∀ t' s' g', m1 = some (t', s', g') → t' = t + 1 ∧ s' = 3 ∧ g' = gc_st 0 2 g := fun t' s' g' em => by
    rcases r1 with r1 | ⟨q1, q2, q3⟩
    · rw [r1] at em; cases em
    · rw [q3] at em
      obtain ⟨y1, y2, y3⟩ := mo_i em
      exact ⟨y1.symm, by rw [← y2]; decide +kernel, y3.symm⟩
  have c20 : J1 107 20 = I 107 20 := f1 107 20 (by omega)
  have cm1 : cntm J1 = cntm I := by unfold cntm; rw [c20]
  refine x_knownS (kd := 1) (s0 := 3) hT (by decide +kernel) X1 (fun t' s' g' em => (e1 t' s' g' em).2.1) (by rw [c20]; exact b0) (by rw [c20]; exact b1) (fun i hi => by rw [f1 117 i (by omega)]; exact hb i (by rw [← cm1]; exact hi)) (fun t' g' a1 em eo uc ku => ?_) (fun r a => u2 a 2 8 r) (fun v a => by rw [ms_15]; rfl) (fun r8 J2 m2 o2 f2 X2 r2 => ⟨r8, J2, L, R, rfl, ?_⟩)
  · obtain ⟨a, ea3, ea4⟩ := om (Or.inr rfl) eo
    subst ea4
    rw [fdm_cg f1]
    have RL := rL_a (hR a ea3) (Nat.le_refl t) b34.2 bc.2.2.2.1.2 hs1 (a' := u2 a 2 7 2) (fun p j hp => u2_ne _ _ _ _ (by omega)) (u2_ne _ _ _ _ (by omega)) rfl
    exact rN_fd hT RL.1.2 tc (Or.inr (Or.inl ⟨rfl, rfl⟩)) (Or.inl (by unfold cnt cntm; rw [RL.1.1])) uc ku
  have f12 : xfr I J2 := xfr_tr f1 f2
  have e2 : ∀ t' s' g', m2 = some (t', s', g') → t' = t + 2 ∧ s' = 4 ∧ g' = gc_st 0 2 g ∧ r8 = fdm I L (W (t + 1)) 1 ∧ (o2 = none ∨ (¬ r8 = -1 ∧ o2 = (o.map (fun a => u2 a 2 7 2)).map (fun a => u2 a 2 8 r8))) := fun t' s' g' em => by
    rcases r2 with ⟨r2, -⟩ | ⟨t2, g2, em2, q1, q2, q3, q4, q5, q6⟩
    · rw [r2] at em; cases em
    · rw [q4] at em
      obtain ⟨y1, y2, y3⟩ := mo_i em
      obtain ⟨z1, z2, z3⟩ := e1 t2 3 g2 em2
      refine ⟨by omega, by rw [← y2]; decide +kernel, by rw [← y3]; exact z3, ?_, q6⟩
      rw [q5, fdm_cg f1, z1]
  have d20 : J2 107 20 = I 107 20 := f12 107 20 (by omega)
  have cm2 : cntm J2 = cntm I := by unfold cntm; rw [d20]
  have h11 : ∀ t' s' g', m2 = some (t', s', g') → (J2 107 11).toInt = t' := fun t' s' g' em => by
    have hS := X2.1
    rw [em] at hS
    exact hS.2.2.2.2.1
  refine x_known (kd := 1) (s0 := 4) hT (by decide +kernel) X2 (fun t' s' g' em => (e2 t' s' g' em).2.1) (by rw [d20]; exact b0) (by rw [d20]; exact b1) (fun i hi => by rw [f12 117 i (by omega)]; exact hb i (by rw [← cm2]; exact hi)) (fun t' g' a1 em eo uc ku => ?_) (fun v a q => by rw [ms_15]; show tk_path 4 v a = _; unfold tk_path; rw [if_pos q]) (fun r12 J3 m3 f3 p3 r3 => ⟨r12, J3, L, R, rfl, ?_⟩)
  · obtain ⟨-, -, -, -, q⟩ := e2 t' 4 g' em
    rcases q with q | ⟨q0, q⟩
    · rw [q] at eo; cases eo
    obtain ⟨a2, ea2, ea2'⟩ := om (Or.inr q) eo
    obtain ⟨a, ea3, ea4⟩ := om (Or.inr rfl) ea2
    subst ea4
    subst ea2'
    rw [fdm_cg f12]
    have RL := rL_a (hR a ea3) (Nat.le_refl t) b34.2 bc.2.2.2.1.2 hs1 (a' := u2 (u2 a 2 7 2) 2 8 r8) (fun p j hp => by rw [u2_ne _ _ _ _ (by omega), u2_ne _ _ _ _ (by omega)]) (by rw [u2_ne _ _ _ _ (by omega), u2_ne _ _ _ _ (by omega)]) rfl
    exact rN_fd hT RL.1.2 tc (Or.inr (Or.inl ⟨rfl, rfl⟩)) (Or.inl (by unfold cnt cntm; rw [RL.1.1])) uc ku
  have f13 : xfr I J3 := xfr_tr f12 f3
  have go : ∀ (o3 : Option sg) (J : sm_I), xfr J3 J → PX K P V W N c R0 M0 m3 o3 J L → (∀ a1, o3 = some a1 → ¬ r8 = -1 ∧ ¬ r12 = -1 ∧ ¬ r8 = r12 ∧ ∃ a, rL K V W s t a I L ∧ a1 = u2 (u2 (u2 a 2 7 2) 2 8 r8) 2 9 r12) → sm_wp sm_P S (d + 4) 203 4 [.ref 107, .int r8, .int r12] [] (xLay, J, L, kM R) (0, 0) Φ := by
    intro o3 J fJ XJ ho
    refine x_tellWay4 (o1 := o3) hT hls hm hI hG hr (xfr_tr f13 fJ) XJ (fun t' s' g' em => ?_) (fun nm => ?_) (fun nm => ?_) ho h
    · rcases r3 with ⟨r3, -⟩ | ⟨t3, g3, em3, q1, q2, q3, q4, q5, q6⟩
      · rw [r3] at em; cases em
      · rw [q4] at em
        obtain ⟨y1, y2, y3⟩ := mo_i em
        obtain ⟨z1, z2, z3, -⟩ := e2 t3 4 g3 em3
        exact ⟨by omega, by rw [← y2]; decide +kernel, by rw [← y3]; exact z3⟩
    · rcases r3 with ⟨r3, -⟩ | ⟨t3, g3, em3, q1, q2, q3, q4, q5, q6⟩
      · exact absurd r3 nm
      · obtain ⟨-, -, -, z4, -⟩ := e2 t3 4 g3 em3
        rw [z4]; exact (x_fb hm L _).2.1
    · rcases r3 with ⟨r3, -⟩ | ⟨t3, g3, em3, q1, q2, q3, q4, q5, q6⟩
      · exact absurd r3 nm
      · rw [q5, fdm_cg f12]; exact (x_fb hm L _).2.1
  by_cases z : J3 107 13 = 0
  · rcases r3 with ⟨r3, -⟩ | ⟨t3, g3, em3, q1, q2, q3, q4, q5, q6, q7⟩
    · rw [r3] at p3; exact absurd z (PS_no p3)
    obtain ⟨z1, z2, z3, z4, z5⟩ := e2 t3 4 g3 em3
    have h11' := h11 t3 4 g3 em3
    have n21 := hT.2.2.2.1 t3 q1
    have kfd : ∀ a2, o2 = some a2 → ¬ r8 = -1 ∧ (∃ a, rL K V W s t a I L ∧ a2 = u2 (u2 a 2 7 2) 2 8 r8) ∧ fd a2 (V t3) 1 = r12 := fun a2 ea => by
      rcases z5 with z5 | ⟨z0, z5⟩
      · rw [z5] at ea; cases ea
      obtain ⟨a3, ea2, ea2'⟩ := om (Or.inr z5) ea
      obtain ⟨a, ea3, ea4⟩ := om (Or.inr rfl) ea2
      subst ea4
      subst ea2'
      have RL := rL_a (hR a ea3) (Nat.le_refl t) b34.2 bc.2.2.2.1.2 hs1 (a' := u2 (u2 a 2 7 2) 2 8 r8) (fun p j hp => by rw [u2_ne _ _ _ _ (by omega), u2_ne _ _ _ _ (by omega)]) (by rw [u2_ne _ _ _ _ (by omega), u2_ne _ _ _ _ (by omega)]) rfl
      refine ⟨z0, ⟨a, hR a ea3, rfl⟩, ?_⟩
      rw [q5, fdm_cg f12]
      exact rN_fd hT RL.1.2 tc (Or.inr (Or.inl ⟨rfl, rfl⟩)) (Or.inl (by unfold cnt cntm; rw [RL.1.1])) q1 q3
    have k8 : ∀ a : sg, (u2 (u2 a 2 7 2) 2 8 r8).1 2 8 = r8 := fun a => u2_eq _ _ _ _
    -- nothing wrong here, or it is known that something is
    have same : (r8 = -1 ∨ ¬ r8 = r12) → sm_wp sm_P S (d + 4) 203 4 [.ref 107, .int r8, .int r12] [] (xLay, J3, L, kM R) (0, 0) Φ := fun hq => by
      by_cases r1' : r12 = -1
      · refine go none J3 xfr_rf ⟨p3, by rw [q4]; exact q6 r1'⟩ (fun a1 ea => by cases ea)
      · have pe := q7 r1'
        cases eo : o2 with
        | none =>
          rw [eo] at pe
          exact go none J3 xfr_rf ⟨p3, by rw [q4]; exact PE_w pe (Nat.le_succ t3)⟩ (fun a1 ea => by cases ea)
        | some a2 =>
          rw [eo] at pe
          obtain ⟨y1, ⟨a, RL, ya⟩, y3⟩ := kfd a2 eo
          have hq : ¬ r8 = r12 := hq.elim (fun q => absurd q y1) id
          have em : ms 4 (K t3) (V t3) a2 = (0, u2 a2 2 9 r12) := by
            rw [q3, ms_15]
            show tk_path 4 (V t3) a2 = _
            unfold tk_path
            rw [y3, if_neg r1', if_neg (by decide), if_neg (by rw [ya, k8]; exact hq)]
          have st := PE_st (by omega) n21 em pe
          rw [q3] at st
          exact go (some (u2 a2 2 9 r12)) J3 xfr_rf ⟨p3, by rw [q4]; exact st⟩ (fun a1 ea => by
            have := Option.some.inj ea
            subst this
            exact ⟨y1, r1', hq, a, RL, by rw [ya]⟩)
    refine ⟨fun _ => ⟨fun eq => ⟨fun q => same (Or.inl q), fun q => ?_⟩, fun q => same (Or.inr q)⟩, fun q => absurd z q⟩
    have r1' : ¬ r12 = -1 := by rw [← eq]; exact q
    have pe := q7 r1'
    refine x_wrong (M0 := M0) (t := t3) hT (by decide) h11' (by omega) (by omega) p3 (fun _ => ?_) (fun H fH _ pH wH => ⟨H, L, R, rfl, go none H fH ⟨pH, by rw [q4]; exact PW_e wH⟩ (fun a1 ea => by cases ea)⟩)
    cases eo : o2 with
    | none =>
      rw [eo] at pe
      exact Or.inl (PE_W pe (Nat.le_refl t3) z)
    | some a2 =>
      rw [eo] at pe
      obtain ⟨pe1, pe2⟩ := pe z
      obtain ⟨y1, ⟨a, RL, ya⟩, y3⟩ := kfd a2 eo
      refine Or.inr ⟨Or.inl pe1, ME_f (s := 4) (a := a2) (a' := u2 a2 2 9 r12) (by omega) n21 ?_ (by decide) pe2⟩
      rw [q3, ms_15]
      show tk_path 4 (V t3) a2 = _
      unfold tk_path
      rw [y3, if_neg r1', if_neg (by decide), if_pos (by rw [ya, k8]; exact eq)]
  · have em := PS_n0 p3 z
    exact ⟨fun q => absurd q z, fun _ => go none J3 xfr_rf (by rw [em] at p3 ⊢; exact PX_F p3) (fun a1 ea => by cases ea)⟩
end
end
section
/-! tells of the reference, exact: time -/
section
variable {K : Nat → Int32} {P : Nat → Nat} {V W : Nat → Int64} {N : Nat → Int32} {c : Nat} {R0 : Option (Int32 × Nat)} {M0 : Option (Int32 × Nat) × sg}
variable {S : sm_C} {d : Nat} {Φ : sm_Z → Prop} {I : sm_I} {L : sm_L} {R : sm_R} {m : mo} {o : Option sg} {l s t : Nat} {g : gc}
/-- it goes on at a TOKEN that is known and means nothing by itself -/
theorem x_goT {i : Nat} {s0 : Int32} (ex : List Nat) (hT : TS K P V W N c) (hm : mkx s0 i ex = true) (ht : ∀ (v : Int64) (a : sg), ms s0 (Int32.ofNat i) v a = (0, a)) (hX : PX K P V W N c R0 M0 m o I L) (hg : ∀ t s g, m = some (t, s, g) → s = s0 ∧ K t = Int32.ofNat i) (h : ∀ (J : sm_I) (m' : mo), xfr I J → PX K P V W N c R0 M0 m' o J L → (m' = none ∨ ∃ t g, m = some (t, s0, g) ∧ t < c ∧ t < 500 ∧ K t = Int32.ofNat i ∧ m' = some (t + 1, fw s0 (Int32.ofNat i), g)) → Φ (none, (xLay, J, L, kM R))) : sm_wp sm_P S (d + 1) 136 0 [.ref 107] [] (xLay, I, L, kM R) (0, 0) Φ := by
  obtain ⟨e, hE, ee⟩ := PX_e hX
  obtain ⟨k1, k2, k3, k4, k5, k6⟩ := mkx_ok hm
  have gk : ∀ t s g, m = some (t, s, g) → g.alls ≤ 4 ∧ g.parts ≤ 3 := fun t s g em => by
    have hS := hX.1
    rw [em] at hS
    exact hS.2.2.2.2.2.2.2 (by rw [(hg t s g em).1]; exact k1)
  refine x_go (k := Int32.ofNat i) hT hX.1 hE (fun t s g em => ?_) (fun J m' f p q rel => h J m' f ⟨p, ?_⟩ ?_)
  · obtain ⟨es, ek⟩ := hg t s g em
    have gk := gk t s g em
    subst es
    obtain ⟨g1, g2, g3, g4⟩ := gc_in (g := g) k1 k2 k4 k5 gk
    exact ⟨ek, by rw [ek]; exact g4, k3, g3, g2, by rw [g1]; exact gk⟩
  · rcases rel with rel | ⟨t, s, g, em, b1, b2, b3⟩
    · rw [rel]; trivial
    · obtain ⟨es, ek⟩ := hg t s g em
      subst es
      rw [b3]
      rw [ee t s g em] at q
      cases eo : o with
      | none =>
        rw [eo] at q
        exact PE_w q (Nat.le_succ t)
      | some a =>
        rw [eo] at q
        have := PE_st (by omega) (hT.2.2.2.1 t b1) (by rw [ek]; exact ht (V t) a) q
        rw [ek] at this
        exact this
  · rcases rel with rel | ⟨t, s, g, em, b1, b2, b3⟩
    · exact Or.inl rel
    · obtain ⟨es, ek⟩ := hg t s g em
      have gk := gk t s g em
      subst es
      obtain ⟨g1, g2, g3, g4⟩ := gc_in (g := g) k1 k2 k4 k5 gk
      exact Or.inr ⟨t, g, em, b1, b2, ek, by rw [b3, g1]⟩
/-- lookups while a new name waits -/
theorem x_pend {k kd so : Int32} {a b : sg} {v : Int64} {J : sm_I} {u : Nat} (hT : TS K P V W N c) (f : xfr I J) (hR : rL K V W s t a I L) (tc : t ≤ c) (b0 : 0 ≤ (I 107 20).toInt) (b1 : (I 107 20).toInt ≤ 40) (hk : nm_kd (u2 a 2 7 k) ≠ kd) (hs : srt kd so) (h2 : b.2 = (nm_add v (u2 a 2 7 k)).2) (h10 : ∀ i, b.1 10 i = (nm_add v (u2 a 2 7 k)).1 10 i) (h11 : ∀ i, b.1 11 i = (nm_add v (u2 a 2 7 k)).1 11 i) (h5 : b.1 2 5 = (nm_add v (u2 a 2 7 k)).1 2 5) (uc : u < c) (ku : K u = 15) : fd b (V u) kd = fdm J L (W u) so := by
  have e5 : (u2 a 2 7 k).1 2 5 = I 107 20 := by rw [u2_ne _ _ _ _ (by omega)]; exact hR.1.1
  have ec : cnt (u2 a 2 7 k).1 = cntm I := by unfold cnt cntm; rw [e5]
  have ec2 : cnt b.1 = cntm I + 1 := by
    have q := nm_add_c (v := v) (a := u2 a 2 7 k) (by rw [e5]; exact b0) (by rw [e5]; exact b1)
    unfold cnt at q ⊢
    rw [h5, q]
    unfold cntm
    rw [e5]
  rw [fdm_cg f]
  refine rN_fd (t := t) hT (rN_cg hR.1.2 t (Nat.le_refl _) (fun i hi => ⟨?_, ?_, ?_⟩) (fun i _ => ⟨rfl, rfl, rfl⟩)) tc hs (Or.inr ⟨ec2, ?_⟩) uc ku
  · rw [h2, nm_add_2, ec]
    show (if i = cntm I then _ else a.2 i) = _
    rw [if_neg (by omega)]
  · rw [h10, nm_add_10, ec, if_neg (by omega), u2_ne _ _ _ _ (by omega)]
  · rw [h11, nm_add_11, ec, if_neg (by omega), u2_ne _ _ _ _ (by omega)]
  · rw [h10, nm_add_10, ec, if_pos rfl]; exact hk
/-- a TIME's person or place -/
theorem pl_last_s {cc : Nat} {r : Int32} {b : sg} {k : Nat} (h : (b.1 12 2).toInt = (k : Int) + 1) (hk : k < 10) : pl_last cc r b = u2 b cc k r := by
  unfold pl_last
  have c10 : (10 : Int32).toInt = 10 := by decide
  rw [if_neg (fun q => by rw [kl_le, kl_0] at q; omega), if_neg (fun q => by rw [kl_lt, c10] at q; omega)]
  have e : (b.1 12 2 - 1).toInt = (k : Int) := by rw [Int32.toInt_sub, kl_1]; rw [h]; exact (en_bmod (by omega) (by omega) (Or.inl rfl)).trans (by omega)
  rw [tk_nat e]
theorem x_time {J3 : sm_I} {m3 : mo} {o3 : Option sg} {g3 : gc} {t2 t3 : Nat} {x8 n9 y z : Int32} (hT : TS K P V W N c) (hls : ml_ls l s) (hm : en_mem ml_tb mlX (xLay, I, L, R)) (hI : ml_TI l s I) (hG : rG s g I) (hr : (I 122 s).toInt < 10) (tx0 : tx K P W N c I L) (ft : xfr I J3) (X3 : PX K P V W N c R0 M0 m3 o3 J3 L) (em3 : m3 = some (t3, 0, g3)) (eg : g3 = gc_st 0 3 g) (t23 : t2 < t3) (tt : t < t3) (u1 : t2 < c) (u5 : t2 < 500) (u3 : K t2 = 15) (h8 : x8.toInt = t2) (e9 : n9.toInt = 10 * (s : Int) + (I 122 s).toInt) (hA : ∀ a', o3 = some a' → ∃ a, rL K V W s t a I L ∧ a'.2 = (nm_add (V t2) (u2 a 2 7 3)).2 ∧ ∀ p j, (p ≠ 2 ∨ j = 5) → a'.1 p j = if p = 14 ∧ j = (I 122 s).toNatClampNeg then y else if p = 15 ∧ j = (I 122 s).toNatClampNeg then z else (nm_add (V t2) (u2 a 2 7 3)).1 p j) (h : ∀ (J : sm_I) (L' : sm_L), TP K P V W N c R0 M0 s t J L' → Φ (none, (xLay, J, L', kM R))) : (vp_in n9 20) ∧ ∀ I18 : sm_I, I18 = (sm_up J3 123 n9.toNatClampNeg y) → (vp_in n9 20) ∧ ∀ I19 : sm_I, I19 = (sm_up I18 124 n9.toNatClampNeg z) → (vp_in (I19 107 19) 2) ∧ ∀ n20 : Int32, n20 = (I19 122 (I19 107 19).toNatClampNeg) → sm_wp sm_P S d 155 0 [.ref 107, .int x8, .int (2 : Int32), .int n20] [] (xLay, I19, L, (kM R)) (0, 0) (fun z => ∃ (I21 : sm_I) (L22 : sm_L) (R23 : sm_R), z = (none, (xLay, I21, L22, (kM R23))) ∧ (vp_in (I21 107 19) 2) ∧ ∀ n25 : Int32, n25 = ((I21 122 (I21 107 19).toNatClampNeg) + (1 : Int32)) → (vp_in (I21 107 19) 2) ∧ ∀ I26 : sm_I, I26 = (sm_up I21 122 (I21 107 19).toNatClampNeg n25) → Φ (none, (xLay, I26, L22, (kM R23)))) := by
  obtain ⟨hl1, hs1⟩ := ml_l1 hls
  obtain ⟨sn, sv⟩ := ml_sn hls hI
  have bc := ml_cs hs1 hm
  have b34 := x_34 hs1 hm
  obtain ⟨⟨b0, b1⟩, hb⟩ := x_b117 hm
  have bs : (I 107 20).toInt ≤ ml_sum I s := hI.2.2.1
  unfold ml_sum at bs
  have b49 := ml_nm49 hls hI hm
  have v9 : vp_in n9 20 := kl_in (by omega) (by omega)
  have k0 : (((I 122 s).toNatClampNeg : Nat) : Int) = (I 122 s).toInt := kl_nat bc.2.2.1.1
  have n9n : n9.toNatClampNeg = 10 * s + (I 122 s).toNatClampNeg := tk_nat (by omega)
  refine ⟨v9, fun I18 e18 => ⟨v9, fun I19 e19 => ?_⟩⟩
  rw [n9n] at e18 e19
  have o19 : ∀ p j, ¬ ((p = 123 ∨ p = 124) ∧ j = 10 * s + (I 122 s).toNatClampNeg) → I19 p j = J3 p j := fun p j hp => by rw [e19, en_up_ne _ _ _ _ (by omega), e18, en_up_ne _ _ _ _ (by omega)]
  have X19 : PX K P V W N c R0 M0 m3 o3 I19 L := by rw [e19, e18]; exact PX_up (by decide) (by omega) (PX_up (by decide) (by omega) X3)
  have s19 : I19 107 19 = I 107 19 := by rw [o19 107 19 (by omega)]; exact ft 107 19 (by omega)
  have c19 : I19 107 20 = I 107 20 := by rw [o19 107 20 (by omega)]; exact ft 107 20 (by omega)
  have ecm : cntm I19 = cntm I := by unfold cntm; rw [c19]
  rw [s19, sn]
  refine ⟨sv, fun n20 e20 => ?_⟩
  have e20 : n20 = I 122 s := by rw [e20, o19 122 s (by omega)]; exact ft 122 s (by omega)
  refine x_knows (t := t2) h8 (by omega) (by rw [c19]; exact b0) (by rw [c19]; exact b49) X19 (fun J4 L4 e4J e4L X4 => ⟨J4, L4, R, rfl, ?_⟩)
  rw [ecm] at e4J e4L
  have o4 : ∀ p j, ¬ ((p = 116 ∨ p = 117) ∧ j = cntm I) → ¬ (p = 107 ∧ j = 20) → J4 p j = I19 p j := fun p j h1 h2 => by rw [e4J, en_up_ne _ _ _ _ (by omega), en_up_ne _ _ _ _ (by omega), en_up_ne _ _ _ _ (by omega)]
  have s4 : J4 107 19 = I 107 19 := by rw [o4 107 19 (by omega) (by omega)]; exact s19
  rw [s4, sn]
  refine ⟨sv, fun n31 en31 => ⟨sv, fun J5 e5 => h J5 L4 ⟨m3, o3, ?_, Or.inr ⟨t3, g3, em3, tt, ?_, fun a' ea => ?_⟩⟩⟩⟩
  · rw [e5]; exact PX_up (by decide) (by omega) X4
  all_goals
    have o5 : ∀ p j, ¬ ((p = 116 ∨ p = 117) ∧ j = cntm I) → ¬ (p = 122 ∧ j = s) → p ≠ 107 → ¬ ((p = 123 ∨ p = 124) ∧ j = 10 * s + (I 122 s).toNatClampNeg) → J5 p j = I p j := fun p j h1 h2 h3 h4 => by rw [e5, en_up_ne _ _ _ _ h2, o4 p j h1 (by omega), o19 p j h4, ft p j (by omega)]
    have r5 : J5 122 s = I 122 s + 1 := by rw [e5, en_up_eq, en31, o4 122 s (by omega) (by omega), o19 122 s (by omega), ft 122 s (by omega)]
    have r5i : (J5 122 s).toInt = (I 122 s).toInt + 1 := by rw [r5]; exact ml_in1 (by omega)
  · rw [eg]
    unfold rG
    obtain ⟨G1, G2, G3, G4, G5, G6, G7⟩ := hG
    refine ⟨?_, ?_, ?_, ?_, ?_, ?_, ?_⟩
    · rw [o5 118 s (by omega) (by omega) (by decide) (by omega), gc0_t (by decide), if_neg (by decide)]; exact G1
    · rw [o5 119 s (by omega) (by omega) (by decide) (by omega), gc0_t (by decide), if_neg (by decide)]; exact G2
    · rw [o5 120 s (by omega) (by omega) (by decide) (by omega), gc0_t (by decide), if_neg (by decide)]; exact G3
    · rw [r5i, gc0_t (by decide), if_pos (by decide)]; omega
    · rw [o5 125 s (by omega) (by omega) (by decide) (by omega), gc0_t (by decide), if_neg (by decide)]; exact G5
    · rw [o5 134 s (by omega) (by omega) (by decide) (by omega), gc0_t (by decide), if_neg (by decide)]; exact G6
    · rw [o5 136 s (by omega) (by omega) (by decide) (by omega), gc0_t (by decide), if_neg (by decide)]; exact G7
  · obtain ⟨a, RL, hA2, hA1⟩ := hA a' ea
    obtain ⟨⟨R5, RN⟩, RC, RT, RO, RW, RS, RQ, RB⟩ := RL
    have k7 : (u2 a 2 7 3).1 2 7 = 3 := u2_eq _ _ _ _
    have a12 : ∀ j, (u2 a 2 7 3).1 12 j = a.1 12 j := fun j => u2_ne _ _ _ _ (by omega)
    have ef : a.1 12 2 = I 122 s := RC.2.2.1
    obtain ⟨A1, A2, A3⟩ := nmA (v := V t2) (a := u2 a 2 7 3) (k := 3) (mx := 10) (f := 2) k7 (by decide) (fun b => by unfold nb_new; rw [if_neg (by decide), if_neg (by decide), if_pos (by decide)]) (by rw [a12, ef, show (10 : Int32).toInt = 10 from by decide]; exact hr) (by decide)
    have A4 : ∀ p j, ¬ (p = 12 ∧ j = 2) → p ≠ 2 → p ≠ 10 → p ≠ 11 → ¬ ((p = 14 ∨ p = 15) ∧ j = (I 122 s).toNatClampNeg) → a'.1 p j = a.1 p j := fun p j h1 h2 h3 h4 h5 => by rw [hA1 p j (by omega), if_neg (by omega), if_neg (by omega), A3 p j h3 h4 (by omega), if_neg h1, u2_ne _ _ _ _ (by omega)]
    have A5 : a'.1 12 2 = I 122 s + 1 := by rw [hA1 12 2 (by omega), if_neg (by omega), if_neg (by omega), A3 12 2 (by decide) (by decide) (by omega), if_pos ⟨rfl, rfl⟩, a12, ef]
    have eW : L 113 t2 = W t2 := (tx0.2 t2 u1 (by omega)).2
    refine ⟨?_, ?_, ?_, ?_, ?_, ?_, ?_, ?_⟩
    · have q := rN_new (a := u2 a 2 7 3) (I := I) (J := J5) (L' := L4) (t := t) (t' := t3) (u := t2) (W := W) (so := 2) (x := I 122 s) (L := L) (by rw [u2_ne _ _ _ _ (by omega)]; exact R5) b0 (by omega) (rN_cg RN t (Nat.le_refl _) (fun i _ => ⟨rfl, u2_ne _ _ _ _ (by omega), u2_ne _ _ _ _ (by omega)⟩) (fun i _ => ⟨rfl, rfl, rfl⟩)) (by omega) (by omega) u3 (by rw [A1]; exact Or.inr (Or.inr (Or.inl ⟨rfl, rfl⟩))) (by rw [A2, a12, ef]) (by rw [e5, en_up_ne _ _ _ _ (by omega), e4J, en_up_eq, c19]) (by rw [e5, en_up_ne _ _ _ _ (by omega), e4J, en_up_ne _ _ _ _ (by omega), en_up_ne _ _ _ _ (by omega), en_up_eq]) (by rw [e5, en_up_ne _ _ _ _ (by omega), e4J, en_up_ne _ _ _ _ (by omega), en_up_eq, e20]) (fun i hi => ⟨o5 116 i (by omega) (by omega) (by decide) (by omega), o5 117 i (by omega) (by omega) (by decide) (by omega)⟩) (by rw [e4L, en_up_eq, eW]) (fun i hi => by rw [e4L, en_up_ne _ _ _ _ (by omega)])
      refine ⟨by rw [hA1 2 5 (by omega), if_neg (by omega), if_neg (by omega)]; exact q.1, rN_cg q.2 t3 (Nat.le_refl _) (fun i _ => ⟨by rw [hA2], by rw [hA1 10 i (by omega), if_neg (by omega), if_neg (by omega)], by rw [hA1 11 i (by omega), if_neg (by omega), if_neg (by omega)]⟩) (fun i _ => ⟨rfl, rfl, rfl⟩)⟩
    · unfold rC
      refine ⟨?_, ?_, ?_, ?_, ?_⟩
      · rw [A4 12 0 (by omega) (by omega) (by omega) (by omega) (by omega), o5 118 s (by omega) (by omega) (by decide) (by omega)]; exact RC.1
      · rw [A4 12 1 (by omega) (by omega) (by omega) (by omega) (by omega), o5 119 s (by omega) (by omega) (by decide) (by omega)]; exact RC.2.1
      · rw [A5, r5]
      · rw [A4 12 3 (by omega) (by omega) (by omega) (by omega) (by omega), o5 125 s (by omega) (by omega) (by decide) (by omega)]; exact RC.2.2.2.1
      · rw [A4 12 4 (by omega) (by omega) (by omega) (by omega) (by omega), o5 136 s (by omega) (by omega) (by decide) (by omega)]; exact RC.2.2.2.2
    · intro i hi
      have hs2 : s ≤ 1 := hs1
      by_cases ci : i = (I 122 s).toNatClampNeg
      · refine ⟨fun _ => ?_, fun q => ?_⟩
        · rw [hA1 14 i (by omega), if_pos ⟨rfl, ci⟩, hA1 15 i (by omega), if_neg (by omega), if_pos ⟨rfl, ci⟩]
          have y1 : J5 123 (10 * s + i) = y := by rw [ci, e5, en_up_ne _ _ _ _ (by omega), o4 _ _ (by omega) (by omega), e19, en_up_ne _ _ _ _ (by omega), e18, en_up_eq]
          have y2 : J5 124 (10 * s + i) = z := by rw [ci, e5, en_up_ne _ _ _ _ (by omega), o4 _ _ (by omega) (by omega), e19, en_up_eq]
          exact ⟨y1.symm, y2.symm⟩
        · rw [r5i] at q; omega
      · rw [A4 14 i (by omega) (by omega) (by omega) (by omega) (by omega), A4 15 i (by omega) (by omega) (by omega) (by omega) (by omega), o5 123 _ (by omega) (by omega) (by decide) (by omega), o5 124 _ (by omega) (by omega) (by decide) (by omega), r5i]
        exact ⟨fun q => (RT i hi).1 (by omega), fun q => (RT i hi).2 (by omega)⟩
    · exact rO_cg RO b34.2 (fun c' j h1 h2 => A4 c' j (by omega) (by omega) (by omega) (by omega) (by omega)) (by rw [r5i]; omega) (o5 134 s (by omega) (by omega) (by decide) (by omega)) (fun j => o5 135 j (by omega) (by omega) (by decide) (by omega)) (fun p j h1 h2 _ _ => o5 p j (by omega) (by omega) (by omega) (by omega))
    · exact rW_cg RW (fun j => A4 13 j (by omega) (by omega) (by omega) (by omega) (by omega)) (fun j => o5 121 j (by omega) (by omega) (by decide) (by omega))
    · exact rS_cg RS bc.2.2.2.1.2 hs1 (fun c' j hc => A4 c' j (by omega) (by omega) (by omega) (by omega) (by omega)) (fun p j hp => o5 p j (by omega) (by omega) (by omega) (by omega))
    · exact rQ_cg RQ (fun c' j h1 h2 => A4 c' j (by omega) (by omega) (by omega) (by omega) (by omega)) (fun p j hp => o5 p j (by omega) (by omega) (by omega) (by omega))
    · exact rB_new (so := 2) (x := I 122 s) RB b0 (by omega) (by rw [e5, en_up_ne _ _ _ _ (by omega), e4J, en_up_eq, c19]) (by rw [e5, en_up_ne _ _ _ _ (by omega), e4J, en_up_ne _ _ _ _ (by omega), en_up_ne _ _ _ _ (by omega), en_up_eq]) (by rw [e5, en_up_ne _ _ _ _ (by omega), e4J, en_up_ne _ _ _ _ (by omega), en_up_eq, e20]) (fun i hi => ⟨o5 116 i (by omega) (by omega) (by decide) (by omega), o5 117 i (by omega) (by omega) (by decide) (by omega)⟩) (by rw [r5i]; omega) (fun _ => by rw [r5i]; omega)
theorem x_tellTime (hT : TS K P V W N c) (hls : ml_ls l s) (hm : en_mem ml_tb mlX (xLay, I, L, R)) (hI : ml_TI l s I) (hX : PX K P V W N c R0 M0 (some (t, 0, g)) o I L) (hG : rG s g I) (hR : ∀ a, o = some a → rL K V W s t a I L) (ek : K t = 3) (hr : (I 122 s).toInt < 10) (h : ∀ (J : sm_I) (L' : sm_L), TP K P V W N c R0 M0 s t J L' → Φ (none, (xLay, J, L', kM R))) : sm_wp sm_P S (d + 4) 202 0 [.ref 107] [] (xLay, I, L, kM R) (0, 0) Φ := by
  obtain ⟨hl1, hs1⟩ := ml_l1 hls
  obtain ⟨sn, sv⟩ := ml_sn hls hI
  have bc := ml_cs hs1 hm
  have b34 := x_34 hs1 hm
  obtain ⟨⟨b0, b1⟩, hb⟩ := x_b117 hm
  have bs : (I 107 20).toInt ≤ ml_sum I s := hI.2.2.1
  unfold ml_sum at bs
  have tc : t ≤ c := hX.1.2.2.2.2.2.1
  have k0 : (((I 122 s).toNatClampNeg : Nat) : Int) = (I 122 s).toInt := kl_nat bc.2.2.1.1
  have ok : gc_ok 0 3 g = true := by
    unfold gc_ok
    rw [if_pos ⟨rfl, by decide⟩]
    refine decide_eq_true ?_
    have := hG.2.2.2.1
    rw [show gw 3 = 3 from by decide, show (sm_room.getD 3 0).toInt = 10 from by decide]
    omega
  refine u_X12_tellTime_0 (x_go0 (k := 3) hT ek (by decide) (by decide) (by decide +kernel) (by decide) (by decide) ok hX (fun J1 m1 f1 X1 r1 => ⟨J1, L, R, rfl, ?_⟩))
  have e1 : ∀ t' s' g', m1 = some (t', s', g') → t' = t + 1 ∧ s' = 6 ∧ g' = gc_st 0 3 g := fun t' s' g' em => by
    rcases r1 with r1 | ⟨q1, q2, q3⟩
    · rw [r1] at em; cases em
    · rw [q3] at em
      obtain ⟨y1, y2, y3⟩ := mo_i em
      exact ⟨y1.symm, by rw [← y2]; decide +kernel, y3.symm⟩
  have c20 : J1 107 20 = I 107 20 := f1 107 20 (by omega)
  refine x_named (s0 := 6) hT (by decide +kernel) (fun v a => by rw [ms_15]; rfl) X1 (fun t' s' g' em => (e1 t' s' g' em).2.1) (by rw [c20]; exact b0) (by rw [c20]; exact b1) (fun t' g' a1 em eo uc ku => ?_) (fun J2 m2 o2 f2 X2 r2 => ⟨_, J2, L, R, rfl, ?_⟩)
  · obtain ⟨a, ea3, ea4⟩ := om (Or.inr rfl) eo
    subst ea4
    exact x_hn hT f1 (hR a ea3) tc 3 uc ku (by omega)
  have f12 : xfr I J2 := xfr_tr f1 f2
  have e19 : J2 107 19 = I 107 19 := f12 107 19 (by omega)
  have e122 : J2 122 s = I 122 s := f12 122 s (by omega)
  have d20 : J2 107 20 = I 107 20 := f12 107 20 (by omega)
  have e2 : ∀ t' s' g', m2 = some (t', s', g') → t' = t + 2 ∧ s' = 7 ∧ g' = gc_st 0 3 g ∧ t + 1 < c ∧ t + 1 < 500 ∧ K (t + 1) = 15 ∧ (J1 107 11).toInt = ((t + 1 : Nat) : Int) ∧ ∀ a2, o2 = some a2 → ∃ a, rL K V W s t a I L ∧ a2 = nm_add (V (t + 1)) (u2 a 2 7 3) := fun t' s' g' em => by
    rcases r2 with r2 | ⟨t2, g2, em2, q1, q2, q3, q4, q5⟩
    · rw [r2] at em; cases em
    · rw [q4] at em
      obtain ⟨y1, y2, y3⟩ := mo_i em
      obtain ⟨z1, z2, z3⟩ := e1 t2 6 g2 em2
      subst z1
      have hS := X1.1
      rw [em2] at hS
      refine ⟨by omega, by rw [← y2]; decide +kernel, by rw [← y3]; exact z3, q1, q2, q3, hS.2.2.2.2.1, fun a2 ea => ?_⟩
      rcases q5 with q5 | ⟨q5, -⟩
      · rw [q5] at ea; cases ea
      obtain ⟨a1, ea1, ea1'⟩ := om (Or.inr q5) ea
      obtain ⟨a, ea3, ea4⟩ := om (Or.inr rfl) ea1
      subst ea4
      exact ⟨a, hR a ea3, ea1'⟩
  rw [e19, sn]
  refine ⟨sv, fun n9 e9 => ?_⟩
  have q1 : ((10 : Int32) * (I 107 19)).toInt = 10 * (s : Int) := ml_mu (by decide) hI.2.1 (by omega) (by omega)
  have q9 : n9.toInt = 10 * (s : Int) + (I 122 s).toInt := by rw [e9, e122]; exact ml_ad q1 rfl (by omega) (by omega)
  refine x_is (i := 4) hT (by decide) rfl X2.1 (fun r13 _ hr13 => ⟨r13, J2, L, R, rfl, fun r0 => ?_, fun r1' => ?_⟩)
  · refine x_mustT (i := 17) (s0 := 7) [4] hT rfl (by decide +kernel) (fun v a => rfl) X2 (fun t' s' g' em => ⟨(e2 t' s' g' em).2.1, fun j hj ekj => ?_⟩) (fun J3 m3 f3 X3 r3 => ⟨J3, L, R, rfl, fun z => ?_, fun z => ?_⟩)
    · rw [List.mem_singleton.mp hj] at ekj
      exact absurd r0 (hr13.mpr ⟨t', s', g', em, ekj⟩)
    · have z := PS_le0 X3.1 z
      rcases r3 with r3 | ⟨t3, g3, em3, v1, v2, v3, v4⟩
      · rw [r3] at X3; exact absurd z (PS_no X3.1)
      obtain ⟨y1, y2, y3, y4, y5, y6, y7, y8⟩ := e2 t3 7 g3 em3
      refine x_time (t2 := t + 1) (t3 := t3 + 1) hT hls hm hI hG hr hX.1.1 (xfr_tr f12 f3) X3 v4 y3 (by omega) (by omega) y4 y5 y6 y7 q9 (fun a' ea => ?_) h
      obtain ⟨a, RL, ea'⟩ := y8 a' ea
      subst ea'
      refine ⟨a, RL, rfl, fun p j hp => ?_⟩
      have ef : a.1 12 2 = I 122 s := RL.2.1.2.2.1
      obtain ⟨A1, A2, A3⟩ := nmA (v := V (t + 1)) (a := u2 a 2 7 3) (k := 3) (mx := 10) (f := 2) (u2_eq _ _ _ _) (by decide) (fun b => by unfold nb_new; rw [if_neg (by decide), if_neg (by decide), if_pos (by decide)]) (by rw [u2_ne _ _ _ _ (by omega), ef, show (10 : Int32).toInt = 10 from by decide]; exact hr) (by decide)
      have T := (RL.2.2.1 (I 122 s).toNatClampNeg (by omega)).2 (by omega)
      by_cases c1 : p = 14 ∧ j = (I 122 s).toNatClampNeg
      · rw [if_pos c1, c1.1, c1.2, A3 14 _ (by decide) (by decide) (by omega), if_neg (by omega), u2_ne _ _ _ _ (by omega)]; exact T.1
      · rw [if_neg c1]
        by_cases c2 : p = 15 ∧ j = (I 122 s).toNatClampNeg
        · rw [if_pos c2, c2.1, c2.2, A3 15 _ (by decide) (by decide) (by omega), if_neg (by omega), u2_ne _ _ _ _ (by omega)]; exact T.2
        · rw [if_neg c2]
    · have nz : ¬ J3 107 13 = 0 := fun y => z (by rw [y]; decide)
      have em := PS_n0 X3.1 nz
      exact h J3 L ⟨m3, o2, X3, Or.inl em⟩
  · -- of .. in ..
    obtain ⟨tk, sk, gk, emk, ekk⟩ := hr13.mp r1'
    refine x_goT (i := 4) (s0 := 7) [17] hT (by decide +kernel) (fun v a => rfl) X2 (fun t' s' g' em => ⟨(e2 t' s' g' em).2.1, ?_⟩) (fun J3 m3 f3 X3 r3 => ⟨J3, L, R, rfl, ?_⟩)
    · rw [emk] at em
      rw [← (mo_i em).1]; exact ekk
    have f13 : xfr I J3 := xfr_tr f12 f3
    have g20 : J3 107 20 = I 107 20 := f13 107 20 (by omega)
    have cm3 : cntm J3 = cntm I := by unfold cntm; rw [g20]
    have e3 : ∀ t' s' g', m3 = some (t', s', g') → t' = t + 3 ∧ s' = 8 ∧ g' = gc_st 0 3 g ∧ t + 1 < c ∧ t + 1 < 500 ∧ K (t + 1) = 15 ∧ (J1 107 11).toInt = ((t + 1 : Nat) : Int) ∧ ∀ a2, o2 = some a2 → ∃ a, rL K V W s t a I L ∧ a2 = nm_add (V (t + 1)) (u2 a 2 7 3) := fun t' s' g' em => by
      rcases r3 with r3 | ⟨t3, g3, em3, v1, v2, v3, v4⟩
      · rw [r3] at em; cases em
      · rw [v4] at em
        obtain ⟨y1, y2, y3⟩ := mo_i em
        obtain ⟨z1, z2, z3, z4⟩ := e2 t3 7 g3 em3
        exact ⟨by omega, by rw [← y2]; decide +kernel, by rw [← y3]; exact z3, z4⟩
    have nk3 : ∀ a : sg, nm_kd (u2 a 2 7 3) = 3 := fun a => by unfold nm_kd; rw [u2_eq]; decide
    refine x_knownS (kd := 0) (s0 := 8) hT (by decide +kernel) X3 (fun t' s' g' em => (e3 t' s' g' em).2.1) (by rw [g20]; exact b0) (by rw [g20]; exact b1) (fun i hi => by rw [f13 117 i (by omega)]; exact hb i (by rw [← cm3]; exact hi)) (fun t' g' a1 em eo uc ku => ?_) (fun r a => pl_last 14 r a) (fun v a => by rw [ms_15]; rfl) (fun r37 J4 m4 o4 f4 X4 r4 => ⟨r37, J4, L, R, rfl, ?_⟩)
    · obtain ⟨-, -, -, -, -, -, -, y8⟩ := e3 t' 8 g' em
      obtain ⟨a, RL, ea'⟩ := y8 a1 eo
      subst ea'
      exact x_pend (k := 3) hT f13 RL tc b0 (by omega) (by rw [nk3]; decide) (Or.inl ⟨rfl, rfl⟩) rfl (fun _ => rfl) (fun _ => rfl) rfl uc ku
    have f14 : xfr I J4 := xfr_tr f13 f4
    have times : ∀ a, rL K V W s t a I L → ((nm_add (V (t + 1)) (u2 a 2 7 3)).1 12 2).toInt = (((I 122 s).toNatClampNeg : Nat) : Int) + 1 := fun a RL => by
      have ef : a.1 12 2 = I 122 s := RL.2.1.2.2.1
      obtain ⟨A1, A2, A3⟩ := nmA (v := V (t + 1)) (a := u2 a 2 7 3) (k := 3) (mx := 10) (f := 2) (u2_eq _ _ _ _) (by decide) (fun b => by unfold nb_new; rw [if_neg (by decide), if_neg (by decide), if_pos (by decide)]) (by rw [u2_ne _ _ _ _ (by omega), ef, show (10 : Int32).toInt = 10 from by decide]; exact hr) (by decide)
      rw [A3 12 2 (by decide) (by decide) (by omega), if_pos ⟨rfl, rfl⟩, u2_ne _ _ _ _ (by omega), ef, k0]
      exact ml_in1 (by omega)
    have e4 : ∀ t' s' g', m4 = some (t', s', g') → t' = t + 4 ∧ s' = 9 ∧ g' = gc_st 0 3 g ∧ t + 1 < c ∧ t + 1 < 500 ∧ K (t + 1) = 15 ∧ (J1 107 11).toInt = ((t + 1 : Nat) : Int) ∧ ∀ a2, o4 = some a2 → ∃ a, rL K V W s t a I L ∧ a2 = u2 (nm_add (V (t + 1)) (u2 a 2 7 3)) 14 (I 122 s).toNatClampNeg r37 := fun t' s' g' em => by
      rcases r4 with ⟨r4, -⟩ | ⟨t4, g4, em4, v1, v2, v3, v4, v5, v6⟩
      · rw [r4] at em; cases em
      · rw [v4] at em
        obtain ⟨y1, y2, y3⟩ := mo_i em
        obtain ⟨z1, z2, z3, z4, z5, z6, z7, z8⟩ := e3 t4 8 g4 em4
        refine ⟨by omega, by rw [← y2]; decide +kernel, by rw [← y3]; exact z3, z4, z5, z6, z7, fun a2 ea => ?_⟩
        rcases v6 with v6 | ⟨-, v6⟩
        · rw [v6] at ea; cases ea
        obtain ⟨a3, ea1, ea1'⟩ := om (Or.inr v6) ea
        obtain ⟨a, RL, ea'⟩ := z8 a3 ea1
        refine ⟨a, RL, ?_⟩
        rw [ea1', ea']
        exact pl_last_s (times a RL) (by omega)
    refine x_mustT (i := 5) (s0 := 9) [] hT rfl (by decide +kernel) (fun v a => rfl) X4 (fun t' s' g' em => ⟨(e4 t' s' g' em).2.1, fun j hj => absurd hj List.not_mem_nil⟩) (fun J5 m5 f5 X5 r5 => ⟨J5, L, R, rfl, ?_⟩)
    have f15 : xfr I J5 := xfr_tr f14 f5
    have h20 : J5 107 20 = I 107 20 := f15 107 20 (by omega)
    have cm5 : cntm J5 = cntm I := by unfold cntm; rw [h20]
    have e5 : ∀ t' s' g', m5 = some (t', s', g') → t' = t + 5 ∧ s' = 10 ∧ g' = gc_st 0 3 g ∧ t + 1 < c ∧ t + 1 < 500 ∧ K (t + 1) = 15 ∧ (J1 107 11).toInt = ((t + 1 : Nat) : Int) ∧ ∀ a2, o4 = some a2 → ∃ a, rL K V W s t a I L ∧ a2 = u2 (nm_add (V (t + 1)) (u2 a 2 7 3)) 14 (I 122 s).toNatClampNeg r37 := fun t' s' g' em => by
      rcases r5 with r5 | ⟨t5, g5, em5, v1, v2, v3, v4⟩
      · rw [r5] at em; cases em
      · rw [v4] at em
        obtain ⟨y1, y2, y3⟩ := mo_i em
        obtain ⟨z1, z2, z3, z4⟩ := e4 t5 9 g5 em5
        exact ⟨by omega, by rw [← y2]; decide +kernel, by rw [← y3]; exact z3, z4⟩
    refine x_knownS (kd := 1) (s0 := 10) hT (by decide +kernel) X5 (fun t' s' g' em => (e5 t' s' g' em).2.1) (by rw [h20]; exact b0) (by rw [h20]; exact b1) (fun i hi => by rw [f15 117 i (by omega)]; exact hb i (by rw [← cm5]; exact hi)) (fun t' g' a1 em eo uc ku => ?_) (fun r a => pl_last 15 r a) (fun v a => by rw [ms_15]; rfl) (fun r45 J6 m6 o6 f6 X6 r6 => ⟨r45, J6, L, R, rfl, ?_⟩)
    · obtain ⟨-, -, -, -, -, -, -, y8⟩ := e5 t' 10 g' em
      obtain ⟨a, RL, ea'⟩ := y8 a1 eo
      subst ea'
      exact x_pend (k := 3) (v := V (t + 1)) hT f15 RL tc b0 (by omega) (by rw [nk3]; decide) (Or.inr (Or.inl ⟨rfl, rfl⟩)) rfl (fun _ => u2_ne _ _ _ _ (by omega)) (fun _ => u2_ne _ _ _ _ (by omega)) (u2_ne _ _ _ _ (by omega)) uc ku
    have f16 : xfr I J6 := xfr_tr f15 f6
    have e6 : ∀ t' s' g', m6 = some (t', s', g') → t' = t + 6 ∧ s' = 2 ∧ g' = gc_st 0 3 g ∧ t + 1 < c ∧ t + 1 < 500 ∧ K (t + 1) = 15 ∧ (J1 107 11).toInt = ((t + 1 : Nat) : Int) ∧ ∀ a2, o6 = some a2 → ∃ a, rL K V W s t a I L ∧ a2 = u2 (u2 (nm_add (V (t + 1)) (u2 a 2 7 3)) 14 (I 122 s).toNatClampNeg r37) 15 (I 122 s).toNatClampNeg r45 := fun t' s' g' em => by
      rcases r6 with ⟨r6, -⟩ | ⟨t6, g6, em6, v1, v2, v3, v4, v5, v6⟩
      · rw [r6] at em; cases em
      · rw [v4] at em
        obtain ⟨y1, y2, y3⟩ := mo_i em
        obtain ⟨z1, z2, z3, z4, z5, z6, z7, z8⟩ := e5 t6 10 g6 em6
        refine ⟨by omega, by rw [← y2]; decide +kernel, by rw [← y3]; exact z3, z4, z5, z6, z7, fun a2 ea => ?_⟩
        rcases v6 with v6 | ⟨-, v6⟩
        · rw [v6] at ea; cases ea
        obtain ⟨a3, ea1, ea1'⟩ := om (Or.inr v6) ea
        obtain ⟨a, RL, ea'⟩ := z8 a3 ea1
        refine ⟨a, RL, ?_⟩
        rw [ea1', ea']
        exact pl_last_s (by rw [u2_ne _ _ _ _ (by omega)]; exact times a RL) (by omega)
    refine x_mustT (i := 17) (s0 := 2) [] hT rfl (by decide +kernel) (fun v a => rfl) X6 (fun t' s' g' em => ⟨(e6 t' s' g' em).2.1, fun j hj => absurd hj List.not_mem_nil⟩) (fun J7 m7 f7 X7 r7 => ⟨J7, L, R, rfl, fun z => ?_, fun z => ?_⟩)
    · have z := PS_le0 X7.1 z
      rcases r7 with r7 | ⟨t7, g7, em7, v1, v2, v3, v4⟩
      · rw [r7] at X7; exact absurd z (PS_no X7.1)
      obtain ⟨y1, y2, y3, y4, y5, y6, y7, y8⟩ := e6 t7 2 g7 em7
      refine x_time (t2 := t + 1) (t3 := t7 + 1) hT hls hm hI hG hr hX.1.1 (xfr_tr f16 f7) X7 v4 y3 (by omega) (by omega) y4 y5 y6 y7 q9 (fun a' ea => ?_) h
      obtain ⟨a, RL, ea'⟩ := y8 a' ea
      subst ea'
      refine ⟨a, RL, rfl, fun p j hp => ?_⟩
      by_cases c1 : p = 14 ∧ j = (I 122 s).toNatClampNeg
      · rw [if_pos c1, c1.1, c1.2, u2_ne _ _ _ _ (by omega), u2_eq]
      · rw [if_neg c1]
        by_cases c2 : p = 15 ∧ j = (I 122 s).toNatClampNeg
        · rw [if_pos c2, c2.1, c2.2, u2_eq]
        · rw [if_neg c2, u2_ne _ _ _ _ (by omega), u2_ne _ _ _ _ (by omega)]
    · have nz : ¬ J7 107 13 = 0 := fun y => z (by rw [y]; decide)
      have em := PS_n0 X7.1 nz
      exact h J7 L ⟨m7, o6, X7, Or.inl em⟩
end
end
section
/-! tells of the reference, exact: a span -/
/-- nothing but the span i, and the reader's place, fault and worst -/
def sfr (i : Nat) (I J : sm_I) : Prop := ∀ p j, ¬ (130 ≤ p ∧ p ≤ 133 ∧ j = i) → ¬ (p = 107 ∧ (j = 11 ∨ j = 13 ∨ j = 14 ∨ j = 15 ∨ j = 16)) → J p j = I p j
theorem sfr_x {i : Nat} {I J H : sm_I} (h : sfr i I J) (g : xfr J H) : sfr i I H := fun p j a b => (g p j b).trans (h p j a b)
theorem sfr_u {i p : Nat} {x : Int32} {I J H : sm_I} (h : sfr i I J) (p1 : 130 ≤ p) (p2 : p ≤ 133) (e : H = sm_up J p i x) : sfr i I H := fun q j a b => by rw [e, en_up_ne _ _ _ _ (by omega)]; exact h q j a b
/-- the same but for what the reader holds of a span -/
def spb0 (a0 b : sg) : Prop := b.2 = a0.2 ∧ (∀ p j, p ≠ 2 → b.1 p j = a0.1 p j) ∧ b.1 2 5 = a0.1 2 5 ∧ b.1 2 7 = a0.1 2 7
theorem spb0_u {a0 b : sg} {j : Nat} {x : Int32} (h : spb0 a0 b) (j1 : j = 8 ∨ j = 9 ∨ j = 10) : spb0 a0 (u2 b 2 j x) := ⟨h.1, fun p q hp => by rw [u2_ne _ _ _ _ (by omega)]; exact h.2.1 p q hp, by rw [u2_ne _ _ _ _ (by omega)]; exact h.2.2.1, by rw [u2_ne _ _ _ _ (by omega)]; exact h.2.2.2⟩
def spok (t0 : Nat) (g0 : gc) (i : Nat) (o : Option sg) (I J : sm_I) (m' : mo) (o' : Option sg) : Prop := sfr i I J ∧ (m' = none ∨ ∃ t', m' = some (t', 26, g0) ∧ t0 < t' ∧ ∀ a', o' = some a' → ∃ a0, o = some a0 ∧ ∃ b, a' = en_sp (J 133 i) b ∧ spb0 a0 b ∧ b.1 2 8 = J 130 i ∧ b.1 2 9 = J 131 i ∧ b.1 2 10 = J 132 i ∧ 0 ≤ (J 130 i).toInt ∧ (J 130 i).toInt ≤ 9 ∧ -1 ≤ (J 131 i).toInt ∧ (J 131 i).toInt ≤ 9)
section
variable {K : Nat → Int32} {P : Nat → Nat} {V W : Nat → Int64} {N : Nat → Int32} {c : Nat} {R0 : Option (Int32 × Nat)} {M0 : Option (Int32 × Nat) × sg}
variable {S : sm_C} {d : Nat} {Φ : sm_Z → Prop} {I H : sm_I} {L : sm_L} {R : sm_R} {m : mo} {o o3 : Option sg} {x1 : Int32} {i t0 : Nat} {g0 : gc}
theorem x_spS (hT : TS K P V W N c) (h1 : x1.toInt = i) (hi : i < 260) (fH : sfr i I H) (XH : PX K P V W N c R0 M0 m o3 H L) (rm : ∀ t' s' g', m = some (t', s', g') → t0 < t' ∧ s' = 21 ∧ g' = g0) (ro : m ≠ none → ∀ b, o3 = some b → ∃ a0, o = some a0 ∧ spb0 a0 b ∧ b.1 2 8 = H 130 i ∧ b.1 2 9 = H 131 i ∧ 0 ≤ (H 130 i).toInt ∧ (H 130 i).toInt ≤ 9 ∧ -1 ≤ (H 131 i).toInt ∧ (H 131 i).toInt ≤ 9) (h : ∀ (J : sm_I) (m' : mo) (o' : Option sg), PX K P V W N c R0 M0 m' o' J L → spok t0 g0 i o I J m' o' → Φ (none, (xLay, J, L, kM R))) : sm_wp sm_P S (d + 3) 169 0 [.ref 107, .int (1 : Int32)] [] (xLay, H, L, kM R) (0, 0) (fun z => ∃ (r41 : Int32) (I38 : sm_I) (L39 : sm_L) (R40 : sm_R), z = (some (.int r41), (xLay, I38, L39, kM R40)) ∧ (vp_in x1 260) ∧ ∀ I42 : sm_I, I42 = (sm_up I38 132 x1.toNatClampNeg r41) → sm_wp sm_P S (d + 3) 169 0 [.ref 107, .int (1 : Int32)] [] (xLay, I42, L39, kM R40) (0, 0) (fun z => ∃ (r52 : Int32) (I49 : sm_I) (L50 : sm_L) (R51 : sm_R), z = (some (.int r52), (xLay, I49, L50, kM R51)) ∧ (vp_in x1 260) ∧ ∀ I53 : sm_I, I53 = (sm_up I49 133 x1.toNatClampNeg r52) → Φ (none, (xLay, I53, L50, kM R51)))) := by
  have v : vp_in x1 260 := kl_in (by omega) (by omega)
  have n1 := tk_nat h1
  refine x_numS (s0 := 21) (s1 := 22) hT (by decide +kernel) (by decide +kernel) (by decide +kernel) (by decide +kernel) (by decide +kernel) (fun r a => u2 a 2 10 r) (fun v a hv => by rw [ms_16 hv]; rfl) (fun v a hv => by rw [ms_16 hv]; rfl) (fun v a => rfl) XH (fun t' s' g' em => (rm t' s' g' em).2.1) (fun r J m1 o1 f X1 r1 => ⟨r, J, L, R, rfl, v, fun J2 e2 => ?_⟩)
  rw [n1] at e2
  have X2 : PX K P V W N c R0 M0 m1 o1 J2 L := by rw [e2]; exact PX_up (by decide) (by omega) X1
  have e21 : ∀ t' s' g', m1 = some (t', s', g') → t0 < t' ∧ s' = 23 ∧ g' = g0 := fun t' s' g' em => by
    rcases r1 with r1 | ⟨t2, g2, u, em2, q1, q2, q3, q4, q5⟩
    · rw [r1] at em; cases em
    · rw [q4] at em
      obtain ⟨y1, y2, y3⟩ := mo_i em
      obtain ⟨z1, z2, z3⟩ := rm t2 21 g2 em2
      exact ⟨by omega, by rw [← y2]; decide +kernel, by rw [← y3]; exact z3⟩
  refine x_numS (s0 := 23) (s1 := 24) hT (by decide +kernel) (by decide +kernel) (by decide +kernel) (by decide +kernel) (by decide +kernel) en_sp (fun v a hv => by rw [ms_16 hv]; rfl) (fun v a hv => by rw [ms_16 hv]; rfl) (fun v a => rfl) X2 (fun t' s' g' em => (e21 t' s' g' em).2.1) (fun r' J3 m3 o3' f3 X3 r3 => ⟨r', J3, L, R, rfl, v, fun J4 e4 => ?_⟩)
  rw [n1] at e4
  have X4 : PX K P V W N c R0 M0 m3 o3' J4 L := by rw [e4]; exact PX_up (by decide) (by omega) X3
  refine h J4 m3 o3' X4 ⟨?_, ?_⟩
  · exact sfr_u (sfr_x (sfr_u (sfr_x fH f) (by decide) (by decide) e2) f3) (by decide) (by decide) e4
  · rcases r3 with r3 | ⟨t2, g2, u, em2, q1, q2, q3, q4, q5⟩
    · exact Or.inl r3
    · obtain ⟨z1, z2, z3⟩ := e21 t2 23 g2 em2
      refine Or.inr ⟨u + 1, ?_, by omega, fun a' ea => ?_⟩
      · rw [q4, z3, show fw 23 16 = 26 from by decide +kernel]
      · rcases q5 with q5 | ⟨-, -, q5⟩
        · rw [q5] at ea; cases ea
        obtain ⟨b2, eb, eb'⟩ := om (Or.inr q5) ea
        rcases r1 with r1 | ⟨t4, g4, u4, em4, p1, p2, p3, p4, p5⟩
        · rw [r1] at em2; cases em2
        rcases p5 with p5 | ⟨-, -, p5⟩
        · rw [p5] at eb; cases eb
        obtain ⟨b1, ec, ec'⟩ := om (Or.inr p5) eb
        obtain ⟨a0, ea0, w1, w2, w3, w4⟩ := ro (by rw [em4]; exact Option.some_ne_none _) b1 ec
        have k30 : J4 130 i = H 130 i := by rw [e4, en_up_ne _ _ _ _ (by omega), f3 130 i (by omega), e2, en_up_ne _ _ _ _ (by omega), f 130 i (by omega)]
        have k31 : J4 131 i = H 131 i := by rw [e4, en_up_ne _ _ _ _ (by omega), f3 131 i (by omega), e2, en_up_ne _ _ _ _ (by omega), f 131 i (by omega)]
        have k32 : J4 132 i = r := by rw [e4, en_up_ne _ _ _ _ (by omega), f3 132 i (by omega), e2, en_up_eq]
        have k33 : J4 133 i = r' := by rw [e4, en_up_eq]
        refine ⟨a0, ea0, b2, by rw [k33]; exact eb', ?_⟩
        subst ec'
        rw [k30, k31, k32]
        exact ⟨spb0_u w1 (by omega), by rw [u2_ne _ _ _ _ (by omega)]; exact w2, by rw [u2_ne _ _ _ _ (by omega)]; exact w3, u2_eq _ _ _ _, w4⟩
theorem x_spU (hT : TS K P V W N c) (h1 : x1.toInt = i) (hi : i < 260) (fH : sfr i I H) (XH : PX K P V W N c R0 M0 m o3 H L) (rm : ∀ t' s' g', m = some (t', s', g') → t0 < t' ∧ s' = 19 ∧ g' = g0) (ro : m ≠ none → ∀ b, o3 = some b → ∃ a0, o = some a0 ∧ spb0 a0 b ∧ b.1 2 8 = H 130 i ∧ b.1 2 9 = H 131 i ∧ 0 ≤ (H 130 i).toInt ∧ (H 130 i).toInt ≤ 9 ∧ -1 ≤ (H 131 i).toInt ∧ (H 131 i).toInt ≤ 9) (h : ∀ (J : sm_I) (m' : mo) (o' : Option sg), PX K P V W N c R0 M0 m' o' J L → spok t0 g0 i o I J m' o' → Φ (none, (xLay, J, L, kM R))) : sm_wp sm_P S (d + 3) 169 0 [.ref 107, .int (0 : Int32)] [] (xLay, H, L, kM R) (0, 0) (fun z => ∃ (r41 : Int32) (I38 : sm_I) (L39 : sm_L) (R40 : sm_R), z = (some (.int r41), (xLay, I38, L39, kM R40)) ∧ (vp_in x1 260) ∧ ∀ I42 : sm_I, I42 = (sm_up I38 132 x1.toNatClampNeg r41) → sm_wp sm_P S (d + 3) 169 0 [.ref 107, .int (0 : Int32)] [] (xLay, I42, L39, kM R40) (0, 0) (fun z => ∃ (r52 : Int32) (I49 : sm_I) (L50 : sm_L) (R51 : sm_R), z = (some (.int r52), (xLay, I49, L50, kM R51)) ∧ (vp_in x1 260) ∧ ∀ I53 : sm_I, I53 = (sm_up I49 133 x1.toNatClampNeg r52) → Φ (none, (xLay, I53, L50, kM R51)))) := by
  have v : vp_in x1 260 := kl_in (by omega) (by omega)
  have n1 := tk_nat h1
  refine x_numU (s0 := 19) hT (by decide +kernel) (fun r a => u2 a 2 10 r) (fun v a hv => by rw [ms_16 hv]; rfl) XH (fun t' s' g' em => (rm t' s' g' em).2.1) (fun r J m1 o1 f X1 r1 => ⟨r, J, L, R, rfl, v, fun J2 e2 => ?_⟩)
  rw [n1] at e2
  have X2 : PX K P V W N c R0 M0 m1 o1 J2 L := by rw [e2]; exact PX_up (by decide) (by omega) X1
  have e21 : ∀ t' s' g', m1 = some (t', s', g') → t0 < t' ∧ s' = 25 ∧ g' = g0 := fun t' s' g' em => by
    rcases r1 with r1 | ⟨t2, g2, em2, q2, q3, q4, q5⟩
    · rw [r1] at em; cases em
    · rw [q4] at em
      obtain ⟨y1, y2, y3⟩ := mo_i em
      obtain ⟨z1, z2, z3⟩ := rm t2 19 g2 em2
      exact ⟨by omega, by rw [← y2]; decide +kernel, by rw [← y3]; exact z3⟩
  refine x_numU (s0 := 25) hT (by decide +kernel) en_sp (fun v a hv => by rw [ms_16 hv]; rfl) X2 (fun t' s' g' em => (e21 t' s' g' em).2.1) (fun r' J3 m3 o3' f3 X3 r3 => ⟨r', J3, L, R, rfl, v, fun J4 e4 => ?_⟩)
  rw [n1] at e4
  have X4 : PX K P V W N c R0 M0 m3 o3' J4 L := by rw [e4]; exact PX_up (by decide) (by omega) X3
  refine h J4 m3 o3' X4 ⟨?_, ?_⟩
  · exact sfr_u (sfr_x (sfr_u (sfr_x fH f) (by decide) (by decide) e2) f3) (by decide) (by decide) e4
  · rcases r3 with r3 | ⟨t2, g2, em2, q2, q3, q4, q5⟩
    · exact Or.inl r3
    · obtain ⟨z1, z2, z3⟩ := e21 t2 25 g2 em2
      refine Or.inr ⟨t2 + 1, ?_, by omega, fun a' ea => ?_⟩
      · rw [q4, z3, show fw 25 16 = 26 from by decide +kernel]
      · rcases q5 with q5 | ⟨-, -, q5⟩
        · rw [q5] at ea; cases ea
        obtain ⟨b2, eb, eb'⟩ := om (Or.inr q5) ea
        rcases r1 with r1 | ⟨t4, g4, em4, p2, p3, p4, p5⟩
        · rw [r1] at em2; cases em2
        rcases p5 with p5 | ⟨-, -, p5⟩
        · rw [p5] at eb; cases eb
        obtain ⟨b1, ec, ec'⟩ := om (Or.inr p5) eb
        obtain ⟨a0, ea0, w1, w2, w3, w4⟩ := ro (by rw [em4]; exact Option.some_ne_none _) b1 ec
        have k30 : J4 130 i = H 130 i := by rw [e4, en_up_ne _ _ _ _ (by omega), f3 130 i (by omega), e2, en_up_ne _ _ _ _ (by omega), f 130 i (by omega)]
        have k31 : J4 131 i = H 131 i := by rw [e4, en_up_ne _ _ _ _ (by omega), f3 131 i (by omega), e2, en_up_ne _ _ _ _ (by omega), f 131 i (by omega)]
        have k32 : J4 132 i = r := by rw [e4, en_up_ne _ _ _ _ (by omega), f3 132 i (by omega), e2, en_up_eq]
        have k33 : J4 133 i = r' := by rw [e4, en_up_eq]
        refine ⟨a0, ea0, b2, by rw [k33]; exact eb', ?_⟩
        subst ec'
        rw [k30, k31, k32]
        exact ⟨spb0_u w1 (by omega), by rw [u2_ne _ _ _ _ (by omega)]; exact w2, by rw [u2_ne _ _ _ _ (by omega)]; exact w3, u2_eq _ _ _ _, w4⟩
theorem x_tellSpan (hT : TS K P V W N c) (h1 : x1.toInt = i) (hi : i < 260) (b0 : 0 ≤ (I 107 20).toInt) (b1 : (I 107 20).toInt ≤ 50) (hb : ∀ j, j < cntm I → 0 ≤ (I 117 j).toInt) (hf : ∀ nm, -1 ≤ (fdm I L nm 2).toInt ∧ (fdm I L nm 2).toInt ≤ 9) (hX : PX K P V W N c R0 M0 m o I L) (hs : ∀ t' s' g', m = some (t', s', g') → t' = t0 ∧ s' = 17 ∧ g' = g0) (hl : ∀ a0, o = some a0 → ∀ b, spb0 a0 b → ∀ u, u < c → K u = 15 → fd b (V u) 3 = fdm I L (W u) 2) (h : ∀ (J : sm_I) (m' : mo) (o' : Option sg), PX K P V W N c R0 M0 m' o' J L → spok t0 g0 i o I J m' o' → Φ (none, (xLay, J, L, kM R))) : sm_wp sm_P S (d + 4) 201 0 [.ref 107, .int x1] [] (xLay, I, L, kM R) (0, 0) Φ := by
  have v : vp_in x1 260 := kl_in (by omega) (by omega)
  have n1 := tk_nat h1
  have rf : ∀ a0 : sg, spb0 a0 a0 := fun a0 => ⟨rfl, fun _ _ _ => rfl, rfl, rfl⟩
  refine u_X12_tellSpan_0 (x_knownS (kd := 3) (s0 := 17) hT (by decide +kernel) hX (fun t' s' g' em => (hs t' s' g' em).2.1) b0 b1 hb (fun t' g' a1 em eo uc ku => hl a1 eo a1 (rf a1) t' uc ku) (fun r a => u2 (u2 a 2 8 r) 2 9 (-1)) (fun v a => by rw [ms_15]; rfl) (fun r4 J1 m1 o1 f1 X1 r1 => ⟨r4, J1, L, R, rfl, ?_⟩))
  have e1 : ∀ t' s' g', m1 = some (t', s', g') → t' = t0 + 1 ∧ s' = 18 ∧ g' = g0 ∧ ∀ b, o1 = some b → ∃ a0, o = some a0 ∧ b = u2 (u2 a0 2 8 r4) 2 9 (-1) ∧ 0 ≤ r4.toInt ∧ r4.toInt ≤ 9 := fun t' s' g' em => by
    rcases r1 with ⟨r1, -⟩ | ⟨t2, g2, em2, q1, q2, q3, q4, q5, q6⟩
    · rw [r1] at em; cases em
    · rw [q4] at em
      obtain ⟨y1, y2, y3⟩ := mo_i em
      obtain ⟨z1, z2, z3⟩ := hs t2 17 g2 em2
      refine ⟨by omega, by rw [← y2]; decide +kernel, by rw [← y3]; exact z3, fun b eb => ?_⟩
      rcases q6 with q6 | ⟨q7, q6⟩
      · rw [q6] at eb; cases eb
      obtain ⟨a0, ea, ea'⟩ := om (Or.inr q6) eb
      have := hf (W t2)
      rw [← q5] at this
      have q7 := ml_m1 q7
      exact ⟨a0, ea, ea', by omega, by omega⟩
  refine x_is (i := 14) hT (by decide) rfl X1.1 (fun r8 _ hr8 => ⟨r8, J1, L, R, rfl, fun r0 => ?_, fun r0 => ?_⟩)
  · refine x_mustT (i := 11) (s0 := 18) [14] hT rfl (by decide +kernel) (fun v a => rfl) X1 (fun t' s' g' em => ⟨(e1 t' s' g' em).2.1, fun j hj ekj => ?_⟩) (fun J2 m2 f2 X2 r2 => ⟨J2, L, R, rfl, fun z => ?_, fun z => ?_⟩)
    · rw [List.mem_singleton.mp hj] at ekj
      exact absurd r0 (hr8.mpr ⟨t', s', g', em, ekj⟩)
    · have z := PS_le0 X2.1 z
      have f12 : xfr I J2 := xfr_tr f1 f2
      have c20 : J2 107 20 = I 107 20 := f12 107 20 (by omega)
      have cm2 : cntm J2 = cntm I := by unfold cntm; rw [c20]
      have e2 : ∀ t' s' g', m2 = some (t', s', g') → t' = t0 + 2 ∧ s' = 20 ∧ g' = g0 ∧ ∀ b, o1 = some b → ∃ a0, o = some a0 ∧ b = u2 (u2 a0 2 8 r4) 2 9 (-1) ∧ 0 ≤ r4.toInt ∧ r4.toInt ≤ 9 := fun t' s' g' em => by
        rcases r2 with r2 | ⟨t3, g3, em3, v1, v2, v3, v4⟩
        · rw [r2] at em; cases em
        · rw [v4] at em
          obtain ⟨y1, y2, y3⟩ := mo_i em
          obtain ⟨z1, z2, z3, z4⟩ := e1 t3 18 g3 em3
          exact ⟨by omega, by rw [← y2]; decide +kernel, by rw [← y3]; exact z3, z4⟩
      refine x_knownS (kd := 3) (s0 := 20) hT (by decide +kernel) X2 (fun t' s' g' em => (e2 t' s' g' em).2.1) (by rw [c20]; exact b0) (by rw [c20]; exact b1) (fun j hj => by rw [f12 117 j (by omega)]; exact hb j (by rw [← cm2]; exact hj)) (fun t' g' a1 em eo uc ku => ?_) (fun r a => u2 a 2 9 r) (fun v a => by rw [ms_15]; rfl) (fun r16 J3 m3 o3 f3 X3 r3 => ⟨r16, J3, L, R, rfl, v, fun J4 e4 => ⟨v, fun J5 e5 => ?_⟩⟩)
      · obtain ⟨-, -, -, y8⟩ := e2 t' 20 g' em
        obtain ⟨a0, ea, ea', -⟩ := y8 a1 eo
        subst ea'
        rw [fdm_cg f12]
        exact hl a0 ea _ (spb0_u (spb0_u (rf a0) (by omega)) (by omega)) t' uc ku
      rw [n1] at e4 e5
      have f13 : xfr I J3 := xfr_tr f12 f3
      have sf3 : sfr i I J3 := fun p j _ b => f13 p j b
      have sf5 : sfr i I J5 := sfr_u (sfr_u sf3 (by decide) (by decide) e4) (by decide) (by decide) e5
      have X5 : PX K P V W N c R0 M0 m3 o3 J5 L := by rw [e5, e4]; exact PX_up (by decide) (by omega) (PX_up (by decide) (by omega) X3)
      have k30 : J5 130 i = r4 := by rw [e5, en_up_eq]
      have k31 : J5 131 i = r16 := by rw [e5, en_up_ne _ _ _ _ (by omega), e4, en_up_eq]
      refine ⟨fun _ => ?_, fun q => absurd r0 q⟩
      refine sm_wp_mono (x_spS (H := J5) (o := o) (t0 := t0) (g0 := g0) hT h1 hi sf5 X5 (fun t' s' g' em => ?_) (fun nm b eb => ?_) h) (fun z hq => ?_)
      · rcases r3 with ⟨r3, -⟩ | ⟨t3, g3, em3, q1, q2, q3, q4, q5, q6⟩
        · rw [r3] at em; cases em
        · rw [q4] at em
          obtain ⟨y1, y2, y3⟩ := mo_i em
          obtain ⟨z1, z2, z3, -⟩ := e2 t3 20 g3 em3
          exact ⟨by omega, by rw [← y2]; decide +kernel, by rw [← y3]; exact z3⟩
      · rcases r3 with ⟨r3, -⟩ | ⟨t3, g3, em3, q1, q2, q3, q4, q5, q6⟩
        · exact absurd r3 nm
        · rcases q6 with q6 | ⟨q7, q6⟩
          · rw [q6] at eb; cases eb
          obtain ⟨b2, eb2, eb2'⟩ := om (Or.inr q6) eb
          obtain ⟨-, -, -, y8⟩ := e2 t3 20 g3 em3
          obtain ⟨a0, ea, ea', w0, w9⟩ := y8 b2 eb2
          subst ea'
          subst eb2'
          have := hf (W t3)
          rw [← fdm_cg f12, ← q5] at this
          refine ⟨a0, ea, spb0_u (spb0_u (spb0_u (rf a0) (by omega)) (by omega)) (by omega), ?_, ?_, ?_⟩
          · rw [k30, u2_ne _ _ _ _ (by omega), u2_ne _ _ _ _ (by omega), u2_eq]
          · rw [k31, u2_eq]
          · rw [k30, k31]; exact ⟨w0, w9, this.1, this.2⟩
      · obtain ⟨r41, I38, L39, R40, ez, w1, w2⟩ := hq
        refine ⟨r41, I38, L39, R40, ez, w1, fun I42 e42 => ⟨fun _ => w2 I42 e42, fun q => absurd r0 q⟩⟩
    · have nz : ¬ J2 107 13 = 0 := fun y => z (by rw [y]; decide)
      have em2 := PS_n0 X2.1 nz
      subst em2
      refine ⟨v, fun J4 e4 => ⟨v, fun J5 e5 => ⟨fun _ => ?_, fun q => absurd r0 q⟩⟩⟩
      rw [n1] at e4 e5
      have f12 : xfr I J2 := xfr_tr f1 f2
      have sf5 : sfr i I J5 := sfr_u (sfr_u (fun p j _ b => f12 p j b) (by decide) (by decide) e4) (by decide) (by decide) e5
      have X5 : PX K P V W N c R0 M0 none none J5 L := PX_F (by rw [e5, e4]; exact PS_up (by decide) (by omega) (PS_up (by decide) (by omega) X2.1))
      refine sm_wp_mono (x_spS (H := J5) (o := o) (t0 := t0) (g0 := g0) hT h1 hi sf5 X5 (fun t' s' g' em => by cases em) (fun nm => absurd rfl nm) h) (fun z hq => ?_)
      obtain ⟨r41, I38, L39, R40, ez, w1, w2⟩ := hq
      refine ⟨r41, I38, L39, R40, ez, w1, fun I42 e42 => ⟨fun _ => w2 I42 e42, fun q => absurd r0 q⟩⟩
  · obtain ⟨tk, sk, gk, emk, ekk⟩ := hr8.mp r0
    refine x_goT (i := 14) (s0 := 18) [11] hT (by decide +kernel) (fun v a => rfl) X1 (fun t' s' g' em => ⟨(e1 t' s' g' em).2.1, ?_⟩) (fun J2 m2 f2 X2 r2 => ⟨J2, L, R, rfl, v, fun J4 e4 => ⟨v, fun J5 e5 => ?_⟩⟩)
    · rw [emk] at em
      rw [← (mo_i em).1]; exact ekk
    rw [n1] at e4 e5
    have f12 : xfr I J2 := xfr_tr f1 f2
    have sf5 : sfr i I J5 := sfr_u (sfr_u (fun p j _ b => f12 p j b) (by decide) (by decide) e4) (by decide) (by decide) e5
    have X5 : PX K P V W N c R0 M0 m2 o1 J5 L := by rw [e5, e4]; exact PX_up (by decide) (by omega) (PX_up (by decide) (by omega) X2)
    have k30 : J5 130 i = r4 := by rw [e5, en_up_eq]
    have k31 : J5 131 i = -1 := by rw [e5, en_up_ne _ _ _ _ (by omega), e4, en_up_eq]
    refine ⟨fun q => absurd q r0, fun _ => ?_⟩
    refine sm_wp_mono (x_spU (H := J5) (o := o) (t0 := t0) (g0 := g0) hT h1 hi sf5 X5 (fun t' s' g' em => ?_) (fun nm b eb => ?_) h) (fun z hq => ?_)
    · rcases r2 with r2 | ⟨t3, g3, em3, v1, v2, v3, v4⟩
      · rw [r2] at em; cases em
      · rw [v4] at em
        obtain ⟨y1, y2, y3⟩ := mo_i em
        obtain ⟨z1, z2, z3, -⟩ := e1 t3 18 g3 em3
        exact ⟨by omega, by rw [← y2]; decide +kernel, by rw [← y3]; exact z3⟩
    · obtain ⟨-, -, -, y8⟩ := e1 tk sk gk emk
      obtain ⟨a0, ea, ea', w0, w9⟩ := y8 b eb
      subst ea'
      refine ⟨a0, ea, spb0_u (spb0_u (rf a0) (by omega)) (by omega), ?_, ?_, ?_⟩
      · rw [k30, u2_ne _ _ _ _ (by omega), u2_eq]
      · rw [k31, u2_eq]
      · rw [k30, k31]; exact ⟨w0, w9, by decide, by decide⟩
    · obtain ⟨r41, I38, L39, R40, ez, w1, w2⟩ := hq
      refine ⟨r41, I38, L39, R40, ez, w1, fun I42 e42 => ⟨fun q => absurd q r0, fun _ => w2 I42 e42⟩⟩
end
end
section
/-! tells of the reference, exact: ask -/
theorem spb_o {cc n : Nat} {row x y lo hi : Int32} {a : sg} {p j : Nat} (h : ¬ (cc + 1 ≤ p ∧ p ≤ cc + 4 ∧ j = row.toNatClampNeg)) : (spb cc n row x y lo hi a).1 p j = a.1 p j := by
  unfold spb
  by_cases c1 : row < 0
  · rw [if_pos c1]
  · rw [if_neg c1]
    by_cases c2 : Int32.ofNat n ≤ row
    · rw [if_pos c2]
    · rw [if_neg c2, u2_ne _ _ _ _ (by omega), u2_ne _ _ _ _ (by omega), u2_ne _ _ _ _ (by omega), u2_ne _ _ _ _ (by omega)]
theorem spb_2 {cc n : Nat} {row x y lo hi : Int32} {a : sg} : (spb cc n row x y lo hi a).2 = a.2 := by
  unfold spb
  by_cases c1 : row < 0
  · rw [if_pos c1]
  · rw [if_neg c1]
    by_cases c2 : Int32.ofNat n ≤ row
    · rw [if_pos c2]
    · rw [if_neg c2]; rfl
theorem spb_i {cc n k : Nat} {row x y lo hi : Int32} {a : sg} (hk : row.toInt = k) (hn : k < n) (n2 : n ≤ 200) : (spb cc n row x y lo hi a).1 (cc + 1) k = x ∧ (spb cc n row x y lo hi a).1 (cc + 2) k = y ∧ (spb cc n row x y lo hi a).1 (cc + 3) k = lo ∧ (spb cc n row x y lo hi a).1 (cc + 4) k = hi := by
  have e : (Int32.ofNat n).toInt = (n : Int) := Int32.toInt_ofNat_of_lt (by omega)
  have es : spb cc n row x y lo hi a = u2 (u2 (u2 (u2 a (cc + 1) k x) (cc + 2) k y) (cc + 3) k lo) (cc + 4) k hi := by
    unfold spb
    rw [if_neg (fun q => by rw [kl_lt, kl_0] at q; omega), if_neg (fun q => by rw [kl_le, e] at q; omega), tk_nat hk]
  rw [es]
  refine ⟨?_, ?_, ?_, ?_⟩
  · rw [u2_ne _ _ _ _ (by omega), u2_ne _ _ _ _ (by omega), u2_ne _ _ _ _ (by omega), u2_eq]
  · rw [u2_ne _ _ _ _ (by omega), u2_ne _ _ _ _ (by omega), u2_eq]
  · rw [u2_ne _ _ _ _ (by omega), u2_eq]
  · rw [u2_eq]
section
variable {K : Nat → Int32} {P : Nat → Nat} {V W : Nat → Int64} {N : Nat → Int32} {c : Nat} {R0 : Option (Int32 × Nat)} {M0 : Option (Int32 × Nat) × sg}
variable {S : sm_C} {d : Nat} {Φ : sm_Z → Prop} {I : sm_I} {L : sm_L} {R : sm_R} {m : mo} {o : Option sg} {l s t : Nat} {g : gc}
theorem x_tellQuestion (hT : TS K P V W N c) (hls : ml_ls l s) (hm : en_mem ml_tb mlX (xLay, I, L, R)) (hI : ml_TI l s I) (hX : PX K P V W N c R0 M0 (some (t, 0, g)) o I L) (hG : rG s g I) (hR : ∀ a, o = some a → rL K V W s t a I L) (ek : K t = 12) (hr : (I 136 s).toInt < 5) (h : ∀ (J : sm_I) (L' : sm_L), TP K P V W N c R0 M0 s t J L' → Φ (none, (xLay, J, L', kM R))) : sm_wp sm_P S (d + 5) 199 0 [.ref 107] [] (xLay, I, L, kM R) (0, 0) Φ := by
  obtain ⟨hl1, hs1⟩ := ml_l1 hls
  obtain ⟨sn, sv⟩ := ml_sn hls hI
  have bc := ml_cs hs1 hm
  have b34 := x_34 hs1 hm
  obtain ⟨⟨b0, b1⟩, hb⟩ := x_b117 hm
  have bs : (I 107 20).toInt ≤ ml_sum I s := hI.2.2.1
  unfold ml_sum at bs
  have b49 := ml_nm49 hls hI hm
  have tc : t ≤ c := hX.1.2.2.2.2.2.1
  have q0 := bc.2.2.2.2
  have kq : (((I 136 s).toNatClampNeg : Nat) : Int) = (I 136 s).toInt := kl_nat q0.1
  have ok : gc_ok 0 12 g = true := by
    unfold gc_ok
    rw [if_pos ⟨rfl, by decide⟩]
    refine decide_eq_true ?_
    have := hG.2.2.2.2.2.2
    rw [show gw 12 = 12 from by decide, show (sm_room.getD 12 0).toInt = 5 from by decide]
    omega
  refine u_X12_tellQuestion_0 (x_go0 (k := 12) hT ek (by decide) (by decide) (by decide +kernel) (by decide) (by decide) ok hX (fun J1 m1 f1 X1 r1 => ⟨J1, L, R, rfl, ?_⟩))
  have e1 : ∀ t' s' g', m1 = some (t', s', g') → t' = t + 1 ∧ s' = 15 ∧ g' = gc_st 0 12 g := fun t' s' g' em => by
    rcases r1 with r1 | ⟨q1, q2, q3⟩
    · rw [r1] at em; cases em
    · rw [q3] at em
      obtain ⟨y1, y2, y3⟩ := mo_i em
      exact ⟨y1.symm, by rw [← y2]; decide +kernel, y3.symm⟩
  have c20 : J1 107 20 = I 107 20 := f1 107 20 (by omega)
  refine x_named (s0 := 15) hT (by decide +kernel) (fun v a => by rw [ms_15]; rfl) X1 (fun t' s' g' em => (e1 t' s' g' em).2.1) (by rw [c20]; exact b0) (by rw [c20]; exact b1) (fun t' g' a1 em eo uc ku => ?_) (fun J2 m2 o2 f2 X2 r2 => ⟨_, J2, L, R, rfl, ?_⟩)
  · obtain ⟨a, ea3, ea4⟩ := om (Or.inr rfl) eo
    subst ea4
    exact x_hn hT f1 (hR a ea3) tc 12 uc ku (by omega)
  have f12 : xfr I J2 := xfr_tr f1 f2
  have e2 : ∀ t' s' g', m2 = some (t', s', g') → t' = t + 2 ∧ s' = 16 ∧ g' = gc_st 0 12 g ∧ t + 1 < c ∧ t + 1 < 500 ∧ K (t + 1) = 15 ∧ (J1 107 11).toInt = ((t + 1 : Nat) : Int) ∧ ∀ a2, o2 = some a2 → ∃ a, rL K V W s t a I L ∧ a2 = nm_add (V (t + 1)) (u2 a 2 7 12) := fun t' s' g' em => by
    rcases r2 with r2 | ⟨t2, g2, em2, q1, q2, q3, q4, q5⟩
    · rw [r2] at em; cases em
    · rw [q4] at em
      obtain ⟨y1, y2, y3⟩ := mo_i em
      obtain ⟨z1, z2, z3⟩ := e1 t2 15 g2 em2
      subst z1
      have hS := X1.1
      rw [em2] at hS
      refine ⟨by omega, by rw [← y2]; decide +kernel, by rw [← y3]; exact z3, q1, q2, q3, hS.2.2.2.2.1, fun a2 ea => ?_⟩
      rcases q5 with q5 | ⟨q5, -⟩
      · rw [q5] at ea; cases ea
      obtain ⟨a1, ea1, ea1'⟩ := om (Or.inr q5) ea
      obtain ⟨a, ea3, ea4⟩ := om (Or.inr rfl) ea1
      subst ea4
      exact ⟨a, hR a ea3, ea1'⟩
  refine x_mustT (i := 18) (s0 := 16) [] hT rfl (by decide +kernel) (fun v a => rfl) X2 (fun t' s' g' em => ⟨(e2 t' s' g' em).2.1, fun j hj => absurd hj List.not_mem_nil⟩) (fun J3 m3 f3 X3 r3 => ⟨J3, L, R, rfl, fun z => ?_, fun z => ?_⟩)
  · have f13 : xfr I J3 := xfr_tr f12 f3
    have e19 : J3 107 19 = I 107 19 := f13 107 19 (by omega)
    have e136 : J3 136 s = I 136 s := f13 136 s (by omega)
    have d20 : J3 107 20 = I 107 20 := f13 107 20 (by omega)
    have cm3 : cntm J3 = cntm I := by unfold cntm; rw [d20]
    have e3 : ∀ t' s' g', m3 = some (t', s', g') → t' = t + 3 ∧ s' = 17 ∧ g' = gc_st 0 12 g ∧ t + 1 < c ∧ t + 1 < 500 ∧ K (t + 1) = 15 ∧ (J1 107 11).toInt = ((t + 1 : Nat) : Int) ∧ ∀ a2, o2 = some a2 → ∃ a, rL K V W s t a I L ∧ a2 = nm_add (V (t + 1)) (u2 a 2 7 12) := fun t' s' g' em => by
      rcases r3 with r3 | ⟨t3, g3, em3, v1, v2, v3, v4⟩
      · rw [r3] at em; cases em
      · rw [v4] at em
        obtain ⟨y1, y2, y3⟩ := mo_i em
        obtain ⟨z1, z2, z3, z4⟩ := e2 t3 16 g3 em3
        exact ⟨by omega, by rw [← y2]; decide +kernel, by rw [← y3]; exact z3, z4⟩
    rw [e19, sn]
    refine ⟨sv, fun n27 e27 => ?_⟩
    have q1 : ((6 : Int32) * (I 107 19)).toInt = 6 * (s : Int) := ml_mu (by decide) hI.2.1 (by omega) (by omega)
    have q2 : ((248 : Int32) + (6 : Int32) * (I 107 19)).toInt = 248 + 6 * (s : Int) := ml_ad (by decide) q1 (by omega) (by omega)
    have q27 : n27.toInt = ((248 + 6 * s + (I 136 s).toNatClampNeg : Nat) : Int) := by
      rw [e27, e136, ml_ad q2 rfl (by omega) (by omega)]; omega
    refine x_tellSpan (t0 := t + 3) (g0 := gc_st 0 12 g) hT q27 (by omega) (by rw [d20]; exact b0) (by rw [d20]; exact b1) (fun j hj => by rw [f13 117 j (by omega)]; exact hb j (by rw [← cm3]; exact hj)) (fun nm => by rw [fdm_cg f13]; exact (x_fb hm L nm).2.2) X3 (fun t' s' g' em => ⟨(e3 t' s' g' em).1, (e3 t' s' g' em).2.1, (e3 t' s' g' em).2.2.1⟩) (fun a0 ea0 b hb0 u uc ku => ?_) (fun J4 m4 o4 X4 r4 => ⟨J4, L, R, rfl, ?_⟩)
    · obtain ⟨t', s', g', em', -⟩ := PS_0 X3.1 z
      obtain ⟨-, -, -, -, -, -, -, y8⟩ := e3 t' s' g' em'
      obtain ⟨a, RL, ea'⟩ := y8 a0 ea0
      subst ea'
      exact x_pend (k := 12) (v := V (t + 1)) hT f13 RL tc b0 (by omega) (by unfold nm_kd; rw [u2_eq]; decide) (Or.inr (Or.inr (Or.inl ⟨rfl, rfl⟩))) hb0.1 (fun i => hb0.2.1 10 i (by decide)) (fun i => hb0.2.1 11 i (by decide)) hb0.2.2.1 uc ku
    obtain ⟨sf4, r4⟩ := r4
    refine x_mustT (i := 17) (s0 := 26) [9, 13] hT rfl (by decide +kernel) (fun v a => rfl) X4 (fun t' s' g' em => ?_) (fun J5 m5 f5 X5 r5 => ⟨J5, L, R, rfl, fun z5 => ?_, fun z5 => ?_⟩)
    · rcases r4 with r4 | ⟨t4, em4, v1, v2⟩
      · rw [r4] at em; cases em
      · rw [em4] at em
        obtain ⟨y1, y2, y3⟩ := mo_i em
        refine ⟨y2.symm, fun j hj _ => ⟨?_, by rw [← y3]; exact gc0_l (by decide)⟩⟩
        rcases List.mem_cons.mp hj with q | q
        · exact Or.inl q
        · exact Or.inr (List.mem_singleton.mp q)
    · have z5 := PS_le0 X5.1 z5
      rcases r5 with r5 | ⟨t5, g5, em5, v1, v2, v3, v4⟩
      · rw [r5] at X5; exact absurd z5 (PS_no X5.1)
      rcases r4 with r4 | ⟨t4, em4, w1, w2⟩
      · rw [r4] at em5; cases em5
      rw [em4] at em5
      obtain ⟨y1, y2, y3⟩ := mo_i em5
      obtain ⟨t', s', g', em', -⟩ := PS_0 X3.1 z
      obtain ⟨-, -, -, u1, u5, u3, h8, y8⟩ := e3 t' s' g' em'
      -- frame from the start
      have ft : ∀ p j, ¬ (130 ≤ p ∧ p ≤ 133 ∧ j = 248 + 6 * s + (I 136 s).toNatClampNeg) → ¬ (p = 107 ∧ (j = 11 ∨ j = 13 ∨ j = 14 ∨ j = 15 ∨ j = 16)) → J5 p j = I p j := fun p j h1 h2 => by rw [f5 p j h2, sf4 p j h1 h2, f13 p j h2]
      have g19 : J5 107 19 = I 107 19 := ft 107 19 (by omega) (by omega)
      have g20 : J5 107 20 = I 107 20 := ft 107 20 (by omega) (by omega)
      have g136 : J5 136 s = I 136 s := ft 136 s (by omega) (by omega)
      have ecm : cntm J5 = cntm I := by unfold cntm; rw [g20]
      have e4 : fw 26 (Int32.ofNat 17) = 0 := by decide +kernel
      rw [g19, sn]
      refine ⟨sv, fun n36 e36 => ?_⟩
      rw [g136] at e36
      refine x_knows (t := t + 1) h8 (by omega) (by rw [g20]; exact b0) (by rw [g20]; exact b49) X5 (fun J6 L6 e6J e6L X6 => ⟨J6, L6, R, rfl, ?_⟩)
      rw [ecm] at e6J e6L
      have o6 : ∀ p j, ¬ ((p = 116 ∨ p = 117) ∧ j = cntm I) → ¬ (p = 107 ∧ j = 20) → J6 p j = J5 p j := fun p j h1 h2 => by rw [e6J, en_up_ne _ _ _ _ (by omega), en_up_ne _ _ _ _ (by omega), en_up_ne _ _ _ _ (by omega)]
      have s6 : J6 107 19 = I 107 19 := by rw [o6 107 19 (by omega) (by omega)]; exact g19
      rw [s6, sn]
      refine ⟨sv, fun n41 e41 => ⟨sv, fun J7 e7 => h J7 L6 ⟨m5, o4, ?_, Or.inr ⟨t5 + 1, g5, by rw [v4, e4], by omega, ?_, fun a' ea => ?_⟩⟩⟩⟩
      · rw [e7]; exact PX_up (by decide) (by omega) X6
      all_goals
        have o7 : ∀ p j, ¬ ((p = 116 ∨ p = 117) ∧ j = cntm I) → ¬ (p = 136 ∧ j = s) → p ≠ 107 → ¬ (130 ≤ p ∧ p ≤ 133 ∧ j = 248 + 6 * s + (I 136 s).toNatClampNeg) → J7 p j = I p j := fun p j h1 h2 h3 h4 => by rw [e7, en_up_ne _ _ _ _ h2, o6 p j h1 (by omega), ft p j h4 (by omega)]
        have r7 : J7 136 s = I 136 s + 1 := by rw [e7, en_up_eq, e41, o6 136 s (by omega) (by omega), g136]
        have r7i : (J7 136 s).toInt = (I 136 s).toInt + 1 := by rw [r7]; exact ml_in1 (by omega)
      · rw [← y3]
        unfold rG
        obtain ⟨G1, G2, G3, G4, G5, G6, G7⟩ := hG
        refine ⟨?_, ?_, ?_, ?_, ?_, ?_, ?_⟩
        · rw [o7 118 s (by omega) (by omega) (by decide) (by omega), gc0_t (by decide), if_neg (by decide)]; exact G1
        · rw [o7 119 s (by omega) (by omega) (by decide) (by omega), gc0_t (by decide), if_neg (by decide)]; exact G2
        · rw [o7 120 s (by omega) (by omega) (by decide) (by omega), gc0_t (by decide), if_neg (by decide)]; exact G3
        · rw [o7 122 s (by omega) (by omega) (by decide) (by omega), gc0_t (by decide), if_neg (by decide)]; exact G4
        · rw [o7 125 s (by omega) (by omega) (by decide) (by omega), gc0_t (by decide), if_neg (by decide)]; exact G5
        · rw [o7 134 s (by omega) (by omega) (by decide) (by omega), gc0_t (by decide), if_neg (by decide)]; exact G6
        · rw [r7i, gc0_t (by decide), if_pos (by decide)]; omega
      · obtain ⟨a0, ea0, b, eb, hb0, b8, b9, b10, -⟩ := w2 a' ea
        obtain ⟨a, RL, ea'⟩ := y8 a0 ea0
        subst ea'
        obtain ⟨⟨R5, RN⟩, RC, RT, RO, RW, RS, RQ, RB⟩ := RL
        have a12 : ∀ j, (u2 a 2 7 12).1 12 j = a.1 12 j := fun j => u2_ne _ _ _ _ (by omega)
        have ef : a.1 12 4 = I 136 s := RC.2.2.2.2
        obtain ⟨A1, A2, A3⟩ := nmA (v := V (t + 1)) (a := u2 a 2 7 12) (k := 12) (mx := 5) (f := 4) (u2_eq _ _ _ _) (by decide) (fun b => by unfold nb_new; rw [if_neg (by decide), if_neg (by decide), if_neg (by decide), if_pos (by decide)]) (by rw [a12, ef, show (5 : Int32).toInt = 5 from by decide]; exact hr) (by decide)
        have b7 : b.1 2 7 = 12 := by rw [hb0.2.2.2, A3 2 7 (by decide) (by decide) (by omega), if_neg (by omega), u2_eq]
        have b124 : b.1 12 4 = I 136 s + 1 := by rw [hb0.2.1 12 4 (by decide), A3 12 4 (by decide) (by decide) (by omega), if_pos ⟨rfl, rfl⟩, a12, ef]
        have row : (b.1 12 4 - 1).toInt = (((I 136 s).toNatClampNeg : Nat) : Int) := by rw [b124, i32_a1]; exact kq.symm
        have rown := tk_nat row
        have es : a' = spb 29 5 (b.1 12 4 - 1) (b.1 2 8) (b.1 2 9) (b.1 2 10) (J4 133 (248 + 6 * s + (I 136 s).toNatClampNeg)) b := by rw [eb]; unfold en_sp; rw [if_pos b7]
        have B1 : ∀ p j, p ≠ 2 → p ≠ 10 → p ≠ 11 → ¬ (p = 12 ∧ j = 4) → ¬ (30 ≤ p ∧ p ≤ 33 ∧ j = (I 136 s).toNatClampNeg) → a'.1 p j = a.1 p j := fun p j h1 h2 h3 h4 h5 => by rw [es, spb_o (by rw [rown]; omega), hb0.2.1 p j h1, A3 p j h2 h3 (by omega), if_neg h4, u2_ne _ _ _ _ (by omega)]
        have SI := spb_i (cc := 29) (n := 5) (x := b.1 2 8) (y := b.1 2 9) (lo := b.1 2 10) (hi := J4 133 (248 + 6 * s + (I 136 s).toNatClampNeg)) (a := b) row (by omega) (by omega)
        rw [← es] at SI
        have eW : L 113 (t + 1) = W (t + 1) := (hX.1.1.2 (t + 1) u1 (by omega)).2
        refine ⟨?_, ?_, ?_, ?_, ?_, ?_, ?_, ?_⟩
        · have q := rN_new (a := u2 a 2 7 12) (I := I) (J := J7) (L' := L6) (t := t) (t' := t5 + 1) (u := t + 1) (W := W) (so := 4) (x := I 136 s) (L := L) (by rw [u2_ne _ _ _ _ (by omega)]; exact R5) b0 (by omega) (rN_cg RN t (Nat.le_refl _) (fun i _ => ⟨rfl, u2_ne _ _ _ _ (by omega), u2_ne _ _ _ _ (by omega)⟩) (fun i _ => ⟨rfl, rfl, rfl⟩)) (by omega) (by omega) u3 (by rw [A1]; exact Or.inr (Or.inr (Or.inr (Or.inr ⟨rfl, rfl⟩)))) (by rw [A2, a12, ef]) (by rw [e7, en_up_ne _ _ _ _ (by omega), e6J, en_up_eq, g20]) (by rw [e7, en_up_ne _ _ _ _ (by omega), e6J, en_up_ne _ _ _ _ (by omega), en_up_ne _ _ _ _ (by omega), en_up_eq]) (by rw [e7, en_up_ne _ _ _ _ (by omega), e6J, en_up_ne _ _ _ _ (by omega), en_up_eq, e36]) (fun i hi => ⟨o7 116 i (by omega) (by omega) (by decide) (by omega), o7 117 i (by omega) (by omega) (by decide) (by omega)⟩) (by rw [e6L, en_up_eq, eW]) (fun i hi => by rw [e6L, en_up_ne _ _ _ _ (by omega)])
          refine ⟨by rw [es, spb_o (by omega), hb0.2.2.1]; exact q.1, rN_cg q.2 (t5 + 1) (Nat.le_refl _) (fun i _ => ⟨by rw [es, spb_2, hb0.1], by rw [es, spb_o (by omega), hb0.2.1 10 i (by decide)], by rw [es, spb_o (by omega), hb0.2.1 11 i (by decide)]⟩) (fun i _ => ⟨rfl, rfl, rfl⟩)⟩
        · unfold rC
          refine ⟨?_, ?_, ?_, ?_, ?_⟩
          · rw [B1 12 0 (by omega) (by omega) (by omega) (by omega) (by omega), o7 118 s (by omega) (by omega) (by decide) (by omega)]; exact RC.1
          · rw [B1 12 1 (by omega) (by omega) (by omega) (by omega) (by omega), o7 119 s (by omega) (by omega) (by decide) (by omega)]; exact RC.2.1
          · rw [B1 12 2 (by omega) (by omega) (by omega) (by omega) (by omega), o7 122 s (by omega) (by omega) (by decide) (by omega)]; exact RC.2.2.1
          · rw [B1 12 3 (by omega) (by omega) (by omega) (by omega) (by omega), o7 125 s (by omega) (by omega) (by decide) (by omega)]; exact RC.2.2.2.1
          · rw [es, spb_o (by omega), b124, r7]
        · exact rT_cg RT (fun c' j hc => B1 c' j (by omega) (by omega) (by omega) (by omega) (by omega)) (fun p j hp => o7 p j (by omega) (by omega) (by omega) (by omega))
        · exact rO_cg RO b34.2 (fun c' j h1 h2 => B1 c' j (by omega) (by omega) (by omega) (by omega) (by omega)) (by rw [o7 122 s (by omega) (by omega) (by decide) (by omega)]; exact Int.le_refl _) (o7 134 s (by omega) (by omega) (by decide) (by omega)) (fun j => o7 135 j (by omega) (by omega) (by decide) (by omega)) (fun p j h1 h2 _ _ => o7 p j (by omega) (by omega) (by omega) (by omega))
        · exact rW_cg RW (fun j => B1 13 j (by omega) (by omega) (by omega) (by omega) (by omega)) (fun j => o7 121 j (by omega) (by omega) (by decide) (by omega))
        · exact rS_cg RS bc.2.2.2.1.2 hs1 (fun c' j hc => B1 c' j (by omega) (by omega) (by omega) (by omega) (by omega)) (fun p j hp => o7 p j (by omega) (by omega) (by omega) (by omega))
        · intro q hq hq2
          rw [r7i] at hq2
          by_cases cq : q = (I 136 s).toNatClampNeg
          · have val : ∀ p, 130 ≤ p → p ≤ 133 → J7 p (248 + 6 * s + q) = J4 p (248 + 6 * s + (I 136 s).toNatClampNeg) := fun p p1 p2 => by rw [cq, e7, en_up_ne _ _ _ _ (by omega), o6 p _ (by omega) (by omega), f5 p _ (by omega)]
            rw [val 130 (by decide) (by decide), val 131 (by decide) (by decide), val 132 (by decide) (by decide), val 133 (by decide) (by decide), cq, ← b8, ← b9, ← b10]
            exact SI
          · rw [B1 30 q (by omega) (by omega) (by omega) (by omega) (by omega), B1 31 q (by omega) (by omega) (by omega) (by omega) (by omega), B1 32 q (by omega) (by omega) (by omega) (by omega) (by omega), B1 33 q (by omega) (by omega) (by omega) (by omega) (by omega), o7 130 _ (by omega) (by omega) (by decide) (by omega), o7 131 _ (by omega) (by omega) (by decide) (by omega), o7 132 _ (by omega) (by omega) (by decide) (by omega), o7 133 _ (by omega) (by omega) (by decide) (by omega)]
            exact RQ q hq (by omega)
        · exact rB_new (so := 4) (x := I 136 s) RB b0 (by omega) (by rw [e7, en_up_ne _ _ _ _ (by omega), e6J, en_up_eq, g20]) (by rw [e7, en_up_ne _ _ _ _ (by omega), e6J, en_up_ne _ _ _ _ (by omega), en_up_ne _ _ _ _ (by omega), en_up_eq]) (by rw [e7, en_up_ne _ _ _ _ (by omega), e6J, en_up_ne _ _ _ _ (by omega), en_up_eq, e36]) (fun i hi => ⟨o7 116 i (by omega) (by omega) (by decide) (by omega), o7 117 i (by omega) (by omega) (by decide) (by omega)⟩) (by rw [o7 122 s (by omega) (by omega) (by decide) (by omega)]; exact Int.le_refl _) (fun y => absurd y (by decide))
    · have nz : ¬ J5 107 13 = 0 := fun y => z5 (by rw [y]; decide)
      have em := PS_n0 X5.1 nz
      exact h J5 L ⟨m5, o4, X5, Or.inl em⟩
  · have em3 := PS_n0 X3.1 z
    subst em3
    refine x_must (i := 17) [] hT rfl X3.1 (e := (0, none)) (M0 := M0) (V := V) (PE_n z) (fun t' s' g' em => by cases em) (fun J4 m4 f4 X4 _ r4 => ⟨J4, L, R, rfl, fun z4 => ?_, fun z4 => ?_⟩)
    · exfalso
      rcases r4 with r4 | ⟨t4, s4, g4, em4, -⟩
      · subst r4; exact PS_no X4 (PS_le0 X4 z4)
      · cases em4
    · have em := PS_n0 X4 (fun y => z4 (by rw [y]; decide))
      subst em
      exact h J4 L ⟨none, none, PX_F X4, Or.inl rfl⟩
end
end
