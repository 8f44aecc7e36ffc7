/-! tells of the reference, exact: way -/
theorem rL_a {K : Nat → Int32} {V W : Nat → Int64} {s t t' : Nat} {a a' : sg} {I : sm_I} {L : sm_L} (h : rL K V W s t a I L) (ht : t ≤ t') (b34 : (I 134 s).toInt ≤ 4) (b25 : (I 125 s).toInt ≤ 10) (hs : s ≤ 1) (ha : ∀ p j, 10 ≤ p → a'.1 p j = a.1 p j) (h5 : a'.1 2 5 = a.1 2 5) (h2 : a'.2 = a.2) : rL K V W s t' a' I L := by
  obtain ⟨⟨R5, RN⟩, RC, RT, RO, RW, RS, RQ, RB⟩ := h
  refine ⟨⟨by rw [h5]; exact R5, rN_cg RN t' ht (fun i _ => ⟨by rw [h2], ha 10 i (by decide), ha 11 i (by decide)⟩) (fun i _ => ⟨rfl, rfl, rfl⟩)⟩, ?_, rT_cg RT (fun c j hc => ha c j (by omega)) (fun _ _ _ => rfl), rO_cg RO b34 (fun c j h1 h2 => ha c j (by omega)) (Int.le_refl _) rfl (fun _ => rfl) (fun _ _ _ _ _ _ => rfl), rW_cg RW (fun j => ha 13 j (by decide)) (fun _ => rfl), rS_cg RS b25 hs (fun c j hc => ha c j (by omega)) (fun _ _ _ => rfl), rQ_cg RQ (fun c j h1 h2 => ha c j (by omega)) (fun _ _ _ => rfl), RB⟩
  unfold rC
  rw [ha 12 0 (by decide), ha 12 1 (by decide), ha 12 2 (by decide), ha 12 3 (by decide), ha 12 4 (by decide)]
  exact RC
/-- what is looked up has its bounds -/
theorem x_fb {I : sm_I} {L : sm_L} {R : sm_R} (hm : en_mem ml_tb mlX (xLay, I, L, R)) (L' : sm_L) (nm : Int64) : (-1 ≤ (fdm I L' nm 0).toInt ∧ (fdm I L' nm 0).toInt ≤ 3) ∧ (-1 ≤ (fdm I L' nm 1).toInt ∧ (fdm I L' nm 1).toInt ≤ 5) ∧ (-1 ≤ (fdm I L' nm 2).toInt ∧ (fdm I L' nm 2).toInt ≤ 9) := by
  have b := ml_nm hm
  have n : ((cntm I : Nat) : Int) = (I 107 20).toInt := kl_nat b.1
  have rw_ : ∀ j, j < cntm I → (0 ≤ (I 117 j).toInt ∧ (I 117 j).toInt ≤ 9) ∧ ((I 116 j).toInt = 0 → (I 117 j).toInt ≤ 3) ∧ ((I 116 j).toInt = 1 → (I 117 j).toInt ≤ 5) := fun j hj => by
    have q : 0 ≤ (I 117 j).toInt ∧ (I 117 j).toInt ≤ 9 := ml_row hm (p := 117) (n := 50) (q := (0, 9)) (fun _ => rfl) j (by omega)
    have N := hm.2.2.2.2.2.2.2.2.1 j (by omega)
    exact ⟨q, N⟩
  have z0 : (0 : Int32).toInt = 0 := by decide
  have z1 : (1 : Int32).toInt = 1 := by decide
  refine ⟨?_, ?_, ?_⟩
  · refine fm_b (Q := fun r => -1 ≤ r.toInt ∧ r.toInt ≤ 3) (by decide) (cntm I) 0 (fun j _ hj e => ?_)
    have q := rw_ j (by omega)
    have := q.2.1 (by rw [e]; exact z0)
    omega
  · refine fm_b (Q := fun r => -1 ≤ r.toInt ∧ r.toInt ≤ 5) (by decide) (cntm I) 0 (fun j _ hj e => ?_)
    have q := rw_ j (by omega)
    have := q.2.2 (by rw [e]; exact z1)
    omega
  · refine fm_b (Q := fun r => -1 ≤ r.toInt ∧ r.toInt ≤ 9) (by decide) (cntm I) 0 (fun j _ hj e => ?_)
    have q := rw_ j (by omega)
    omega
theorem ms_15 (s : Int32) (v : Int64) (a : sg) : ms s 15 v a = tk_take s 15 v a := by unfold ms; rw [if_neg (fun z => absurd z.1 (by decide))]
theorem ms_16 {s : Int32} {v : Int64} {a : sg} (h : lg_cmp v 1440 ≤ 0) : ms s 16 v a = tk_take s 16 v a := by unfold ms; rw [if_neg (fun z => z.2 h)]
section
variable {K : Nat → Int32} {P : Nat → Nat} {V W : Nat → Int64} {N : Nat → Int32} {c : Nat} {R0 : Option (Int32 × Nat)} {M0 : Option (Int32 × Nat) × sg}
variable {S : sm_C} {d : Nat} {Φ : sm_Z → Prop} {I : sm_I} {L : sm_L} {R : sm_R} {o : Option sg} {l s t : Nat} {g : gc}
/-- an index of a way -/
theorem x_wi {s : Nat} {x y n : Int32} {z : Int32} (hs : s ≤ 1) (hz : z.toInt = s) (x0 : 0 ≤ x.toInt) (x1 : x.toInt ≤ 5) (y0 : 0 ≤ y.toInt) (y1 : y.toInt ≤ 5) (en : n = ((((36 : Int32) * z) + ((6 : Int32) * x)) + y)) : vp_in n 72 ∧ ∃ i : Nat, i < 36 ∧ n.toNatClampNeg = 36 * s + i ∧ (x * 6 + y).toNatClampNeg = i ∧ (i : Int) = 6 * x.toInt + y.toInt := by
  have c6 : (6 : Int32).toInt = 6 := by decide
  have q1 : ((36 : Int32) * z).toInt = 36 * (s : Int) := ml_mu (by decide) hz (by omega) (by omega)
  have q2 : ((6 : Int32) * x).toInt = 6 * x.toInt := ml_mu (by decide) rfl (by omega) (by omega)
  have q3 : (((36 : Int32) * z) + ((6 : Int32) * x)).toInt = 36 * (s : Int) + 6 * x.toInt := ml_ad q1 q2 (by omega) (by omega)
  have q4 : n.toInt = 36 * (s : Int) + 6 * x.toInt + y.toInt := by rw [en]; exact ml_ad q3 rfl (by omega) (by omega)
  have m : (x * 6).toInt = x.toInt * 6 := ml_mu rfl c6 (by omega) (by omega)
  have p : (x * 6 + y).toInt = x.toInt * 6 + y.toInt := ml_ad m rfl (by omega) (by omega)
  have n1 := kl_nat (i := n) (by omega)
  have n2 := kl_nat (i := x * 6 + y) (by omega)
  exact ⟨kl_in (by omega) (by omega), (x * 6 + y).toNatClampNeg, by omega, by omega, rfl, by omega⟩
theorem x_tellWay4 {m : mo} {o1 : Option sg} {I1 : sm_I} {x1 x3 : Int32} (hT : TS K P V W N c) (hls : ml_ls l s) (hm : en_mem ml_tb mlX (xLay, I, L, R)) (hI : ml_TI l s I) (hG : rG s g I) (hr : (I 120 s).toInt < 12) (f1 : xfr I I1) (X1 : PX K P V W N c R0 M0 m o1 I1 L) (r1 : ∀ t' s' g', m = some (t', s', g') → t < t' ∧ s' = 5 ∧ g' = gc_st 0 2 g) (b1 : m ≠ none → -1 ≤ x1.toInt ∧ x1.toInt ≤ 5) (b3 : m ≠ none → -1 ≤ x3.toInt ∧ x3.toInt ≤ 5) (ho : ∀ a1, o1 = some a1 → ¬ x1 = -1 ∧ ¬ x3 = -1 ∧ ¬ x1 = x3 ∧ ∃ a, rL K V W s t a I L ∧ a1 = u2 (u2 (u2 a 2 7 2) 2 8 x1) 2 9 x3) (h : ∀ (J : sm_I) (L' : sm_L), TP K P V W N c R0 M0 s t J L' → Φ (none, (xLay, J, L', kM R))) : sm_wp sm_P S (d + 4) 203 4 [.ref 107, .int x1, .int x3] [] (xLay, I1, L, kM R) (0, 0) Φ := by
  obtain ⟨hl1, hs1⟩ := ml_l1 hls
  obtain ⟨sn, sv⟩ := ml_sn hls hI
  have bc := ml_cs hs1 hm
  have b34 := x_34 hs1 hm
  have b120 : 0 ≤ (I 120 s).toInt ∧ (I 120 s).toInt ≤ 12 := ml_row hm (p := 120) (n := 2) (q := (0, 12)) (fun _ => rfl) s (by omega)
  refine u_X12_tellWay_4 (x_numU (s0 := 5) hT (by decide +kernel) en_po (fun v a hv => by rw [ms_16 hv]; rfl) X1 (fun t' s' g' em => (r1 t' s' g' em).2.1) (fun r J2 m2 o2 f2 X2 r2 => ⟨r, J2, L, R, rfl, ?_⟩))
  have e2 : ∀ t' s' g', m2 = some (t', s', g') → t < t' ∧ s' = 2 ∧ g' = gc_st 0 2 g ∧ m ≠ none ∧ (o2 = none ∨ 0 ≤ r.toInt ∧ r.toInt ≤ 1440 ∧ o2 = o1.map (en_po r)) := fun t' s' g' em => by
    rcases r2 with r2 | ⟨t2, g2, em2, q1, q2, q3, q4⟩
    · rw [r2] at em; cases em
    · rw [q3] at em
      obtain ⟨y1, y2, y3⟩ := mo_i em
      obtain ⟨z1, z2, z3⟩ := r1 t2 5 g2 em2
      exact ⟨by omega, by rw [← y2]; decide +kernel, by rw [← y3]; exact z3, (by rw [em2]; exact Option.some_ne_none _), q4⟩
  refine x_mustT (i := 17) (s0 := 2) [] hT rfl (by decide +kernel) (fun v a => rfl) X2 (fun t' s' g' em => ⟨(e2 t' s' g' em).2.1, fun j hj => absurd hj List.not_mem_nil⟩) (fun J3 m3 f3 X3 r3 => ⟨J3, L, R, rfl, fun z => ?_, fun z => ?_⟩)
  · have z := PS_le0 X3.1 z
    have n3 : m3 ≠ none := fun q => by rw [q] at X3; exact PS_no X3.1 z
    rcases r3 with r3 | ⟨t3, g3, em3, v1, v2, v3, v4⟩
    · exact absurd r3 n3
    obtain ⟨y1, y2, y3, y4, y5⟩ := e2 t3 2 g3 em3
    have ft : xfr I J3 := xfr_tr f1 (xfr_tr f2 f3)
    have e19 : J3 107 19 = I 107 19 := ft 107 19 (by omega)
    have e4 : fw 2 (Int32.ofNat 17) = 0 := by decide +kernel
    have b1 := b1 y4
    have b3 := b3 y4
    rw [e19, sn]
    refine ⟨sv, fun n9 e9 => ⟨sv, fun J10 e10 => ?_⟩⟩
    have o10 : ∀ p j, ¬ (p = 120 ∧ j = s) → p ≠ 107 → J10 p j = I p j := fun p j h1 h2 => by rw [e10, en_up_ne _ _ _ _ h1, ft p j (by omega)]
    have X10 : PX K P V W N c R0 M0 m3 o2 J10 L := by rw [e10]; exact PX_up (by decide) (by omega) X3
    have r10 : (J10 120 s).toInt = (I 120 s).toInt + 1 := by rw [e10, en_up_eq, e9, ft 120 s (by omega)]; exact ml_in1 (by omega)
    have s10 : J10 107 19 = I 107 19 := by rw [e10, en_up_ne _ _ _ _ (by omega)]; exact e19
    have fin : ∀ J : sm_I, (∀ p j, p ≠ 121 → J p j = J10 p j) → PX K P V W N c R0 M0 m3 o2 J L → (∀ a', o2 = some a' → rW s a' J) → Φ (none, (xLay, J, L, kM R)) := by
      intro J oJ XJ hW
      refine h J L ⟨m3, o2, XJ, Or.inr ⟨t3 + 1, g3, by rw [v4, e4], by omega, ?_, fun a' ea => ?_⟩⟩
      · rw [y3]
        unfold rG
        obtain ⟨G1, G2, G3, G4, G5, G6, G7⟩ := hG
        refine ⟨?_, ?_, ?_, ?_, ?_, ?_, ?_⟩
        · rw [oJ _ _ (by decide), o10 118 s (by omega) (by decide), gc0_t (by decide), if_neg (by decide)]; exact G1
        · rw [oJ _ _ (by decide), o10 119 s (by omega) (by decide), gc0_t (by decide), if_neg (by decide)]; exact G2
        · rw [oJ _ _ (by decide), r10, gc0_t (by decide), if_pos (by decide)]; omega
        · rw [oJ _ _ (by decide), o10 122 s (by omega) (by decide), gc0_t (by decide), if_neg (by decide)]; exact G4
        · rw [oJ _ _ (by decide), o10 125 s (by omega) (by decide), gc0_t (by decide), if_neg (by decide)]; exact G5
        · rw [oJ _ _ (by decide), o10 134 s (by omega) (by decide), gc0_t (by decide), if_neg (by decide)]; exact G6
        · rw [oJ _ _ (by decide), o10 136 s (by omega) (by decide), gc0_t (by decide), if_neg (by decide)]; exact G7
      · have hw := hW a' ea
        rcases y5 with y5 | ⟨y6, y7, y5⟩
        · rw [y5] at ea; cases ea
        obtain ⟨a1, ea1, ea2⟩ := om (Or.inr y5) ea
        obtain ⟨n1, n2, n3', a, RL, ea4⟩ := ho a1 ea1
        subst ea2
        subst ea4
        have A : ∀ p j, p ≠ 2 → p ≠ 13 → (en_po r (u2 (u2 (u2 a 2 7 2) 2 8 x1) 2 9 x3)).1 p j = a.1 p j := fun p j h1 h2 => by
          have base : (u2 (u2 (u2 a 2 7 2) 2 8 x1) 2 9 x3).1 p j = a.1 p j := by rw [u2_ne _ _ _ _ (by omega), u2_ne _ _ _ _ (by omega), u2_ne _ _ _ _ (by omega)]
          unfold en_po
          rw [if_pos (by rw [u2_ne _ _ _ _ (by omega), u2_ne _ _ _ _ (by omega), u2_eq])]
          unfold ad_path ad_w
          repeat' split
          all_goals first | exact base | (rw [u2_ne _ _ _ _ (by omega), u2_ne _ _ _ _ (by omega)]; exact base)
        have A2 : (en_po r (u2 (u2 (u2 a 2 7 2) 2 8 x1) 2 9 x3)).2 = a.2 := by
          unfold en_po
          rw [if_pos (by rw [u2_ne _ _ _ _ (by omega), u2_ne _ _ _ _ (by omega), u2_eq])]
          unfold ad_path ad_w
          repeat' split
          all_goals rfl
        have A5 : (en_po r (u2 (u2 (u2 a 2 7 2) 2 8 x1) 2 9 x3)).1 2 5 = a.1 2 5 := by
          have base : (u2 (u2 (u2 a 2 7 2) 2 8 x1) 2 9 x3).1 2 5 = a.1 2 5 := by rw [u2_ne _ _ _ _ (by omega), u2_ne _ _ _ _ (by omega), u2_ne _ _ _ _ (by omega)]
          unfold en_po
          rw [if_pos (by rw [u2_ne _ _ _ _ (by omega), u2_ne _ _ _ _ (by omega), u2_eq])]
          unfold ad_path ad_w
          repeat' split
          all_goals first | exact base | (rw [u2_ne _ _ _ _ (by omega), u2_ne _ _ _ _ (by omega)]; exact base)
        obtain ⟨⟨R5, RN⟩, RC, RT, RO, RW, RS, RQ, RB⟩ := RL
        have oJI : ∀ p j, p ≠ 121 → p ≠ 120 → p ≠ 107 → J p j = I p j := fun p j h1 h2 h3 => by rw [oJ p j h1, o10 p j (by omega) h3]
        have ec : J 107 20 = I 107 20 := by rw [oJ _ _ (by decide), e10, en_up_ne _ _ _ _ (by omega), ft 107 20 (by omega)]
        refine ⟨⟨by rw [A5, ec]; exact R5, ?_⟩, ?_, rT_cg RT (fun c' j hc => A c' j (by omega) (by omega)) (fun p j hp => oJI p j (by omega) (by omega) (by omega)), rO_cg RO b34.2 (fun c' j h1 h2 => A c' j (by omega) (by omega)) (by rw [oJI 122 s (by decide) (by decide) (by decide)]; exact Int.le_refl _) (oJI 134 s (by decide) (by decide) (by decide)) (fun j => oJI 135 j (by decide) (by decide) (by decide)) (fun p j h1 h2 _ _ => oJI p j (by omega) (by omega) (by omega)), hw, rS_cg RS bc.2.2.2.1.2 hs1 (fun c' j hc => A c' j (by omega) (by omega)) (fun p j hp => oJI p j (by omega) (by omega) (by omega)), rQ_cg RQ (fun c' j h1 h2 => A c' j (by omega) (by omega)) (fun p j hp => oJI p j (by omega) (by omega) (by omega)), rB_cg RB ec (fun i _ => ⟨oJI 116 i (by decide) (by decide) (by decide), oJI 117 i (by decide) (by decide) (by decide)⟩) (by rw [oJI 122 s (by decide) (by decide) (by decide)]; exact Int.le_refl _)⟩
        · have : cntm J = cntm I := by unfold cntm; rw [ec]
          rw [this]
          exact rN_cg RN (t3 + 1) (by omega) (fun i _ => ⟨by rw [A2], A 10 i (by decide) (by decide), A 11 i (by decide) (by decide)⟩) (fun i _ => ⟨rfl, oJI 116 i (by decide) (by decide) (by decide), oJI 117 i (by decide) (by decide) (by decide)⟩)
        · unfold rC
          rw [A 12 0 (by decide) (by decide), A 12 1 (by decide) (by decide), A 12 2 (by decide) (by decide), A 12 3 (by decide) (by decide), A 12 4 (by decide) (by decide), oJI 118 s (by decide) (by decide) (by decide), oJI 119 s (by decide) (by decide) (by decide), oJI 122 s (by decide) (by decide) (by decide), oJI 125 s (by decide) (by decide) (by decide), oJI 136 s (by decide) (by decide) (by decide)]
          exact RC
    have noW : (x1 = -1 ∨ x3 = -1 ∨ x1 = x3) → Φ (none, (xLay, J10, L, kM R)) := fun q => fin J10 (fun _ _ _ => rfl) X10 (fun a' ea => by
      exfalso
      rcases y5 with y5 | ⟨y6, y7, y5⟩
      · rw [y5] at ea; cases ea
      obtain ⟨a1, ea1, ea2⟩ := om (Or.inr y5) ea
      obtain ⟨n1, n2, n3', -⟩ := ho a1 ea1
      rcases q with q | q | q
      · exact n1 q
      · exact n2 q
      · exact n3' q)
    refine ⟨fun q => noW (Or.inl q), fun q1 => ⟨fun q => noW (Or.inr (Or.inl q)), fun q2 => ⟨fun q => noW (Or.inr (Or.inr q)), fun q3 n11 e11 => ?_⟩⟩⟩
    have d1 := ml_m1 q1
    have d3 := ml_m1 q2
    rw [s10] at e11
    obtain ⟨w1, i, i1, i2, i3, i4⟩ := x_wi hs1 hI.2.1 (by omega) b1.2 (by omega) b3.2 e11
    have e121 : J10 121 n11.toNatClampNeg = I 121 (36 * s + i) := by rw [i2]; exact o10 _ _ (by omega) (by decide)
    have cz : (-2 : Int32) < 0 := by decide
    have two : ∀ J12 : sm_I, J12 = sm_up J10 121 n11.toNatClampNeg r → (∀ a, rW s a I → 0 ≤ r.toInt → en_po r (u2 (u2 (u2 a 2 7 2) 2 8 x1) 2 9 x3) = ad_w x1 x3 r (u2 (u2 (u2 a 2 7 2) 2 8 x1) 2 9 x3)) → ∀ n13 : Int32, n13 = ((((36 : Int32) * (J12 107 19)) + ((6 : Int32) * x3)) + x1) → (vp_in n13 72) ∧ ∀ J14 : sm_I, J14 = (sm_up J12 121 n13.toNatClampNeg r) → Φ (none, (xLay, J14, L, (kM R))) := by
      intro J12 e12 hpo n13 e13
      rw [e12, en_up_ne _ _ _ _ (by omega), s10] at e13
      obtain ⟨w2, k, k1, k2, k3, k4⟩ := x_wi hs1 hI.2.1 (by omega) b3.2 (by omega) b1.2 e13
      refine ⟨w2, fun J14 e14 => fin J14 (fun p j hp => by rw [e14, en_up_ne _ _ _ _ (by omega), e12, en_up_ne _ _ _ _ (by omega)]) (by rw [e14, e12]; exact PX_up (by decide) (by omega) (PX_up (by decide) (by omega) X10)) (fun a' ea => ?_)⟩
      rcases y5 with y5 | ⟨y6, y7, y5⟩
      · rw [y5] at ea; cases ea
      obtain ⟨a1, ea1, ea2⟩ := om (Or.inr y5) ea
      obtain ⟨n1, n2, n3', a, RL, ea4⟩ := ho a1 ea1
      subst ea2
      subst ea4
      have RW := RL.2.2.2.2.1
      rw [hpo a RW y6]
      intro j hj
      unfold ad_w
      rw [i3, k3]
      by_cases cj : j = k
      · right
        rw [cj, u2_eq, e14, k2, en_up_eq]; exact ⟨y6, rfl⟩
      · rw [u2_ne _ _ _ _ (by omega), e14, k2, en_up_ne _ _ _ _ (by omega), e12, i2]
        by_cases ci : j = i
        · right
          rw [ci, u2_eq, en_up_eq]; exact ⟨y6, rfl⟩
        · rw [u2_ne _ _ _ _ (by omega), en_up_ne _ _ _ _ (by omega), u2_ne _ _ _ _ (by omega), u2_ne _ _ _ _ (by omega), u2_ne _ _ _ _ (by omega), o10 121 _ (by omega) (by decide)]
          exact RW j hj
    have po : ∀ a, rW s a I → en_po r (u2 (u2 (u2 a 2 7 2) 2 8 x1) 2 9 x3) = (if a.1 13 i < 0 then ad_w x1 x3 r (u2 (u2 (u2 a 2 7 2) 2 8 x1) 2 9 x3) else if a.1 13 i ≤ r then u2 (u2 (u2 a 2 7 2) 2 8 x1) 2 9 x3 else ad_w x1 x3 r (u2 (u2 (u2 a 2 7 2) 2 8 x1) 2 9 x3)) := by
      intro a _
      have c6 : (6 : Int32).toInt = 6 := by decide
      have k8 : (u2 (u2 (u2 a 2 7 2) 2 8 x1) 2 9 x3).1 2 8 = x1 := by rw [u2_ne _ _ _ _ (by omega), u2_eq]
      have k9 : (u2 (u2 (u2 a 2 7 2) 2 8 x1) 2 9 x3).1 2 9 = x3 := u2_eq _ _ _ _
      have k13 : (u2 (u2 (u2 a 2 7 2) 2 8 x1) 2 9 x3).1 13 i = a.1 13 i := by rw [u2_ne _ _ _ _ (by omega), u2_ne _ _ _ _ (by omega), u2_ne _ _ _ _ (by omega)]
      unfold en_po
      rw [if_pos (by rw [u2_ne _ _ _ _ (by omega), u2_ne _ _ _ _ (by omega), u2_eq]), k8, k9]
      unfold ad_path
      rw [if_neg (fun q => by rw [kl_lt, kl_0] at q; omega), if_neg (fun q => by rw [kl_le, c6] at q; omega), if_neg (fun q => by rw [kl_lt, kl_0] at q; omega), if_pos (by rw [kl_lt, c6]; omega), i3, k13]
    refine ⟨w1, fun q => ⟨w1, fun J12 e12 => two J12 e12 (fun a RW y6 => ?_)⟩, fun q => ⟨w1, fun q4 => ⟨w1, fun J12 e12 => two J12 e12 (fun a RW y6 => ?_)⟩, fun q4 => ?_⟩⟩
    · rw [po a RW]
      rw [e121] at q
      rcases RW i i1 with y | y
      · rw [if_pos (by rw [y.2]; exact cz)]
      · rw [q] at y
        exact absurd y.1 (by decide)
    · rw [po a RW]
      rw [e121] at q q4
      rcases RW i i1 with y | y
      · exact absurd y.1 q
      · rw [kl_lt] at q4
        rw [if_neg (fun p => by rw [y.2, kl_lt, kl_0] at p; omega), if_neg (fun p => by rw [y.2, kl_le] at p; omega)]
    · refine fin J10 (fun _ _ _ => rfl) X10 (fun a' ea => ?_)
      rcases y5 with y5 | ⟨y6, y7, y5⟩
      · rw [y5] at ea; cases ea
      obtain ⟨a1, ea1, ea2⟩ := om (Or.inr y5) ea
      obtain ⟨n1, n2, n3', a, RL, ea4⟩ := ho a1 ea1
      subst ea2
      subst ea4
      have RW := RL.2.2.2.2.1
      rw [po a RW]
      rw [e121] at q q4
      have q4 := kl_nlt q4
      rcases RW i i1 with y | y
      · exact absurd y.1 q
      · rw [if_neg (fun p => by rw [y.2, kl_lt, kl_0] at p; omega), if_pos (by rw [y.2, kl_le]; exact q4)]
        refine rW_cg RW (fun j => by rw [u2_ne _ _ _ _ (by omega), u2_ne _ _ _ _ (by omega), u2_ne _ _ _ _ (by omega)]) (fun j => o10 121 j (by omega) (by decide))
  · have nz : ¬ J3 107 13 = 0 := fun y => z (by rw [y]; decide)
    have em := PS_n0 X3.1 nz
    exact h J3 L ⟨m3, o2, X3, Or.inl em⟩
theorem x_tellWay (hT : TS K P V W N c) (hls : ml_ls l s) (hm : en_mem ml_tb mlX (xLay, I, L, R)) (hI : ml_TI l s I) (hX : PX K P V W N c R0 M0 (some (t, 0, g)) o I L) (hG : rG s g I) (hR : ∀ a, o = some a → rL K V W s t a I L) (ek : K t = 2) (hr : (I 120 s).toInt < 12) (h : ∀ (J : sm_I) (L' : sm_L), TP K P V W N c R0 M0 s t J L' → Φ (none, (xLay, J, L', kM R))) : sm_wp sm_P S (d + 4) 203 0 [.ref 107] [] (xLay, I, L, kM R) (0, 0) Φ := by
  obtain ⟨hl1, hs1⟩ := ml_l1 hls
  have bc := ml_cs hs1 hm
  have b34 := x_34 hs1 hm
  obtain ⟨⟨b0, b1⟩, hb⟩ := x_b117 hm
  have tc : t ≤ c := hX.1.2.2.2.2.2.1
  have ok : gc_ok 0 2 g = true := by
    unfold gc_ok
    rw [if_pos ⟨rfl, by decide⟩]
    refine decide_eq_true ?_
    have := hG.2.2.1
    rw [show gw 2 = 2 from by decide, show (sm_room.getD 2 0).toInt = 12 from by decide]
    omega
  refine u_X12_tellWay_0 (x_go0 (k := 2) hT ek (by decide) (by decide) (by decide +kernel) (by decide) (by decide) ok hX (fun J1 m1 f1 X1 r1 => ⟨J1, L, R, rfl, ?_⟩))
  have e1 : ∀ t' s' g', m1 = some (t', s', g') → t' = t + 1 ∧ s' = 3 ∧ g' = gc_st 0 2 g := fun t' s' g' em => by
    rcases r1 with r1 | ⟨q1, q2, q3⟩
    · rw [r1] at em; cases em
    · rw [q3] at em
      obtain ⟨y1, y2, y3⟩ := mo_i em
      exact ⟨y1.symm, by rw [← y2]; decide +kernel, y3.symm⟩
  have c20 : J1 107 20 = I 107 20 := f1 107 20 (by omega)
  have cm1 : cntm J1 = cntm I := by unfold cntm; rw [c20]
  refine x_knownS (kd := 1) (s0 := 3) hT (by decide +kernel) X1 (fun t' s' g' em => (e1 t' s' g' em).2.1) (by rw [c20]; exact b0) (by rw [c20]; exact b1) (fun i hi => by rw [f1 117 i (by omega)]; exact hb i (by rw [← cm1]; exact hi)) (fun t' g' a1 em eo uc ku => ?_) (fun r a => u2 a 2 8 r) (fun v a => by rw [ms_15]; rfl) (fun r8 J2 m2 o2 f2 X2 r2 => ⟨r8, J2, L, R, rfl, ?_⟩)
  · obtain ⟨a, ea3, ea4⟩ := om (Or.inr rfl) eo
    subst ea4
    rw [fdm_cg f1]
    have RL := rL_a (hR a ea3) (Nat.le_refl t) b34.2 bc.2.2.2.1.2 hs1 (a' := u2 a 2 7 2) (fun p j hp => u2_ne _ _ _ _ (by omega)) (u2_ne _ _ _ _ (by omega)) rfl
    exact rN_fd hT RL.1.2 tc (Or.inr (Or.inl ⟨rfl, rfl⟩)) (Or.inl (by unfold cnt cntm; rw [RL.1.1])) uc ku
  have f12 : xfr I J2 := xfr_tr f1 f2
  have e2 : ∀ t' s' g', m2 = some (t', s', g') → t' = t + 2 ∧ s' = 4 ∧ g' = gc_st 0 2 g ∧ r8 = fdm I L (W (t + 1)) 1 ∧ (o2 = none ∨ (¬ r8 = -1 ∧ o2 = (o.map (fun a => u2 a 2 7 2)).map (fun a => u2 a 2 8 r8))) := fun t' s' g' em => by
    rcases r2 with ⟨r2, -⟩ | ⟨t2, g2, em2, q1, q2, q3, q4, q5, q6⟩
    · rw [r2] at em; cases em
    · rw [q4] at em
      obtain ⟨y1, y2, y3⟩ := mo_i em
      obtain ⟨z1, z2, z3⟩ := e1 t2 3 g2 em2
      refine ⟨by omega, by rw [← y2]; decide +kernel, by rw [← y3]; exact z3, ?_, q6⟩
      rw [q5, fdm_cg f1, z1]
  have d20 : J2 107 20 = I 107 20 := f12 107 20 (by omega)
  have cm2 : cntm J2 = cntm I := by unfold cntm; rw [d20]
  have h11 : ∀ t' s' g', m2 = some (t', s', g') → (J2 107 11).toInt = t' := fun t' s' g' em => by
    have hS := X2.1
    rw [em] at hS
    exact hS.2.2.2.2.1
  refine x_known (kd := 1) (s0 := 4) hT (by decide +kernel) X2 (fun t' s' g' em => (e2 t' s' g' em).2.1) (by rw [d20]; exact b0) (by rw [d20]; exact b1) (fun i hi => by rw [f12 117 i (by omega)]; exact hb i (by rw [← cm2]; exact hi)) (fun t' g' a1 em eo uc ku => ?_) (fun v a q => by rw [ms_15]; show tk_path 4 v a = _; unfold tk_path; rw [if_pos q]) (fun r12 J3 m3 f3 p3 r3 => ⟨r12, J3, L, R, rfl, ?_⟩)
  · obtain ⟨-, -, -, -, q⟩ := e2 t' 4 g' em
    rcases q with q | ⟨q0, q⟩
    · rw [q] at eo; cases eo
    obtain ⟨a2, ea2, ea2'⟩ := om (Or.inr q) eo
    obtain ⟨a, ea3, ea4⟩ := om (Or.inr rfl) ea2
    subst ea4
    subst ea2'
    rw [fdm_cg f12]
    have RL := rL_a (hR a ea3) (Nat.le_refl t) b34.2 bc.2.2.2.1.2 hs1 (a' := u2 (u2 a 2 7 2) 2 8 r8) (fun p j hp => by rw [u2_ne _ _ _ _ (by omega), u2_ne _ _ _ _ (by omega)]) (by rw [u2_ne _ _ _ _ (by omega), u2_ne _ _ _ _ (by omega)]) rfl
    exact rN_fd hT RL.1.2 tc (Or.inr (Or.inl ⟨rfl, rfl⟩)) (Or.inl (by unfold cnt cntm; rw [RL.1.1])) uc ku
  have f13 : xfr I J3 := xfr_tr f12 f3
  have go : ∀ (o3 : Option sg) (J : sm_I), xfr J3 J → PX K P V W N c R0 M0 m3 o3 J L → (∀ a1, o3 = some a1 → ¬ r8 = -1 ∧ ¬ r12 = -1 ∧ ¬ r8 = r12 ∧ ∃ a, rL K V W s t a I L ∧ a1 = u2 (u2 (u2 a 2 7 2) 2 8 r8) 2 9 r12) → sm_wp sm_P S (d + 4) 203 4 [.ref 107, .int r8, .int r12] [] (xLay, J, L, kM R) (0, 0) Φ := by
    intro o3 J fJ XJ ho
    refine x_tellWay4 (o1 := o3) hT hls hm hI hG hr (xfr_tr f13 fJ) XJ (fun t' s' g' em => ?_) (fun nm => ?_) (fun nm => ?_) ho h
    · rcases r3 with ⟨r3, -⟩ | ⟨t3, g3, em3, q1, q2, q3, q4, q5, q6⟩
      · rw [r3] at em; cases em
      · rw [q4] at em
        obtain ⟨y1, y2, y3⟩ := mo_i em
        obtain ⟨z1, z2, z3, -⟩ := e2 t3 4 g3 em3
        exact ⟨by omega, by rw [← y2]; decide +kernel, by rw [← y3]; exact z3⟩
    · rcases r3 with ⟨r3, -⟩ | ⟨t3, g3, em3, q1, q2, q3, q4, q5, q6⟩
      · exact absurd r3 nm
      · obtain ⟨-, -, -, z4, -⟩ := e2 t3 4 g3 em3
        rw [z4]; exact (x_fb hm L _).2.1
    · rcases r3 with ⟨r3, -⟩ | ⟨t3, g3, em3, q1, q2, q3, q4, q5, q6⟩
      · exact absurd r3 nm
      · rw [q5, fdm_cg f12]; exact (x_fb hm L _).2.1
  by_cases z : J3 107 13 = 0
  · rcases r3 with ⟨r3, -⟩ | ⟨t3, g3, em3, q1, q2, q3, q4, q5, q6, q7⟩
    · rw [r3] at p3; exact absurd z (PS_no p3)
    obtain ⟨z1, z2, z3, z4, z5⟩ := e2 t3 4 g3 em3
    have h11' := h11 t3 4 g3 em3
    have n21 := hT.2.2.2.1 t3 q1
    have kfd : ∀ a2, o2 = some a2 → ¬ r8 = -1 ∧ (∃ a, rL K V W s t a I L ∧ a2 = u2 (u2 a 2 7 2) 2 8 r8) ∧ fd a2 (V t3) 1 = r12 := fun a2 ea => by
      rcases z5 with z5 | ⟨z0, z5⟩
      · rw [z5] at ea; cases ea
      obtain ⟨a3, ea2, ea2'⟩ := om (Or.inr z5) ea
      obtain ⟨a, ea3, ea4⟩ := om (Or.inr rfl) ea2
      subst ea4
      subst ea2'
      have RL := rL_a (hR a ea3) (Nat.le_refl t) b34.2 bc.2.2.2.1.2 hs1 (a' := u2 (u2 a 2 7 2) 2 8 r8) (fun p j hp => by rw [u2_ne _ _ _ _ (by omega), u2_ne _ _ _ _ (by omega)]) (by rw [u2_ne _ _ _ _ (by omega), u2_ne _ _ _ _ (by omega)]) rfl
      refine ⟨z0, ⟨a, hR a ea3, rfl⟩, ?_⟩
      rw [q5, fdm_cg f12]
      exact rN_fd hT RL.1.2 tc (Or.inr (Or.inl ⟨rfl, rfl⟩)) (Or.inl (by unfold cnt cntm; rw [RL.1.1])) q1 q3
    have k8 : ∀ a : sg, (u2 (u2 a 2 7 2) 2 8 r8).1 2 8 = r8 := fun a => u2_eq _ _ _ _
    -- nothing wrong here, or it is known that something is
    have same : (r8 = -1 ∨ ¬ r8 = r12) → sm_wp sm_P S (d + 4) 203 4 [.ref 107, .int r8, .int r12] [] (xLay, J3, L, kM R) (0, 0) Φ := fun hq => by
      by_cases r1' : r12 = -1
      · refine go none J3 xfr_rf ⟨p3, by rw [q4]; exact q6 r1'⟩ (fun a1 ea => by cases ea)
      · have pe := q7 r1'
        cases eo : o2 with
        | none =>
          rw [eo] at pe
          exact go none J3 xfr_rf ⟨p3, by rw [q4]; exact PE_w pe (Nat.le_succ t3)⟩ (fun a1 ea => by cases ea)
        | some a2 =>
          rw [eo] at pe
          obtain ⟨y1, ⟨a, RL, ya⟩, y3⟩ := kfd a2 eo
          have hq : ¬ r8 = r12 := hq.elim (fun q => absurd q y1) id
          have em : ms 4 (K t3) (V t3) a2 = (0, u2 a2 2 9 r12) := by
            rw [q3, ms_15]
            show tk_path 4 (V t3) a2 = _
            unfold tk_path
            rw [y3, if_neg r1', if_neg (by decide), if_neg (by rw [ya, k8]; exact hq)]
          have st := PE_st (by omega) n21 em pe
          rw [q3] at st
          exact go (some (u2 a2 2 9 r12)) J3 xfr_rf ⟨p3, by rw [q4]; exact st⟩ (fun a1 ea => by
            have := Option.some.inj ea
            subst this
            exact ⟨y1, r1', hq, a, RL, by rw [ya]⟩)
    refine ⟨fun _ => ⟨fun eq => ⟨fun q => same (Or.inl q), fun q => ?_⟩, fun q => same (Or.inr q)⟩, fun q => absurd z q⟩
    have r1' : ¬ r12 = -1 := by rw [← eq]; exact q
    have pe := q7 r1'
    refine x_wrong (M0 := M0) (t := t3) hT (by decide) h11' (by omega) (by omega) p3 (fun _ => ?_) (fun H fH _ pH wH => ⟨H, L, R, rfl, go none H fH ⟨pH, by rw [q4]; exact PW_e wH⟩ (fun a1 ea => by cases ea)⟩)
    cases eo : o2 with
    | none =>
      rw [eo] at pe
      exact Or.inl (PE_W pe (Nat.le_refl t3) z)
    | some a2 =>
      rw [eo] at pe
      obtain ⟨pe1, pe2⟩ := pe z
      obtain ⟨y1, ⟨a, RL, ya⟩, y3⟩ := kfd a2 eo
      refine Or.inr ⟨Or.inl pe1, ME_f (s := 4) (a := a2) (a' := u2 a2 2 9 r12) (by omega) n21 ?_ (by decide) pe2⟩
      rw [q3, ms_15]
      show tk_path 4 (V t3) a2 = _
      unfold tk_path
      rw [y3, if_neg r1', if_neg (by decide), if_pos (by rw [ya, k8]; exact eq)]
  · have em := PS_n0 p3 z
    exact ⟨fun q => absurd q z, fun _ => go none J3 xfr_rf (by rw [em] at p3 ⊢; exact PX_F p3) (fun a1 ea => by cases ea)⟩
end
