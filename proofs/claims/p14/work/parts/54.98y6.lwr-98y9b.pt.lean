section
/-! THE LAW: read on both sides, with what was gone through -/
theorem sk_of {a : sg} {J : sm_I} {T : Int32} {c r p : Nat} (h : sq a c r) (e0 : a.1 12 2 = T) (e1 : a.1 (c + 1) r = J 130 p) (e2 : a.1 (c + 2) r = J 131 p) (e3 : a.1 (c + 3) r = J 132 p) (e4 : a.1 (c + 4) r = J 133 p) (p260 : p < 260) : sspk J (T.toNatClampNeg + 1) p := by
  obtain ⟨⟨h1, h2⟩, h3, h4, h5⟩ := h
  rw [e1] at h1 h2
  rw [e2] at h3
  rw [e3] at h4
  rw [e4] at h5
  rw [e0] at h2
  have n := kl_nat (i := T) (by omega)
  refine ⟨p260, ⟨h1, by omega⟩, ?_, h4, h5⟩
  rcases h3 with e | ⟨g1, g2⟩
  · rw [e, show (-1 : Int32).toInt = -1 from by decide]; omega
  · rw [e0] at g2
    omega
theorem TW_sv {s : Nat} {a : sg} {J : sm_I} {L : sm_L} {R : sm_R} (h : sv 0 a) (td : TDw s a J) (s1 : s ≤ 1) (mm : en_mem ml_tb mlX (xLay, J, L, R)) (z : J 107 54 = 0) : TW s J := by
  obtain ⟨-, -, hc, hq, ho, -⟩ := h
  obtain ⟨⟨-, -, c2, c3, c4⟩, -, ⟨-, o2⟩, ⟨y1, -⟩, q1⟩ := td
  have b := ml_cs s1 mm
  have b128 : ∀ j, j < 20 → 0 ≤ (J 128 j).toInt ∧ (J 128 j).toInt ≤ 4 := fun j hj => ml_row mm (p := 128) (n := 20) (q := (0, 4)) (fun _ => rfl) j hj
  have np : inP 0 = false := by decide
  refine ⟨fun i c p hi hc' hp => ?_, fun k hk => ?_, fun q hq' => ?_, fun k hk => ?_⟩
  · obtain ⟨-, y2, y3, y4, y5⟩ := y1 i (by omega) hi
    obtain ⟨z1, z2, z3, z4⟩ := y5 c hc'
    obtain ⟨s1', s2, s3, s4⟩ := z4 p hp
    have b4 := b128 (10 * s + i) (by omega)
    have n3 := kl_nat (i := J 125 s) (by omega)
    have n8 := kl_nat b4.1
    have n9 := kl_nat (i := J 129 (4 * (10 * s + i) + c)) (by omega)
    have sqq := hc i c p (by unfold nS; rw [c3]; omega) (by unfold nC; rw [y2]; omega) (by unfold nP; rw [z1]; omega) (fun w => by rw [np] at w; exact absurd w.1 (by decide))
    have ix : 120 * s + 12 * i + 3 * c + p = 3 * (4 * (10 * s + i) + c) + p := by omega
    rw [ix] at s1' s2 s3 s4
    exact sk_of sqq c2 s1' s2 s3 s4 (by omega)
  · obtain ⟨i, hi, r1, r2, r3, r4, r5, r6, r7, r8, r9⟩ := o2 k hk
    have b134 : 0 ≤ (J 134 s).toInt ∧ (J 134 s).toInt ≤ 4 := ml_row mm (p := 134) (n := 2) (q := (0, 4)) (fun _ => rfl) s (by omega)
    exact sk_of (ho i hi r7) c2 (r5.trans r4.symm) r6 r8 r9 (by omega)
  · have n4 := kl_nat (i := J 136 s) (by omega)
    obtain ⟨r1, r2, r3, r4⟩ := q1 q (by omega) hq'
    exact sk_of (hq q (by unfold nQ; rw [c4]; omega) (fun w => by rw [np] at w; exact absurd w.1 (by decide))) c2 r1 r2 r3 r4 (by omega)
  · rw [z, kl_0] at hk
    omega
theorem TW_lv {l : Nat} {I J : sm_I} {L : sm_L} {R : sm_R} (hl : l ≤ 1) (hm : en_mem ml_tb mlX (xLay, I, L, R)) (h0 : lvf l I J) (k : TW l I) : TW l J := by
  have h : ∀ p j, ml_hl l p j ∨ ml_hm l p j → J p j = I p j := fun p j q => h0 p j (q.elim Or.inl (fun q => Or.inr (Or.inl q)))
  have b := ml_cs hl hm
  have b134 : 0 ≤ (I 134 l).toInt ∧ (I 134 l).toInt ≤ 4 := ml_row hm (p := 134) (n := 2) (q := (0, 4)) (fun _ => rfl) l (by omega)
  have b128 : ∀ j, j < 20 → 0 ≤ (I 128 j).toInt ∧ (I 128 j).toInt ≤ 4 := fun j hj => ml_row hm (p := 128) (n := 20) (q := (0, 4)) (fun _ => rfl) j hj
  have b129 : ∀ j, j < 80 → 0 ≤ (I 129 j).toInt ∧ (I 129 j).toInt ≤ 3 := fun j hj => ml_row hm (p := 129) (n := 80) (q := (0, 3)) (fun _ => rfl) j hj
  have o1 : ∀ p, (p = 122 ∨ p = 125 ∨ p = 134 ∨ p = 136) → J p l = I p l := fun p hp => h p l (by unfold ml_hl ml_hm; omega)
  have sk : ∀ n p, ((120 * l ≤ p ∧ p < 120 * l + 120) ∨ (240 + 4 * l ≤ p ∧ p < 244 + 4 * l) ∨ (248 + 6 * l ≤ p ∧ p < 254 + 6 * l)) → sspk I n p → sspk J n p := fun n p hp k => by
    have e : ∀ c, (c = 130 ∨ c = 131 ∨ c = 132 ∨ c = 133) → J c p = I c p := fun c hc => h c p (by
      rcases hp with hp | hp
      · rcases hc with e | e
        · exact Or.inl (Or.inr (Or.inr (Or.inr ⟨e, hp⟩)))
        · exact Or.inr (Or.inr (Or.inr (Or.inr (Or.inl ⟨e, hp⟩))))
      · exact Or.inr (Or.inr (Or.inr (Or.inr (Or.inr ⟨hc, hp⟩)))))
    unfold sspk at k ⊢
    rw [e 130 (by omega), e 131 (by omega), e 132 (by omega), e 133 (by omega)]; exact k
  obtain ⟨k1, k2, k3, k4⟩ := k
  have mo : ∀ p j, 137 ≤ p ∨ (p = 107 ∧ 46 ≤ j) → J p j = I p j := fun p j q => h0 p j (Or.inr (Or.inr q))
  unfold TW
  rw [o1 122 (by omega), o1 125 (by omega), o1 134 (by omega), o1 136 (by omega), mo 107 54 (by omega)]
  refine ⟨fun s c i a1 a2 a3 => ?_, fun k a => sk _ _ (by omega) (k2 k a), fun q a => sk _ _ (by omega) (k3 q a), fun k a => ?_⟩
  · have e8 : J 128 (10 * l + s) = I 128 (10 * l + s) := h 128 _ (Or.inl (Or.inr (Or.inl ⟨Or.inr (Or.inr rfl), by omega, by omega⟩)))
    rw [e8] at a2
    have b8 := b128 (10 * l + s) (by omega)
    have e9 : J 129 (4 * (10 * l + s) + c) = I 129 (4 * (10 * l + s) + c) := h 129 _ (Or.inl (Or.inr (Or.inr (Or.inl ⟨rfl, by omega, by omega⟩))))
    rw [e9] at a3
    have b9 := b129 (4 * (10 * l + s) + c) (by omega)
    exact sk _ _ (by omega) (k1 s c i a1 a2 a3)
  · have b := k4 k a
    unfold mook at b ⊢
    rw [mo 144 k (by omega), mo 145 k (by omega), mo 146 k (by omega), mo 147 k (by omega)]; exact b
theorem GC_cg {qt : Nat} {I J : sm_I} {L L' : sm_L} {R R' : sm_R} (hq : qt = 12 ∨ qt = 49) (h : ∀ p j, (qt ≤ p ∧ p < qt + 25) ∨ p = 37 ∨ (41 ≤ p ∧ p ≤ 44) ∨ (p = 74 ∧ (j = 6 ∨ j = 7 ∨ j = 8 ∨ j = 10 ∨ j = 11 ∨ j = 13 ∨ j = 14 ∨ j = 15)) ∨ (p = 75 ∧ (j = 4 ∨ j = 5)) ∨ (76 ≤ p ∧ p ≤ 79) ∨ p = 81 ∨ p = 80 ∨ p = 46 ∨ p = 47 ∨ (p = 0 ∧ j = 12) → J p j = I p j) (hL : ∀ j, L' 48 j = L 48 j) (r2 : R' 74 4 = R 74 4) (k : GC qt I L R) : GC qt J L' R' := by
  have t : ∀ p j, (qt ≤ p ∧ p < qt + 25) ∨ p = 37 ∨ (41 ≤ p ∧ p ≤ 44) → J p j = I p j := fun p j q => h p j (by omega)
  rcases k with e | ⟨e, k3⟩
  · exact Or.inl (by rw [h 0 12 (by omega)]; exact e)
  · refine Or.inr ⟨r2.trans e, ?_, klv_cg hq t (fun p j q => h p j (by omega)) (fun j _ a b _ _ => by
      unfold nT
      rw [h 76 _ (by omega)]) k3.2⟩
    rw [kys_cg t, KF_cg hq t]
    exact kall_cg (fun p j q => h p j (by omega)) hL k3.1
/-- what was gone through is of one text on both sides -/
theorem RF_at {I : sm_I} {L : sm_L} {R : sm_R} {qt qi l : Nat} (hI : lw_I I L R) (hrf : rfE qt qi l I R) : KF qt I = RF I l := by
  obtain ⟨-, mm, -, hd, qt', qi', l', hrf', htd⟩ := hI
  have e1 : qt' = qt := Option.some.inj (hrf'.2.2.1.symm.trans hrf.2.2.1)
  have e2 : l' = l := by have := hrf'.2.2.2.2; have := hrf.2.2.2.2; omega
  subst e1
  subst e2
  exact KR (by have := hrf.1; omega) hrf.2.1 mm htd hd
section
variable {S : sm_C} {I : sm_I} {L : sm_L} {R : sm_R} {r : Int32}
theorem lw_xreadS {C : Int32 → sm_I → sm_L → sm_R → Prop} (hI : MS XreadK r I L R) (k : ∀ (r' : Int32) (I' : sm_I) (L' : sm_L) (R' : sm_R), r = r' → lw_J I' L' R' → C r' I' L' R') : sm_wp sm_P S (51 + 8) 182 0 [.ref 107] [] (xLay, I, L, R) (0, 0) (fun z => ∃ (r : Int32) (I2 : sm_I) (L2 : sm_L) (R2 : sm_R), z = (some (.int r), (xLay, I2, L2, R2)) ∧ C r I2 L2 R2) := by
  obtain ⟨I0, L0, R0, hJ, mk, o, z48, XR, z1, X⟩ := hI
  have hI0 := hJ.1
  have hI00 := hI0
  have mm := lw_mk (lw_pk mk) hI0.2.1 o
  have mmW : en_mem ml_tb3 (mlW (L 48)) (xLay, I, L, R) := ⟨mm.1, mm.2.1, mm.2.2.1, mm.2.2.2.1, mlX_W mm.2.2.2.2 (fun _ => rfl)⟩
  obtain ⟨m0, n0, ⟨⟨t1, t2, t3⟩, hd, qt, qi, l, hrf, htd⟩⟩ := hI0
  have bl := kx_len m0
  obtain ⟨n, hn⟩ : ∃ n : Nat, (I0 0 10).toInt = n := ⟨(I0 0 10).toInt.toNat, by omega⟩
  obtain ⟨a0, D, T, H⟩ := X qt qi n hrf.1 hrf.2.2.1 hrf.2.2.2.1 hn
  have hl : (I 107 18).toInt = l := by rw [(o 107 18 (by omega)).1]; exact hrf.2.2.2.2
  have l1 := hrf.2.1
  have e : kM R = R := ml_R mm
  have A : sm_wp sm_P S (51 + 8) 182 0 [.ref 107] [] (xLay, I, L, kM R) (0, 0) (fun z => ∃ (r : Int32) (J : sm_I) (L' : sm_L) (R' : sm_R), z = (some (.int r), (xLay, J, L', kM R')) ∧ en_mem ml_tb3 (mlW (L 48)) (xLay, J, L', R') ∧ en_fr ml_RW (xLay, I, L, R) (xLay, J, L', R') ∧ J 107 2 = 0) := mx_readWq mmW (fun r' J L' R' _ _ mJ fJ zJ => ⟨r', J, L', R', rfl, mJ, fJ, zJ⟩)
  have B : sm_wp sm_P S (51 + 8) 182 0 [.ref 107] [] (xLay, I, L, kM R) (0, 0) (fun z => ∃ (r' : Int32) (J : sm_I) (L' : sm_L) (R' : sm_R), z = (some (.int r'), (xLay, J, L', kM R')) ∧ RDx (tk_at (I0 1) n) (SY (tk_K (I0 1) n) 501 0 0 gc0) (ME (tk_K (I0 1) n) (fun i => tk_vl (I0 1) n (tk_at (I0 1) n i)) 501 0 0 a0) r' J ∧ LVx l I r' J) := y_read (b := I0 1) (n := n) (a0 := a0) hl (by rw [(o 107 2 (by omega)).1, ← t1]; exact hn) mm (fun j hj => ((o 108 j (by omega)).1).trans (t2 j (by omega)).symm) D.1 (fun r J L' R' q qv => ⟨r, J, L', R', rfl, q, qv⟩)
  rw [e] at A B
  refine sm_wp_mono (sm_wp_and A B) (fun z hz => ?_)
  obtain ⟨⟨r1, J, L', R', ez, mJW, fJ, zJ⟩, r', J', L'', R'', ez', D', V'⟩ := hz
  have mJ : en_mem ml_tb mlX (xLay, J, L', R') := ⟨mJW.1, mJW.2.1, mJW.2.2.1, mJW.2.2.2.1, mlW_X mJW.2.2.2.2⟩
  have e48 : ∀ j, L' 48 j = L0 48 j := fun j => (mJW.2.2.2.2.2.2.2.2.2.2 j).trans (z48 j)
  rw [ez] at ez'
  have er : r1 = r' := Value.int.inj (Option.some.inj (congrArg Prod.fst ez'))
  have eI : J = J' := congrArg (fun z : sm_Z => z.2.2.1) ez'
  rw [← er, ← eI] at D' V'
  have eJ : kM R' = R' := ml_R mJ
  obtain ⟨q1, q2, q3⟩ := q_rd D D'
  have f : ∀ p j, p < 107 → J p j = I p j ∧ R' p j = R p j := fun p j hp => fJ.2 p j (lw_hi (W := ml_RW) (by decide +kernel) hp)
  have tp : tpE J := by
    refine ⟨by rw [(f 0 10 (by omega)).1, z1, zJ], fun j hj => ?_, by rw [(f 0 11 (by omega)).1]; exact q2⟩
    rw [(f 0 10 (by omega)).1, z1, kl_0] at hj
    omega
  have GL : lw_I J L' R' → lw_J J L' R' := fun lI => ⟨lI, by
    refine GG_of lI (fun qt' qi' l' hrf' => ?_)
    by_cases c : r = 0
    · obtain ⟨⟨g1, g2, g3, g4, -⟩, s, s1, s2, s3, s4⟩ := q3 c
      have el : l' = s := by have := hrf'.2.2.2.2; omega
      subst el
      refine ⟨Or.inl ((f 0 12 (by omega)).1.trans (H.2 c).2.1), Or.inl g4, ?_⟩
      have SYn : SY (tk_K (I0 1) n) 501 0 0 gc0 = none := by
        cases u : SY (tk_K (I0 1) n) 501 0 0 gc0 with
        | none => rfl
        | some x => exact absurd ((D.2.1 x.1 x.2 u).1.symm.trans c) (D.2.1 x.1 x.2 u).2.1
      have MEn : (ME (tk_K (I0 1) n) (fun i => tk_vl (I0 1) n (tk_at (I0 1) n i)) 501 0 0 a0).1 = none := by
        cases u : (ME (tk_K (I0 1) n) (fun i => tk_vl (I0 1) n (tk_at (I0 1) n i)) 501 0 0 a0).1 with
        | none => rfl
        | some x => exact absurd (((D.2.2 SYn).1 x.1 x.2 u).1.symm.trans c) ((D.2.2 SYn).1 x.1 x.2 u).2.1
      have sv' := (ME_sv (K := tk_K (I0 1) n) (V := fun i => tk_vl (I0 1) n (tk_at (I0 1) n i)) tk_V 501 0 0 gc0 a0 rfl (sv_0 D.1) (fun q => absurd rfl q) SYn MEn).resolve_right (by decide)
      exact TW_sv sv' (TDw_of s3) s1 mJ g3
    · obtain ⟨v1, v2⟩ := V' (by rw [← q1]; exact c)
      obtain ⟨x1, x2, x3⟩ := T.1 c
      have y := H.1 c
      obtain ⟨gc, gr, tw, -, -⟩ := GG_at hJ hrf
      have eq : qt' = qt := Option.some.inj (hrf'.2.2.1.symm.trans ((f 0 9 (by omega)).2.trans x1))
      have el : l' = l := by have := hrf'.2.2.2.2; omega
      subst eq
      subst el
      have hq := hrf.1
      have tq : ∀ p j, (qt' ≤ p ∧ p < qt' + 25) ∨ p = 37 ∨ (41 ≤ p ∧ p ≤ 44) → J p j = I0 p j := fun p j q => by
        rcases q with q | q
        · rw [(f p j (by omega)).1]
          have g := x3 (p - (qt' - 12)) j (by omega) (by omega)
          rw [show p - (qt' - 12) + (qt' - 12) = p by omega] at g
          exact g
        · rw [(f p j (by omega)).1]
          exact y p j (by omega)
      have hi : ∀ p j, 137 ≤ p ∨ (p = 107 ∧ 46 ≤ j) → J p j = I0 p j := fun p j q => (v2 p j (Or.inr (Or.inr q))).trans (o p j (by omega)).1
      have twI : TW l' I := TW_cg (fun p j q => (o p j (by omega)).1) tw
      refine ⟨GC_cg (by omega) (fun p j q => ?_) e48 ?_ gc, ?_, TW_lv l1 mm v2 twI⟩
      · rcases Nat.lt_or_ge p 37 with u | u
        · rcases q with q | q
          · exact tq p j (Or.inl q)
          · rw [(f p j (by omega)).1]; exact y p j (by omega)
        · rcases q with q | q
          · exact tq p j (Or.inl q)
          · rw [(f p j (by omega)).1]; exact y p j (by omega)
      · rw [(f 74 4 (by omega)).2]; exact XR
      · rcases gr with e | gr
        · exact Or.inl ((hi 107 70 (by omega)).trans e)
        · right
          have kf : RF J l' = RF I0 l' := by rw [← RF_at lI hrf', ← RF_at hI00 hrf, KF_cg (by omega) tq]
          have e125 : J 125 l' = I0 125 l' := (v2 125 l' (Or.inl (Or.inl ⟨Or.inr rfl, rfl⟩))).trans (o 125 l' (by omega)).1
          have e137 : J 137 = I0 137 := funext (fun j => hi 137 j (by omega))
          have kx : rxs J l' = rxs I0 l' := by
            unfold rxs rdb
            rw [e125, e137, hi 107 46 (by omega)]
          rw [kf, kx]
          exact gor_cg (fun p j q => hi p j (by omega)) gr⟩
  refine ⟨r1, J, L', R', by rw [ez, eJ], k r1 J L' R' q1 (GL ⟨lw_kk (lw_pm mJ) mk f, mJ, ?_⟩)⟩
  by_cases c : r = 0
  · obtain ⟨⟨g1, g2, g3, -⟩, s, s1, s2, s3, s4⟩ := q3 c
    obtain ⟨⟨h1, h2, h3, h4⟩, -⟩ := H.2 c
    obtain ⟨x1, x2, x3, ⟨x4, x5⟩, x6⟩ := T.2 c
    refine ⟨tp, ⟨fun k hk => ?_, fun k hk => ?_, ?_, fun i hi hj => ?_, fun k hk => ?_⟩, qi, qt, s, ⟨by have := hrf.1; omega, s1, (f 0 9 (by omega)).2.trans x1, (f 2 6 (by omega)).2.trans x2, s2⟩, ⟨(ME (tk_K (I0 1) n) (fun i => tk_vl (I0 1) n (tk_at (I0 1) n i)) 501 0 0 a0).2, fun c j p1 p2 p3 p4 => ?_, TDw_of s3⟩, q_wm (by have := hrf.1; omega) s1 s2 mJ s3 x4 x5 (s4 x5) (wmQ_cg (I := I) (fun p j q => (f p j (by have := hrf.1; omega)).1) x6)⟩
    · rw [(f 37 0 (by omega)).1, h1, (g1 k hk).1]
      simp
    · rw [(f 38 k (by omega)).1, h3 k hk, (g1 k hk).2]
    · rw [(f 37 1 (by omega)).1, h2, g3]
    · rw [(f 37 1 (by omega)).1, h2, kl_0] at hj
      omega
    · rw [(f 39 k (by omega)).1, h4 k hk, g2 k (by omega)]
    · rw [(f _ j (by have := hrf.1; omega)).1]
      exact x3 c j p1 p2 p3 p4
  · obtain ⟨v1, v2⟩ := V' (by rw [← q1]; exact c)
    obtain ⟨x1, x2, x3⟩ := T.1 c
    have y := H.1 c
    obtain ⟨⟨a, k1, k2⟩, k3⟩ := htd
    refine ⟨tp, hdE_cg (I := I0) (fun p j q => ?_) hd, qt, qi, l, ⟨hrf.1, l1, (f 0 9 (by omega)).2.trans x1, (f 2 6 (by omega)).2.trans x2, v1⟩, ⟨a, fun c j p1 p2 p3 p4 => ?_, TDw_lv l1 mm v2 (TDw_cg (fun p j _ _ => (o p j (by omega)).1) k2)⟩, wmE_cg (I := I0) (fun p j q => ?_) k3⟩
    · rcases Nat.lt_or_ge p 107 with u | u
      · rw [(f p j u).1]; exact y p j (by omega)
      · rw [v2 p j (by omega)]; exact (o p j u).1
    · rw [(f _ j (by have := hrf.1; omega)).1, x3 c j p1 (by omega)]
      exact k1 c j p1 p2 p3 p4
    · rcases Nat.lt_or_ge p 107 with u | u
      · have hq := hrf.1
        rw [(f p j u).1]
        have g := x3 (p - (qt - 12)) j (by omega) (by omega)
        rw [show p - (qt - 12) + (qt - 12) = p by omega] at g
        exact g
      · have hq : qt + 24 < 107 := by have := hrf.1; omega
        have cc : ml_hl l p j ∨ ml_hm l p j ∨ 137 ≤ p ∨ (p = 107 ∧ 46 ≤ j) := by
          rcases q with e | ⟨e, -⟩ | ⟨-, e⟩ | ⟨e | e, e2⟩ | ⟨e, -⟩ | ⟨e, e2⟩
          · exfalso; omega
          · exfalso; omega
          · exfalso; omega
          · exact Or.inr (Or.inl (Or.inl ⟨Or.inr (Or.inl e), e2⟩))
          · exact Or.inl (Or.inl ⟨Or.inl e, e2⟩)
          · exact Or.inr (Or.inr (Or.inl (by omega)))
          · exact Or.inr (Or.inr (Or.inr ⟨e, by omega⟩))
        rw [v2 p j cc]; exact (o p j u).1
end
end
section
/-! conditions of the reference: ways, count, tried, choice, goes, forced (wip/pe/symg4.py) -/
theorem sm_ciH {P : Nat → sm_M} {S : sm_C} {d g : Nat} {as : List Value} {w : sm_W} {cs : Nat × Nat} {lay : List (Nat × Nat)} {F : sm_R → sm_R} {C : Int32 → sm_I → sm_L → sm_R → Prop} {K : sm_Z → Prop} (h : sm_wp P S d g 0 as [] w cs (fun z => ∃ (r : Int32) (I2 : sm_I) (L2 : sm_L) (R2 : sm_R), z = (some (.int r), (lay, I2, L2, F R2)) ∧ C r I2 L2 R2)) (hC : ∀ (r : Int32) (I2 : sm_I) (L2 : sm_L) (R2 : sm_R), C r I2 L2 R2 → K (some (.int r), (lay, I2, L2, F R2))) : sm_wp P S d g 0 as [] w cs K := sm_wp_mono h (fun z q => by
  obtain ⟨r, I2, L2, R2, e, c⟩ := q
  rw [e]; exact hC r I2 L2 R2 c)
theorem pj_X12_ways_0 {S : sm_C} {d : Nat} {Φ : sm_Z → Prop} {I : sm_I} {L : sm_L} {R : sm_R} (h : sm_wp sm_P S d 135 0 [.ref 107] [] (xLay, I, L, (kM R)) (0, 0) (fun z => ∃ (I1 : sm_I) (L2 : sm_L), z = (none, (xLay, I1, L2, (kM R))) ∧ (((I1 107 71) = 0 → Φ (some (.int (I1 107 73)), (xLay, I1, L2, (kM R)))) ∧ (¬ (I1 107 71) = 0 → Φ (some (.int (-3 : Int32)), (xLay, I1, L2, (kM R))))))) : sm_wp sm_P S (d + 1) 211 0 [.ref 107] [] (xLay, I, L, (kM R)) (0, 0) Φ := sm_wp_step (sm_cv0 (h) (fun I1 L2 q5 => ⟨fun q4 => ((q5).1 q4), fun q4 => ((q5).2 q4)⟩))
theorem pj_X12_count_0 {S : sm_C} {d : Nat} {Φ : sm_Z → Prop} {I : sm_I} {L : sm_L} {R : sm_R} {x1 : Int32} (h : (((x1).toInt = 0 → (vp_in (I 107 18) 2) ∧ Φ (some (.int (I 118 (I 107 18).toNatClampNeg)), (xLay, I, L, (kM R)))) ∧ (¬ (x1).toInt = 0 → (((x1).toInt = 1 → (vp_in (I 107 18) 2) ∧ Φ (some (.int (I 119 (I 107 18).toNatClampNeg)), (xLay, I, L, (kM R)))) ∧ (¬ (x1).toInt = 1 → (((x1).toInt = 2 → (vp_in (I 107 18) 2) ∧ Φ (some (.int (I 122 (I 107 18).toNatClampNeg)), (xLay, I, L, (kM R)))) ∧ (¬ (x1).toInt = 2 → (((x1).toInt = 3 → (vp_in (I 107 18) 2) ∧ Φ (some (.int (I 125 (I 107 18).toNatClampNeg)), (xLay, I, L, (kM R)))) ∧ (¬ (x1).toInt = 3 → (((x1).toInt = 4 → (vp_in (I 107 18) 2) ∧ Φ (some (.int (I 136 (I 107 18).toNatClampNeg)), (xLay, I, L, (kM R)))) ∧ (¬ (x1).toInt = 4 → (((x1).toInt = 5 → Φ (some (.int (I 107 46)), (xLay, I, L, (kM R)))) ∧ (¬ (x1).toInt = 5 → (((x1).toInt = 6 → sm_wp sm_P S d 135 0 [.ref 107] [] (xLay, I, L, (kM R)) (0, 0) (fun z => ∃ (I8 : sm_I) (L9 : sm_L), z = (none, (xLay, I8, L9, (kM R))) ∧ Φ (some (.int (I8 107 72)), (xLay, I8, L9, (kM R))))) ∧ (¬ (x1).toInt = 6 → (((x1).toInt = 7 → Φ (some (.int (I 107 2)), (xLay, I, L, (kM R)))) ∧ (¬ (x1).toInt = 7 → sm_wp sm_P S d 149 0 [.ref 107, .int (x1 - (10 : Int32))] [] (xLay, I, L, (kM R)) (0, 0) (fun z => ∃ (r3 : Int32) (I1 : sm_I) (L2 : sm_L), z = (some (.int r3), (xLay, I1, L2, (kM R))) ∧ ((r3 = 0 → Φ (some (.int (-1 : Int32)), (xLay, I1, L2, (kM R)))) ∧ (¬ r3 = 0 → ∀ n4 : Int32, n4 = ((((10 : Int32) * (I1 107 18)) + x1) - (10 : Int32)) → (vp_in n4 20) ∧ Φ (some (.int (I1 128 n4.toNatClampNeg)), (xLay, I1, L2, (kM R))))))))))))))))))))))) : sm_wp sm_P S (d + 1) 118 0 [.ref 107, .int x1] [] (xLay, I, L, (kM R)) (0, 0) Φ := sm_wp_step (⟨fun q18 => ⟨(((h).1 q18)).1, (((h).1 q18)).2⟩, fun q18 => ⟨fun q17 => ⟨(((((h).2 q18)).1 q17)).1, (((((h).2 q18)).1 q17)).2⟩, fun q17 => ⟨fun q16 => ⟨(((((((h).2 q18)).2 q17)).1 q16)).1, (((((((h).2 q18)).2 q17)).1 q16)).2⟩, fun q16 => ⟨fun q15 => ⟨(((((((((h).2 q18)).2 q17)).2 q16)).1 q15)).1, (((((((((h).2 q18)).2 q17)).2 q16)).1 q15)).2⟩, fun q15 => ⟨fun q14 => ⟨(((((((((((h).2 q18)).2 q17)).2 q16)).2 q15)).1 q14)).1, (((((((((((h).2 q18)).2 q17)).2 q16)).2 q15)).1 q14)).2⟩, fun q14 => ⟨fun q13 => ((((((((((((h).2 q18)).2 q17)).2 q16)).2 q15)).2 q14)).1 q13), fun q13 => ⟨fun q12 => sm_cv0 (((((((((((((((h).2 q18)).2 q17)).2 q16)).2 q15)).2 q14)).2 q13)).1 q12)) (fun I8 L9 q11 => q11), fun q12 => ⟨fun q7 => ((((((((((((((((h).2 q18)).2 q17)).2 q16)).2 q15)).2 q14)).2 q13)).2 q12)).1 q7), fun q7 => sm_ci0 (((((((((((((((((h).2 q18)).2 q17)).2 q16)).2 q15)).2 q14)).2 q13)).2 q12)).2 q7)) (fun r3 I1 L2 q6 => ⟨fun q5 => ((q6).1 q5), fun q5 => ⟨((((q6).2 q5) _ rfl)).1, ((((q6).2 q5) _ rfl)).2⟩⟩)⟩⟩⟩⟩⟩⟩⟩⟩)
theorem pj_X12_tried_0 {S : sm_C} {d : Nat} {Φ : sm_Z → Prop} {I : sm_I} {L : sm_L} {R : sm_R} {x1 : Int32} {x2 : Int32} (h : ((x1 < 0 → Φ (some (.int (-1 : Int32)), (xLay, I, L, (kM R)))) ∧ (¬ x1 < 0 → sm_wp sm_P S d 141 0 [.int x2, .int (0 : Int32), .int (2 : Int32)] [] (xLay, I, L, (kM R)) (0, 0) (fun z => ∃ (r3 : Int32) (I1 : sm_I) (L2 : sm_L), z = (some (.int r3), (xLay, I1, L2, (kM R))) ∧ ((r3 = 0 → Φ (some (.int (-1 : Int32)), (xLay, I1, L2, (kM R)))) ∧ (¬ r3 = 0 → sm_wp sm_P S d 135 0 [.ref 107] [] (xLay, I1, L2, (kM R)) (0, 0) (fun z => ∃ (I4 : sm_I) (L5 : sm_L), z = (none, (xLay, I4, L5, (kM R))) ∧ (((I4 107 72) ≤ x1 → Φ (some (.int (-1 : Int32)), (xLay, I4, L5, (kM R)))) ∧ (¬ (I4 107 72) ≤ x1 → ((x1 < (1000 : Int32) → ((x2 = 0 → (vp_in x1 1000) ∧ sm_wp sm_P S d 205 0 [.int (I4 154 x1.toNatClampNeg)] [] (xLay, I4, L5, (kM R)) (0, 0) (fun z => ∃ (r11 : Int32) (I9 : sm_I) (L10 : sm_L), z = (some (.int r11), (xLay, I9, L10, (kM R))) ∧ Φ (some (.int r11), (xLay, I9, L10, (kM R))))) ∧ (¬ x2 = 0 → ((x2 = (1 : Int32) → (vp_in x1 1000) ∧ Φ (some (.int (I4 155 x1.toNatClampNeg)), (xLay, I4, L5, (kM R)))) ∧ (¬ x2 = (1 : Int32) → (vp_in x1 1000) ∧ (((I4 156 x1.toNatClampNeg) = 0 → Φ (some (.int (0 : Int32)), (xLay, I4, L5, (kM R)))) ∧ (¬ (I4 156 x1.toNatClampNeg) = 0 → Φ (some (.int (1 : Int32)), (xLay, I4, L5, (kM R)))))))))) ∧ (¬ x1 < (1000 : Int32) → Φ (some (.int (-1 : Int32)), (xLay, I4, L5, (kM R)))))))))))))) : sm_wp sm_P S (d + 1) 206 0 [.ref 107, .int x1, .int x2] [] (xLay, I, L, (kM R)) (0, 0) Φ := sm_wp_step (⟨fun q19 => ((h).1 q19), fun q19 => sm_ci0 (((h).2 q19)) (fun r3 I1 L2 q18 => ⟨fun q17 => ((q18).1 q17), fun q17 => sm_cv0 (((q18).2 q17)) (fun I4 L5 q16 => ⟨fun q15 => ((q16).1 q15), fun q15 => ⟨fun q14 => ⟨fun q13 => ⟨(((((((q16).2 q15)).1 q14)).1 q13)).1, sm_ci0 ((((((((q16).2 q15)).1 q14)).1 q13)).2) (fun r11 I9 L10 q12 => q12)⟩, fun q13 => ⟨fun q8 => ⟨(((((((((q16).2 q15)).1 q14)).2 q13)).1 q8)).1, (((((((((q16).2 q15)).1 q14)).2 q13)).1 q8)).2⟩, fun q8 => ⟨(((((((((q16).2 q15)).1 q14)).2 q13)).2 q8)).1, ⟨fun q7 => (((((((((((q16).2 q15)).1 q14)).2 q13)).2 q8)).2).1 q7), fun q7 => (((((((((((q16).2 q15)).1 q14)).2 q13)).2 q8)).2).2 q7)⟩⟩⟩⟩, fun q14 => ((((q16).2 q15)).2 q14)⟩⟩)⟩)⟩)
theorem pj_X12_choice_0 {S : sm_C} {d : Nat} {Φ : sm_Z → Prop} {I : sm_I} {L : sm_L} {R : sm_R} {x1 : Int32} {x2 : Int32} (h : sm_wp sm_P S d 149 0 [.ref 107, .int x2] [] (xLay, I, L, (kM R)) (0, 0) (fun z => ∃ (r3 : Int32) (I1 : sm_I) (L2 : sm_L), z = (some (.int r3), (xLay, I1, L2, (kM R))) ∧ ((r3 = 0 → Φ (some (.int (-1 : Int32)), (xLay, I1, L2, (kM R)))) ∧ (¬ r3 = 0 → sm_wp sm_P S d 97 0 [.ref 107, .int x1] [] (xLay, I1, L2, (kM R)) (0, 0) (fun z => ∃ (r6 : Int32) (I4 : sm_I) (L5 : sm_L), z = (some (.int r6), (xLay, I4, L5, (kM R))) ∧ ((r6 = 0 → (vp_in x2 10) ∧ (((I4 137 x2.toNatClampNeg) = 0 → sm_wp sm_P S d 208 0 [.ref 107] [] (xLay, I4, L5, (kM R)) (0, 0) (fun z => ∃ (r9 : Int32) (I7 : sm_I) (L8 : sm_L), z = (some (.int r9), (xLay, I7, L8, (kM R))) ∧ sm_wp sm_P S d 160 0 [.ref 107, .int r9] [] (xLay, I7, L8, (kM R)) (0, 0) (fun z => ∃ (I10 : sm_I) (L11 : sm_L), z = (none, (xLay, I10, L11, (kM R))) ∧ sm_wp sm_P S d 113 0 [.ref 107, .int x1, .int x2] [] (xLay, I10, L11, (kM R)) (0, 0) (fun z => ∃ (r15 : Int32) (I13 : sm_I) (L14 : sm_L), z = (some (.int r15), (xLay, I13, L14, (kM R))) ∧ Φ (some (.int r15), (xLay, I13, L14, (kM R))))))) ∧ (¬ (I4 137 x2.toNatClampNeg) = 0 → Φ (some (.int (-2 : Int32)), (xLay, I4, L5, (kM R)))))) ∧ (¬ r6 = 0 → Φ (some (.int r6), (xLay, I4, L5, (kM R)))))))))) : sm_wp sm_P S (d + 1) 112 0 [.ref 107, .int x1, .int x2] [] (xLay, I, L, (kM R)) (0, 0) Φ := sm_wp_step (sm_ci0 (h) (fun r3 I1 L2 q23 => ⟨fun q22 => ((q23).1 q22), fun q22 => sm_ci0 (((q23).2 q22)) (fun r6 I4 L5 q21 => ⟨fun q20 => ⟨(((q21).1 q20)).1, ⟨fun q19 => sm_ci0 ((((((q21).1 q20)).2).1 q19)) (fun r9 I7 L8 q18 => sm_cv0 (q18) (fun I10 L11 q17 => sm_ci0 (q17) (fun r15 I13 L14 q16 => q16))), fun q19 => (((((q21).1 q20)).2).2 q19)⟩⟩, fun q20 => ((q21).2 q20)⟩)⟩))
theorem pj_X12_goes_0 {S : sm_C} {d : Nat} {Φ : sm_Z → Prop} {I : sm_I} {L : sm_L} {R : sm_R} {x1 : Int32} {x2 : Int32} (h : sm_wp sm_P S d 141 0 [.int x2, .int (0 : Int32), .int ((I 107 46) - (1 : Int32))] [] (xLay, I, L, (kM R)) (0, 0) (fun z => ∃ (r3 : Int32) (I1 : sm_I) (L2 : sm_L), z = (some (.int r3), (xLay, I1, L2, (kM R))) ∧ ((r3 = 0 → Φ (some (.int (-1 : Int32)), (xLay, I1, L2, (kM R)))) ∧ (¬ r3 = 0 → sm_wp sm_P S d 97 0 [.ref 107, .int x1] [] (xLay, I1, L2, (kM R)) (0, 0) (fun z => ∃ (r6 : Int32) (I4 : sm_I) (L5 : sm_L), z = (some (.int r6), (xLay, I4, L5, (kM R))) ∧ ((r6 = 0 → ∀ I7 : sm_I, I7 = (sm_up I4 107 67 (0 : Int32)) → sm_wp sm_P S d 208 0 [.ref 107] [] (xLay, I7, L5, (kM R)) (0, 0) (fun z => ∃ (r10 : Int32) (I8 : sm_I) (L9 : sm_L), z = (some (.int r10), (xLay, I8, L9, (kM R))) ∧ sm_wp sm_P S d 160 0 [.ref 107, .int r10] [] (xLay, I8, L9, (kM R)) (0, 0) (fun z => ∃ (I11 : sm_I) (L12 : sm_L), z = (none, (xLay, I11, L12, (kM R))) ∧ sm_wp sm_P S d 113 0 [.ref 107, .int x1, .int ((10 : Int32) + x2)] [] (xLay, I11, L12, (kM R)) (0, 0) (fun z => ∃ (r16 : Int32) (I14 : sm_I) (L15 : sm_L), z = (some (.int r16), (xLay, I14, L15, (kM R))) ∧ Φ (some (.int r16), (xLay, I14, L15, (kM R))))))) ∧ (¬ r6 = 0 → Φ (some (.int r6), (xLay, I4, L5, (kM R)))))))))) : sm_wp sm_P S (d + 1) 134 0 [.ref 107, .int x1, .int x2] [] (xLay, I, L, (kM R)) (0, 0) Φ := sm_wp_step (sm_ci0 (h) (fun r3 I1 L2 q23 => ⟨fun q22 => ((q23).1 q22), fun q22 => sm_ci0 (((q23).2 q22)) (fun r6 I4 L5 q21 => ⟨fun q20 => sm_ci0 ((((q21).1 q20) _ rfl)) (fun r10 I8 L9 q19 => sm_cv0 (q19) (fun I11 L12 q18 => sm_ci0 (q18) (fun r16 I14 L15 q17 => q17))), fun q20 => ((q21).2 q20)⟩)⟩))
theorem pj_X12_forced_0 {S : sm_C} {d : Nat} {Φ : sm_Z → Prop} {I : sm_I} {L : sm_L} {R : sm_R} {x1 : Int32} (h : sm_wp sm_P S d 149 0 [.ref 107, .int x1] [] (xLay, I, L, (kM R)) (0, 0) (fun z => ∃ (r3 : Int32) (I1 : sm_I) (L2 : sm_L), z = (some (.int r3), (xLay, I1, L2, (kM R))) ∧ ((r3 = 0 → Φ (some (.int (-1 : Int32)), (xLay, I1, L2, (kM R)))) ∧ (¬ r3 = 0 → (vp_in x1 10) ∧ (((I1 137 x1.toNatClampNeg) = 0 → sm_wp sm_P S d 135 0 [.ref 107] [] (xLay, I1, L2, (kM R)) (0, 0) (fun z => ∃ (I4 : sm_I) (L5 : sm_L), z = (none, (xLay, I4, L5, (kM R))) ∧ (((I4 107 71) = 0 → ∀ I7 : sm_I, I7 = (sm_up I4 107 67 (0 : Int32)) → sm_wp sm_P S d 208 0 [.ref 107] [] (xLay, I7, L5, (kM R)) (0, 0) (fun z => ∃ (r10 : Int32) (I8 : sm_I) (L9 : sm_L), z = (some (.int r10), (xLay, I8, L9, (kM R))) ∧ sm_wp sm_P S d 160 0 [.ref 107, .int r10] [] (xLay, I8, L9, (kM R)) (0, 0) (fun z => ∃ (I11 : sm_I) (L12 : sm_L), z = (none, (xLay, I11, L12, (kM R))) ∧ sm_wp sm_P S (d + 1) 127 6 [.ref 107, .int x1, .int (-2 : Int32), .int (0 : Int32)] [] (xLay, I11, L12, (kM R)) (0, 0) Φ))) ∧ (¬ (I4 107 71) = 0 → Φ (some (.int (-3 : Int32)), (xLay, I4, L5, (kM R))))))) ∧ (¬ (I1 137 x1.toNatClampNeg) = 0 → Φ (some (.int (-1 : Int32)), (xLay, I1, L2, (kM R))))))))) : sm_wp sm_P S (d + 1) 127 0 [.ref 107, .int x1] [] (xLay, I, L, (kM R)) (0, 0) Φ := sm_wp_step (sm_ci0 (h) (fun r3 I1 L2 q20 => ⟨fun q19 => ((q20).1 q19), fun q19 => ⟨(((q20).2 q19)).1, ⟨fun q18 => sm_cv0 ((((((q20).2 q19)).2).1 q18)) (fun I4 L5 q17 => ⟨fun q16 => sm_ci0 ((((q17).1 q16) _ rfl)) (fun r10 I8 L9 q15 => sm_cv0 (q15) (fun I11 L12 q14 => q14)), fun q16 => ((q17).2 q16)⟩), fun q18 => (((((q20).2 q19)).2).2 q18)⟩⟩⟩))
theorem pj_X12_forced_6 {S : sm_C} {d : Nat} {Φ : sm_Z → Prop} {I : sm_I} {L : sm_L} {R : sm_R} {x1 : Int32} {x2 : Int32} {x3 : Int32} (h : (((I 107 73) ≤ x3 → Φ (some (.int x2), (xLay, I, L, (kM R)))) ∧ (¬ (I 107 73) ≤ x3 → sm_wp sm_P S d 113 0 [.ref 107, .int x3, .int x1] [] (xLay, I, L, (kM R)) (0, 0) (fun z => ∃ (r3 : Int32) (I1 : sm_I) (L2 : sm_L), z = (some (.int r3), (xLay, I1, L2, (kM R))) ∧ ((x3 ≤ 0 → sm_wp sm_P S (d + 1) 127 6 [.ref 107, .int x1, .int r3, .int (x3 + (1 : Int32))] [] (xLay, I1, L2, (kM R)) (0, 0) Φ) ∧ (¬ x3 ≤ 0 → ((r3 = x2 → sm_wp sm_P S (d + 1) 127 6 [.ref 107, .int x1, .int r3, .int (x3 + (1 : Int32))] [] (xLay, I1, L2, (kM R)) (0, 0) Φ) ∧ (¬ r3 = x2 → Φ (some (.int (-2 : Int32)), (xLay, I1, L2, (kM R))))))))))) : sm_wp sm_P S (d + 1) 127 6 [.ref 107, .int x1, .int x2, .int x3] [] (xLay, I, L, (kM R)) (0, 0) Φ := sm_wp_step (⟨fun q7 => ((h).1 q7), fun q7 => sm_ci0 (((h).2 q7)) (fun r3 I1 L2 q6 => ⟨fun q5 => ((q6).1 q5), fun q5 => ⟨fun q4 => ((((q6).2 q5)).1 q4), fun q4 => ((((q6).2 q5)).2 q4)⟩⟩)⟩)
theorem pj_X12_asks_0 {S : sm_C} {d : Nat} {Φ : sm_Z → Prop} {I : sm_I} {L : sm_L} {R : sm_R} {x1 : Int32} (h : ((0 ≤ x1 → sm_wp sm_P S d 135 0 [.ref 107] [] (xLay, I, L, (kM R)) (0, 0) (fun z => ∃ (I1 : sm_I) (L2 : sm_L), z = (none, (xLay, I1, L2, (kM R))) ∧ (((I1 107 71) = 0 → (((I1 107 73) ≤ x1 → Φ (some (.int (-1 : Int32)), (xLay, I1, L2, (kM R)))) ∧ (¬ (I1 107 73) ≤ x1 → Φ (some (.int (0 : Int32)), (xLay, I1, L2, (kM R)))))) ∧ (¬ (I1 107 71) = 0 → Φ (some (.int (-3 : Int32)), (xLay, I1, L2, (kM R))))))) ∧ (¬ 0 ≤ x1 → Φ (some (.int (-1 : Int32)), (xLay, I, L, (kM R)))))) : sm_wp sm_P S (d + 1) 97 0 [.ref 107, .int x1] [] (xLay, I, L, (kM R)) (0, 0) Φ := sm_wp_step (⟨fun q7 => sm_cv0 (((h).1 q7)) (fun I1 L2 q6 => ⟨fun q5 => ⟨fun q4 => ((((q6).1 q5)).1 q4), fun q4 => ((((q6).1 q5)).2 q4)⟩, fun q5 => ((q6).2 q5)⟩), fun q7 => ((h).2 q7)⟩)
theorem pj_X12_choiceOf_0 {S : sm_C} {d : Nat} {Φ : sm_Z → Prop} {I : sm_I} {L : sm_L} {R : sm_R} {x1 : Int32} {x2 : Int32} (h : sm_wp sm_P S d 113 1 [.ref 107, .int x1, .int x2, .int (-1 : Int32), .int (0 : Int32)] [] (xLay, I, L, (kM R)) (0, 0) Φ) : sm_wp sm_P S d 113 0 [.ref 107, .int x1, .int x2] [] (xLay, I, L, (kM R)) (0, 0) Φ := sm_wp_step (h)
theorem pj_X12_choiceOf_1 {S : sm_C} {d : Nat} {Φ : sm_Z → Prop} {I : sm_I} {L : sm_L} {R : sm_R} {x1 : Int32} {x2 : Int32} {x3 : Int32} {x4 : Int32} (h : (((I 107 59) ≤ x4 → Φ (some (.int x3), (xLay, I, L, (kM R)))) ∧ (¬ (I 107 59) ≤ x4 → (vp_in x4 70) ∧ (((I 148 x4.toNatClampNeg) = x2 → (vp_in (((55 : Int32) * x1) + x4) 55100) ∧ ∀ n1 : Int32, n1 = (I 153 (((55 : Int32) * x1) + x4).toNatClampNeg) → sm_wp sm_P S d 113 1 [.ref 107, .int x1, .int x2, .int n1, .int (x4 + (1 : Int32))] [] (xLay, I, L, (kM R)) (0, 0) Φ) ∧ (¬ (I 148 x4.toNatClampNeg) = x2 → sm_wp sm_P S d 113 1 [.ref 107, .int x1, .int x2, .int x3, .int (x4 + (1 : Int32))] [] (xLay, I, L, (kM R)) (0, 0) Φ))))) : sm_wp sm_P S d 113 1 [.ref 107, .int x1, .int x2, .int x3, .int x4] [] (xLay, I, L, (kM R)) (0, 0) Φ := sm_wp_step (⟨fun q3 => ((h).1 q3), fun q3 => ⟨(((h).2 q3)).1, ⟨fun q2 => ⟨((((((h).2 q3)).2).1 q2)).1, (((((((h).2 q3)).2).1 q2)).2 _ rfl)⟩, fun q2 => (((((h).2 q3)).2).2 q2)⟩⟩⟩)
end
section
/-! conditions of the class: ways, count, tried, choice, goes, forced; told = 12 (wip/pe/symg4.py) -/
theorem pf12_X11_ways_0 {S : sm_C} {d : Nat} {Φ : sm_Z → Prop} {I : sm_I} {L : sm_L} {R : sm_R} (h : sm_wp sm_P S d 56 0 [.ref 0] [] (xLay, I, L, (kF12_74 R)) (0, 0) (fun z => ∃ (r4 : Int32) (I1 : sm_I) (L2 : sm_L) (R3 : sm_R), z = (some (.int r4), (xLay, I1, L2, (kG12_74 R3))) ∧ ((r4 = 0 → Φ (some (.int (-3 : Int32)), (xLay, I1, L2, (kG12_74 R3)))) ∧ (¬ r4 = 0 → Φ (some (.int (I1 74 14)), (xLay, I1, L2, (kG12_74 R3))))))) : sm_wp sm_P S (d + 1) 91 0 [.ref 0] [] (xLay, I, L, (kF12_74 R)) (0, 0) Φ := sm_wp_step (sm_ciH (h) (fun r4 I1 L2 R3 q6 => ⟨fun q5 => ((q6).1 q5), fun q5 => ((q6).2 q5)⟩))
theorem pf12_X11_count_0 {S : sm_C} {d : Nat} {Φ : sm_Z → Prop} {I : sm_I} {L : sm_L} {R : sm_R} {x1 : Int32} (h : (((x1).toInt = 0 → Φ (some (.int (I 12 0)), (xLay, I, L, (kF12_74 R)))) ∧ (¬ (x1).toInt = 0 → (((x1).toInt = 1 → Φ (some (.int (I 12 1)), (xLay, I, L, (kF12_74 R)))) ∧ (¬ (x1).toInt = 1 → (((x1).toInt = 2 → Φ (some (.int (I 12 2)), (xLay, I, L, (kF12_74 R)))) ∧ (¬ (x1).toInt = 2 → (((x1).toInt = 3 → Φ (some (.int (I 12 3)), (xLay, I, L, (kF12_74 R)))) ∧ (¬ (x1).toInt = 3 → (((x1).toInt = 4 → Φ (some (.int (I 12 4)), (xLay, I, L, (kF12_74 R)))) ∧ (¬ (x1).toInt = 4 → (((x1).toInt = 5 → Φ (some (.int (I 12 5)), (xLay, I, L, (kF12_74 R)))) ∧ (¬ (x1).toInt = 5 → (((x1).toInt = 6 → sm_wp sm_P S d 56 0 [.ref 0] [] (xLay, I, L, (kF12_74 R)) (0, 0) (fun z => ∃ (r12 : Int32) (I9 : sm_I) (L10 : sm_L) (R11 : sm_R), z = (some (.int r12), (xLay, I9, L10, (kG12_74 R11))) ∧ Φ (some (.int (I9 74 13)), (xLay, I9, L10, (kG12_74 R11))))) ∧ (¬ (x1).toInt = 6 → (((x1).toInt = 7 → Φ (some (.int (I 0 10)), (xLay, I, L, (kF12_74 R)))) ∧ (¬ (x1).toInt = 7 → ((x1 < (10 : Int32) → Φ (some (.int (-1 : Int32)), (xLay, I, L, (kF12_74 R)))) ∧ (¬ x1 < (10 : Int32) → sm_wp sm_P S d 62 0 [.ref 0, .int (x1 - (10 : Int32))] [] (xLay, I, L, (kF12_74 R)) (0, 0) (fun z => ∃ (r4 : Int32) (I1 : sm_I) (L2 : sm_L) (R3 : sm_R), z = (some (.int r4), (xLay, I1, L2, (kG12_74 R3))) ∧ ((r4 = 0 → Φ (some (.int (-1 : Int32)), (xLay, I1, L2, (kG12_74 R3)))) ∧ (¬ r4 = 0 → (vp_in (x1 - (10 : Int32)) 10) ∧ Φ (some (.int (I1 22 (x1 - (10 : Int32)).toNatClampNeg)), (xLay, I1, L2, (kG12_74 R3))))))))))))))))))))))))) : sm_wp sm_P S (d + 1) 38 0 [.ref 0, .int x1] [] (xLay, I, L, (kF12_74 R)) (0, 0) Φ := sm_wp_step (⟨fun q20 => ((h).1 q20), fun q20 => ⟨fun q19 => ((((h).2 q20)).1 q19), fun q19 => ⟨fun q18 => ((((((h).2 q20)).2 q19)).1 q18), fun q18 => ⟨fun q17 => ((((((((h).2 q20)).2 q19)).2 q18)).1 q17), fun q17 => ⟨fun q16 => ((((((((((h).2 q20)).2 q19)).2 q18)).2 q17)).1 q16), fun q16 => ⟨fun q15 => ((((((((((((h).2 q20)).2 q19)).2 q18)).2 q17)).2 q16)).1 q15), fun q15 => ⟨fun q14 => sm_ciH (((((((((((((((h).2 q20)).2 q19)).2 q18)).2 q17)).2 q16)).2 q15)).1 q14)) (fun r12 I9 L10 R11 q13 => q13), fun q14 => ⟨fun q8 => ((((((((((((((((h).2 q20)).2 q19)).2 q18)).2 q17)).2 q16)).2 q15)).2 q14)).1 q8), fun q8 => ⟨fun q7 => ((((((((((((((((((h).2 q20)).2 q19)).2 q18)).2 q17)).2 q16)).2 q15)).2 q14)).2 q8)).1 q7), fun q7 => sm_ciH (((((((((((((((((((h).2 q20)).2 q19)).2 q18)).2 q17)).2 q16)).2 q15)).2 q14)).2 q8)).2 q7)) (fun r4 I1 L2 R3 q6 => ⟨fun q5 => ((q6).1 q5), fun q5 => ⟨(((q6).2 q5)).1, (((q6).2 q5)).2⟩⟩)⟩⟩⟩⟩⟩⟩⟩⟩⟩)
theorem pf12_X11_tried_0 {S : sm_C} {d : Nat} {Φ : sm_Z → Prop} {I : sm_I} {L : sm_L} {R : sm_R} {x1 : Int32} {x2 : Int32} (h : sm_wp sm_P S d 56 0 [.ref 0] [] (xLay, I, L, (kF12_74 R)) (0, 0) (fun z => ∃ (r4 : Int32) (I1 : sm_I) (L2 : sm_L) (R3 : sm_R), z = (some (.int r4), (xLay, I1, L2, (kG12_74 R3))) ∧ ((x1 < 0 → Φ (some (.int (-1 : Int32)), (xLay, I1, L2, (kG12_74 R3)))) ∧ (¬ x1 < 0 → ((x1 < (if (1000 : Int32) < (I1 74 13) then (1000 : Int32) else (I1 74 13)) → sm_wp sm_P S d 218 0 [.ref 45, .int x1, .int x2] [] (xLay, I1, L2, (kG12_74 R3)) (0, 0) (fun z => ∃ (r8 : Int32) (I5 : sm_I) (L6 : sm_L) (R7 : sm_R), z = (some (.int r8), (xLay, I5, L6, (kG12_74 R7))) ∧ Φ (some (.int r8), (xLay, I5, L6, (kG12_74 R7))))) ∧ (¬ x1 < (if (1000 : Int32) < (I1 74 13) then (1000 : Int32) else (I1 74 13)) → Φ (some (.int (-1 : Int32)), (xLay, I1, L2, (kG12_74 R3))))))))) : sm_wp sm_P S (d + 1) 88 0 [.ref 0, .int x1, .int x2] [] (xLay, I, L, (kF12_74 R)) (0, 0) Φ := sm_wp_step (sm_ciH (h) (fun r4 I1 L2 R3 q12 => ⟨fun q11 => ((q12).1 q11), fun q11 => ⟨fun q10 => sm_ciH (((((q12).2 q11)).1 q10)) (fun r8 I5 L6 R7 q9 => q9), fun q10 => ((((q12).2 q11)).2 q10)⟩⟩))
theorem pf12_X11_choice_0 {S : sm_C} {d : Nat} {Φ : sm_Z → Prop} {I : sm_I} {L : sm_L} {R : sm_R} {x1 : Int32} {x2 : Int32} (h : sm_wp sm_P S d 62 0 [.ref 0, .int x2] [] (xLay, I, L, (kF12_74 R)) (0, 0) (fun z => ∃ (r4 : Int32) (I1 : sm_I) (L2 : sm_L) (R3 : sm_R), z = (some (.int r4), (xLay, I1, L2, (kG12_74 R3))) ∧ ((r4 = 0 → Φ (some (.int (-1 : Int32)), (xLay, I1, L2, (kG12_74 R3)))) ∧ (¬ r4 = 0 → sm_wp sm_P S d 68 0 [.ref 0, .int x1] [] (xLay, I1, L2, (kG12_74 R3)) (0, 0) (fun z => ∃ (r8 : Int32) (I5 : sm_I) (L6 : sm_L) (R7 : sm_R), z = (some (.int r8), (xLay, I5, L6, (kG12_74 R7))) ∧ ((0 ≤ r8 → sm_wp sm_P S d 55 0 [.ref 0, .int x2] [] (xLay, I5, L6, (kG12_74 R7)) (0, 0) (fun z => ∃ (r12 : Int32) (I9 : sm_I) (L10 : sm_L) (R11 : sm_R), z = (some (.int r12), (xLay, I9, L10, (kG12_74 R11))) ∧ ((r12 = 0 → sm_wp sm_P S d 216 0 [.ref 45, .int x1, .int x2] [] (xLay, I9, L10, (kG12_74 R11)) (0, 0) (fun z => ∃ (r16 : Int32) (I13 : sm_I) (L14 : sm_L) (R15 : sm_R), z = (some (.int r16), (xLay, I13, L14, (kG12_74 R15))) ∧ Φ (some (.int r16), (xLay, I13, L14, (kG12_74 R15))))) ∧ (¬ r12 = 0 → Φ (some (.int (-2 : Int32)), (xLay, I9, L10, (kG12_74 R11))))))) ∧ (¬ 0 ≤ r8 → Φ (some (.int r8), (xLay, I5, L6, (kG12_74 R7)))))))))) : sm_wp sm_P S (d + 1) 36 0 [.ref 0, .int x1, .int x2] [] (xLay, I, L, (kF12_74 R)) (0, 0) Φ := sm_wp_step (sm_ciH (h) (fun r4 I1 L2 R3 q23 => ⟨fun q22 => ((q23).1 q22), fun q22 => sm_ciH (((q23).2 q22)) (fun r8 I5 L6 R7 q21 => ⟨fun q20 => sm_ciH (((q21).1 q20)) (fun r12 I9 L10 R11 q19 => ⟨fun q18 => sm_ciH (((q19).1 q18)) (fun r16 I13 L14 R15 q17 => q17), fun q18 => ((q19).2 q18)⟩), fun q20 => ((q21).2 q20)⟩)⟩))
theorem pf12_X11_goes_0 {S : sm_C} {d : Nat} {Φ : sm_Z → Prop} {I : sm_I} {L : sm_L} {R : sm_R} {x1 : Int32} {x2 : Int32} (h : ((x2 < 0 → Φ (some (.int (-1 : Int32)), (xLay, I, L, (kF12_74 R)))) ∧ (¬ x2 < 0 → ((x2 < (I 12 5) → sm_wp sm_P S d 68 0 [.ref 0, .int x1] [] (xLay, I, L, (kF12_74 R)) (0, 0) (fun z => ∃ (r4 : Int32) (I1 : sm_I) (L2 : sm_L) (R3 : sm_R), z = (some (.int r4), (xLay, I1, L2, (kG12_74 R3))) ∧ ((0 ≤ r4 → sm_wp sm_P S d 216 0 [.ref 45, .int x1, .int ((100 : Int32) + x2)] [] (xLay, I1, L2, (kG12_74 R3)) (0, 0) (fun z => ∃ (r8 : Int32) (I5 : sm_I) (L6 : sm_L) (R7 : sm_R), z = (some (.int r8), (xLay, I5, L6, (kG12_74 R7))) ∧ Φ (some (.int r8), (xLay, I5, L6, (kG12_74 R7))))) ∧ (¬ 0 ≤ r4 → Φ (some (.int r4), (xLay, I1, L2, (kG12_74 R3))))))) ∧ (¬ x2 < (I 12 5) → Φ (some (.int (-1 : Int32)), (xLay, I, L, (kF12_74 R)))))))) : sm_wp sm_P S (d + 1) 51 0 [.ref 0, .int x1, .int x2] [] (xLay, I, L, (kF12_74 R)) (0, 0) Φ := sm_wp_step (⟨fun q13 => ((h).1 q13), fun q13 => ⟨fun q12 => sm_ciH (((((h).2 q13)).1 q12)) (fun r4 I1 L2 R3 q11 => ⟨fun q10 => sm_ciH (((q11).1 q10)) (fun r8 I5 L6 R7 q9 => q9), fun q10 => ((q11).2 q10)⟩), fun q12 => ((((h).2 q13)).2 q12)⟩⟩)
theorem pf12_X11_forced_0 {S : sm_C} {d : Nat} {Φ : sm_Z → Prop} {I : sm_I} {L : sm_L} {R : sm_R} {x1 : Int32} (h : sm_wp sm_P S d 62 0 [.ref 0, .int x1] [] (xLay, I, L, (kF12_74 R)) (0, 0) (fun z => ∃ (r4 : Int32) (I1 : sm_I) (L2 : sm_L) (R3 : sm_R), z = (some (.int r4), (xLay, I1, L2, (kG12_74 R3))) ∧ ((r4 = 0 → Φ (some (.int (-1 : Int32)), (xLay, I1, L2, (kG12_74 R3)))) ∧ (¬ r4 = 0 → sm_wp sm_P S d 55 0 [.ref 0, .int x1] [] (xLay, I1, L2, (kG12_74 R3)) (0, 0) (fun z => ∃ (r8 : Int32) (I5 : sm_I) (L6 : sm_L) (R7 : sm_R), z = (some (.int r8), (xLay, I5, L6, (kG12_74 R7))) ∧ ((r8 = 0 → sm_wp sm_P S d 56 0 [.ref 0] [] (xLay, I5, L6, (kG12_74 R7)) (0, 0) (fun z => ∃ (r12 : Int32) (I9 : sm_I) (L10 : sm_L) (R11 : sm_R), z = (some (.int r12), (xLay, I9, L10, (kG12_74 R11))) ∧ ((r12 = 0 → Φ (some (.int (-3 : Int32)), (xLay, I9, L10, (kG12_74 R11)))) ∧ (¬ r12 = 0 → sm_wp sm_P S (d + 1) 45 6 [.ref 0, .int x1, .int (-2 : Int32), .int (0 : Int32)] [] (xLay, I9, L10, (kG12_74 R11)) (0, 0) Φ)))) ∧ (¬ r8 = 0 → Φ (some (.int (-1 : Int32)), (xLay, I5, L6, (kG12_74 R7)))))))))) : sm_wp sm_P S (d + 1) 45 0 [.ref 0, .int x1] [] (xLay, I, L, (kF12_74 R)) (0, 0) Φ := sm_wp_step (sm_ciH (h) (fun r4 I1 L2 R3 q18 => ⟨fun q17 => ((q18).1 q17), fun q17 => sm_ciH (((q18).2 q17)) (fun r8 I5 L6 R7 q16 => ⟨fun q15 => sm_ciH (((q16).1 q15)) (fun r12 I9 L10 R11 q14 => ⟨fun q13 => ((q14).1 q13), fun q13 => ((q14).2 q13)⟩), fun q15 => ((q16).2 q15)⟩)⟩))
theorem pf12_X11_forced_6 {S : sm_C} {d : Nat} {Φ : sm_Z → Prop} {I : sm_I} {L : sm_L} {R : sm_R} {x1 : Int32} {x2 : Int32} {x3 : Int32} (h : (((I 74 14) ≤ x3 → Φ (some (.int x2), (xLay, I, L, (kF12_74 R)))) ∧ (¬ (I 74 14) ≤ x3 → sm_wp sm_P S d 216 0 [.ref 45, .int x3, .int x1] [] (xLay, I, L, (kF12_74 R)) (0, 0) (fun z => ∃ (r4 : Int32) (I1 : sm_I) (L2 : sm_L) (R3 : sm_R), z = (some (.int r4), (xLay, I1, L2, (kG12_74 R3))) ∧ ((x3 ≤ 0 → sm_wp sm_P S (d + 1) 45 6 [.ref 0, .int x1, .int r4, .int (x3 + (1 : Int32))] [] (xLay, I1, L2, (kG12_74 R3)) (0, 0) Φ) ∧ (¬ x3 ≤ 0 → ((r4 = x2 → sm_wp sm_P S (d + 1) 45 6 [.ref 0, .int x1, .int r4, .int (x3 + (1 : Int32))] [] (xLay, I1, L2, (kG12_74 R3)) (0, 0) Φ) ∧ (¬ r4 = x2 → Φ (some (.int (-2 : Int32)), (xLay, I1, L2, (kG12_74 R3))))))))))) : sm_wp sm_P S (d + 1) 45 6 [.ref 0, .int x1, .int x2, .int x3] [] (xLay, I, L, (kF12_74 R)) (0, 0) Φ := sm_wp_step (⟨fun q8 => ((h).1 q8), fun q8 => sm_ciH (((h).2 q8)) (fun r4 I1 L2 R3 q7 => ⟨fun q6 => ((q7).1 q6), fun q6 => ⟨fun q5 => ((((q7).2 q6)).1 q5), fun q5 => ((((q7).2 q6)).2 q5)⟩⟩)⟩)
theorem pf12_X11_levelOf_0 {S : sm_C} {d : Nat} {Φ : sm_Z → Prop} {I : sm_I} {L : sm_L} {R : sm_R} {x1 : Int32} (h : ((0 ≤ x1 → sm_wp sm_P S d 56 0 [.ref 0] [] (xLay, I, L, (kF12_74 R)) (0, 0) (fun z => ∃ (r4 : Int32) (I1 : sm_I) (L2 : sm_L) (R3 : sm_R), z = (some (.int r4), (xLay, I1, L2, (kG12_74 R3))) ∧ ((r4 = 0 → Φ (some (.int (-3 : Int32)), (xLay, I1, L2, (kG12_74 R3)))) ∧ (¬ r4 = 0 → ((x1 < (I1 74 14) → sm_wp sm_P S d 222 0 [.ref 74, .ref 45, .int x1] [] (xLay, I1, L2, (kG12_74 R3)) (0, 0) (fun z => ∃ (r8 : Int32) (I5 : sm_I) (L6 : sm_L) (R7 : sm_R), z = (some (.int r8), (xLay, I5, L6, (kG12_74 R7))) ∧ Φ (some (.int (I5 74 11)), (xLay, I5, L6, (kG12_74 R7))))) ∧ (¬ x1 < (I1 74 14) → Φ (some (.int (-1 : Int32)), (xLay, I1, L2, (kG12_74 R3))))))))) ∧ (¬ 0 ≤ x1 → Φ (some (.int (-1 : Int32)), (xLay, I, L, (kF12_74 R)))))) : sm_wp sm_P S (d + 1) 68 0 [.ref 0, .int x1] [] (xLay, I, L, (kF12_74 R)) (0, 0) Φ := sm_wp_step (⟨fun q13 => sm_ciH (((h).1 q13)) (fun r4 I1 L2 R3 q12 => ⟨fun q11 => ((q12).1 q11), fun q11 => ⟨fun q10 => sm_ciH (((((q12).2 q11)).1 q10)) (fun r8 I5 L6 R7 q9 => q9), fun q10 => ((((q12).2 q11)).2 q10)⟩⟩), fun q13 => ((h).2 q13)⟩)
end
section
/-! conditions of the class: ways, count, tried, choice, goes, forced; told = 49 (wip/pe/symg4.py) -/
theorem pf49_X11_ways_0 {S : sm_C} {d : Nat} {Φ : sm_Z → Prop} {I : sm_I} {L : sm_L} {R : sm_R} (h : sm_wp sm_P S d 56 0 [.ref 0] [] (xLay, I, L, (kF49_74 R)) (0, 0) (fun z => ∃ (r4 : Int32) (I1 : sm_I) (L2 : sm_L) (R3 : sm_R), z = (some (.int r4), (xLay, I1, L2, (kG49_74 R3))) ∧ ((r4 = 0 → Φ (some (.int (-3 : Int32)), (xLay, I1, L2, (kG49_74 R3)))) ∧ (¬ r4 = 0 → Φ (some (.int (I1 74 14)), (xLay, I1, L2, (kG49_74 R3))))))) : sm_wp sm_P S (d + 1) 91 0 [.ref 0] [] (xLay, I, L, (kF49_74 R)) (0, 0) Φ := sm_wp_step (sm_ciH (h) (fun r4 I1 L2 R3 q6 => ⟨fun q5 => ((q6).1 q5), fun q5 => ((q6).2 q5)⟩))
theorem pf49_X11_count_0 {S : sm_C} {d : Nat} {Φ : sm_Z → Prop} {I : sm_I} {L : sm_L} {R : sm_R} {x1 : Int32} (h : (((x1).toInt = 0 → Φ (some (.int (I 49 0)), (xLay, I, L, (kF49_74 R)))) ∧ (¬ (x1).toInt = 0 → (((x1).toInt = 1 → Φ (some (.int (I 49 1)), (xLay, I, L, (kF49_74 R)))) ∧ (¬ (x1).toInt = 1 → (((x1).toInt = 2 → Φ (some (.int (I 49 2)), (xLay, I, L, (kF49_74 R)))) ∧ (¬ (x1).toInt = 2 → (((x1).toInt = 3 → Φ (some (.int (I 49 3)), (xLay, I, L, (kF49_74 R)))) ∧ (¬ (x1).toInt = 3 → (((x1).toInt = 4 → Φ (some (.int (I 49 4)), (xLay, I, L, (kF49_74 R)))) ∧ (¬ (x1).toInt = 4 → (((x1).toInt = 5 → Φ (some (.int (I 49 5)), (xLay, I, L, (kF49_74 R)))) ∧ (¬ (x1).toInt = 5 → (((x1).toInt = 6 → sm_wp sm_P S d 56 0 [.ref 0] [] (xLay, I, L, (kF49_74 R)) (0, 0) (fun z => ∃ (r12 : Int32) (I9 : sm_I) (L10 : sm_L) (R11 : sm_R), z = (some (.int r12), (xLay, I9, L10, (kG49_74 R11))) ∧ Φ (some (.int (I9 74 13)), (xLay, I9, L10, (kG49_74 R11))))) ∧ (¬ (x1).toInt = 6 → (((x1).toInt = 7 → Φ (some (.int (I 0 10)), (xLay, I, L, (kF49_74 R)))) ∧ (¬ (x1).toInt = 7 → ((x1 < (10 : Int32) → Φ (some (.int (-1 : Int32)), (xLay, I, L, (kF49_74 R)))) ∧ (¬ x1 < (10 : Int32) → sm_wp sm_P S d 62 0 [.ref 0, .int (x1 - (10 : Int32))] [] (xLay, I, L, (kF49_74 R)) (0, 0) (fun z => ∃ (r4 : Int32) (I1 : sm_I) (L2 : sm_L) (R3 : sm_R), z = (some (.int r4), (xLay, I1, L2, (kG49_74 R3))) ∧ ((r4 = 0 → Φ (some (.int (-1 : Int32)), (xLay, I1, L2, (kG49_74 R3)))) ∧ (¬ r4 = 0 → (vp_in (x1 - (10 : Int32)) 10) ∧ Φ (some (.int (I1 59 (x1 - (10 : Int32)).toNatClampNeg)), (xLay, I1, L2, (kG49_74 R3))))))))))))))))))))))))) : sm_wp sm_P S (d + 1) 38 0 [.ref 0, .int x1] [] (xLay, I, L, (kF49_74 R)) (0, 0) Φ := sm_wp_step (⟨fun q20 => ((h).1 q20), fun q20 => ⟨fun q19 => ((((h).2 q20)).1 q19), fun q19 => ⟨fun q18 => ((((((h).2 q20)).2 q19)).1 q18), fun q18 => ⟨fun q17 => ((((((((h).2 q20)).2 q19)).2 q18)).1 q17), fun q17 => ⟨fun q16 => ((((((((((h).2 q20)).2 q19)).2 q18)).2 q17)).1 q16), fun q16 => ⟨fun q15 => ((((((((((((h).2 q20)).2 q19)).2 q18)).2 q17)).2 q16)).1 q15), fun q15 => ⟨fun q14 => sm_ciH (((((((((((((((h).2 q20)).2 q19)).2 q18)).2 q17)).2 q16)).2 q15)).1 q14)) (fun r12 I9 L10 R11 q13 => q13), fun q14 => ⟨fun q8 => ((((((((((((((((h).2 q20)).2 q19)).2 q18)).2 q17)).2 q16)).2 q15)).2 q14)).1 q8), fun q8 => ⟨fun q7 => ((((((((((((((((((h).2 q20)).2 q19)).2 q18)).2 q17)).2 q16)).2 q15)).2 q14)).2 q8)).1 q7), fun q7 => sm_ciH (((((((((((((((((((h).2 q20)).2 q19)).2 q18)).2 q17)).2 q16)).2 q15)).2 q14)).2 q8)).2 q7)) (fun r4 I1 L2 R3 q6 => ⟨fun q5 => ((q6).1 q5), fun q5 => ⟨(((q6).2 q5)).1, (((q6).2 q5)).2⟩⟩)⟩⟩⟩⟩⟩⟩⟩⟩⟩)
theorem pf49_X11_tried_0 {S : sm_C} {d : Nat} {Φ : sm_Z → Prop} {I : sm_I} {L : sm_L} {R : sm_R} {x1 : Int32} {x2 : Int32} (h : sm_wp sm_P S d 56 0 [.ref 0] [] (xLay, I, L, (kF49_74 R)) (0, 0) (fun z => ∃ (r4 : Int32) (I1 : sm_I) (L2 : sm_L) (R3 : sm_R), z = (some (.int r4), (xLay, I1, L2, (kG49_74 R3))) ∧ ((x1 < 0 → Φ (some (.int (-1 : Int32)), (xLay, I1, L2, (kG49_74 R3)))) ∧ (¬ x1 < 0 → ((x1 < (if (1000 : Int32) < (I1 74 13) then (1000 : Int32) else (I1 74 13)) → sm_wp sm_P S d 218 0 [.ref 45, .int x1, .int x2] [] (xLay, I1, L2, (kG49_74 R3)) (0, 0) (fun z => ∃ (r8 : Int32) (I5 : sm_I) (L6 : sm_L) (R7 : sm_R), z = (some (.int r8), (xLay, I5, L6, (kG49_74 R7))) ∧ Φ (some (.int r8), (xLay, I5, L6, (kG49_74 R7))))) ∧ (¬ x1 < (if (1000 : Int32) < (I1 74 13) then (1000 : Int32) else (I1 74 13)) → Φ (some (.int (-1 : Int32)), (xLay, I1, L2, (kG49_74 R3))))))))) : sm_wp sm_P S (d + 1) 88 0 [.ref 0, .int x1, .int x2] [] (xLay, I, L, (kF49_74 R)) (0, 0) Φ := sm_wp_step (sm_ciH (h) (fun r4 I1 L2 R3 q12 => ⟨fun q11 => ((q12).1 q11), fun q11 => ⟨fun q10 => sm_ciH (((((q12).2 q11)).1 q10)) (fun r8 I5 L6 R7 q9 => q9), fun q10 => ((((q12).2 q11)).2 q10)⟩⟩))
theorem pf49_X11_choice_0 {S : sm_C} {d : Nat} {Φ : sm_Z → Prop} {I : sm_I} {L : sm_L} {R : sm_R} {x1 : Int32} {x2 : Int32} (h : sm_wp sm_P S d 62 0 [.ref 0, .int x2] [] (xLay, I, L, (kF49_74 R)) (0, 0) (fun z => ∃ (r4 : Int32) (I1 : sm_I) (L2 : sm_L) (R3 : sm_R), z = (some (.int r4), (xLay, I1, L2, (kG49_74 R3))) ∧ ((r4 = 0 → Φ (some (.int (-1 : Int32)), (xLay, I1, L2, (kG49_74 R3)))) ∧ (¬ r4 = 0 → sm_wp sm_P S d 68 0 [.ref 0, .int x1] [] (xLay, I1, L2, (kG49_74 R3)) (0, 0) (fun z => ∃ (r8 : Int32) (I5 : sm_I) (L6 : sm_L) (R7 : sm_R), z = (some (.int r8), (xLay, I5, L6, (kG49_74 R7))) ∧ ((0 ≤ r8 → sm_wp sm_P S d 55 0 [.ref 0, .int x2] [] (xLay, I5, L6, (kG49_74 R7)) (0, 0) (fun z => ∃ (r12 : Int32) (I9 : sm_I) (L10 : sm_L) (R11 : sm_R), z = (some (.int r12), (xLay, I9, L10, (kG49_74 R11))) ∧ ((r12 = 0 → sm_wp sm_P S d 216 0 [.ref 45, .int x1, .int x2] [] (xLay, I9, L10, (kG49_74 R11)) (0, 0) (fun z => ∃ (r16 : Int32) (I13 : sm_I) (L14 : sm_L) (R15 : sm_R), z = (some (.int r16), (xLay, I13, L14, (kG49_74 R15))) ∧ Φ (some (.int r16), (xLay, I13, L14, (kG49_74 R15))))) ∧ (¬ r12 = 0 → Φ (some (.int (-2 : Int32)), (xLay, I9, L10, (kG49_74 R11))))))) ∧ (¬ 0 ≤ r8 → Φ (some (.int r8), (xLay, I5, L6, (kG49_74 R7)))))))))) : sm_wp sm_P S (d + 1) 36 0 [.ref 0, .int x1, .int x2] [] (xLay, I, L, (kF49_74 R)) (0, 0) Φ := sm_wp_step (sm_ciH (h) (fun r4 I1 L2 R3 q23 => ⟨fun q22 => ((q23).1 q22), fun q22 => sm_ciH (((q23).2 q22)) (fun r8 I5 L6 R7 q21 => ⟨fun q20 => sm_ciH (((q21).1 q20)) (fun r12 I9 L10 R11 q19 => ⟨fun q18 => sm_ciH (((q19).1 q18)) (fun r16 I13 L14 R15 q17 => q17), fun q18 => ((q19).2 q18)⟩), fun q20 => ((q21).2 q20)⟩)⟩))
theorem pf49_X11_goes_0 {S : sm_C} {d : Nat} {Φ : sm_Z → Prop} {I : sm_I} {L : sm_L} {R : sm_R} {x1 : Int32} {x2 : Int32} (h : ((x2 < 0 → Φ (some (.int (-1 : Int32)), (xLay, I, L, (kF49_74 R)))) ∧ (¬ x2 < 0 → ((x2 < (I 49 5) → sm_wp sm_P S d 68 0 [.ref 0, .int x1] [] (xLay, I, L, (kF49_74 R)) (0, 0) (fun z => ∃ (r4 : Int32) (I1 : sm_I) (L2 : sm_L) (R3 : sm_R), z = (some (.int r4), (xLay, I1, L2, (kG49_74 R3))) ∧ ((0 ≤ r4 → sm_wp sm_P S d 216 0 [.ref 45, .int x1, .int ((100 : Int32) + x2)] [] (xLay, I1, L2, (kG49_74 R3)) (0, 0) (fun z => ∃ (r8 : Int32) (I5 : sm_I) (L6 : sm_L) (R7 : sm_R), z = (some (.int r8), (xLay, I5, L6, (kG49_74 R7))) ∧ Φ (some (.int r8), (xLay, I5, L6, (kG49_74 R7))))) ∧ (¬ 0 ≤ r4 → Φ (some (.int r4), (xLay, I1, L2, (kG49_74 R3))))))) ∧ (¬ x2 < (I 49 5) → Φ (some (.int (-1 : Int32)), (xLay, I, L, (kF49_74 R)))))))) : sm_wp sm_P S (d + 1) 51 0 [.ref 0, .int x1, .int x2] [] (xLay, I, L, (kF49_74 R)) (0, 0) Φ := sm_wp_step (⟨fun q13 => ((h).1 q13), fun q13 => ⟨fun q12 => sm_ciH (((((h).2 q13)).1 q12)) (fun r4 I1 L2 R3 q11 => ⟨fun q10 => sm_ciH (((q11).1 q10)) (fun r8 I5 L6 R7 q9 => q9), fun q10 => ((q11).2 q10)⟩), fun q12 => ((((h).2 q13)).2 q12)⟩⟩)
theorem pf49_X11_forced_0 {S : sm_C} {d : Nat} {Φ : sm_Z → Prop} {I : sm_I} {L : sm_L} {R : sm_R} {x1 : Int32} (h : sm_wp sm_P S d 62 0 [.ref 0, .int x1] [] (xLay, I, L, (kF49_74 R)) (0, 0) (fun z => ∃ (r4 : Int32) (I1 : sm_I) (L2 : sm_L) (R3 : sm_R), z = (some (.int r4), (xLay, I1, L2, (kG49_74 R3))) ∧ ((r4 = 0 → Φ (some (.int (-1 : Int32)), (xLay, I1, L2, (kG49_74 R3)))) ∧ (¬ r4 = 0 → sm_wp sm_P S d 55 0 [.ref 0, .int x1] [] (xLay, I1, L2, (kG49_74 R3)) (0, 0) (fun z => ∃ (r8 : Int32) (I5 : sm_I) (L6 : sm_L) (R7 : sm_R), z = (some (.int r8), (xLay, I5, L6, (kG49_74 R7))) ∧ ((r8 = 0 → sm_wp sm_P S d 56 0 [.ref 0] [] (xLay, I5, L6, (kG49_74 R7)) (0, 0) (fun z => ∃ (r12 : Int32) (I9 : sm_I) (L10 : sm_L) (R11 : sm_R), z = (some (.int r12), (xLay, I9, L10, (kG49_74 R11))) ∧ ((r12 = 0 → Φ (some (.int (-3 : Int32)), (xLay, I9, L10, (kG49_74 R11)))) ∧ (¬ r12 = 0 → sm_wp sm_P S (d + 1) 45 6 [.ref 0, .int x1, .int (-2 : Int32), .int (0 : Int32)] [] (xLay, I9, L10, (kG49_74 R11)) (0, 0) Φ)))) ∧ (¬ r8 = 0 → Φ (some (.int (-1 : Int32)), (xLay, I5, L6, (kG49_74 R7)))))))))) : sm_wp sm_P S (d + 1) 45 0 [.ref 0, .int x1] [] (xLay, I, L, (kF49_74 R)) (0, 0) Φ := sm_wp_step (sm_ciH (h) (fun r4 I1 L2 R3 q18 => ⟨fun q17 => ((q18).1 q17), fun q17 => sm_ciH (((q18).2 q17)) (fun r8 I5 L6 R7 q16 => ⟨fun q15 => sm_ciH (((q16).1 q15)) (fun r12 I9 L10 R11 q14 => ⟨fun q13 => ((q14).1 q13), fun q13 => ((q14).2 q13)⟩), fun q15 => ((q16).2 q15)⟩)⟩))
theorem pf49_X11_forced_6 {S : sm_C} {d : Nat} {Φ : sm_Z → Prop} {I : sm_I} {L : sm_L} {R : sm_R} {x1 : Int32} {x2 : Int32} {x3 : Int32} (h : (((I 74 14) ≤ x3 → Φ (some (.int x2), (xLay, I, L, (kF49_74 R)))) ∧ (¬ (I 74 14) ≤ x3 → sm_wp sm_P S d 216 0 [.ref 45, .int x3, .int x1] [] (xLay, I, L, (kF49_74 R)) (0, 0) (fun z => ∃ (r4 : Int32) (I1 : sm_I) (L2 : sm_L) (R3 : sm_R), z = (some (.int r4), (xLay, I1, L2, (kG49_74 R3))) ∧ ((x3 ≤ 0 → sm_wp sm_P S (d + 1) 45 6 [.ref 0, .int x1, .int r4, .int (x3 + (1 : Int32))] [] (xLay, I1, L2, (kG49_74 R3)) (0, 0) Φ) ∧ (¬ x3 ≤ 0 → ((r4 = x2 → sm_wp sm_P S (d + 1) 45 6 [.ref 0, .int x1, .int r4, .int (x3 + (1 : Int32))] [] (xLay, I1, L2, (kG49_74 R3)) (0, 0) Φ) ∧ (¬ r4 = x2 → Φ (some (.int (-2 : Int32)), (xLay, I1, L2, (kG49_74 R3))))))))))) : sm_wp sm_P S (d + 1) 45 6 [.ref 0, .int x1, .int x2, .int x3] [] (xLay, I, L, (kF49_74 R)) (0, 0) Φ := sm_wp_step (⟨fun q8 => ((h).1 q8), fun q8 => sm_ciH (((h).2 q8)) (fun r4 I1 L2 R3 q7 => ⟨fun q6 => ((q7).1 q6), fun q6 => ⟨fun q5 => ((((q7).2 q6)).1 q5), fun q5 => ((((q7).2 q6)).2 q5)⟩⟩)⟩)
theorem pf49_X11_levelOf_0 {S : sm_C} {d : Nat} {Φ : sm_Z → Prop} {I : sm_I} {L : sm_L} {R : sm_R} {x1 : Int32} (h : ((0 ≤ x1 → sm_wp sm_P S d 56 0 [.ref 0] [] (xLay, I, L, (kF49_74 R)) (0, 0) (fun z => ∃ (r4 : Int32) (I1 : sm_I) (L2 : sm_L) (R3 : sm_R), z = (some (.int r4), (xLay, I1, L2, (kG49_74 R3))) ∧ ((r4 = 0 → Φ (some (.int (-3 : Int32)), (xLay, I1, L2, (kG49_74 R3)))) ∧ (¬ r4 = 0 → ((x1 < (I1 74 14) → sm_wp sm_P S d 222 0 [.ref 74, .ref 45, .int x1] [] (xLay, I1, L2, (kG49_74 R3)) (0, 0) (fun z => ∃ (r8 : Int32) (I5 : sm_I) (L6 : sm_L) (R7 : sm_R), z = (some (.int r8), (xLay, I5, L6, (kG49_74 R7))) ∧ Φ (some (.int (I5 74 11)), (xLay, I5, L6, (kG49_74 R7))))) ∧ (¬ x1 < (I1 74 14) → Φ (some (.int (-1 : Int32)), (xLay, I1, L2, (kG49_74 R3))))))))) ∧ (¬ 0 ≤ x1 → Φ (some (.int (-1 : Int32)), (xLay, I, L, (kF49_74 R)))))) : sm_wp sm_P S (d + 1) 68 0 [.ref 0, .int x1] [] (xLay, I, L, (kF49_74 R)) (0, 0) Φ := sm_wp_step (⟨fun q13 => sm_ciH (((h).1 q13)) (fun r4 I1 L2 R3 q12 => ⟨fun q11 => ((q12).1 q11), fun q11 => ⟨fun q10 => sm_ciH (((((q12).2 q11)).1 q10)) (fun r8 I5 L6 R7 q9 => q9), fun q10 => ((((q12).2 q11)).2 q10)⟩⟩), fun q13 => ((h).2 q13)⟩)
end
section
/-! conditions of the class: count, choice, goes, forced, with kF behind each call; told = 12 (wip/pe/symg4.py h) -/
theorem ph12_X11_count_0 {S : sm_C} {d : Nat} {Φ : sm_Z → Prop} {I : sm_I} {L : sm_L} {R : sm_R} {x1 : Int32} (h : (((x1).toInt = 0 → Φ (some (.int (I 12 0)), (xLay, I, L, (kF12_74 R)))) ∧ (¬ (x1).toInt = 0 → (((x1).toInt = 1 → Φ (some (.int (I 12 1)), (xLay, I, L, (kF12_74 R)))) ∧ (¬ (x1).toInt = 1 → (((x1).toInt = 2 → Φ (some (.int (I 12 2)), (xLay, I, L, (kF12_74 R)))) ∧ (¬ (x1).toInt = 2 → (((x1).toInt = 3 → Φ (some (.int (I 12 3)), (xLay, I, L, (kF12_74 R)))) ∧ (¬ (x1).toInt = 3 → (((x1).toInt = 4 → Φ (some (.int (I 12 4)), (xLay, I, L, (kF12_74 R)))) ∧ (¬ (x1).toInt = 4 → (((x1).toInt = 5 → Φ (some (.int (I 12 5)), (xLay, I, L, (kF12_74 R)))) ∧ (¬ (x1).toInt = 5 → (((x1).toInt = 6 → sm_wp sm_P S d 56 0 [.ref 0] [] (xLay, I, L, (kF12_74 R)) (0, 0) (fun z => ∃ (r12 : Int32) (I9 : sm_I) (L10 : sm_L) (R11 : sm_R), z = (some (.int r12), (xLay, I9, L10, (kF12_74 R11))) ∧ Φ (some (.int (I9 74 13)), (xLay, I9, L10, (kF12_74 R11))))) ∧ (¬ (x1).toInt = 6 → (((x1).toInt = 7 → Φ (some (.int (I 0 10)), (xLay, I, L, (kF12_74 R)))) ∧ (¬ (x1).toInt = 7 → ((x1 < (10 : Int32) → Φ (some (.int (-1 : Int32)), (xLay, I, L, (kF12_74 R)))) ∧ (¬ x1 < (10 : Int32) → sm_wp sm_P S d 62 0 [.ref 0, .int (x1 - (10 : Int32))] [] (xLay, I, L, (kF12_74 R)) (0, 0) (fun z => ∃ (r4 : Int32) (I1 : sm_I) (L2 : sm_L) (R3 : sm_R), z = (some (.int r4), (xLay, I1, L2, (kF12_74 R3))) ∧ ((r4 = 0 → Φ (some (.int (-1 : Int32)), (xLay, I1, L2, (kF12_74 R3)))) ∧ (¬ r4 = 0 → (vp_in (x1 - (10 : Int32)) 10) ∧ Φ (some (.int (I1 22 (x1 - (10 : Int32)).toNatClampNeg)), (xLay, I1, L2, (kF12_74 R3))))))))))))))))))))))))) : sm_wp sm_P S (d + 1) 38 0 [.ref 0, .int x1] [] (xLay, I, L, (kF12_74 R)) (0, 0) Φ := sm_wp_step (⟨fun q20 => ((h).1 q20), fun q20 => ⟨fun q19 => ((((h).2 q20)).1 q19), fun q19 => ⟨fun q18 => ((((((h).2 q20)).2 q19)).1 q18), fun q18 => ⟨fun q17 => ((((((((h).2 q20)).2 q19)).2 q18)).1 q17), fun q17 => ⟨fun q16 => ((((((((((h).2 q20)).2 q19)).2 q18)).2 q17)).1 q16), fun q16 => ⟨fun q15 => ((((((((((((h).2 q20)).2 q19)).2 q18)).2 q17)).2 q16)).1 q15), fun q15 => ⟨fun q14 => sm_ciH (((((((((((((((h).2 q20)).2 q19)).2 q18)).2 q17)).2 q16)).2 q15)).1 q14)) (fun r12 I9 L10 R11 q13 => q13), fun q14 => ⟨fun q8 => ((((((((((((((((h).2 q20)).2 q19)).2 q18)).2 q17)).2 q16)).2 q15)).2 q14)).1 q8), fun q8 => ⟨fun q7 => ((((((((((((((((((h).2 q20)).2 q19)).2 q18)).2 q17)).2 q16)).2 q15)).2 q14)).2 q8)).1 q7), fun q7 => sm_ciH (((((((((((((((((((h).2 q20)).2 q19)).2 q18)).2 q17)).2 q16)).2 q15)).2 q14)).2 q8)).2 q7)) (fun r4 I1 L2 R3 q6 => ⟨fun q5 => ((q6).1 q5), fun q5 => ⟨(((q6).2 q5)).1, (((q6).2 q5)).2⟩⟩)⟩⟩⟩⟩⟩⟩⟩⟩⟩)
theorem ph12_X11_choice_0 {S : sm_C} {d : Nat} {Φ : sm_Z → Prop} {I : sm_I} {L : sm_L} {R : sm_R} {x1 : Int32} {x2 : Int32} (h : sm_wp sm_P S d 62 0 [.ref 0, .int x2] [] (xLay, I, L, (kF12_74 R)) (0, 0) (fun z => ∃ (r4 : Int32) (I1 : sm_I) (L2 : sm_L) (R3 : sm_R), z = (some (.int r4), (xLay, I1, L2, (kF12_74 R3))) ∧ ((r4 = 0 → Φ (some (.int (-1 : Int32)), (xLay, I1, L2, (kF12_74 R3)))) ∧ (¬ r4 = 0 → sm_wp sm_P S d 68 0 [.ref 0, .int x1] [] (xLay, I1, L2, (kF12_74 R3)) (0, 0) (fun z => ∃ (r8 : Int32) (I5 : sm_I) (L6 : sm_L) (R7 : sm_R), z = (some (.int r8), (xLay, I5, L6, (kF12_74 R7))) ∧ ((0 ≤ r8 → sm_wp sm_P S d 55 0 [.ref 0, .int x2] [] (xLay, I5, L6, (kF12_74 R7)) (0, 0) (fun z => ∃ (r12 : Int32) (I9 : sm_I) (L10 : sm_L) (R11 : sm_R), z = (some (.int r12), (xLay, I9, L10, (kF12_74 R11))) ∧ ((r12 = 0 → sm_wp sm_P S d 216 0 [.ref 45, .int x1, .int x2] [] (xLay, I9, L10, (kF12_74 R11)) (0, 0) (fun z => ∃ (r16 : Int32) (I13 : sm_I) (L14 : sm_L) (R15 : sm_R), z = (some (.int r16), (xLay, I13, L14, (kF12_74 R15))) ∧ Φ (some (.int r16), (xLay, I13, L14, (kF12_74 R15))))) ∧ (¬ r12 = 0 → Φ (some (.int (-2 : Int32)), (xLay, I9, L10, (kF12_74 R11))))))) ∧ (¬ 0 ≤ r8 → Φ (some (.int r8), (xLay, I5, L6, (kF12_74 R7)))))))))) : sm_wp sm_P S (d + 1) 36 0 [.ref 0, .int x1, .int x2] [] (xLay, I, L, (kF12_74 R)) (0, 0) Φ := sm_wp_step (sm_ciH (h) (fun r4 I1 L2 R3 q23 => ⟨fun q22 => ((q23).1 q22), fun q22 => sm_ciH (((q23).2 q22)) (fun r8 I5 L6 R7 q21 => ⟨fun q20 => sm_ciH (((q21).1 q20)) (fun r12 I9 L10 R11 q19 => ⟨fun q18 => sm_ciH (((q19).1 q18)) (fun r16 I13 L14 R15 q17 => q17), fun q18 => ((q19).2 q18)⟩), fun q20 => ((q21).2 q20)⟩)⟩))
theorem ph12_X11_goes_0 {S : sm_C} {d : Nat} {Φ : sm_Z → Prop} {I : sm_I} {L : sm_L} {R : sm_R} {x1 : Int32} {x2 : Int32} (h : ((x2 < 0 → Φ (some (.int (-1 : Int32)), (xLay, I, L, (kF12_74 R)))) ∧ (¬ x2 < 0 → ((x2 < (I 12 5) → sm_wp sm_P S d 68 0 [.ref 0, .int x1] [] (xLay, I, L, (kF12_74 R)) (0, 0) (fun z => ∃ (r4 : Int32) (I1 : sm_I) (L2 : sm_L) (R3 : sm_R), z = (some (.int r4), (xLay, I1, L2, (kF12_74 R3))) ∧ ((0 ≤ r4 → sm_wp sm_P S d 216 0 [.ref 45, .int x1, .int ((100 : Int32) + x2)] [] (xLay, I1, L2, (kF12_74 R3)) (0, 0) (fun z => ∃ (r8 : Int32) (I5 : sm_I) (L6 : sm_L) (R7 : sm_R), z = (some (.int r8), (xLay, I5, L6, (kF12_74 R7))) ∧ Φ (some (.int r8), (xLay, I5, L6, (kF12_74 R7))))) ∧ (¬ 0 ≤ r4 → Φ (some (.int r4), (xLay, I1, L2, (kF12_74 R3))))))) ∧ (¬ x2 < (I 12 5) → Φ (some (.int (-1 : Int32)), (xLay, I, L, (kF12_74 R)))))))) : sm_wp sm_P S (d + 1) 51 0 [.ref 0, .int x1, .int x2] [] (xLay, I, L, (kF12_74 R)) (0, 0) Φ := sm_wp_step (⟨fun q13 => ((h).1 q13), fun q13 => ⟨fun q12 => sm_ciH (((((h).2 q13)).1 q12)) (fun r4 I1 L2 R3 q11 => ⟨fun q10 => sm_ciH (((q11).1 q10)) (fun r8 I5 L6 R7 q9 => q9), fun q10 => ((q11).2 q10)⟩), fun q12 => ((((h).2 q13)).2 q12)⟩⟩)
theorem ph12_X11_forced_0 {S : sm_C} {d : Nat} {Φ : sm_Z → Prop} {I : sm_I} {L : sm_L} {R : sm_R} {x1 : Int32} (h : sm_wp sm_P S d 62 0 [.ref 0, .int x1] [] (xLay, I, L, (kF12_74 R)) (0, 0) (fun z => ∃ (r4 : Int32) (I1 : sm_I) (L2 : sm_L) (R3 : sm_R), z = (some (.int r4), (xLay, I1, L2, (kF12_74 R3))) ∧ ((r4 = 0 → Φ (some (.int (-1 : Int32)), (xLay, I1, L2, (kF12_74 R3)))) ∧ (¬ r4 = 0 → sm_wp sm_P S d 55 0 [.ref 0, .int x1] [] (xLay, I1, L2, (kF12_74 R3)) (0, 0) (fun z => ∃ (r8 : Int32) (I5 : sm_I) (L6 : sm_L) (R7 : sm_R), z = (some (.int r8), (xLay, I5, L6, (kF12_74 R7))) ∧ ((r8 = 0 → sm_wp sm_P S d 56 0 [.ref 0] [] (xLay, I5, L6, (kF12_74 R7)) (0, 0) (fun z => ∃ (r12 : Int32) (I9 : sm_I) (L10 : sm_L) (R11 : sm_R), z = (some (.int r12), (xLay, I9, L10, (kF12_74 R11))) ∧ ((r12 = 0 → Φ (some (.int (-3 : Int32)), (xLay, I9, L10, (kF12_74 R11)))) ∧ (¬ r12 = 0 → sm_wp sm_P S (d + 1) 45 6 [.ref 0, .int x1, .int (-2 : Int32), .int (0 : Int32)] [] (xLay, I9, L10, (kF12_74 R11)) (0, 0) Φ)))) ∧ (¬ r8 = 0 → Φ (some (.int (-1 : Int32)), (xLay, I5, L6, (kF12_74 R7)))))))))) : sm_wp sm_P S (d + 1) 45 0 [.ref 0, .int x1] [] (xLay, I, L, (kF12_74 R)) (0, 0) Φ := sm_wp_step (sm_ciH (h) (fun r4 I1 L2 R3 q18 => ⟨fun q17 => ((q18).1 q17), fun q17 => sm_ciH (((q18).2 q17)) (fun r8 I5 L6 R7 q16 => ⟨fun q15 => sm_ciH (((q16).1 q15)) (fun r12 I9 L10 R11 q14 => ⟨fun q13 => ((q14).1 q13), fun q13 => ((q14).2 q13)⟩), fun q15 => ((q16).2 q15)⟩)⟩))
theorem ph12_X11_forced_6 {S : sm_C} {d : Nat} {Φ : sm_Z → Prop} {I : sm_I} {L : sm_L} {R : sm_R} {x1 : Int32} {x2 : Int32} {x3 : Int32} (h : (((I 74 14) ≤ x3 → Φ (some (.int x2), (xLay, I, L, (kF12_74 R)))) ∧ (¬ (I 74 14) ≤ x3 → sm_wp sm_P S d 216 0 [.ref 45, .int x3, .int x1] [] (xLay, I, L, (kF12_74 R)) (0, 0) (fun z => ∃ (r4 : Int32) (I1 : sm_I) (L2 : sm_L) (R3 : sm_R), z = (some (.int r4), (xLay, I1, L2, (kF12_74 R3))) ∧ ((x3 ≤ 0 → sm_wp sm_P S (d + 1) 45 6 [.ref 0, .int x1, .int r4, .int (x3 + (1 : Int32))] [] (xLay, I1, L2, (kF12_74 R3)) (0, 0) Φ) ∧ (¬ x3 ≤ 0 → ((r4 = x2 → sm_wp sm_P S (d + 1) 45 6 [.ref 0, .int x1, .int r4, .int (x3 + (1 : Int32))] [] (xLay, I1, L2, (kF12_74 R3)) (0, 0) Φ) ∧ (¬ r4 = x2 → Φ (some (.int (-2 : Int32)), (xLay, I1, L2, (kF12_74 R3))))))))))) : sm_wp sm_P S (d + 1) 45 6 [.ref 0, .int x1, .int x2, .int x3] [] (xLay, I, L, (kF12_74 R)) (0, 0) Φ := sm_wp_step (⟨fun q8 => ((h).1 q8), fun q8 => sm_ciH (((h).2 q8)) (fun r4 I1 L2 R3 q7 => ⟨fun q6 => ((q7).1 q6), fun q6 => ⟨fun q5 => ((((q7).2 q6)).1 q5), fun q5 => ((((q7).2 q6)).2 q5)⟩⟩)⟩)
end
section
/-! conditions of the class: count, choice, goes, forced, with kF behind each call; told = 49 (wip/pe/symg4.py h) -/
theorem ph49_X11_count_0 {S : sm_C} {d : Nat} {Φ : sm_Z → Prop} {I : sm_I} {L : sm_L} {R : sm_R} {x1 : Int32} (h : (((x1).toInt = 0 → Φ (some (.int (I 49 0)), (xLay, I, L, (kF49_74 R)))) ∧ (¬ (x1).toInt = 0 → (((x1).toInt = 1 → Φ (some (.int (I 49 1)), (xLay, I, L, (kF49_74 R)))) ∧ (¬ (x1).toInt = 1 → (((x1).toInt = 2 → Φ (some (.int (I 49 2)), (xLay, I, L, (kF49_74 R)))) ∧ (¬ (x1).toInt = 2 → (((x1).toInt = 3 → Φ (some (.int (I 49 3)), (xLay, I, L, (kF49_74 R)))) ∧ (¬ (x1).toInt = 3 → (((x1).toInt = 4 → Φ (some (.int (I 49 4)), (xLay, I, L, (kF49_74 R)))) ∧ (¬ (x1).toInt = 4 → (((x1).toInt = 5 → Φ (some (.int (I 49 5)), (xLay, I, L, (kF49_74 R)))) ∧ (¬ (x1).toInt = 5 → (((x1).toInt = 6 → sm_wp sm_P S d 56 0 [.ref 0] [] (xLay, I, L, (kF49_74 R)) (0, 0) (fun z => ∃ (r12 : Int32) (I9 : sm_I) (L10 : sm_L) (R11 : sm_R), z = (some (.int r12), (xLay, I9, L10, (kF49_74 R11))) ∧ Φ (some (.int (I9 74 13)), (xLay, I9, L10, (kF49_74 R11))))) ∧ (¬ (x1).toInt = 6 → (((x1).toInt = 7 → Φ (some (.int (I 0 10)), (xLay, I, L, (kF49_74 R)))) ∧ (¬ (x1).toInt = 7 → ((x1 < (10 : Int32) → Φ (some (.int (-1 : Int32)), (xLay, I, L, (kF49_74 R)))) ∧ (¬ x1 < (10 : Int32) → sm_wp sm_P S d 62 0 [.ref 0, .int (x1 - (10 : Int32))] [] (xLay, I, L, (kF49_74 R)) (0, 0) (fun z => ∃ (r4 : Int32) (I1 : sm_I) (L2 : sm_L) (R3 : sm_R), z = (some (.int r4), (xLay, I1, L2, (kF49_74 R3))) ∧ ((r4 = 0 → Φ (some (.int (-1 : Int32)), (xLay, I1, L2, (kF49_74 R3)))) ∧ (¬ r4 = 0 → (vp_in (x1 - (10 : Int32)) 10) ∧ Φ (some (.int (I1 59 (x1 - (10 : Int32)).toNatClampNeg)), (xLay, I1, L2, (kF49_74 R3))))))))))))))))))))))))) : sm_wp sm_P S (d + 1) 38 0 [.ref 0, .int x1] [] (xLay, I, L, (kF49_74 R)) (0, 0) Φ := sm_wp_step (⟨fun q20 => ((h).1 q20), fun q20 => ⟨fun q19 => ((((h).2 q20)).1 q19), fun q19 => ⟨fun q18 => ((((((h).2 q20)).2 q19)).1 q18), fun q18 => ⟨fun q17 => ((((((((h).2 q20)).2 q19)).2 q18)).1 q17), fun q17 => ⟨fun q16 => ((((((((((h).2 q20)).2 q19)).2 q18)).2 q17)).1 q16), fun q16 => ⟨fun q15 => ((((((((((((h).2 q20)).2 q19)).2 q18)).2 q17)).2 q16)).1 q15), fun q15 => ⟨fun q14 => sm_ciH (((((((((((((((h).2 q20)).2 q19)).2 q18)).2 q17)).2 q16)).2 q15)).1 q14)) (fun r12 I9 L10 R11 q13 => q13), fun q14 => ⟨fun q8 => ((((((((((((((((h).2 q20)).2 q19)).2 q18)).2 q17)).2 q16)).2 q15)).2 q14)).1 q8), fun q8 => ⟨fun q7 => ((((((((((((((((((h).2 q20)).2 q19)).2 q18)).2 q17)).2 q16)).2 q15)).2 q14)).2 q8)).1 q7), fun q7 => sm_ciH (((((((((((((((((((h).2 q20)).2 q19)).2 q18)).2 q17)).2 q16)).2 q15)).2 q14)).2 q8)).2 q7)) (fun r4 I1 L2 R3 q6 => ⟨fun q5 => ((q6).1 q5), fun q5 => ⟨(((q6).2 q5)).1, (((q6).2 q5)).2⟩⟩)⟩⟩⟩⟩⟩⟩⟩⟩⟩)
theorem ph49_X11_choice_0 {S : sm_C} {d : Nat} {Φ : sm_Z → Prop} {I : sm_I} {L : sm_L} {R : sm_R} {x1 : Int32} {x2 : Int32} (h : sm_wp sm_P S d 62 0 [.ref 0, .int x2] [] (xLay, I, L, (kF49_74 R)) (0, 0) (fun z => ∃ (r4 : Int32) (I1 : sm_I) (L2 : sm_L) (R3 : sm_R), z = (some (.int r4), (xLay, I1, L2, (kF49_74 R3))) ∧ ((r4 = 0 → Φ (some (.int (-1 : Int32)), (xLay, I1, L2, (kF49_74 R3)))) ∧ (¬ r4 = 0 → sm_wp sm_P S d 68 0 [.ref 0, .int x1] [] (xLay, I1, L2, (kF49_74 R3)) (0, 0) (fun z => ∃ (r8 : Int32) (I5 : sm_I) (L6 : sm_L) (R7 : sm_R), z = (some (.int r8), (xLay, I5, L6, (kF49_74 R7))) ∧ ((0 ≤ r8 → sm_wp sm_P S d 55 0 [.ref 0, .int x2] [] (xLay, I5, L6, (kF49_74 R7)) (0, 0) (fun z => ∃ (r12 : Int32) (I9 : sm_I) (L10 : sm_L) (R11 : sm_R), z = (some (.int r12), (xLay, I9, L10, (kF49_74 R11))) ∧ ((r12 = 0 → sm_wp sm_P S d 216 0 [.ref 45, .int x1, .int x2] [] (xLay, I9, L10, (kF49_74 R11)) (0, 0) (fun z => ∃ (r16 : Int32) (I13 : sm_I) (L14 : sm_L) (R15 : sm_R), z = (some (.int r16), (xLay, I13, L14, (kF49_74 R15))) ∧ Φ (some (.int r16), (xLay, I13, L14, (kF49_74 R15))))) ∧ (¬ r12 = 0 → Φ (some (.int (-2 : Int32)), (xLay, I9, L10, (kF49_74 R11))))))) ∧ (¬ 0 ≤ r8 → Φ (some (.int r8), (xLay, I5, L6, (kF49_74 R7)))))))))) : sm_wp sm_P S (d + 1) 36 0 [.ref 0, .int x1, .int x2] [] (xLay, I, L, (kF49_74 R)) (0, 0) Φ := sm_wp_step (sm_ciH (h) (fun r4 I1 L2 R3 q23 => ⟨fun q22 => ((q23).1 q22), fun q22 => sm_ciH (((q23).2 q22)) (fun r8 I5 L6 R7 q21 => ⟨fun q20 => sm_ciH (((q21).1 q20)) (fun r12 I9 L10 R11 q19 => ⟨fun q18 => sm_ciH (((q19).1 q18)) (fun r16 I13 L14 R15 q17 => q17), fun q18 => ((q19).2 q18)⟩), fun q20 => ((q21).2 q20)⟩)⟩))
theorem ph49_X11_goes_0 {S : sm_C} {d : Nat} {Φ : sm_Z → Prop} {I : sm_I} {L : sm_L} {R : sm_R} {x1 : Int32} {x2 : Int32} (h : ((x2 < 0 → Φ (some (.int (-1 : Int32)), (xLay, I, L, (kF49_74 R)))) ∧ (¬ x2 < 0 → ((x2 < (I 49 5) → sm_wp sm_P S d 68 0 [.ref 0, .int x1] [] (xLay, I, L, (kF49_74 R)) (0, 0) (fun z => ∃ (r4 : Int32) (I1 : sm_I) (L2 : sm_L) (R3 : sm_R), z = (some (.int r4), (xLay, I1, L2, (kF49_74 R3))) ∧ ((0 ≤ r4 → sm_wp sm_P S d 216 0 [.ref 45, .int x1, .int ((100 : Int32) + x2)] [] (xLay, I1, L2, (kF49_74 R3)) (0, 0) (fun z => ∃ (r8 : Int32) (I5 : sm_I) (L6 : sm_L) (R7 : sm_R), z = (some (.int r8), (xLay, I5, L6, (kF49_74 R7))) ∧ Φ (some (.int r8), (xLay, I5, L6, (kF49_74 R7))))) ∧ (¬ 0 ≤ r4 → Φ (some (.int r4), (xLay, I1, L2, (kF49_74 R3))))))) ∧ (¬ x2 < (I 49 5) → Φ (some (.int (-1 : Int32)), (xLay, I, L, (kF49_74 R)))))))) : sm_wp sm_P S (d + 1) 51 0 [.ref 0, .int x1, .int x2] [] (xLay, I, L, (kF49_74 R)) (0, 0) Φ := sm_wp_step (⟨fun q13 => ((h).1 q13), fun q13 => ⟨fun q12 => sm_ciH (((((h).2 q13)).1 q12)) (fun r4 I1 L2 R3 q11 => ⟨fun q10 => sm_ciH (((q11).1 q10)) (fun r8 I5 L6 R7 q9 => q9), fun q10 => ((q11).2 q10)⟩), fun q12 => ((((h).2 q13)).2 q12)⟩⟩)
theorem ph49_X11_forced_0 {S : sm_C} {d : Nat} {Φ : sm_Z → Prop} {I : sm_I} {L : sm_L} {R : sm_R} {x1 : Int32} (h : sm_wp sm_P S d 62 0 [.ref 0, .int x1] [] (xLay, I, L, (kF49_74 R)) (0, 0) (fun z => ∃ (r4 : Int32) (I1 : sm_I) (L2 : sm_L) (R3 : sm_R), z = (some (.int r4), (xLay, I1, L2, (kF49_74 R3))) ∧ ((r4 = 0 → Φ (some (.int (-1 : Int32)), (xLay, I1, L2, (kF49_74 R3)))) ∧ (¬ r4 = 0 → sm_wp sm_P S d 55 0 [.ref 0, .int x1] [] (xLay, I1, L2, (kF49_74 R3)) (0, 0) (fun z => ∃ (r8 : Int32) (I5 : sm_I) (L6 : sm_L) (R7 : sm_R), z = (some (.int r8), (xLay, I5, L6, (kF49_74 R7))) ∧ ((r8 = 0 → sm_wp sm_P S d 56 0 [.ref 0] [] (xLay, I5, L6, (kF49_74 R7)) (0, 0) (fun z => ∃ (r12 : Int32) (I9 : sm_I) (L10 : sm_L) (R11 : sm_R), z = (some (.int r12), (xLay, I9, L10, (kF49_74 R11))) ∧ ((r12 = 0 → Φ (some (.int (-3 : Int32)), (xLay, I9, L10, (kF49_74 R11)))) ∧ (¬ r12 = 0 → sm_wp sm_P S (d + 1) 45 6 [.ref 0, .int x1, .int (-2 : Int32), .int (0 : Int32)] [] (xLay, I9, L10, (kF49_74 R11)) (0, 0) Φ)))) ∧ (¬ r8 = 0 → Φ (some (.int (-1 : Int32)), (xLay, I5, L6, (kF49_74 R7)))))))))) : sm_wp sm_P S (d + 1) 45 0 [.ref 0, .int x1] [] (xLay, I, L, (kF49_74 R)) (0, 0) Φ := sm_wp_step (sm_ciH (h) (fun r4 I1 L2 R3 q18 => ⟨fun q17 => ((q18).1 q17), fun q17 => sm_ciH (((q18).2 q17)) (fun r8 I5 L6 R7 q16 => ⟨fun q15 => sm_ciH (((q16).1 q15)) (fun r12 I9 L10 R11 q14 => ⟨fun q13 => ((q14).1 q13), fun q13 => ((q14).2 q13)⟩), fun q15 => ((q16).2 q15)⟩)⟩))
theorem ph49_X11_forced_6 {S : sm_C} {d : Nat} {Φ : sm_Z → Prop} {I : sm_I} {L : sm_L} {R : sm_R} {x1 : Int32} {x2 : Int32} {x3 : Int32} (h : (((I 74 14) ≤ x3 → Φ (some (.int x2), (xLay, I, L, (kF49_74 R)))) ∧ (¬ (I 74 14) ≤ x3 → sm_wp sm_P S d 216 0 [.ref 45, .int x3, .int x1] [] (xLay, I, L, (kF49_74 R)) (0, 0) (fun z => ∃ (r4 : Int32) (I1 : sm_I) (L2 : sm_L) (R3 : sm_R), z = (some (.int r4), (xLay, I1, L2, (kF49_74 R3))) ∧ ((x3 ≤ 0 → sm_wp sm_P S (d + 1) 45 6 [.ref 0, .int x1, .int r4, .int (x3 + (1 : Int32))] [] (xLay, I1, L2, (kF49_74 R3)) (0, 0) Φ) ∧ (¬ x3 ≤ 0 → ((r4 = x2 → sm_wp sm_P S (d + 1) 45 6 [.ref 0, .int x1, .int r4, .int (x3 + (1 : Int32))] [] (xLay, I1, L2, (kF49_74 R3)) (0, 0) Φ) ∧ (¬ r4 = x2 → Φ (some (.int (-2 : Int32)), (xLay, I1, L2, (kF49_74 R3))))))))))) : sm_wp sm_P S (d + 1) 45 6 [.ref 0, .int x1, .int x2, .int x3] [] (xLay, I, L, (kF49_74 R)) (0, 0) Φ := sm_wp_step (⟨fun q8 => ((h).1 q8), fun q8 => sm_ciH (((h).2 q8)) (fun r4 I1 L2 R3 q7 => ⟨fun q6 => ((q7).1 q6), fun q6 => ⟨fun q5 => ((((q7).2 q6)).1 q5), fun q5 => ((((q7).2 q6)).2 q5)⟩⟩)⟩)
end
section
/-! THE LAW: pairs out of what was gone through: ways (wip/pe/mkp1.py) -/
def XG (qt : Nat) (I : sm_I) (R : sm_R) (J : sm_I) (L' : sm_L) (R' : sm_R) : Prop := R' 0 9 = R 0 9 ∧ R' 2 6 = R 2 6 ∧ (∀ p j, lkC p j → J p j = I p j) ∧ kall qt (kys qt I) (KF qt I) J L'
theorem ig12_J {S : sm_C} {d : Nat} {I : sm_I} {L : sm_L} {R : sm_R} {Φ : sm_Z → Prop} (hI : lw_J I L R) (hq : R 0 9 = some 12) (h : ∀ (J : sm_I) (L' : sm_L), XG 12 I R J L' (kG12_74 R) → Φ (some (.int (if (KF 12 I).2.2.2.2.1 = true then 0 else 1)), (xLay, J, L', kG12_74 R))) : sm_wp sm_P S (d + 6) 56 0 [.ref 0] [] (xLay, I, L, kF12_74 R) (0, 0) Φ := by
  have m := hI.1.1
  obtain ⟨q, hq', g1, g2, g3⟩ := hI.2.1
  have e : q = 12 := Option.some.inj (g1.symm.trans hq)
  subst e
  rw [kF12_74_eq (w := (xLay, I, L, R)) m g1]
  refine ig_12_74 m g1 g2 g3 (fun J L' R' a1 a2 a3 a4 a5 a6 a7 => ?_)
  have c26 : kG12_74 R 2 6 = R 2 6 := rfl
  have c09 : kG12_74 R 0 9 = some 12 := rfl
  rcases a7 with ⟨b1, b2, b3, b4⟩ | ⟨b1, b2, b3, b4, b5, b6⟩
  · subst b2
    subst b3
    subst b4
    have eG : kG12_74 R' = R' := kG12_74_eq (w := (xLay, J, L', R')) m g1 a3
    have k := h J L' ⟨c09.trans hq.symm, c26, fun _ _ _ => rfl, a4⟩
    rw [eG] at k
    exact k
  · rw [b5]
    refine h J L' ⟨c09.trans hq.symm, c26, fun p j q => b2 p j ?_ ?_ ?_ ?_ ?_, ?_⟩
    · unfold lkC at q; omega
    · unfold lkC at q; omega
    · unfold lkC at q; omega
    · unfold lkC at q; omega
    · unfold lkC at q; omega
    · rw [a5, a6] at a4; exact a4
theorem ig49_J {S : sm_C} {d : Nat} {I : sm_I} {L : sm_L} {R : sm_R} {Φ : sm_Z → Prop} (hI : lw_J I L R) (hq : R 0 9 = some 49) (h : ∀ (J : sm_I) (L' : sm_L), XG 49 I R J L' (kG49_74 R) → Φ (some (.int (if (KF 49 I).2.2.2.2.1 = true then 0 else 1)), (xLay, J, L', kG49_74 R))) : sm_wp sm_P S (d + 6) 56 0 [.ref 0] [] (xLay, I, L, kF49_74 R) (0, 0) Φ := by
  have m := hI.1.1
  obtain ⟨q, hq', g1, g2, g3⟩ := hI.2.1
  have e : q = 49 := Option.some.inj (g1.symm.trans hq)
  subst e
  rw [kF49_74_eq (w := (xLay, I, L, R)) m g1]
  refine ig_49_74 m g1 g2 g3 (fun J L' R' a1 a2 a3 a4 a5 a6 a7 => ?_)
  have c26 : kG49_74 R 2 6 = R 2 6 := rfl
  have c09 : kG49_74 R 0 9 = some 49 := rfl
  rcases a7 with ⟨b1, b2, b3, b4⟩ | ⟨b1, b2, b3, b4, b5, b6⟩
  · subst b2
    subst b3
    subst b4
    have eG : kG49_74 R' = R' := kG49_74_eq (w := (xLay, J, L', R')) m g1 a3
    have k := h J L' ⟨c09.trans hq.symm, c26, fun _ _ _ => rfl, a4⟩
    rw [eG] at k
    exact k
  · rw [b5]
    refine h J L' ⟨c09.trans hq.symm, c26, fun p j q => b2 p j ?_ ?_ ?_ ?_ ?_, ?_⟩
    · unfold lkC at q; omega
    · unfold lkC at q; omega
    · unfold lkC at q; omega
    · unfold lkC at q; omega
    · unfold lkC at q; omega
    · rw [a5, a6] at a4; exact a4
section
variable {S : sm_C} {I : sm_I} {L : sm_L} {R : sm_R} {r : Int32}
/-- the reference's going through, behind the class's -/
theorem rx_J {X : sm_I → sm_L → sm_R → Int32 → sm_I → sm_L → sm_R → Prop} {d : Nat} {Φ : sm_Z → Prop} {I0 : sm_I} {L0 : sm_L} {R0 : sm_R} (hJ : lw_J I0 L0 R0) (mk : en_mem kl_tb2 klY (xLay, I, L, R)) (o : ∀ p j, 107 ≤ p → I p j = I0 p j ∧ R p j = R0 p j) {qt qi l : Nat} (hrf : rfE qt qi l I0 R0) (h : ∀ J, gofr I J → gor (rxs I l) (KF qt I0) J → Φ (none, (xLay, J, L, R))) : sm_wp sm_P S (d + 6) 135 0 [.ref 107] [] (xLay, I, L, R) (0, 0) Φ := by
  have mm : en_mem ml_tb mlX (xLay, I, L, R) := lw_mk (lw_pk (ky_dn mk)) hJ.1.2.1 o
  have e : kM R = R := ml_R mm
  obtain ⟨l', w, go⟩ : GM I := GM_cg (fun p j q => (o p j (by omega)).1) hJ.2.2.1
  have hl := hrf.2.2.2.2
  have e18 : I 107 18 = I0 107 18 := (o 107 18 (by omega)).1
  have hl' := w.1.1
  rw [e18] at hl'
  have el : l' = l := by omega
  subst el
  have b69 : 0 ≤ (I 107 69).toInt ∧ (I 107 69).toInt ≤ 1441 := mm.2.1 107 69 (0, 1441) (by decide +kernel)
  have eF : RF I l' = KF qt I0 := by
    rw [RF_at hJ.1 hrf]
    exact RF_cg (I := I0) (by rw [← (o 125 l' (by omega)).1]; exact w.2.2.2.2.2.2.1) (by rw [← (o 107 46 (by omega)).1]; exact w.2.2.2.2.2.2.2.1) (fun p j q => (o p j (by omega)).1)
  have g := rx_goes (S := S) (d := d) (L := L) (R := R) (Φ := Φ) w b69.1 (by omega) (fun n => go.resolve_left n) (fun J f _ _ k => by rw [e]; rw [eF] at k; exact h J f k)
  rw [e] at g
  exact g
/-- what stays the same then -/
theorem LJ_g {I0 : sm_I} {R0 : sm_R} {L0 : sm_L} (hJ : lw_J I0 L0 R0) (o : ∀ p j, 107 ≤ p → I p j = I0 p j ∧ R p j = R0 p j) {qt : Nat} {L1 : sm_L} (x : XG qt I0 R0 I L1 R) {I2 : sm_I} {R2 : sm_R} (g : ∀ p j, lkM p j → I2 p j = I p j) (f : ∀ p j, p < 107 → I2 p j = I p j ∧ R2 p j = R p j) : LJ I2 R2 := by
  obtain ⟨x1, x2, x3, -⟩ := x
  refine LJ_cg (I := I0) (R := R0) (fun p j q => ?_) ((f 0 9 (by omega)).2.trans x1) ((f 2 6 (by omega)).2.trans x2) hJ.1.2.2
  rcases q with q | q
  · rw [(f p j (by unfold lkC at q; omega)).1]; exact x3 p j q
  · rw [g p j q]; exact (o p j (by unfold lkM at q; omega)).1
theorem gofr_lk {J : sm_I} (h : gofr I J) : ∀ p j, lkM p j → J p j = I p j := fun p j q => h p j (by unfold lkM at q; omega)
def XwaysK (I : sm_I) (_ : sm_L) (R : sm_R) (r : Int32) (I1 : sm_I) (L1 : sm_L) (R1 : sm_R) : Prop := ∃ qt, R 0 9 = some qt ∧ XG qt I R I1 L1 R1 ∧ ((KF qt I).2.2.2.2.1 = true → r = -3) ∧ ((KF qt I).2.2.2.2.1 = false → r.toInt = (KF qt I).2.2.2.1)
theorem bk_ways (hI : lw_J I L R) : sm_wp sm_P S (58 + 1) 91 0 [.ref 0] [] (xLay, I, L, R) (0, 0) (fun z => ∃ (r : Int32) (I2 : sm_I) (L2 : sm_L) (R2 : sm_R), z = (some (.int r), (xLay, I2, L2, R2)) ∧ XwaysK I L R r I2 L2 R2) := by
  have m := hI.1.1
  obtain ⟨qt, hq, g1, -⟩ := hI.2.1
  rcases hq with e | e <;> subst e
  · have g := pf12_X11_ways_0 (S := S) (d := 52 + 6) (I := I) (L := L) (R := R) (Φ := fun z => ∃ (r : Int32) (I2 : sm_I) (L2 : sm_L) (R2 : sm_R), z = (some (.int r), (xLay, I2, L2, R2)) ∧ XwaysK I L R r I2 L2 R2) (ig12_J hI g1 (fun J L' x => ⟨_, J, L', R, rfl, fun c => ⟨_, J, L', _, rfl, 12, g1, x, fun _ => rfl, fun u => ?_⟩, fun c => ⟨_, J, L', _, rfl, 12, g1, x, fun u => ?_, fun u => x.2.2.2.2.1.2.1⟩⟩))
    · rw [kF12_74_eq (w := (xLay, I, L, R)) m g1] at g
      exact g
    · rw [u] at c; exact absurd c (by decide)
    · rw [if_pos u] at c; exact absurd rfl c
  · have g := pf49_X11_ways_0 (S := S) (d := 52 + 6) (I := I) (L := L) (R := R) (Φ := fun z => ∃ (r : Int32) (I2 : sm_I) (L2 : sm_L) (R2 : sm_R), z = (some (.int r), (xLay, I2, L2, R2)) ∧ XwaysK I L R r I2 L2 R2) (ig49_J hI g1 (fun J L' x => ⟨_, J, L', R, rfl, fun c => ⟨_, J, L', _, rfl, 49, g1, x, fun _ => rfl, fun u => ?_⟩, fun c => ⟨_, J, L', _, rfl, 49, g1, x, fun u => ?_, fun u => x.2.2.2.2.1.2.1⟩⟩))
    · rw [kF49_74_eq (w := (xLay, I, L, R)) m g1] at g
      exact g
    · rw [u] at c; exact absurd c (by decide)
    · rw [if_pos u] at c; exact absurd rfl c
theorem bm_ways (hI : MJ XwaysK r I L R) : sm_wp sm_P S (58 + 1) 211 0 [.ref 107] [] (xLay, I, L, R) (0, 0) (fun z => ∃ (r' : Int32) (I2 : sm_I) (L2 : sm_L) (R2 : sm_R), z = (some (.int r'), (xLay, I2, L2, R2)) ∧ r = r' ∧ ((∀ p j, p < 107 → I2 p j = I p j ∧ R2 p j = R p j) → LJ I2 R2)) := by
  obtain ⟨I0, L0, R0, hJ, mk, o, q, e09, x, X1, X2⟩ := hI
  have mm : en_mem ml_tb mlX (xLay, I, L, R) := lw_mk (lw_pk (ky_dn mk)) hJ.1.2.1 o
  have e : kM R = R := ml_R mm
  obtain ⟨-, -, -, -, qt, qi, l, hrf, -⟩ := hJ.1
  have eq : q = qt := Option.some.inj (e09.symm.trans hrf.2.2.1)
  subst eq
  have g := pj_X12_ways_0 (S := S) (d := 52 + 6) (I := I) (L := L) (R := R) (Φ := fun z => ∃ (r' : Int32) (I2 : sm_I) (L2 : sm_L) (R2 : sm_R), z = (some (.int r'), (xLay, I2, L2, R2)) ∧ r = r' ∧ ((∀ p j, p < 107 → I2 p j = I p j ∧ R2 p j = R p j) → LJ I2 R2)) (by
    rw [e]
    refine rx_J (X := XwaysK) hJ mk o hrf (fun J f k => ⟨J, L, rfl, fun c => ⟨_, J, L, _, rfl, ?_, fun h => LJ_g hJ o x (gofr_lk f) h⟩, fun c => ⟨_, J, L, _, rfl, ?_, fun h => LJ_g hJ o x (gofr_lk f) h⟩⟩)
    · cases u : (KF q I0).2.2.2.2.1 with
      | false => exact Int32.toInt_inj.mp ((X2 u).trans k.2.2.1.symm)
      | true => rw [k.1, if_pos u] at c; exact absurd c (by decide)
    · cases u : (KF q I0).2.2.2.2.1 with
      | false => rw [k.1, if_neg (by rw [u]; decide)] at c; exact absurd rfl c
      | true => exact X1 u)
  rw [e] at g
  exact g
end
end
section
/-! THE LAW: pairs out of what was gone through: tried (wip/pe/mkp2.py) -/
theorem KF12_bd {I : sm_I} (hk : kW 12 I) (i : Nat) (hi : i < (KF 12 I).2.2.1) (h1 : i < 1000) : ((KF 12 I).2.2.2.2.2.1 i).1 < (kys 12 I).length ∧ (kys 12 I).getD ((KF 12 I).2.2.2.2.2.1 i).1 0 < 145 ∧ ((KF 12 I).2.2.2.2.2.1 i).2.1 < 4 := by
  have w := GT_wf (n := (I 12 2).toNatClampNeg + 1) (m := (kys 12 I).length) (B := kbaC 12 (kst I) id) (cc := fun i c => kcv 12 74 (kst I) id ((kys 12 I).getD i 0) c) (nc := fun j => kcd 12 (kst I) ((kys 12 I).getD j 0)) (tf := false)
  have t : ((KF 12 I).2.2.2.2.2.1 i).1 < (kys 12 I).length ∧ ((KF 12 I).2.2.2.2.2.1 i).2.1 < kcd 12 (kst I) ((kys 12 I).getD ((KF 12 I).2.2.2.2.2.1 i).1 0) := w.2.2.2.1 i hi h1
  obtain ⟨t1, t2⟩ := t
  have y := kitL_in t1
  rcases g12_74_c4 (hk.2.2.2.2.2.2 _ y) with ⟨a, b⟩ | ⟨a, b, c⟩
  · exact ⟨t1, Nat.lt_of_lt_of_le a (by decide), Nat.lt_of_lt_of_le t2 b⟩
  · exact ⟨t1, b, Nat.lt_of_lt_of_le t2 (Nat.le_trans c (by decide))⟩
theorem KF49_bd {I : sm_I} (hk : kW 49 I) (i : Nat) (hi : i < (KF 49 I).2.2.1) (h1 : i < 1000) : ((KF 49 I).2.2.2.2.2.1 i).1 < (kys 49 I).length ∧ (kys 49 I).getD ((KF 49 I).2.2.2.2.2.1 i).1 0 < 145 ∧ ((KF 49 I).2.2.2.2.2.1 i).2.1 < 4 := by
  have w := GT_wf (n := (I 49 2).toNatClampNeg + 1) (m := (kys 49 I).length) (B := kbaC 49 (kst I) id) (cc := fun i c => kcv 49 74 (kst I) id ((kys 49 I).getD i 0) c) (nc := fun j => kcd 49 (kst I) ((kys 49 I).getD j 0)) (tf := false)
  have t : ((KF 49 I).2.2.2.2.2.1 i).1 < (kys 49 I).length ∧ ((KF 49 I).2.2.2.2.2.1 i).2.1 < kcd 49 (kst I) ((kys 49 I).getD ((KF 49 I).2.2.2.2.2.1 i).1 0) := w.2.2.2.1 i hi h1
  obtain ⟨t1, t2⟩ := t
  have y := kitL_in t1
  rcases g49_74_c4 (hk.2.2.2.2.2.2 _ y) with ⟨a, b⟩ | ⟨a, b, c⟩
  · exact ⟨t1, Nat.lt_of_lt_of_le a (by decide), Nat.lt_of_lt_of_le t2 b⟩
  · exact ⟨t1, b, Nat.lt_of_lt_of_le t2 (Nat.le_trans c (by decide))⟩
theorem pj_X12_toldItem_0 {S : sm_C} {d : Nat} {Φ : sm_Z → Prop} {I : sm_I} {L : sm_L} {R : sm_R} {x0 : Int32} (h : (((10 : Int32) ≤ x0 → Φ (some (.int (x0 + (90 : Int32))), (xLay, I, L, (kM R)))) ∧ (¬ (10 : Int32) ≤ x0 → Φ (some (.int x0), (xLay, I, L, (kM R)))))) : sm_wp sm_P S d 205 0 [.int x0] [] (xLay, I, L, (kM R)) (0, 0) Φ := sm_wp_step (⟨fun q1 => ((h).1 q1), fun q1 => ((h).2 q1)⟩)
section
variable {S : sm_C} {I : sm_I} {L : sm_L} {R : sm_R} {r : Int32}
theorem rx_Jk {d : Nat} {Φ : sm_Z → Prop} {I0 : sm_I} {L0 : sm_L} {R0 : sm_R} (hJ : lw_J I0 L0 R0) (mk : en_mem kl_tb2 klY (xLay, I, L, R)) (o : ∀ p j, 107 ≤ p → I p j = I0 p j ∧ R p j = R0 p j) {qt qi l : Nat} (hrf : rfE qt qi l I0 R0) (h : ∀ J, gofr I J → gor (rxs I l) (KF qt I0) J → Φ (none, (xLay, J, L, kM R))) : sm_wp sm_P S (d + 6) 135 0 [.ref 107] [] (xLay, I, L, kM R) (0, 0) Φ := by
  have mm : en_mem ml_tb mlX (xLay, I, L, R) := lw_mk (lw_pk (ky_dn mk)) hJ.1.2.1 o
  have e : kM R = R := ml_R mm
  rw [e] at h ⊢
  exact rx_J (X := XwaysK) hJ mk o hrf h
theorem it_at (hI : lw_I I L R) {qt qi l : Nat} (hrf : rfE qt qi l I R) : (kys qt I).length = (rxs I l).length ∧ ∀ k, k < (rxs I l).length → (kys qt I).getD k 0 = cdm ((rxs I l).getD k 0) := by
  obtain ⟨-, mm, -, hd, q, qi', l', hrf', htd⟩ := hI
  have e : q = qt := Option.some.inj (hrf'.2.2.1.symm.trans hrf.2.2.1)
  have e2 : l' = l := by have := hrf'.2.2.2.2; have := hrf.2.2.2.2; omega
  subst e
  subst e2
  have c := q_cnt (by have := hrf.1; omega) htd
  exact items_eq hd.1 c.2.2.2.1 htd.2.2.1 (ml_cs hrf.2.1 mm).2.2.2.1
theorem rx_it {I0 : sm_I} {R0 : sm_R} (o : ∀ p j, 107 ≤ p → I p j = I0 p j ∧ R p j = R0 p j) (l : Nat) : rxs I l = rxs I0 l := rxs_cg (fun p j q => (o p j (by omega)).1)
def tin (x : Int32) (F : ss) : Prop := 0 ≤ x.toInt ∧ x.toInt < 1000 ∧ x.toInt < F.2.2.1
def XtriedK (x y : Int32) (I : sm_I) (_ : sm_L) (R : sm_R) (r : Int32) (I1 : sm_I) (L1 : sm_L) (R1 : sm_R) : Prop := ∃ qt, R 0 9 = some qt ∧ XG qt I R I1 L1 R1 ∧ (¬ tin x (KF qt I) → r = -1) ∧ (tin x (KF qt I) → (y.toInt = 0 → r = Int32.ofNat ((kys qt I).getD ((KF qt I).2.2.2.2.2.1 x.toNatClampNeg).1 0)) ∧ (y.toInt = 1 → r = Int32.ofNat ((KF qt I).2.2.2.2.2.1 x.toNatClampNeg).2.1) ∧ (y.toInt = 2 → r = if ((KF qt I).2.2.2.2.2.1 x.toNatClampNeg).2.2 = true then 1 else 0) ∧ (y.toInt ≠ 0 → y.toInt ≠ 1 → y.toInt ≠ 2 → r = -1)) ∧ (tin x (KF qt I) → ((KF qt I).2.2.2.2.2.1 x.toNatClampNeg).1 < (kys qt I).length)
theorem bk_tried {x y : Int32} (hI : lw_J I L R) : sm_wp sm_P S (58 + 1) 88 0 [.ref 0, .int x, .int y] [] (xLay, I, L, R) (0, 0) (fun z => ∃ (r : Int32) (I2 : sm_I) (L2 : sm_L) (R2 : sm_R), z = (some (.int r), (xLay, I2, L2, R2)) ∧ XtriedK x y I L R r I2 L2 R2) := by
  have m := hI.1.1
  obtain ⟨qt, hq, g1, hk, -⟩ := hI.2.1
  have h1000 : (1000 : Int32).toInt = 1000 := by decide
  have mn : ∀ t : Int32, x < (if (1000 : Int32) < t then (1000 : Int32) else t) ↔ x.toInt < 1000 ∧ x.toInt < t.toInt := fun t => by
    by_cases c : (1000 : Int32) < t
    · have c' := Int32.lt_iff_toInt_lt.mp c
      rw [h1000] at c'
      rw [if_pos c, Int32.lt_iff_toInt_lt, h1000]
      omega
    · have c' : ¬ (1000 : Int) < t.toInt := fun q => c (Int32.lt_iff_toInt_lt.mpr (by rw [h1000]; exact q))
      rw [if_neg c, Int32.lt_iff_toInt_lt]
      omega
  rcases hq with e | e <;> subst e
  · have g := pf12_X11_tried_0 (S := S) (d := 52 + 6) (I := I) (L := L) (R := R) (x1 := x) (x2 := y) (Φ := fun z => ∃ (r : Int32) (I2 : sm_I) (L2 : sm_L) (R2 : sm_R), z = (some (.int r), (xLay, I2, L2, R2)) ∧ XtriedK x y I L R r I2 L2 R2) (ig12_J hI g1 (fun J L' xg => ⟨_, J, L', R, rfl, fun c => ⟨_, J, L', _, rfl, 12, g1, xg, fun _ => rfl, fun a => ?_, fun a => ?_⟩, fun c => ⟨fun c2 => ?_, fun c2 => ⟨_, J, L', _, rfl, 12, g1, xg, fun _ => rfl, fun a => ?_, fun a => ?_⟩⟩⟩))
    · rw [kF12_74_eq (w := (xLay, I, L, R)) m g1] at g
      exact g
    · exact absurd a.1 (by have := Int32.lt_iff_toInt_lt.mp c; rw [kl_0] at this; omega)
    · exact absurd a.1 (by have := Int32.lt_iff_toInt_lt.mp c; rw [kl_0] at this; omega)
    · have c0 : 0 ≤ x.toInt := by
        rcases Int.lt_or_le x.toInt 0 with u | u
        · exact absurd (Int32.lt_iff_toInt_lt.mpr (by rw [kl_0]; exact u)) c
        · exact u
      obtain ⟨c3, c4⟩ := (mn _).mp c2
      have a13 := xg.2.2.2.2.1.1
      rw [a13] at c4
      have n := kl_nat c0
      have tn : tin x (KF 12 I) := ⟨c0, c3, c4⟩
      obtain ⟨b1, b2, b3⟩ := KF12_bd hk x.toNatClampNeg (by omega) (by omega)
      have v := xg.2.2.2.2.2.1 x.toNatClampNeg (by omega) (by omega)
      obtain ⟨p1, p2, p3⟩ := pkT_d _ b2 _ b3 ((KF 12 I).2.2.2.2.2.1 x.toNatClampNeg).2.2
      refine pg12_74_X1_tryOf_0 (d := 57) (pg12_74v46_X11_valueAt_0 ⟨fun a => absurd a c, fun _ => ⟨fun a => ?_, fun _ => ⟨kl_in c0 c3, _, J, L', rfl, fun y0 => ⟨_, J, L', R, rfl, _, J, L', _, rfl, 12, g1, xg, fun q => absurd tn q, fun _ => ⟨fun _ => ?_, fun q => ?_, fun q => ?_, fun q => ?_⟩, fun _ => b1⟩, fun y0 => ⟨fun y1 => ⟨_, J, L', R, rfl, _, J, L', _, rfl, 12, g1, xg, fun q => absurd tn q, fun _ => ⟨fun q => absurd q y0, fun _ => ?_, fun q => ?_, fun _ q => absurd y1 q⟩, fun _ => b1⟩, fun y1 => ⟨fun y2 => ⟨_, J, L', R, rfl, _, J, L', _, rfl, 12, g1, xg, fun q => absurd tn q, fun _ => ⟨fun q => absurd q y0, fun q => absurd q y1, fun _ => ?_, fun _ _ q => absurd y2 q⟩, fun _ => b1⟩, fun y2 => ⟨_, J, L', R, rfl, _, J, L', _, rfl, 12, g1, xg, fun q => absurd tn q, fun _ => ⟨fun q => absurd q y0, fun q => absurd q y1, fun q => absurd q y2, fun _ _ _ => rfl⟩, fun _ => b1⟩⟩⟩⟩⟩⟩)
      · have a' := Int32.le_iff_toInt_le.mp a
        rw [Int32.toInt_ofNat_of_lt (by decide)] at a'
        omega
      · rw [v]; exact p1
      · rw [y0] at q; exact absurd q (by decide)
      · rw [y0] at q; exact absurd q (by decide)
      · exact absurd y0 q
      · rw [v]; exact p2
      · rw [y1] at q; exact absurd q (by decide)
      · rw [v]; exact p3
    · exact absurd ((mn _).mpr ⟨a.2.1, by rw [xg.2.2.2.2.1.1]; exact a.2.2⟩) c2
    · exact absurd ((mn _).mpr ⟨a.2.1, by rw [xg.2.2.2.2.1.1]; exact a.2.2⟩) c2
  · have g := pf49_X11_tried_0 (S := S) (d := 52 + 6) (I := I) (L := L) (R := R) (x1 := x) (x2 := y) (Φ := fun z => ∃ (r : Int32) (I2 : sm_I) (L2 : sm_L) (R2 : sm_R), z = (some (.int r), (xLay, I2, L2, R2)) ∧ XtriedK x y I L R r I2 L2 R2) (ig49_J hI g1 (fun J L' xg => ⟨_, J, L', R, rfl, fun c => ⟨_, J, L', _, rfl, 49, g1, xg, fun _ => rfl, fun a => ?_, fun a => ?_⟩, fun c => ⟨fun c2 => ?_, fun c2 => ⟨_, J, L', _, rfl, 49, g1, xg, fun _ => rfl, fun a => ?_, fun a => ?_⟩⟩⟩))
    · rw [kF49_74_eq (w := (xLay, I, L, R)) m g1] at g
      exact g
    · exact absurd a.1 (by have := Int32.lt_iff_toInt_lt.mp c; rw [kl_0] at this; omega)
    · exact absurd a.1 (by have := Int32.lt_iff_toInt_lt.mp c; rw [kl_0] at this; omega)
    · have c0 : 0 ≤ x.toInt := by
        rcases Int.lt_or_le x.toInt 0 with u | u
        · exact absurd (Int32.lt_iff_toInt_lt.mpr (by rw [kl_0]; exact u)) c
        · exact u
      obtain ⟨c3, c4⟩ := (mn _).mp c2
      have a13 := xg.2.2.2.2.1.1
      rw [a13] at c4
      have n := kl_nat c0
      have tn : tin x (KF 49 I) := ⟨c0, c3, c4⟩
      obtain ⟨b1, b2, b3⟩ := KF49_bd hk x.toNatClampNeg (by omega) (by omega)
      have v := xg.2.2.2.2.2.1 x.toNatClampNeg (by omega) (by omega)
      obtain ⟨p1, p2, p3⟩ := pkT_d _ b2 _ b3 ((KF 49 I).2.2.2.2.2.1 x.toNatClampNeg).2.2
      refine pg49_74_X1_tryOf_0 (d := 57) (pg49_74v46_X11_valueAt_0 ⟨fun a => absurd a c, fun _ => ⟨fun a => ?_, fun _ => ⟨kl_in c0 c3, _, J, L', rfl, fun y0 => ⟨_, J, L', R, rfl, _, J, L', _, rfl, 49, g1, xg, fun q => absurd tn q, fun _ => ⟨fun _ => ?_, fun q => ?_, fun q => ?_, fun q => ?_⟩, fun _ => b1⟩, fun y0 => ⟨fun y1 => ⟨_, J, L', R, rfl, _, J, L', _, rfl, 49, g1, xg, fun q => absurd tn q, fun _ => ⟨fun q => absurd q y0, fun _ => ?_, fun q => ?_, fun _ q => absurd y1 q⟩, fun _ => b1⟩, fun y1 => ⟨fun y2 => ⟨_, J, L', R, rfl, _, J, L', _, rfl, 49, g1, xg, fun q => absurd tn q, fun _ => ⟨fun q => absurd q y0, fun q => absurd q y1, fun _ => ?_, fun _ _ q => absurd y2 q⟩, fun _ => b1⟩, fun y2 => ⟨_, J, L', R, rfl, _, J, L', _, rfl, 49, g1, xg, fun q => absurd tn q, fun _ => ⟨fun q => absurd q y0, fun q => absurd q y1, fun q => absurd q y2, fun _ _ _ => rfl⟩, fun _ => b1⟩⟩⟩⟩⟩⟩)
      · have a' := Int32.le_iff_toInt_le.mp a
        rw [Int32.toInt_ofNat_of_lt (by decide)] at a'
        omega
      · rw [v]; exact p1
      · rw [y0] at q; exact absurd q (by decide)
      · rw [y0] at q; exact absurd q (by decide)
      · exact absurd y0 q
      · rw [v]; exact p2
      · rw [y1] at q; exact absurd q (by decide)
      · rw [v]; exact p3
    · exact absurd ((mn _).mpr ⟨a.2.1, by rw [xg.2.2.2.2.1.1]; exact a.2.2⟩) c2
    · exact absurd ((mn _).mpr ⟨a.2.1, by rw [xg.2.2.2.2.1.1]; exact a.2.2⟩) c2
theorem bm_tried {x y : Int32} (hI : MJ (XtriedK x y) r I L R) : sm_wp sm_P S (58 + 1) 206 0 [.ref 107, .int x, .int y] [] (xLay, I, L, R) (0, 0) (fun z => ∃ (r' : Int32) (I2 : sm_I) (L2 : sm_L) (R2 : sm_R), z = (some (.int r'), (xLay, I2, L2, R2)) ∧ r = r' ∧ ((∀ p j, p < 107 → I2 p j = I p j ∧ R2 p j = R p j) → LJ I2 R2)) := by
  obtain ⟨I0, L0, R0, hJ, mk, o, q, e09, xg, X1, X2, X3⟩ := hI
  have mm : en_mem ml_tb mlX (xLay, I, L, R) := lw_mk (lw_pk (ky_dn mk)) hJ.1.2.1 o
  have e : kM R = R := ml_R mm
  obtain ⟨-, -, -, -, qt, qi, l, hrf, -⟩ := hJ.1
  have eq : q = qt := Option.some.inj (e09.symm.trans hrf.2.2.1)
  subst eq
  obtain ⟨il, ia⟩ := it_at hJ.1 hrf
  have h1000 : (1000 : Int32).toInt = 1000 := by decide
  have h2 : (2 : Int32).toInt = 2 := by decide
  have h1 : (1 : Int32).toInt = 1 := by decide
  have no : ¬ tin x (KF q I0) → r = -1 := X1
  have g := pj_X12_tried_0 (S := S) (d := 52 + 6) (I := I) (L := L) (R := R) (x1 := x) (x2 := y) (Φ := fun z => ∃ (r' : Int32) (I2 : sm_I) (L2 : sm_L) (R2 : sm_R), z = (some (.int r'), (xLay, I2, L2, R2)) ∧ r = r' ∧ ((∀ p j, p < 107 → I2 p j = I p j ∧ R2 p j = R p j) → LJ I2 R2)) (by
    refine ⟨fun c => ⟨_, I, L, _, rfl, X1 (fun a => ?_), LJ_g hJ o xg (fun _ _ _ => rfl)⟩, fun c => yp_in (fun n => ⟨_, I, L, rfl, fun _ => ⟨_, I, L, _, rfl, ?_, LJ_g hJ o xg (fun _ _ _ => rfl)⟩, fun n => absurd rfl n⟩) (fun a b => ⟨_, I, L, rfl, fun n => absurd n (by decide), fun _ => rx_Jk hJ mk o hrf (fun J f k => ⟨J, L, rfl, fun t => ⟨_, J, L, _, rfl, X1 (fun a => ?_), LJ_g hJ o xg (gofr_lk f)⟩, fun t => ⟨fun t2 => ?_, fun t2 => ⟨_, J, L, _, rfl, X1 (fun a => ?_), LJ_g hJ o xg (gofr_lk f)⟩⟩⟩)⟩)⟩
    · have := Int32.lt_iff_toInt_lt.mp c
      rw [kl_0] at this
      have := a.1
      omega
    · rw [kl_0, h2] at n
      by_cases tn : tin x (KF q I0)
      · exact (X2 tn).2.2.2 (fun w => n (by omega)) (fun w => n (by omega)) (fun w => n (by omega))
      · exact X1 tn
    · have t' := Int32.le_iff_toInt_le.mp t
      rw [k.2.1] at t'
      have := a.2.2
      omega
    · have c0 : 0 ≤ x.toInt := by
        rcases Int.lt_or_le x.toInt 0 with u | u
        · exact absurd (Int32.lt_iff_toInt_lt.mpr (by rw [kl_0]; exact u)) c
        · exact u
      have c3 := Int32.lt_iff_toInt_lt.mp t2
      rw [h1000] at c3
      have c4 : x.toInt < (KF q I0).2.2.1 := by
        rcases Int.lt_or_le x.toInt (KF q I0).2.2.1 with u | u
        · exact u
        · exact absurd (Int32.le_iff_toInt_le.mpr (by rw [k.2.1]; exact u)) t
      have n := kl_nat c0
      have tn : tin x (KF q I0) := ⟨c0, c3, c4⟩
      have vp : vp_in x 1000 := kl_in c0 c3
      obtain ⟨x0, x1, x2, -⟩ := X2 tn
      have b1 := X3 tn
      obtain ⟨s1, s2, s3⟩ := k.2.2.2.1 x.toNatClampNeg (by omega) (by omega)
      rw [rx_it o l] at s1
      rw [kl_0] at a
      rw [h2] at b
      refine ⟨fun y0 => ⟨vp, ?_⟩, fun y0 => ⟨fun y1 => ⟨vp, _, J, L, _, rfl, ?_, LJ_g hJ o xg (gofr_lk f)⟩, fun y1 => ⟨vp, fun z => ⟨_, J, L, _, rfl, ?_, LJ_g hJ o xg (gofr_lk f)⟩, fun z => ⟨_, J, L, _, rfl, ?_, LJ_g hJ o xg (gofr_lk f)⟩⟩⟩⟩
      · rw [il] at b1
        have w := ia _ b1
        have xin := itL_in b1
        have bb := (ml_cs hrf.2.1 (lw_mk (lw_pk (ky_dn mk)) hJ.1.2.1 o)).2.2.2.1
        have b46 : 0 ≤ (I0 107 46).toInt ∧ (I0 107 46).toInt ≤ 45 := hJ.1.2.1.2.1 107 46 (0, 45) (by decide +kernel)
        have n46 := kl_nat b46.1
        have bI := (ml_cs hrf.2.1 hJ.1.2.1).2.2.2.1
        have n3 := kl_nat bI.1
        have x60 : (rxs I0 l).getD ((KF q I0).2.2.2.2.2.1 x.toNatClampNeg).1 0 < 60 := by
          rcases xin with u | u
          · exact Nat.lt_of_lt_of_le u (by omega)
          · exact Nat.lt_of_lt_of_le u.2 (by omega)
        have r0 := x0 (by rw [y0, kl_0])
        rw [w] at r0
        rw [s1]
        have tI : (Int32.ofNat ((rxs I0 l).getD ((KF q I0).2.2.2.2.2.1 x.toNatClampNeg).1 0)).toInt = ((rxs I0 l).getD ((KF q I0).2.2.2.2.2.1 x.toNatClampNeg).1 0 : Nat) := Int32.toInt_ofNat_of_lt (by omega)
        generalize hA : (rxs I0 l).getD ((KF q I0).2.2.2.2.2.1 x.toNatClampNeg).1 0 = A at *
        have h90 : (Int32.ofNat A + (90 : Int32)).toInt = (A : Int) + 90 := (ml_ad (b := 90) rfl (by decide) (by omega) (by omega)).trans (by rw [tI])
        refine pj_X12_toldItem_0 ⟨fun c10 => ⟨_, J, L, rfl, _, J, L, _, rfl, ?_, LJ_g hJ o xg (gofr_lk f)⟩, fun c10 => ⟨_, J, L, rfl, _, J, L, _, rfl, ?_, LJ_g hJ o xg (gofr_lk f)⟩⟩
        · have c10' := Int32.le_iff_toInt_le.mp c10
          rw [tI, (by decide : (10 : Int32).toInt = 10)] at c10'
          rw [r0]
          unfold cdm
          rw [if_neg (by omega)]
          exact Int32.toInt_inj.mp (by rw [h90, Int32.toInt_ofNat_of_lt (by omega)]; rfl)
        · rw [r0]
          unfold cdm
          rw [if_pos]
          rcases Nat.lt_or_ge A 10 with u | u
          · exact u
          · exact absurd (Int32.le_iff_toInt_le.mpr (by rw [tI, (by decide : (10 : Int32).toInt = 10)]; omega)) c10
      · rw [s2]; exact x1 (by rw [y1, h1])
      · have y2 : y.toInt = 2 := by
          have u0 : y.toInt ≠ 0 := fun w => y0 (en_ofI (by rw [w, kl_0]))
          have u1 : y.toInt ≠ 1 := fun w => y1 (en_ofI (by rw [w, h1]))
          omega
        rw [s3] at z
        rw [x2 y2]
        by_cases c : ((KF q I0).2.2.2.2.2.1 x.toNatClampNeg).2.2 = true
        · rw [if_pos c] at z; exact absurd z (by decide)
        · rw [if_neg c]
      · have y2 : y.toInt = 2 := by
          have u0 : y.toInt ≠ 0 := fun w => y0 (en_ofI (by rw [w, kl_0]))
          have u1 : y.toInt ≠ 1 := fun w => y1 (en_ofI (by rw [w, h1]))
          omega
        rw [s3] at z
        rw [x2 y2]
        by_cases c : ((KF q I0).2.2.2.2.2.1 x.toNatClampNeg).2.2 = true
        · rw [if_pos c]
        · rw [if_neg c] at z; exact absurd rfl z
    · have t2' : ¬ x.toInt < 1000 := fun w => t2 (Int32.lt_iff_toInt_lt.mpr (by rw [h1000]; exact w))
      exact t2' a.2.1)
  rw [e] at g
  exact g
end
end
