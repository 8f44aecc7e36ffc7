/-! THE LAW: read on both sides, with what was gone through -/
theorem sk_of {a : sg} {J : sm_I} {T : Int32} {c r p : Nat} (h : sq a c r) (e0 : a.1 12 2 = T) (e1 : a.1 (c + 1) r = J 130 p) (e2 : a.1 (c + 2) r = J 131 p) (e3 : a.1 (c + 3) r = J 132 p) (e4 : a.1 (c + 4) r = J 133 p) (p260 : p < 260) : sspk J (T.toNatClampNeg + 1) p := by
  obtain ⟨⟨h1, h2⟩, h3, h4, h5⟩ := h
  rw [e1] at h1 h2
  rw [e2] at h3
  rw [e3] at h4
  rw [e4] at h5
  rw [e0] at h2
  have n := kl_nat (i := T) (by omega)
  refine ⟨p260, ⟨h1, by omega⟩, ?_, h4, h5⟩
  rcases h3 with e | ⟨g1, g2⟩
  · rw [e, show (-1 : Int32).toInt = -1 from by decide]; omega
  · rw [e0] at g2
    omega
theorem TW_sv {s : Nat} {a : sg} {J : sm_I} {L : sm_L} {R : sm_R} (h : sv 0 a) (td : TDw s a J) (s1 : s ≤ 1) (mm : en_mem ml_tb mlX (xLay, J, L, R)) (z : J 107 54 = 0) : TW s J := by
  obtain ⟨-, -, hc, hq, ho, -⟩ := h
  obtain ⟨⟨-, -, c2, c3, c4⟩, -, ⟨-, o2⟩, ⟨y1, -⟩, q1⟩ := td
  have b := ml_cs s1 mm
  have b128 : ∀ j, j < 20 → 0 ≤ (J 128 j).toInt ∧ (J 128 j).toInt ≤ 4 := fun j hj => ml_row mm (p := 128) (n := 20) (q := (0, 4)) (fun _ => rfl) j hj
  have np : inP 0 = false := by decide
  refine ⟨fun i c p hi hc' hp => ?_, fun k hk => ?_, fun q hq' => ?_, fun k hk => ?_⟩
  · obtain ⟨-, y2, y3, y4, y5⟩ := y1 i (by omega) hi
    obtain ⟨z1, z2, z3, z4⟩ := y5 c hc'
    obtain ⟨s1', s2, s3, s4⟩ := z4 p hp
    have b4 := b128 (10 * s + i) (by omega)
    have n3 := kl_nat (i := J 125 s) (by omega)
    have n8 := kl_nat b4.1
    have n9 := kl_nat (i := J 129 (4 * (10 * s + i) + c)) (by omega)
    have sqq := hc i c p (by unfold nS; rw [c3]; omega) (by unfold nC; rw [y2]; omega) (by unfold nP; rw [z1]; omega) (fun w => by rw [np] at w; exact absurd w.1 (by decide))
    have ix : 120 * s + 12 * i + 3 * c + p = 3 * (4 * (10 * s + i) + c) + p := by omega
    rw [ix] at s1' s2 s3 s4
    exact sk_of sqq c2 s1' s2 s3 s4 (by omega)
  · obtain ⟨i, hi, r1, r2, r3, r4, r5, r6, r7, r8, r9⟩ := o2 k hk
    have b134 : 0 ≤ (J 134 s).toInt ∧ (J 134 s).toInt ≤ 4 := ml_row mm (p := 134) (n := 2) (q := (0, 4)) (fun _ => rfl) s (by omega)
    exact sk_of (ho i hi r7) c2 (r5.trans r4.symm) r6 r8 r9 (by omega)
  · have n4 := kl_nat (i := J 136 s) (by omega)
    obtain ⟨r1, r2, r3, r4⟩ := q1 q (by omega) hq'
    exact sk_of (hq q (by unfold nQ; rw [c4]; omega) (fun w => by rw [np] at w; exact absurd w.1 (by decide))) c2 r1 r2 r3 r4 (by omega)
  · rw [z, kl_0] at hk
    omega
theorem TW_lv {l : Nat} {I J : sm_I} {L : sm_L} {R : sm_R} (hl : l ≤ 1) (hm : en_mem ml_tb mlX (xLay, I, L, R)) (h0 : lvf l I J) (k : TW l I) : TW l J := by
  have h : ∀ p j, ml_hl l p j ∨ ml_hm l p j → J p j = I p j := fun p j q => h0 p j (q.elim Or.inl (fun q => Or.inr (Or.inl q)))
  have b := ml_cs hl hm
  have b134 : 0 ≤ (I 134 l).toInt ∧ (I 134 l).toInt ≤ 4 := ml_row hm (p := 134) (n := 2) (q := (0, 4)) (fun _ => rfl) l (by omega)
  have b128 : ∀ j, j < 20 → 0 ≤ (I 128 j).toInt ∧ (I 128 j).toInt ≤ 4 := fun j hj => ml_row hm (p := 128) (n := 20) (q := (0, 4)) (fun _ => rfl) j hj
  have b129 : ∀ j, j < 80 → 0 ≤ (I 129 j).toInt ∧ (I 129 j).toInt ≤ 3 := fun j hj => ml_row hm (p := 129) (n := 80) (q := (0, 3)) (fun _ => rfl) j hj
  have o1 : ∀ p, (p = 122 ∨ p = 125 ∨ p = 134 ∨ p = 136) → J p l = I p l := fun p hp => h p l (by unfold ml_hl ml_hm; omega)
  have sk : ∀ n p, ((120 * l ≤ p ∧ p < 120 * l + 120) ∨ (240 + 4 * l ≤ p ∧ p < 244 + 4 * l) ∨ (248 + 6 * l ≤ p ∧ p < 254 + 6 * l)) → sspk I n p → sspk J n p := fun n p hp k => by
    have e : ∀ c, (c = 130 ∨ c = 131 ∨ c = 132 ∨ c = 133) → J c p = I c p := fun c hc => h c p (by
      rcases hp with hp | hp
      · rcases hc with e | e
        · exact Or.inl (Or.inr (Or.inr (Or.inr ⟨e, hp⟩)))
        · exact Or.inr (Or.inr (Or.inr (Or.inr (Or.inl ⟨e, hp⟩))))
      · exact Or.inr (Or.inr (Or.inr (Or.inr (Or.inr ⟨hc, hp⟩)))))
    unfold sspk at k ⊢
    rw [e 130 (by omega), e 131 (by omega), e 132 (by omega), e 133 (by omega)]; exact k
  obtain ⟨k1, k2, k3, k4⟩ := k
  have mo : ∀ p j, 137 ≤ p ∨ (p = 107 ∧ 46 ≤ j) → J p j = I p j := fun p j q => h0 p j (Or.inr (Or.inr q))
  unfold TW
  rw [o1 122 (by omega), o1 125 (by omega), o1 134 (by omega), o1 136 (by omega), mo 107 54 (by omega)]
  refine ⟨fun s c i a1 a2 a3 => ?_, fun k a => sk _ _ (by omega) (k2 k a), fun q a => sk _ _ (by omega) (k3 q a), fun k a => ?_⟩
  · have e8 : J 128 (10 * l + s) = I 128 (10 * l + s) := h 128 _ (Or.inl (Or.inr (Or.inl ⟨Or.inr (Or.inr rfl), by omega, by omega⟩)))
    rw [e8] at a2
    have b8 := b128 (10 * l + s) (by omega)
    have e9 : J 129 (4 * (10 * l + s) + c) = I 129 (4 * (10 * l + s) + c) := h 129 _ (Or.inl (Or.inr (Or.inr (Or.inl ⟨rfl, by omega, by omega⟩))))
    rw [e9] at a3
    have b9 := b129 (4 * (10 * l + s) + c) (by omega)
    exact sk _ _ (by omega) (k1 s c i a1 a2 a3)
  · have b := k4 k a
    unfold mook at b ⊢
    rw [mo 144 k (by omega), mo 145 k (by omega), mo 146 k (by omega), mo 147 k (by omega)]; exact b
theorem GC_cg {qt : Nat} {I J : sm_I} {L L' : sm_L} {R R' : sm_R} (hq : qt = 12 ∨ qt = 49) (h : ∀ p j, (qt ≤ p ∧ p < qt + 25) ∨ p = 37 ∨ (41 ≤ p ∧ p ≤ 44) ∨ (p = 74 ∧ (j = 11 ∨ j = 13 ∨ j = 14 ∨ j = 15)) ∨ p = 80 ∨ p = 46 ∨ p = 47 ∨ (p = 0 ∧ j = 12) → J p j = I p j) (hL : ∀ j, L' 48 j = L 48 j) (r2 : R' 74 4 = R 74 4) (k : GC qt I L R) : GC qt J L' R' := by
  have t : ∀ p j, (qt ≤ p ∧ p < qt + 25) ∨ p = 37 ∨ (41 ≤ p ∧ p ≤ 44) → J p j = I p j := fun p j q => h p j (by omega)
  rcases k with e | ⟨e, k3⟩
  · exact Or.inl (by rw [h 0 12 (by omega)]; exact e)
  · refine Or.inr ⟨r2.trans e, ?_⟩
    rw [kys_cg t, KF_cg hq t]
    exact kall_cg (fun p j q => h p j (by omega)) hL k3
/-- what was gone through is of one text on both sides -/
theorem RF_at {I : sm_I} {L : sm_L} {R : sm_R} {qt qi l : Nat} (hI : lw_I I L R) (hrf : rfE qt qi l I R) : KF qt I = RF I l := by
  obtain ⟨-, mm, -, hd, qt', qi', l', hrf', htd⟩ := hI
  have e1 : qt' = qt := Option.some.inj (hrf'.2.2.1.symm.trans hrf.2.2.1)
  have e2 : l' = l := by have := hrf'.2.2.2.2; have := hrf.2.2.2.2; omega
  subst e1
  subst e2
  exact KR (by have := hrf.1; omega) hrf.2.1 mm htd hd
section
variable {S : sm_C} {I : sm_I} {L : sm_L} {R : sm_R} {r : Int32}
theorem lw_xreadS {C : Int32 → sm_I → sm_L → sm_R → Prop} (hI : MS XreadK r I L R) (k : ∀ (r' : Int32) (I' : sm_I) (L' : sm_L) (R' : sm_R), r = r' → lw_J I' L' R' → C r' I' L' R') : sm_wp sm_P S (51 + 8) 182 0 [.ref 107] [] (xLay, I, L, R) (0, 0) (fun z => ∃ (r : Int32) (I2 : sm_I) (L2 : sm_L) (R2 : sm_R), z = (some (.int r), (xLay, I2, L2, R2)) ∧ C r I2 L2 R2) := by
  obtain ⟨I0, L0, R0, hJ, mk, o, z48, XR, z1, X⟩ := hI
  have hI0 := hJ.1
  have hI00 := hI0
  have mm := lw_mk (lw_pk mk) hI0.2.1 o
  have mmW : en_mem ml_tb3 (mlW (L 48)) (xLay, I, L, R) := ⟨mm.1, mm.2.1, mm.2.2.1, mm.2.2.2.1, mlX_W mm.2.2.2.2 (fun _ => rfl)⟩
  obtain ⟨m0, n0, ⟨⟨t1, t2, t3⟩, hd, qt, qi, l, hrf, htd⟩⟩ := hI0
  have bl := kx_len m0
  obtain ⟨n, hn⟩ : ∃ n : Nat, (I0 0 10).toInt = n := ⟨(I0 0 10).toInt.toNat, by omega⟩
  obtain ⟨a0, D, T, H⟩ := X qt qi n hrf.1 hrf.2.2.1 hrf.2.2.2.1 hn
  have hl : (I 107 18).toInt = l := by rw [(o 107 18 (by omega)).1]; exact hrf.2.2.2.2
  have l1 := hrf.2.1
  have e : kM R = R := ml_R mm
  have A : sm_wp sm_P S (51 + 8) 182 0 [.ref 107] [] (xLay, I, L, kM R) (0, 0) (fun z => ∃ (r : Int32) (J : sm_I) (L' : sm_L) (R' : sm_R), z = (some (.int r), (xLay, J, L', kM R')) ∧ en_mem ml_tb3 (mlW (L 48)) (xLay, J, L', R') ∧ en_fr ml_RW (xLay, I, L, R) (xLay, J, L', R') ∧ J 107 2 = 0) := mx_readWq mmW (fun r' J L' R' _ _ mJ fJ zJ => ⟨r', J, L', R', rfl, mJ, fJ, zJ⟩)
  have B : sm_wp sm_P S (51 + 8) 182 0 [.ref 107] [] (xLay, I, L, kM R) (0, 0) (fun z => ∃ (r' : Int32) (J : sm_I) (L' : sm_L) (R' : sm_R), z = (some (.int r'), (xLay, J, L', kM R')) ∧ RDx (tk_at (I0 1) n) (SY (tk_K (I0 1) n) 501 0 0 gc0) (ME (tk_K (I0 1) n) (fun i => tk_vl (I0 1) n (tk_at (I0 1) n i)) 501 0 0 a0) r' J ∧ LVx l I r' J) := y_read (b := I0 1) (n := n) (a0 := a0) hl (by rw [(o 107 2 (by omega)).1, ← t1]; exact hn) mm (fun j hj => ((o 108 j (by omega)).1).trans (t2 j (by omega)).symm) D.1 (fun r J L' R' q qv => ⟨r, J, L', R', rfl, q, qv⟩)
  rw [e] at A B
  refine sm_wp_mono (sm_wp_and A B) (fun z hz => ?_)
  obtain ⟨⟨r1, J, L', R', ez, mJW, fJ, zJ⟩, r', J', L'', R'', ez', D', V'⟩ := hz
  have mJ : en_mem ml_tb mlX (xLay, J, L', R') := ⟨mJW.1, mJW.2.1, mJW.2.2.1, mJW.2.2.2.1, mlW_X mJW.2.2.2.2⟩
  have e48 : ∀ j, L' 48 j = L0 48 j := fun j => (mJW.2.2.2.2.2.2.2.2.2.2 j).trans (z48 j)
  rw [ez] at ez'
  have er : r1 = r' := Value.int.inj (Option.some.inj (congrArg Prod.fst ez'))
  have eI : J = J' := congrArg (fun z : sm_Z => z.2.2.1) ez'
  rw [← er, ← eI] at D' V'
  have eJ : kM R' = R' := ml_R mJ
  obtain ⟨q1, q2, q3⟩ := q_rd D D'
  have f : ∀ p j, p < 107 → J p j = I p j ∧ R' p j = R p j := fun p j hp => fJ.2 p j (lw_hi (W := ml_RW) (by decide +kernel) hp)
  have tp : tpE J := by
    refine ⟨by rw [(f 0 10 (by omega)).1, z1, zJ], fun j hj => ?_, by rw [(f 0 11 (by omega)).1]; exact q2⟩
    rw [(f 0 10 (by omega)).1, z1, kl_0] at hj
    omega
  have GL : lw_I J L' R' → lw_J J L' R' := fun lI => ⟨lI, by
    refine GG_of lI (fun qt' qi' l' hrf' => ?_)
    by_cases c : r = 0
    · obtain ⟨⟨g1, g2, g3, g4, -⟩, s, s1, s2, s3, s4⟩ := q3 c
      have el : l' = s := by have := hrf'.2.2.2.2; omega
      subst el
      refine ⟨Or.inl ((f 0 12 (by omega)).1.trans (H.2 c).2.1), Or.inl g4, ?_⟩
      have SYn : SY (tk_K (I0 1) n) 501 0 0 gc0 = none := by
        cases u : SY (tk_K (I0 1) n) 501 0 0 gc0 with
        | none => rfl
        | some x => exact absurd ((D.2.1 x.1 x.2 u).1.symm.trans c) (D.2.1 x.1 x.2 u).2.1
      have MEn : (ME (tk_K (I0 1) n) (fun i => tk_vl (I0 1) n (tk_at (I0 1) n i)) 501 0 0 a0).1 = none := by
        cases u : (ME (tk_K (I0 1) n) (fun i => tk_vl (I0 1) n (tk_at (I0 1) n i)) 501 0 0 a0).1 with
        | none => rfl
        | some x => exact absurd (((D.2.2 SYn).1 x.1 x.2 u).1.symm.trans c) ((D.2.2 SYn).1 x.1 x.2 u).2.1
      have sv' := (ME_sv (K := tk_K (I0 1) n) (V := fun i => tk_vl (I0 1) n (tk_at (I0 1) n i)) tk_V 501 0 0 gc0 a0 rfl (sv_0 D.1) (fun q => absurd rfl q) SYn MEn).resolve_right (by decide)
      exact TW_sv sv' (TDw_of s3) s1 mJ g3
    · obtain ⟨v1, v2⟩ := V' (by rw [← q1]; exact c)
      obtain ⟨x1, x2, x3⟩ := T.1 c
      have y := H.1 c
      obtain ⟨gc, gr, tw, -, -⟩ := GG_at hJ hrf
      have eq : qt' = qt := Option.some.inj (hrf'.2.2.1.symm.trans ((f 0 9 (by omega)).2.trans x1))
      have el : l' = l := by have := hrf'.2.2.2.2; omega
      subst eq
      subst el
      have hq := hrf.1
      have tq : ∀ p j, (qt' ≤ p ∧ p < qt' + 25) ∨ p = 37 ∨ (41 ≤ p ∧ p ≤ 44) → J p j = I0 p j := fun p j q => by
        rcases q with q | q
        · rw [(f p j (by omega)).1]
          have g := x3 (p - (qt' - 12)) j (by omega) (by omega)
          rw [show p - (qt' - 12) + (qt' - 12) = p by omega] at g
          exact g
        · rw [(f p j (by omega)).1]
          exact y p j (by omega)
      have hi : ∀ p j, 137 ≤ p ∨ (p = 107 ∧ 46 ≤ j) → J p j = I0 p j := fun p j q => (v2 p j (Or.inr (Or.inr q))).trans (o p j (by omega)).1
      have twI : TW l' I := TW_cg (fun p j q => (o p j (by omega)).1) tw
      refine ⟨GC_cg (by omega) (fun p j q => ?_) e48 ?_ gc, ?_, TW_lv l1 mm v2 twI⟩
      · rcases Nat.lt_or_ge p 37 with u | u
        · rcases q with q | q
          · exact tq p j (Or.inl q)
          · rw [(f p j (by omega)).1]; exact y p j (by omega)
        · rcases q with q | q
          · exact tq p j (Or.inl q)
          · rw [(f p j (by omega)).1]; exact y p j (by omega)
      · rw [(f 74 4 (by omega)).2]; exact XR
      · rcases gr with e | gr
        · exact Or.inl ((hi 107 70 (by omega)).trans e)
        · right
          have kf : RF J l' = RF I0 l' := by rw [← RF_at lI hrf', ← RF_at hI00 hrf, KF_cg (by omega) tq]
          have e125 : J 125 l' = I0 125 l' := (v2 125 l' (Or.inl (Or.inl ⟨Or.inr rfl, rfl⟩))).trans (o 125 l' (by omega)).1
          have e137 : J 137 = I0 137 := funext (fun j => hi 137 j (by omega))
          have kx : rxs J l' = rxs I0 l' := by
            unfold rxs rdb
            rw [e125, e137, hi 107 46 (by omega)]
          rw [kf, kx]
          exact gor_cg (fun p j q => hi p j (by omega)) gr⟩
  refine ⟨r1, J, L', R', by rw [ez, eJ], k r1 J L' R' q1 (GL ⟨lw_kk (lw_pm mJ) mk f, mJ, ?_⟩)⟩
  by_cases c : r = 0
  · obtain ⟨⟨g1, g2, g3, -⟩, s, s1, s2, s3, s4⟩ := q3 c
    obtain ⟨⟨h1, h2, h3, h4⟩, -⟩ := H.2 c
    obtain ⟨x1, x2, x3, ⟨x4, x5⟩, x6⟩ := T.2 c
    refine ⟨tp, ⟨fun k hk => ?_, fun k hk => ?_, ?_, fun i hi hj => ?_, fun k hk => ?_⟩, qi, qt, s, ⟨by have := hrf.1; omega, s1, (f 0 9 (by omega)).2.trans x1, (f 2 6 (by omega)).2.trans x2, s2⟩, ⟨(ME (tk_K (I0 1) n) (fun i => tk_vl (I0 1) n (tk_at (I0 1) n i)) 501 0 0 a0).2, fun c j p1 p2 p3 p4 => ?_, TDw_of s3⟩, q_wm (by have := hrf.1; omega) s1 s2 mJ s3 x4 x5 (s4 x5) (wmQ_cg (I := I) (fun p j q => (f p j (by have := hrf.1; omega)).1) x6)⟩
    · rw [(f 37 0 (by omega)).1, h1, (g1 k hk).1]
      simp
    · rw [(f 38 k (by omega)).1, h3 k hk, (g1 k hk).2]
    · rw [(f 37 1 (by omega)).1, h2, g3]
    · rw [(f 37 1 (by omega)).1, h2, kl_0] at hj
      omega
    · rw [(f 39 k (by omega)).1, h4 k hk, g2 k (by omega)]
    · rw [(f _ j (by have := hrf.1; omega)).1]
      exact x3 c j p1 p2 p3 p4
  · obtain ⟨v1, v2⟩ := V' (by rw [← q1]; exact c)
    obtain ⟨x1, x2, x3⟩ := T.1 c
    have y := H.1 c
    obtain ⟨⟨a, k1, k2⟩, k3⟩ := htd
    refine ⟨tp, hdE_cg (I := I0) (fun p j q => ?_) hd, qt, qi, l, ⟨hrf.1, l1, (f 0 9 (by omega)).2.trans x1, (f 2 6 (by omega)).2.trans x2, v1⟩, ⟨a, fun c j p1 p2 p3 p4 => ?_, TDw_lv l1 mm v2 (TDw_cg (fun p j _ _ => (o p j (by omega)).1) k2)⟩, wmE_cg (I := I0) (fun p j q => ?_) k3⟩
    · rcases Nat.lt_or_ge p 107 with u | u
      · rw [(f p j u).1]; exact y p j (by omega)
      · rw [v2 p j (by omega)]; exact (o p j u).1
    · rw [(f _ j (by have := hrf.1; omega)).1, x3 c j p1 (by omega)]
      exact k1 c j p1 p2 p3 p4
    · rcases Nat.lt_or_ge p 107 with u | u
      · have hq := hrf.1
        rw [(f p j u).1]
        have g := x3 (p - (qt - 12)) j (by omega) (by omega)
        rw [show p - (qt - 12) + (qt - 12) = p by omega] at g
        exact g
      · have hq : qt + 24 < 107 := by have := hrf.1; omega
        have cc : ml_hl l p j ∨ ml_hm l p j ∨ 137 ≤ p ∨ (p = 107 ∧ 46 ≤ j) := by
          rcases q with e | ⟨e, -⟩ | ⟨-, e⟩ | ⟨e | e, e2⟩ | ⟨e, -⟩ | ⟨e, e2⟩
          · exfalso; omega
          · exfalso; omega
          · exfalso; omega
          · exact Or.inr (Or.inl (Or.inl ⟨Or.inr (Or.inl e), e2⟩))
          · exact Or.inl (Or.inl ⟨Or.inl e, e2⟩)
          · exact Or.inr (Or.inr (Or.inl (by omega)))
          · exact Or.inr (Or.inr (Or.inr ⟨e, by omega⟩))
        rw [v2 p j cc]; exact (o p j u).1
end
