/-! THE LAW: read on both sides -/
section
variable {S : sm_C} {I : sm_I} {L : sm_L} {R : sm_R} {r : Int32}
def XreadK (I : sm_I) (_ : sm_L) (R : sm_R) (r : Int32) (I1 : sm_I) (_ : sm_L) (R1 : sm_R) : Prop := I1 0 10 = 0 ∧ ∀ (qt qi n : Nat), ((qt = 12 ∧ qi = 49) ∨ (qt = 49 ∧ qi = 12)) → R 0 9 = some qt → R 2 6 = some qi → (I 0 10).toInt = n → ∃ a0 : sg, RDp (I 1) n a0 r I1 ∧ RTp qt qi (I 1) n a0 I r I1 R1 ∧ HKp I r I1
theorem bk_read (hI : lw_I I L R) : sm_wp sm_P S (46 + 13) 80 0 [.ref 0] [] (xLay, I, L, R) (0, 0) (fun z => ∃ (r : Int32) (I2 : sm_I) (L2 : sm_L) (R2 : sm_R), z = (some (.int r), (xLay, I2, L2, R2)) ∧ XreadK I L R r I2 L2 R2) := by
  obtain ⟨m, -, -, -, qt, qi, l, ⟨e1, -, e3, e4, -⟩, -⟩ := hI
  have bl := kx_len m
  obtain ⟨n, hn⟩ : ∃ n : Nat, (I 0 10).toInt = n := ⟨(I 0 10).toInt.toNat, by omega⟩
  refine kp_read (d := 46) hn m e1 e3 e4 (fun r I1 L1 R1 a0 m1 f1 z1 D T H => ⟨r, I1, L1, R1, rfl, z1, fun qt' qi' n' g1 g3 g4 gn => ?_⟩)
  have u1 : qt' = qt := Option.some.inj (g3.symm.trans e3)
  have u2 : qi' = qi := Option.some.inj (g4.symm.trans e4)
  have u3 : n' = n := by omega
  subst u1
  subst u2
  subst u3
  exact ⟨a0, D, T, H⟩
theorem q_rd {b : Nat → Int32} {n : Nat} {a0 : sg} {r r' : Int32} {I1 J : sm_I} (D : RDp b n a0 r I1) (D' : RDx (tk_at b n) (SY (tk_K b n) 501 0 0 gc0) (ME (tk_K b n) (fun i => tk_vl b n (tk_at b n i)) 501 0 0 a0) r' J) : r = r' ∧ I1 0 11 = J 107 17 ∧ (r = 0 → hcM J ∧ ∃ s : Nat, s ≤ 1 ∧ (J 107 18).toInt = s ∧ TD s (ME (tk_K b n) (fun i => tk_vl b n (tk_at b n i)) 501 0 0 a0).2 J) := by
  obtain ⟨-, D1, D2⟩ := D
  obtain ⟨D3, D4⟩ := D'
  cases s : SY (tk_K b n) 501 0 0 gc0 with
  | some x =>
    have a1 := D1 x.1 x.2 s
    have a2 := D3 x.1 x.2 s
    exact ⟨by rw [a1.1, a2.1], en_ofI (by rw [a1.2.2, a2.2]), fun q => absurd (a1.1.symm.trans q) a1.2.1⟩
  | none =>
    obtain ⟨D1, D2⟩ := D2 s
    obtain ⟨D3, D4⟩ := D4 s
    cases s2 : (ME (tk_K b n) (fun i => tk_vl b n (tk_at b n i)) 501 0 0 a0).1 with
    | some x =>
      have a1 := D1 x.1 x.2 s2
      have a2 := D3 x.1 x.2 s2
      exact ⟨by rw [a1.1, a2.1], en_ofI (by rw [a1.2.2, a2.2]), fun q => absurd (a1.1.symm.trans q) a1.2.1⟩
    | none =>
      have a1 := D2 s2
      have a2 := D4 s2
      exact ⟨by rw [a1.1, a2.1], by rw [a1.2, a2.2.1], fun _ => ⟨a2.2.2.1, a2.2.2.2⟩⟩
theorem lw_xread {C : Int32 → sm_I → sm_L → sm_R → Prop} (hI : MD XreadK r I L R) (k : ∀ (r' : Int32) (I' : sm_I) (L' : sm_L) (R' : sm_R), r = r' → lw_I I' L' R' → C r' I' L' R') : sm_wp sm_P S (51 + 8) 182 0 [.ref 107] [] (xLay, I, L, R) (0, 0) (fun z => ∃ (r : Int32) (I2 : sm_I) (L2 : sm_L) (R2 : sm_R), z = (some (.int r), (xLay, I2, L2, R2)) ∧ C r I2 L2 R2) := by
  obtain ⟨I0, L0, R0, hI0, mk, o, z1, X⟩ := hI
  have mm := MD_m (X := XreadK) hI0 mk o
  obtain ⟨m0, n0, ⟨⟨t1, t2, t3⟩, hd, qt, qi, l, hrf, htd⟩⟩ := hI0
  have bl := kx_len m0
  obtain ⟨n, hn⟩ : ∃ n : Nat, (I0 0 10).toInt = n := ⟨(I0 0 10).toInt.toNat, by omega⟩
  obtain ⟨a0, D, T, H⟩ := X qt qi n hrf.1 hrf.2.2.1 hrf.2.2.2.1 hn
  have hl : (I 107 18).toInt = l := by rw [(o 107 18 (by omega)).1]; exact hrf.2.2.2.2
  have l1 := hrf.2.1
  have e : kM R = R := ml_R mm
  have A : sm_wp sm_P S (51 + 8) 182 0 [.ref 107] [] (xLay, I, L, kM R) (0, 0) (fun z => ∃ (r : Int32) (J : sm_I) (L' : sm_L) (R' : sm_R), z = (some (.int r), (xLay, J, L', kM R')) ∧ en_mem ml_tb mlX (xLay, J, L', R') ∧ en_fr ml_RW (xLay, I, L, R) (xLay, J, L', R') ∧ J 107 2 = 0) := mx_read mm (fun r' J L' R' _ _ mJ fJ zJ => ⟨r', J, L', R', rfl, mJ, fJ, zJ⟩)
  have B : sm_wp sm_P S (51 + 8) 182 0 [.ref 107] [] (xLay, I, L, kM R) (0, 0) (fun z => ∃ (r' : Int32) (J : sm_I) (L' : sm_L) (R' : sm_R), z = (some (.int r'), (xLay, J, L', kM R')) ∧ RDx (tk_at (I0 1) n) (SY (tk_K (I0 1) n) 501 0 0 gc0) (ME (tk_K (I0 1) n) (fun i => tk_vl (I0 1) n (tk_at (I0 1) n i)) 501 0 0 a0) r' J ∧ LVx l I r' J) := y_read (b := I0 1) (n := n) (a0 := a0) hl (by rw [(o 107 2 (by omega)).1, ← t1]; exact hn) mm (fun j hj => ((o 108 j (by omega)).1).trans (t2 j (by omega)).symm) D.1 (fun r J L' R' q qv => ⟨r, J, L', R', rfl, q, qv⟩)
  rw [e] at A B
  refine sm_wp_mono (sm_wp_and A B) (fun z hz => ?_)
  obtain ⟨⟨r1, J, L', R', ez, mJ, fJ, zJ⟩, r', J', L'', R'', ez', D', V'⟩ := hz
  rw [ez] at ez'
  have er : r1 = r' := Value.int.inj (Option.some.inj (congrArg Prod.fst ez'))
  have eI : J = J' := congrArg (fun z : sm_Z => z.2.2.1) ez'
  rw [← er, ← eI] at D' V'
  have eJ : kM R' = R' := ml_R mJ
  obtain ⟨q1, q2, q3⟩ := q_rd D D'
  have f : ∀ p j, p < 107 → J p j = I p j ∧ R' p j = R p j := fun p j hp => fJ.2 p j (lw_hi (W := ml_RW) (by decide +kernel) hp)
  have tp : tpE J := by
    refine ⟨by rw [(f 0 10 (by omega)).1, z1, zJ], fun j hj => ?_, by rw [(f 0 11 (by omega)).1]; exact q2⟩
    rw [(f 0 10 (by omega)).1, z1, kl_0] at hj
    omega
  refine ⟨r1, J, L', R', by rw [ez, eJ], k r1 J L' R' q1 ⟨lw_kk (lw_pm mJ) mk f, mJ, ?_⟩⟩
  by_cases c : r = 0
  · obtain ⟨⟨g1, g2, g3, -⟩, s, s1, s2, s3⟩ := q3 c
    obtain ⟨⟨h1, h2, h3, -⟩, -⟩ := H.2 c
    obtain ⟨x1, x2, x3⟩ := T.2 c
    refine ⟨tp, ⟨fun k hk => ?_, fun k hk => ?_, ?_, fun i hi hj => ?_⟩, qi, qt, s, ⟨by have := hrf.1; omega, s1, (f 0 9 (by omega)).2.trans x1, (f 2 6 (by omega)).2.trans x2, s2⟩, (ME (tk_K (I0 1) n) (fun i => tk_vl (I0 1) n (tk_at (I0 1) n i)) 501 0 0 a0).2, fun c j p1 p2 p3 p4 => ?_, TDw_of s3⟩
    · rw [(f 37 0 (by omega)).1, h1, (g1 k hk).1]
      simp
    · rw [(f 38 k (by omega)).1, h3 k hk, (g1 k hk).2]
    · rw [(f 37 1 (by omega)).1, h2, g3]
    · rw [(f 37 1 (by omega)).1, h2, kl_0] at hj
      omega
    · rw [(f _ j (by have := hrf.1; omega)).1]
      exact x3 c j p1 p2 p3 p4
  · obtain ⟨v1, v2⟩ := V' (by rw [← q1]; exact c)
    obtain ⟨x1, x2, x3⟩ := T.1 c
    have y := H.1 c
    obtain ⟨a, k1, k2⟩ := htd
    refine ⟨tp, hdE_cg (I := I0) (fun p j q => ?_) hd, qt, qi, l, ⟨hrf.1, l1, (f 0 9 (by omega)).2.trans x1, (f 2 6 (by omega)).2.trans x2, v1⟩, a, fun c j p1 p2 p3 p4 => ?_, TDw_lv l1 mm v2 (TDw_cg (fun p j _ _ => (o p j (by omega)).1) k2)⟩
    · rcases Nat.lt_or_ge p 107 with u | u
      · rw [(f p j u).1]; exact y p j (by omega)
      · rw [v2 p j (by omega)]; exact (o p j u).1
    · rw [(f _ j (by have := hrf.1; omega)).1, x3 c j p1 (by omega)]
      exact k1 c j p1 p2 p3 p4
end
