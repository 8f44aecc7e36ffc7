/-! THE LAW: read on both sides -/
section
variable {S : sm_C} {I : sm_I} {L : sm_L} {R : sm_R} {r : Int32}
def XreadK (I : sm_I) (_ : sm_L) (R : sm_R) (r : Int32) (I1 : sm_I) (_ : sm_L) (R1 : sm_R) : Prop := I1 0 10 = 0 ∧ ∀ (qt qi n : Nat), ((qt = 12 ∧ qi = 49) ∨ (qt = 49 ∧ qi = 12)) → R 0 9 = some qt → R 2 6 = some qi → (I 0 10).toInt = n → ∃ a0 : sg, RDp (I 1) n a0 r I1 ∧ RTp qt qi (I 1) n a0 I r I1 R1 ∧ HKp I r I1
theorem bk_read (hI : lw_I I L R) : sm_wp sm_P S (46 + 13) 80 0 [.ref 0] [] (xLay, I, L, R) (0, 0) (fun z => ∃ (r : Int32) (I2 : sm_I) (L2 : sm_L) (R2 : sm_R), z = (some (.int r), (xLay, I2, L2, R2)) ∧ XreadK I L R r I2 L2 R2) := by
  obtain ⟨m, -, -, -, qt, qi, l, ⟨e1, -, e3, e4, -⟩, -⟩ := hI
  have bl := kx_len m
  obtain ⟨n, hn⟩ : ∃ n : Nat, (I 0 10).toInt = n := ⟨(I 0 10).toInt.toNat, by omega⟩
  refine kp_read (d := 46) hn m e1 e3 e4 (fun r I1 L1 R1 a0 m1 f1 z1 D T H => ⟨r, I1, L1, R1, rfl, z1, fun qt' qi' n' g1 g3 g4 gn => ?_⟩)
  have u1 : qt' = qt := Option.some.inj (g3.symm.trans e3)
  have u2 : qi' = qi := Option.some.inj (g4.symm.trans e4)
  have u3 : n' = n := by omega
  subst u1
  subst u2
  subst u3
  exact ⟨a0, D, T, H⟩
theorem q_rd {b : Nat → Int32} {n : Nat} {a0 : sg} {r r' : Int32} {I1 J : sm_I} (D : RDp b n a0 r I1) (D' : RDx (tk_at b n) (SY (tk_K b n) 501 0 0 gc0) (ME (tk_K b n) (fun i => tk_vl b n (tk_at b n i)) 501 0 0 a0) r' J) : r = r' ∧ I1 0 11 = J 107 17 ∧ (r = 0 → hcM J ∧ ∃ s : Nat, s ≤ 1 ∧ (J 107 18).toInt = s ∧ TD s (ME (tk_K b n) (fun i => tk_vl b n (tk_at b n i)) 501 0 0 a0).2 J ∧ (wt (ME (tk_K b n) (fun i => tk_vl b n (tk_at b n i)) 501 0 0 a0).2 → wmJ s J)) := by
  obtain ⟨-, D1, D2⟩ := D
  obtain ⟨D3, D4⟩ := D'
  cases s : SY (tk_K b n) 501 0 0 gc0 with
  | some x =>
    have a1 := D1 x.1 x.2 s
    have a2 := D3 x.1 x.2 s
    exact ⟨by rw [a1.1, a2.1], en_ofI (by rw [a1.2.2, a2.2]), fun q => absurd (a1.1.symm.trans q) a1.2.1⟩
  | none =>
    obtain ⟨D1, D2⟩ := D2 s
    obtain ⟨D3, D4⟩ := D4 s
    cases s2 : (ME (tk_K b n) (fun i => tk_vl b n (tk_at b n i)) 501 0 0 a0).1 with
    | some x =>
      have a1 := D1 x.1 x.2 s2
      have a2 := D3 x.1 x.2 s2
      exact ⟨by rw [a1.1, a2.1], en_ofI (by rw [a1.2.2, a2.2]), fun q => absurd (a1.1.symm.trans q) a1.2.1⟩
    | none =>
      have a1 := D2 s2
      have a2 := D4 s2
      exact ⟨by rw [a1.1, a2.1], by rw [a1.2, a2.2.1], fun _ => ⟨a2.2.2.1, a2.2.2.2⟩⟩
theorem Ft_cg {N N' : Nat → Int} (h : ∀ i, i < 36 → N i = N' i) : ∀ k, k ≤ 6 → ∀ i, i < 36 → Ft k N i = Ft k N' i := by
  intro k
  induction k with
  | zero => intro _ i hi; exact h i hi
  | succ k ih => intro hk i hi; exact Fn_cg (by omega) (ih (by omega)) i hi
theorem q_wm {qi s : Nat} {a : sg} {J : sm_I} {L : sm_L} {R : sm_R} (hq : qi = 12 ∨ qi = 49) (s1 : s ≤ 1) (s2 : (J 107 18).toInt = s) (m : en_mem ml_tb mlX (xLay, J, L, R)) (td : TD s a J) (hn : wn a) (ht : wt a) (wj : wmJ s J) (wq : wmQ qi a J) : wmE qi s J := by
  obtain ⟨⟨c0, c1, c2, -, -⟩, hT, -, hW, -, -⟩ := td
  have V : mlV J s := m.2.2.2.2.2.2.1 s s2.symm
  have tb := (ml_cs s1 m).2.2.1
  have nb := kl_nat tb.1
  have b124 : ∀ i, i < 20 → (J 124 i).toInt ≤ 5 := fun i hi => (ml_row m (p := 124) (n := 20) (q := (-1, 5)) (fun _ => rfl) i hi).2
  have bp : bpA a := fun i hi h14 => by
    rw [c2] at hi
    obtain ⟨e1, e2⟩ := (hT i (by omega)).1 hi
    rw [e1] at h14
    rw [e2]
    exact ⟨V.1 i hi (fun q => h14 (en_ofI (by rw [q]; decide))), b124 _ (by omega)⟩
  obtain ⟨w1, w2⟩ := wj
  obtain ⟨k1, k2⟩ := wq
  obtain ⟨k2, k3⟩ := k2 bp
  obtain ⟨w2, w3⟩ := w2
  have base : ∀ i, i < 36 → nv (a.1 13 i) = (J 121 (36 * s + i)).toInt := fun i hi => by
    rcases hW i hi with ⟨e1, e2⟩ | ⟨e1, e2⟩
    · rw [e1, e2]; decide
    · rw [e2]
      unfold nv
      rw [if_neg (by omega)]
  have p0 := kl_nat hn.1.1
  have p6 := hn.1.2
  have val : ∀ i, i < 36 → nv (J (qi + 1) i) = (J 139 i).toInt := fun i hi => by
    have g := Ft_out (p := (a.1 12 1).toNatClampNeg) (wt_WB ht) (wt_WS hn ht) (6 - (a.1 12 1).toNatClampNeg) (a.1 12 1).toNatClampNeg (Nat.le_refl _) (by omega) i hi
    rw [show (a.1 12 1).toNatClampNeg + (6 - (a.1 12 1).toNatClampNeg) = 6 by omega] at g
    rw [(k1 i hi).2, w1 i hi, ← g]
    exact Ft_cg base 6 (by decide) i hi
  have wk : ∀ i, i < 36 → wkr (J (qi + 1) i) (J 139 i) := fun i hi => by
    have v := val i hi
    have b := (WB_F6 (wt_WB ht) 6 (by decide)).1 i hi
    have e := w1 i hi
    rw [← Ft_cg base 6 (by decide) i hi] at e
    rcases (k1 i hi).1 with c | c
    · left
      rw [c] at v
      exact ⟨c, en_ofI (by rw [← v]; decide)⟩
    · right
      unfold nv at v
      rw [if_neg (by omega)] at v
      exact ⟨by omega, by omega, en_ofI v⟩
  have lst : alst a = mlst s J := by
    unfold alst mlst
    rw [c2]
    refine mall_cg _ (Nat.le_refl _) (fun i j hi hj => ?_)
    obtain ⟨e1, e2⟩ := (hT i (by omega)).1 (by omega)
    obtain ⟨e3, e4⟩ := (hT j (by omega)).1 (by omega)
    unfold mcM mvc
    rw [e1, e2, e3, e4]
  rw [lst] at k2 k3
  refine ⟨fun x y hx hy => wk _ ?_, en_ofI (by rw [k2, w2]), fun j hj => ?_⟩
  · have := (ml_cs s1 m).2.1
    omega
  rw [w2] at hj
  have hj : j < (mlst s J).length := by omega
  obtain ⟨r1, r2, r3⟩ := k3 j hj
  obtain ⟨v1, v2, v3⟩ := w3 j hj
  obtain ⟨u1, u2_, u3, u4⟩ := mall_b (c := mcM s J) (T := (J 122 s).toNatClampNeg) (J 122 s).toNatClampNeg j hj
  obtain ⟨X, eX⟩ : ∃ X, X = ((mlst s J).getD j (0, 0)).1 := ⟨_, rfl⟩
  obtain ⟨Y, eY⟩ : ∃ Y, Y = ((mlst s J).getD j (0, 0)).2 := ⟨_, rfl⟩
  have u1 : X < (J 122 s).toNatClampNeg := by rw [eX]; exact u1
  have u2_ : X < Y := by rw [eX, eY]; exact u2_
  have u3 : Y < (J 122 s).toNatClampNeg := by rw [eY]; exact u3
  have u4 : mcM s J X Y = true := by rw [eX, eY]; exact u4
  rw [← eX, ← eY] at r3 v3
  rw [← eX] at r1 v1
  rw [← eY] at r2 v2
  have g4 : J 123 (10 * s + X) ≠ -1 ∧ J 123 (10 * s + X) = J 123 (10 * s + Y) := by
    unfold mcM mvc at u4
    have u4 : (!decide (J 123 (10 * s + X) = -1) && decide (J 123 (10 * s + X) = J 123 (10 * s + Y)) && !decide (J 124 (10 * s + X) = J 124 (10 * s + Y))) = true := u4
    obtain ⟨q1, -⟩ := Bool.and_eq_true_iff.mp u4
    obtain ⟨q1, q2⟩ := Bool.and_eq_true_iff.mp q1
    exact ⟨fun e => by rw [e] at q1; simp at q1, of_decide_eq_true q2⟩
  have x0 := V.1 X (by omega) (fun q => g4.1 (en_ofI (by rw [q]; decide)))
  have y0 := V.1 Y (by omega) (fun q => g4.1 (g4.2.trans (en_ofI (by rw [q]; decide))))
  have x5 := b124 (10 * s + X) (by omega)
  have y5 := b124 (10 * s + Y) (by omega)
  have xn := kl_nat x0
  have yn := kl_nat y0
  have ax : a.1 15 X = J 124 (10 * s + X) := ((hT X (by omega)).1 (by omega)).2
  have ay : a.1 15 Y = J 124 (10 * s + Y) := ((hT Y (by omega)).1 (by omega)).2
  have i140 : (J 140 j).toInt = X := by rw [v1, Int32.toInt_ofNat_of_lt (by omega)]
  have i141 : (J 141 j).toInt = Y := by rw [v2, Int32.toInt_ofNat_of_lt (by omega)]
  refine ⟨r1.trans v1.symm, r2.trans v2.symm, ?_, by omega, by omega, by omega⟩
  rw [r3, v3, ax, ay]
  exact wk _ (by omega)
theorem lw_xread {C : Int32 → sm_I → sm_L → sm_R → Prop} (hI : MD XreadK r I L R) (k : ∀ (r' : Int32) (I' : sm_I) (L' : sm_L) (R' : sm_R), r = r' → lw_I I' L' R' → C r' I' L' R') : sm_wp sm_P S (51 + 8) 182 0 [.ref 107] [] (xLay, I, L, R) (0, 0) (fun z => ∃ (r : Int32) (I2 : sm_I) (L2 : sm_L) (R2 : sm_R), z = (some (.int r), (xLay, I2, L2, R2)) ∧ C r I2 L2 R2) := by
  obtain ⟨I0, L0, R0, hI0, mk, o, z1, X⟩ := hI
  have mm := MD_m (X := XreadK) hI0 mk o
  obtain ⟨m0, n0, ⟨⟨t1, t2, t3⟩, hd, qt, qi, l, hrf, htd⟩⟩ := hI0
  have bl := kx_len m0
  obtain ⟨n, hn⟩ : ∃ n : Nat, (I0 0 10).toInt = n := ⟨(I0 0 10).toInt.toNat, by omega⟩
  obtain ⟨a0, D, T, H⟩ := X qt qi n hrf.1 hrf.2.2.1 hrf.2.2.2.1 hn
  have hl : (I 107 18).toInt = l := by rw [(o 107 18 (by omega)).1]; exact hrf.2.2.2.2
  have l1 := hrf.2.1
  have e : kM R = R := ml_R mm
  have A : sm_wp sm_P S (51 + 8) 182 0 [.ref 107] [] (xLay, I, L, kM R) (0, 0) (fun z => ∃ (r : Int32) (J : sm_I) (L' : sm_L) (R' : sm_R), z = (some (.int r), (xLay, J, L', kM R')) ∧ en_mem ml_tb mlX (xLay, J, L', R') ∧ en_fr ml_RW (xLay, I, L, R) (xLay, J, L', R') ∧ J 107 2 = 0) := mx_read mm (fun r' J L' R' _ _ mJ fJ zJ => ⟨r', J, L', R', rfl, mJ, fJ, zJ⟩)
  have B : sm_wp sm_P S (51 + 8) 182 0 [.ref 107] [] (xLay, I, L, kM R) (0, 0) (fun z => ∃ (r' : Int32) (J : sm_I) (L' : sm_L) (R' : sm_R), z = (some (.int r'), (xLay, J, L', kM R')) ∧ RDx (tk_at (I0 1) n) (SY (tk_K (I0 1) n) 501 0 0 gc0) (ME (tk_K (I0 1) n) (fun i => tk_vl (I0 1) n (tk_at (I0 1) n i)) 501 0 0 a0) r' J ∧ LVx l I r' J) := y_read (b := I0 1) (n := n) (a0 := a0) hl (by rw [(o 107 2 (by omega)).1, ← t1]; exact hn) mm (fun j hj => ((o 108 j (by omega)).1).trans (t2 j (by omega)).symm) D.1 (fun r J L' R' q qv => ⟨r, J, L', R', rfl, q, qv⟩)
  rw [e] at A B
  refine sm_wp_mono (sm_wp_and A B) (fun z hz => ?_)
  obtain ⟨⟨r1, J, L', R', ez, mJ, fJ, zJ⟩, r', J', L'', R'', ez', D', V'⟩ := hz
  rw [ez] at ez'
  have er : r1 = r' := Value.int.inj (Option.some.inj (congrArg Prod.fst ez'))
  have eI : J = J' := congrArg (fun z : sm_Z => z.2.2.1) ez'
  rw [← er, ← eI] at D' V'
  have eJ : kM R' = R' := ml_R mJ
  obtain ⟨q1, q2, q3⟩ := q_rd D D'
  have f : ∀ p j, p < 107 → J p j = I p j ∧ R' p j = R p j := fun p j hp => fJ.2 p j (lw_hi (W := ml_RW) (by decide +kernel) hp)
  have tp : tpE J := by
    refine ⟨by rw [(f 0 10 (by omega)).1, z1, zJ], fun j hj => ?_, by rw [(f 0 11 (by omega)).1]; exact q2⟩
    rw [(f 0 10 (by omega)).1, z1, kl_0] at hj
    omega
  refine ⟨r1, J, L', R', by rw [ez, eJ], k r1 J L' R' q1 ⟨lw_kk (lw_pm mJ) mk f, mJ, ?_⟩⟩
  by_cases c : r = 0
  · obtain ⟨⟨g1, g2, g3, -⟩, s, s1, s2, s3, s4⟩ := q3 c
    obtain ⟨⟨h1, h2, h3, h4⟩, -⟩ := H.2 c
    obtain ⟨x1, x2, x3, ⟨x4, x5⟩, x6⟩ := T.2 c
    refine ⟨tp, ⟨fun k hk => ?_, fun k hk => ?_, ?_, fun i hi hj => ?_, fun k hk => ?_⟩, qi, qt, s, ⟨by have := hrf.1; omega, s1, (f 0 9 (by omega)).2.trans x1, (f 2 6 (by omega)).2.trans x2, s2⟩, ⟨(ME (tk_K (I0 1) n) (fun i => tk_vl (I0 1) n (tk_at (I0 1) n i)) 501 0 0 a0).2, fun c j p1 p2 p3 p4 => ?_, TDw_of s3⟩, q_wm (by have := hrf.1; omega) s1 s2 mJ s3 x4 x5 (s4 x5) (wmQ_cg (I := I) (fun p j q => (f p j (by have := hrf.1; omega)).1) x6)⟩
    · rw [(f 37 0 (by omega)).1, h1, (g1 k hk).1]
      simp
    · rw [(f 38 k (by omega)).1, h3 k hk, (g1 k hk).2]
    · rw [(f 37 1 (by omega)).1, h2, g3]
    · rw [(f 37 1 (by omega)).1, h2, kl_0] at hj
      omega
    · rw [(f 39 k (by omega)).1, h4 k hk, g2 k (by omega)]
    · rw [(f _ j (by have := hrf.1; omega)).1]
      exact x3 c j p1 p2 p3 p4
  · obtain ⟨v1, v2⟩ := V' (by rw [← q1]; exact c)
    obtain ⟨x1, x2, x3⟩ := T.1 c
    have y := H.1 c
    obtain ⟨⟨a, k1, k2⟩, k3⟩ := htd
    refine ⟨tp, hdE_cg (I := I0) (fun p j q => ?_) hd, qt, qi, l, ⟨hrf.1, l1, (f 0 9 (by omega)).2.trans x1, (f 2 6 (by omega)).2.trans x2, v1⟩, ⟨a, fun c j p1 p2 p3 p4 => ?_, TDw_lv l1 mm v2 (TDw_cg (fun p j _ _ => (o p j (by omega)).1) k2)⟩, wmE_cg (I := I0) (fun p j q => ?_) k3⟩
    · rcases Nat.lt_or_ge p 107 with u | u
      · rw [(f p j u).1]; exact y p j (by omega)
      · rw [v2 p j (by omega)]; exact (o p j u).1
    · rw [(f _ j (by have := hrf.1; omega)).1, x3 c j p1 (by omega)]
      exact k1 c j p1 p2 p3 p4
    · rcases Nat.lt_or_ge p 107 with u | u
      · have hq := hrf.1
        rw [(f p j u).1]
        have g := x3 (p - (qt - 12)) j (by omega) (by omega)
        rw [show p - (qt - 12) + (qt - 12) = p by omega] at g
        exact g
      · have hq : qt + 24 < 107 := by have := hrf.1; omega
        have cc : ml_hl l p j ∨ ml_hm l p j ∨ 137 ≤ p ∨ (p = 107 ∧ 46 ≤ j) := by
          rcases q with e | ⟨e, -⟩ | ⟨-, e⟩ | ⟨e | e, e2⟩ | ⟨e, -⟩ | ⟨e, e2⟩
          · exfalso; omega
          · exfalso; omega
          · exfalso; omega
          · exact Or.inr (Or.inl (Or.inl ⟨Or.inr (Or.inl e), e2⟩))
          · exact Or.inl (Or.inl ⟨Or.inl e, e2⟩)
          · exact Or.inr (Or.inr (Or.inl (by omega)))
          · exact Or.inr (Or.inr (Or.inr ⟨e, by omega⟩))
        rw [v2 p j cc]; exact (o p j u).1
end
