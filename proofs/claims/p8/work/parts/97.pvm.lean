/-! tells of the reference, exact: the choices of a SAYING -/
/-- a choice is done -/
theorem rH_done {s n q pc : Nat} {A a : sg} {I : sm_I} (h : rH s n q pc pc A a I) (p1 : 1 ≤ pc) (p3 : pc ≤ 3) (h9 : (I 129 (4 * (10 * s + n) + q)).toInt = pc) : ∀ q', q' < q + 1 → rA s n q' a I := by
  obtain ⟨h1, h2, h3, h4, h5, h6⟩ := h
  intro q' hq
  by_cases c1 : q' = q
  · subst c1
    refine ⟨en_ofI (by rw [h3, h9]), by omega, by omega, fun p hp => h6 p (by omega)⟩
  · exact h5 q' (by omega)
/-- or: another choice is awaited -/
theorem rH_or {s n q pc : Nat} {A a : sg} {I : sm_I} (h : rH s n q pc pc A a I) (p1 : 1 ≤ pc) (p3 : pc ≤ 3) (h9 : (I 129 (4 * (10 * s + n) + q)).toInt = pc) (n9 : n < 10) (q3 : q < 3) (h12 : (A.1 12 3).toInt = (n : Int) + 1) : rH s n (q + 1) 1 0 A (ad_part true a) I := by
  have hd := rH_done h p1 p3 h9
  obtain ⟨⟨g1, g2, g3, g4⟩, h2, h3, h4, h5, h6⟩ := h
  have a12 : (a.1 12 3).toInt = (n : Int) + 1 := by rw [g2 12 3 (by decide) (by omega) (by omega) (by omega)]; exact h12
  rw [adp_t n9 q3 a12 h2 (by have := h4 (q + 1) (by omega) (by omega); rw [show 4 * n + q + 1 = 4 * n + (q + 1) by omega]; exact this)]
  have s1 := ml_in1 (x := a.1 22 n) (by omega)
  refine ⟨⟨g1, fun u j u1 u2' u3 u4 => by rw [u2_ne _ _ _ _ (by omega), u2_ne _ _ _ _ (by omega)]; exact g2 u j u1 u2' u3 u4, by rw [u2_ne _ _ _ _ (by omega), u2_ne _ _ _ _ (by omega)]; exact g3, by rw [u2_ne _ _ _ _ (by omega), u2_ne _ _ _ _ (by omega)]; exact g4⟩, by rw [u2_ne _ _ _ _ (by omega), u2_eq]; omega, by rw [u2_eq]; decide, fun q' q1 q2 => by rw [u2_ne _ _ _ _ (by omega), u2_ne _ _ _ _ (by omega)]; exact h4 q' (by omega) q2, fun q' hq => ?_, fun p hp => absurd hp (Nat.not_lt_zero p)⟩
  exact rA_cg (hd q' hq) n9 (by omega) (fun c j c1 c2 j1 j2 => by rw [u2_ne _ _ _ _ (by omega), u2_ne _ _ _ _ (by omega)]) (by rw [u2_ne _ _ _ _ (by omega), u2_ne _ _ _ _ (by omega)]) rfl (fun _ _ _ _ _ _ => rfl)
/-- all choices of a SAYING are read -/
def rF (s n al : Nat) (A a : sg) (I : sm_I) : Prop := (a.2 = A.2 ∧ (∀ u j, u ≠ 2 → ¬ (u = 22 ∧ j = n) → ¬ (u = 23 ∧ 4 * n ≤ j ∧ j < 4 * n + 4) → ¬ (25 ≤ u ∧ u ≤ 28 ∧ 12 * n ≤ j ∧ j < 12 * n + 12) → a.1 u j = A.1 u j) ∧ a.1 2 5 = A.1 2 5) ∧ (a.1 22 n).toInt = al ∧ ∀ q', q' < al → rA s n q' a I
theorem rF_I {s n al : Nat} {A a : sg} {I J : sm_I} (h : rF s n al A a I) (n9 : n < 10) (al4 : al ≤ 4) (h9 : ∀ q', q' < al → J 129 (4 * (10 * s + n) + q') = I 129 (4 * (10 * s + n) + q')) (hI : ∀ p j, 130 ≤ p → p ≤ 133 → 120 * s + 12 * n ≤ j → j < 120 * s + 12 * n + 12 → J p j = I p j) : rF s n al A a J :=
  ⟨h.1, h.2.1, fun q' hq => rA_cg (h.2.2 q' hq) n9 (by omega) (fun _ _ _ _ _ _ => rfl) rfl (h9 q' hq) (fun p j p1 p2 j1 j2 => hI p j p1 p2 (by omega) (by omega))⟩
/-- nothing but the SAYING k, and the reader's place, fault and worst -/
def bfr (k : Nat) (I J : sm_I) : Prop := ∀ p j, ¬ (p = 128 ∧ j = k) → ¬ (p = 129 ∧ 4 * k ≤ j ∧ j < 4 * k + 4) → ¬ (130 ≤ p ∧ p ≤ 133 ∧ 12 * k ≤ j ∧ j < 12 * k + 12) → ¬ (p = 107 ∧ (j = 11 ∨ j = 13 ∨ j = 14 ∨ j = 15 ∨ j = 16)) → J p j = I p j
section
variable {K : Nat → Int32} {P : Nat → Nat} {V W : Nat → Int64} {N : Nat → Int32} {c : Nat} {R0 : Option (Int32 × Nat)} {M0 : Option (Int32 × Nat) × sg}
variable {S : sm_C} {d : Nat} {Φ : sm_Z → Prop} {I0 : sm_I} {L : sm_L} {R : sm_R} {x1 x2 : Int32} {s n t0 : Nat} {tl : Int32} {ts : Nat → Nat} {A : sg}
theorem x_say10 (hT : TS K P V W N c) (h1 : x1.toInt = ((10 * s + n : Nat) : Int)) (hs : s ≤ 1) (n9 : n < 10) (b0 : 0 ≤ (I0 107 20).toInt) (b1 : (I0 107 20).toInt ≤ 50) (hb : ∀ j, j < cntm I0 → 0 ≤ (I0 117 j).toInt) (hf : ∀ nm, -1 ≤ (fdm I0 L nm 2).toInt ∧ (fdm I0 L nm 2).toInt ≤ 9) (htl : tl ≠ 12) (Q : Prop) (hQ : Q → (∀ {u : Nat} {b : sg}, u < c → K u = 15 → b.2 = A.2 → (∀ j, b.1 10 j = A.1 10 j ∧ b.1 11 j = A.1 11 j) → b.1 2 5 = A.1 2 5 → fd b (V u) 3 = fdm I0 L (W u) 2) ∧ (A.1 12 3).toInt = (n : Int) + 1 ∧ A.1 2 7 ≠ 12) (hend : ∀ (J : sm_I) (m' : mo) (o' : Option sg), PX K P V W N c R0 M0 m' o' J L → bfr (10 * s + n) I0 J → (m' = none ∨ ∃ t' g', m' = some (t', 0, g') ∧ t0 < t' ∧ g'.tells = ts ∧ (J 128 (10 * s + n)).toInt = g'.alls ∧ 1 ≤ g'.alls ∧ g'.alls ≤ 4 ∧ ∀ a', o' = some a' → Q ∧ rF s n g'.alls A a' J) → (((J 107 13) ≤ 0 → (vp_in (J 107 19) 2) ∧ ∀ n5 : Int32, n5 = (J 125 (J 107 19).toNatClampNeg) → sm_wp sm_P S (d + 5) 155 0 [.ref 107, .int x2, .int (3 : Int32), .int n5] [] (xLay, J, L, (kM R)) (0, 0) (fun z => ∃ (I6 : sm_I) (L7 : sm_L) (R8 : sm_R), z = (none, (xLay, I6, L7, (kM R8))) ∧ (vp_in (I6 107 19) 2) ∧ ∀ n10 : Int32, n10 = ((I6 125 (I6 107 19).toNatClampNeg) + (1 : Int32)) → (vp_in (I6 107 19) 2) ∧ ∀ I11 : sm_I, I11 = (sm_up I6 125 (I6 107 19).toNatClampNeg n10) → Φ (none, (xLay, I11, L7, (kM R8))))) ∧ (¬ (J 107 13) ≤ 0 → Φ (none, (xLay, J, L, (kM R)))))) (hF : ∀ (J : sm_I), PSm K P W N c R0 none J L → Φ (none, (xLay, J, L, kM R))) : ∀ (f : Nat) (I : sm_I) (x3 : Int32) (m : mo) (o : Option sg), PX K P V W N c R0 M0 m o I L → bfr (10 * s + n) I0 I → (¬ x3 = 0 → m = none ∨ ∃ t g, m = some (t, 17, g) ∧ t0 ≤ t ∧ g.tell = tl ∧ g.tells = ts ∧ (I 128 (10 * s + n)).toInt + 1 = g.alls ∧ 1 ≤ g.alls ∧ g.parts = 1 ∧ 4 < g.alls + f ∧ ∀ a, o = some a → Q ∧ rH s n (g.alls - 1) 1 0 A a I) → (x3 = 0 → m = none ∨ ∃ t' g', m = some (t', 26, g') ∧ t0 < t' ∧ g'.tells = ts ∧ (I 128 (10 * s + n)).toInt = g'.alls ∧ 1 ≤ g'.alls ∧ K t' ≠ 9 ∧ K t' ≠ 13 ∧ ∀ a', o = some a' → Q ∧ rF s n g'.alls A a' I) → sm_wp sm_P S (d + 6) 200 10 [.ref 107, .int x1, .int x2, .int x3] [] (xLay, I, L, kM R) (0, 0) Φ := by
  have n1 := tk_nat h1
  have v : vp_in x1 20 := kl_in (by omega) (by omega)
  have c4 : (4 : Int32).toInt = 4 := by decide
  -- the end of the SAYING
  have fin : ∀ (I : sm_I) (m : mo) (o : Option sg), PX K P V W N c R0 M0 m o I L → bfr (10 * s + n) I0 I → (m = none ∨ ∃ t' g', m = some (t', 26, g') ∧ t0 < t' ∧ g'.tells = ts ∧ (I 128 (10 * s + n)).toInt = g'.alls ∧ 1 ≤ g'.alls ∧ K t' ≠ 9 ∧ K t' ≠ 13 ∧ ∀ a', o = some a' → Q ∧ rF s n g'.alls A a' I) → sm_wp sm_P S (d + 5) 165 0 [.ref 107, .int (4 : Int32)] [] (xLay, I, L, (kM R)) (0, 0) (fun z => ∃ (I1 : sm_I) (L2 : sm_L) (R3 : sm_R), z = (none, (xLay, I1, L2, (kM R3))) ∧ (((I1 107 13) ≤ 0 → (vp_in (I1 107 19) 2) ∧ ∀ n5 : Int32, n5 = (I1 125 (I1 107 19).toNatClampNeg) → sm_wp sm_P S (d + 5) 155 0 [.ref 107, .int x2, .int (3 : Int32), .int n5] [] (xLay, I1, L2, (kM R3)) (0, 0) (fun z => ∃ (I6 : sm_I) (L7 : sm_L) (R8 : sm_R), z = (none, (xLay, I6, L7, (kM R8))) ∧ (vp_in (I6 107 19) 2) ∧ ∀ n10 : Int32, n10 = ((I6 125 (I6 107 19).toNatClampNeg) + (1 : Int32)) → (vp_in (I6 107 19) 2) ∧ ∀ I11 : sm_I, I11 = (sm_up I6 125 (I6 107 19).toNatClampNeg n10) → Φ (none, (xLay, I11, L7, (kM R8))))) ∧ (¬ (I1 107 13) ≤ 0 → Φ (none, (xLay, I1, L2, (kM R3)))))) := by
    intro I m o hX hfr hm
    refine x_mustT (i := 17) (s0 := 26) [9, 13] hT rfl (by decide +kernel) (fun v a => rfl) hX (fun t' s' g' em => ?_) (fun J m2 f2 X2 r2 => ⟨J, L, R, rfl, hend J m2 o X2 (fun p j p1 p2 p3 p4 => by rw [f2 p j p4]; exact hfr p j p1 p2 p3 p4) ?_⟩)
    · rcases hm with hm | ⟨t4, g4, em4, w1, w2, w3, w4, w5, w6, w7⟩
      · rw [hm] at em; cases em
      · rw [em4] at em
        obtain ⟨y1, y2, y3⟩ := mo_i em
        subst y1
        refine ⟨y2.symm, fun j hj ekj => ?_⟩
        rcases List.mem_cons.mp hj with q | q
        · rw [q] at ekj; exact absurd ekj w5
        · rw [List.mem_singleton.mp q] at ekj; exact absurd ekj w6
    · rcases r2 with r2 | ⟨t2, g2, em2, v1, v2, v3, v4⟩
      · exact Or.inl r2
      · rcases hm with hm | ⟨t4, g4, em4, w1, w2, w3, w4, w5, w6, w7⟩
        · rw [hm] at em2; cases em2
        · have em2' := em2
          rw [em4] at em2'
          obtain ⟨y1, y2, y3⟩ := mo_i em2'
          subst y1; subst y3
          have ga : g4.alls ≤ 4 := by
            have hS := hX.1
            rw [em4] at hS
            exact (hS.2.2.2.2.2.2.2 (by decide)).1
          refine Or.inr ⟨t4 + 1, g4, by rw [v4, show fw 26 (Int32.ofNat 17) = 0 from by decide +kernel], by omega, w2, ?_, w4, ga, fun a' ea => ?_⟩
          · rw [f2 128 _ (by omega)]; exact w3
          · obtain ⟨q1, q2⟩ := w7 a' ea
            exact ⟨q1, rF_I q2 n9 ga (fun q' _ => f2 129 _ (by omega)) (fun p j p1 p2 _ _ => f2 p j (by omega))⟩
  intro f
  induction f with
  | zero =>
    intro I x3 m o hX hfr H1 H0
    refine u_X12_tellSaying_10 ⟨fun e => fin I m o hX hfr (H0 e), fun e => ⟨fun z => ?_, fun z => fin I m o hX hfr (Or.inl (PS_n0 hX.1 z))⟩⟩
    exfalso
    rcases H1 e with q' | ⟨t, g, em, a1, a2, a3, a4, a5, a6, a7, a8⟩
    · rw [q'] at hX; exact PS_no hX.1 z
    · have hS := hX.1
      rw [em] at hS
      have := (hS.2.2.2.2.2.2.2 (by decide)).1
      omega
  | succ f ih =>
    intro I x3 m o hX hfr H1 H0
    refine u_X12_tellSaying_10 ⟨fun e => fin I m o hX hfr (H0 e), fun e => ⟨fun z => ⟨v, fun n2 e2 => ?_⟩, fun z => fin I m o hX hfr (Or.inl (PS_n0 hX.1 z))⟩⟩
    rcases H1 e with q' | ⟨t, g, em, a1, a2, a3, a4, a5, a6, a7, a8⟩
    · exfalso; rw [q'] at hX; exact PS_no hX.1 z
    have ga : g.alls ≤ 4 := by
      have hS := hX.1
      rw [em] at hS
      exact (hS.2.2.2.2.2.2.2 (by decide)).1
    obtain ⟨q, hq⟩ : ∃ q, g.alls = q + 1 := ⟨g.alls - 1, by omega⟩
    rw [n1] at e2
    have m4 : ((4 : Int32) * x1).toInt = 4 * ((10 * s + n : Nat) : Int) := ml_mu c4 h1 (by omega) (by omega)
    have q2 : n2.toInt = ((4 * (10 * s + n) + q : Nat) : Int) := by rw [e2, ml_ad m4 rfl (by omega) (by omega)]; omega
    have n2n := tk_nat q2
    have e20 : I 107 20 = I0 107 20 := hfr 107 20 (by omega) (by omega) (by omega) (by omega)
    have f116 : ∀ j, I 116 j = I0 116 j ∧ I 117 j = I0 117 j := fun j => ⟨hfr 116 j (by omega) (by omega) (by omega) (by omega), hfr 117 j (by omega) (by omega) (by omega) (by omega)⟩
    have cm : cntm I = cntm I0 := by unfold cntm; rw [e20]
    have efd : ∀ nm so, fdm I L nm so = fdm I0 L nm so := fun nm so => by unfold fdm; rw [cm, fm_cg f116]
    refine u_X12_tellAll_0 ⟨kl_in (by omega) (by omega), fun I1 e1 => ?_⟩
    rw [n2n] at e1
    have o1 : ∀ p j, ¬ (p = 129 ∧ j = 4 * (10 * s + n) + q) → I1 p j = I p j := fun p j hp => by rw [e1, en_up_ne _ _ _ _ hp]
    have X1 : PX K P V W N c R0 M0 m o I1 L := by rw [e1]; exact PX_up (by decide) (by omega) hX
    have z1 : (I1 129 (4 * (10 * s + n) + q)).toInt = 0 := by rw [e1, en_up_eq]; decide
    refine x_tellAll1 (I0 := I) (A := A) (al := q + 1) (tl := tl) (ts := ts) (t0 := t0) (s := s) (n := n) (q := q) hT q2 rfl hs n9 (by omega) (by rw [e20]; exact b0) (by rw [e20]; exact b1) (fun j hj => by rw [(f116 j).2]; exact hb j (by rw [← cm]; exact hj)) (fun nm => by rw [efd]; exact hf nm) (by omega) htl Q (fun hq' => ⟨fun {u b} uc ku w1 w2 w3 => by rw [efd]; exact (hQ hq').1 uc ku w1 w2 w3, (hQ hq').2⟩) (fun J2 m2 o2 X2 fr2 r2 => ⟨J2, L, R, rfl, fun z2 => ⟨v, fun n34 e34 => ⟨v, fun J3 e3 => ?_⟩⟩, fun z2 => ?_⟩) 3 I1 1 m o X1 (fun p j p1 _ _ => o1 p j p1) (fun _ => Or.inr ⟨t, g, em, a1, hq, a2, a3, by rw [z1, a6]; rfl, by omega, by omega, fun a ea => ?_⟩) (fun y => absurd y (by decide))
    · obtain ⟨y1, y2⟩ := a8 a ea
      rw [hq] at y2
      rw [a6]
      exact ⟨y1, rH_I y2 n9 (by omega) (by omega) (fun q' _ => o1 _ _ (by omega)) (fun p j p1 p2 _ _ => o1 _ _ (by omega))⟩
    · rw [n1] at e34 e3
      have z2 := PS_le0 X2.1 z2
      rcases r2 with r2 | ⟨t2, g2, em2, w1, w2, w3, w4, w5, w6, w7, w8⟩
      · rw [r2] at X2; exact absurd z2 (PS_no X2.1)
      have s128 : J2 128 (10 * s + n) = I 128 (10 * s + n) := fr2 128 _ (by omega) (by omega) (by omega)
      have s34 : n34.toInt = (q : Int) + 1 := by rw [e34, s128]; have := ml_in1 (x := I 128 (10 * s + n)) (by omega); omega
      have o3' : ∀ p j, ¬ (p = 128 ∧ j = 10 * s + n) → J3 p j = J2 p j := fun p j hp => by rw [e3, en_up_ne _ _ _ _ hp]
      have c3' : (J3 128 (10 * s + n)).toInt = (q : Int) + 1 := by rw [e3, en_up_eq]; exact s34
      have X3 : PX K P V W N c R0 M0 m2 o2 J3 L := by rw [e3]; exact PX_up (by decide) (by omega) X2
      have fr3 : bfr (10 * s + n) I0 J3 := fun p j p1 p2 p3 p4 => by rw [o3' p j p1, fr2 p j (by omega) (by omega) p4]; exact hfr p j p1 p2 p3 p4
      have g2p : g2.parts ≤ 3 := by
        have hS := X2.1
        rw [em2] at hS
        exact (hS.2.2.2.2.2.2.2 (by decide)).2
      have h9 : (J3 129 (4 * (10 * s + n) + q)).toInt = g2.parts := by rw [o3' _ _ (by omega)]; exact w5
      have H3 : ∀ a', o2 = some a' → Q ∧ rH s n q g2.parts g2.parts A a' J3 := fun a' ea => by
        obtain ⟨y1, y2⟩ := w8 a' ea
        exact ⟨y1, rH_I y2 n9 (by omega) g2p (fun q' _ => o3' _ _ (by omega)) (fun p j p1 p2 _ _ => o3' _ _ (by omega))⟩
      refine x_is (i := 9) hT (by decide) rfl X3.1 (fun r _ hr => ⟨r, J3, L, R, rfl, fun r0 => ⟨fun _ => ?_, fun y => absurd r0 y⟩, fun r1 => ⟨v, fun c40 => ?_, fun c40 => ⟨fun y => absurd y r1, fun _ => ?_⟩⟩⟩)
      · refine ih J3 r m2 o2 X3 fr3 (fun y => absurd r0 y) (fun _ => Or.inr ⟨t2, g2, em2, w1, w4, by rw [c3', w2]; omega, by omega, fun ek => ?_, w7, fun a' ea => ?_⟩)
        · exact absurd r0 (hr.mpr ⟨t2, 26, g2, em2, ek⟩)
        · obtain ⟨y1, y2⟩ := H3 a' ea
          rw [w2]
          exact ⟨y1, ⟨y2.1.1, y2.1.2.1, y2.1.2.2.1⟩, by rw [y2.2.1]; omega, rH_done y2 w6 g2p h9⟩
      · rw [n1] at c40
        have p4 : q + 1 = 4 := by
          have := congrArg Int32.toInt c40
          rw [c3', c4] at this; omega
        obtain ⟨tk, sk, gk, emk, ek⟩ := hr.mp r1
        rw [em2] at emk
        obtain ⟨y1, y2, y3⟩ := mo_i emk
        subst y1; subst y2; subst y3
        have full := x_full (k := 9) hT (Or.inl rfl) ek (by rw [w3]; exact htl) (by rw [gs9]; intro y; have := y.1; have : g2.alls + 1 ≤ 4 := this; omega) X3 em2
        obtain ⟨e', hE', -⟩ := PX_e X3
        refine x_fail (by decide) X3.1 hE' full (fun J8 f8 _ p8 _ => ⟨J8, L, R, rfl, fun y => absurd y r1, fun _ => ?_⟩)
        refine x_go (k := 0) (e := (0, none)) (M0 := M0) hT p8 (PE_n (PS_no p8)) (fun t' s' g' em' => by cases em') (fun J9 m9 f9 p9 _ r9 => ⟨J9, L, R, rfl, ?_⟩)
        have e9 : m9 = none := by
          rcases r9 with r9 | ⟨t', s', g', em', -⟩
          · exact r9
          · cases em'
        subst e9
        exact ih J9 r none none (PX_F p9) (fun p j p1 p2 p3 p4 => by rw [f9 p j p4, f8 p j p4]; exact fr3 p j p1 p2 p3 p4) (fun _ => Or.inl rfl) (fun _ => Or.inl rfl)
      · rw [n1] at c40
        have p4 : q + 1 ≠ 4 := fun y => c40 (en_ofI (by rw [c3', c4]; omega))
        obtain ⟨tk, sk, gk, emk, ek⟩ := hr.mp r1
        rw [em2] at emk
        obtain ⟨y1, y2, y3⟩ := mo_i emk
        subst y1; subst y2; subst y3
        refine x_join (k := 9) (t := t2) (g := g2) (ad_part true) hT (Or.inl rfl) ek (by rw [w3]; exact htl) ms_9 (by rw [gs9]; exact ⟨by show g2.alls + 1 ≤ 4; omega, by show (1 : Nat) ≤ 3; omega⟩) X3 (Or.inr em2) (fun J9 m9 f9 X9 r9 => ⟨J9, L, R, rfl, ?_⟩)
        refine ih J9 r m9 (o2.map (ad_part true)) X9 (fun p j p1 p2 p3 p4 => by rw [f9 p j p4]; exact fr3 p j p1 p2 p3 p4) (fun _ => ?_) (fun y => absurd y r1)
        rcases r9 with r9 | ⟨-, r9⟩
        · exact Or.inl r9
        · refine Or.inr ⟨t2 + 1, gc_st 26 9 g2, r9, by omega, ?_⟩
          rw [gs9]
          refine ⟨w3, w4, ?_, Nat.le_add_left 1 g2.alls, rfl, ?_, fun a' ea => ?_⟩
          · show (J9 128 (10 * s + n)).toInt + 1 = ((g2.alls + 1 : Nat) : Int)
            rw [f9 128 _ (by omega), c3', w2]; omega
          · show 4 < g2.alls + 1 + f
            omega
          · show Q ∧ rH s n (g2.alls + 1 - 1) 1 0 A a' J9
            obtain ⟨a2', eb, eb'⟩ := om (Or.inr rfl) ea
            obtain ⟨hq', R8⟩ := H3 a2' eb
            refine ⟨hq', ?_⟩
            rw [eb', w2]
            exact rH_I (rH_or R8 w6 g2p h9 n9 (by omega) (hQ hq').2.1) n9 (by omega) (by omega) (fun q' _ => f9 129 _ (by omega)) (fun p j p1 p2 _ _ => f9 p j (by omega))
    · have nz : ¬ J2 107 13 = 0 := fun y => z2 (by rw [y]; decide)
      have em' := PS_n0 X2.1 nz
      subst em'
      exact hF J2 X2.1
end
