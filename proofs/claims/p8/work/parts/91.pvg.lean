/-! tells of the reference, exact: who and place (wip/pe/mk91.py) -/
def TP (K : Nat → Int32) (P : Nat → Nat) (V W : Nat → Int64) (N : Nat → Int32) (c : Nat) (R0 : Option (Int32 × Nat)) (M0 : Option (Int32 × Nat) × sg) (s t : Nat) (J : sm_I) (L' : sm_L) : Prop := ∃ (m' : mo) (o' : Option sg), PX K P V W N c R0 M0 m' o' J L' ∧ (m' = none ∨ ∃ t' g', m' = some (t', 0, g') ∧ t < t' ∧ rG s g' J ∧ ∀ a', o' = some a' → rL K V W s t' a' J L')
theorem mo_i {t t' : Nat} {s s' : Int32} {g g' : gc} (h : (some (t, s, g) : mo) = some (t', s', g')) : t = t' ∧ s = s' ∧ g = g' := by
  have q := Option.some.inj h
  exact ⟨congrArg Prod.fst q, congrArg (fun x => x.2.1) q, congrArg (fun x => x.2.2) q⟩
theorem x_b117 {I : sm_I} {L : sm_L} {R : sm_R} (hm : en_mem ml_tb mlX (xLay, I, L, R)) : (0 ≤ (I 107 20).toInt ∧ (I 107 20).toInt ≤ 50) ∧ ∀ i, i < cntm I → 0 ≤ (I 117 i).toInt := by
  have b := ml_nm hm
  have n : ((cntm I : Nat) : Int) = (I 107 20).toInt := kl_nat b.1
  refine ⟨b, fun i hi => ?_⟩
  have q : 0 ≤ (I 117 i).toInt ∧ (I 117 i).toInt ≤ 9 := ml_row hm (p := 117) (n := 50) (q := (0, 9)) (fun _ => rfl) i (by omega)
  exact q.1
theorem x_34 {I : sm_I} {L : sm_L} {R : sm_R} {s : Nat} (hs : s ≤ 1) (hm : en_mem ml_tb mlX (xLay, I, L, R)) : 0 ≤ (I 134 s).toInt ∧ (I 134 s).toInt ≤ 4 := ml_row hm (p := 134) (n := 2) (q := (0, 4)) (fun _ => rfl) s (by omega)
/-- a new name may be read -/
theorem x_hn {K : Nat → Int32} {P : Nat → Nat} {V W : Nat → Int64} {N : Nat → Int32} {c s t u : Nat} {a : sg} {I J : sm_I} {L : sm_L} (hT : TS K P V W N c) (f : xfr I J) (hR : rL K V W s t a I L) (tc : t ≤ c) (k : Int32) (uc : u < c) (ku : K u = 15) (b : (I 107 20).toInt < 35) : ((∃ i, i < cntm J ∧ L 115 i = W u) ↔ twc (u2 a 2 7 k).2 (V u) (cnt (u2 a 2 7 k).1) 0 = true) ∧ ¬ 35 ≤ (u2 a 2 7 k).1 2 5 := by
  have ec : cnt (u2 a 2 7 k).1 = cntm J := by unfold cnt cntm; rw [u2_ne _ _ _ _ (by omega), hR.1.1, f 107 20 (by omega)]
  have ecI : cntm J = cntm I := by unfold cntm; rw [f 107 20 (by omega)]
  refine ⟨?_, fun q => ?_⟩
  · rw [ec, ecI]
    exact rN_tw hT hR.1.2 tc uc ku
  · rw [u2_ne _ _ _ _ (by omega), hR.1.1] at q
    have q := kl_le.mp q
    rw [show (35 : Int32).toInt = 35 from by decide] at q
    omega
section
variable {K : Nat → Int32} {P : Nat → Nat} {V W : Nat → Int64} {N : Nat → Int32} {c : Nat} {R0 : Option (Int32 × Nat)} {M0 : Option (Int32 × Nat) × sg}
variable {S : sm_C} {d : Nat} {Φ : sm_Z → Prop} {I : sm_I} {L : sm_L} {R : sm_R} {o : Option sg} {l s t : Nat} {g : gc}
theorem x_tellName0 (hT : TS K P V W N c) (hls : ml_ls l s) (hm : en_mem ml_tb mlX (xLay, I, L, R)) (hI : ml_TI l s I) (hX : PX K P V W N c R0 M0 (some (t, 0, g)) o I L) (hG : rG s g I) (hR : ∀ a, o = some a → rL K V W s t a I L) (ek : K t = 0) (hr : (I 118 s).toInt < 4) (h : ∀ (J : sm_I) (L' : sm_L), TP K P V W N c R0 M0 s t J L' → Φ (none, (xLay, J, L', kM R))) : sm_wp sm_P S (d + 4) 197 0 [.ref 107, .int (0 : Int32)] [] (xLay, I, L, kM R) (0, 0) Φ := by
  obtain ⟨hl1, hs1⟩ := ml_l1 hls
  obtain ⟨sn, sv⟩ := ml_sn hls hI
  have bc := ml_cs hs1 hm
  have b34 := x_34 hs1 hm
  obtain ⟨⟨b0, b1⟩, hb⟩ := x_b117 hm
  have bs : (I 107 20).toInt ≤ ml_sum I s := hI.2.2.1
  unfold ml_sum at bs
  have b49 := ml_nm49 hls hI hm
  have tc : t ≤ c := hX.1.2.2.2.2.2.1
  have ok : gc_ok 0 0 g = true := by
    unfold gc_ok
    rw [if_pos ⟨rfl, by decide⟩]
    refine decide_eq_true ?_
    have := hG.1
    rw [show gw 0 = 0 from by decide, show (sm_room.getD 0 0).toInt = 4 from by decide]
    omega
  refine u_X12_tellName_0 (x_go0 (k := 0) hT ek (by decide) (by decide) (by decide +kernel) (by decide) (by decide) ok hX (fun J1 m1 f1 X1 r1 => ⟨J1, L, R, rfl, ?_⟩))
  have e1 : ∀ t' s' g', m1 = some (t', s', g') → t' = t + 1 ∧ s' = 1 ∧ g' = gc_st 0 0 g ∧ t < c := fun t' s' g' em => by
    rcases r1 with r1 | ⟨q1, q2, q3⟩
    · rw [r1] at em; cases em
    · rw [q3] at em
      obtain ⟨y1, y2, y3⟩ := mo_i em
      exact ⟨y1.symm, by rw [← y2]; decide +kernel, y3.symm, q1⟩
  have c20 : J1 107 20 = I 107 20 := f1 107 20 (by omega)
  refine x_named (s0 := 1) hT (by decide +kernel) (fun v a => by unfold ms; rw [if_neg (fun z => absurd z.1 (by decide))]; unfold tk_take; rw [if_neg (by decide), if_pos (by decide)]) X1 (fun t' s' g' em => (e1 t' s' g' em).2.1) (by rw [c20]; exact b0) (by rw [c20]; exact b1) (fun t' g' a1 em eo uc ku => ?_) (fun J2 m2 o2 f2 X2 r2 => ⟨_, J2, L, R, rfl, ?_⟩)
  · cases eo' : o with
    | none => rw [eo'] at eo; cases eo
    | some a =>
      rw [eo'] at eo
      have := Option.some.inj eo
      subst this
      exact x_hn hT f1 (hR a eo') tc 0 uc ku (by omega)
  · refine x_mustT (i := 17) (s0 := 2) [] hT rfl (by decide +kernel) (fun v a => rfl) X2 (fun t' s' g' em => ⟨?_, fun j hj => absurd hj List.not_mem_nil⟩) (fun J3 m3 f3 X3 r3 => ⟨J3, L, R, rfl, fun z => ?_, fun z => ?_⟩)
    · rcases r2 with r2 | ⟨t2, g2, em2, q1, q2, q3, q4, q5⟩
      · rw [r2] at em; cases em
      · rw [q4] at em
        rw [← (mo_i em).2.1]; decide +kernel
    · have z := PS_le0 X3.1 z
      have n3 : m3 ≠ none := fun q => by rw [q] at X3; exact PS_no X3.1 z
      rcases r3 with r3 | ⟨t3, g3, em3, v1, v2, v3, v4⟩
      · exact absurd r3 n3
      rcases r2 with r2 | ⟨t2, g2, em2, u1, u2', u3, u4, u5⟩
      · rw [r2] at em3; cases em3
      obtain ⟨y1, y2, y3, y4⟩ := e1 t2 1 g2 em2
      rw [u4] at em3
      obtain ⟨w1, w2, w3⟩ := mo_i em3
      have ft : xfr I J3 := xfr_tr f1 (xfr_tr f2 f3)
      have e19 : J3 107 19 = I 107 19 := ft 107 19 (by omega)
      have e20 : J3 107 20 = I 107 20 := ft 107 20 (by omega)
      have ecm : cntm J3 = cntm I := by unfold cntm; rw [e20]
      have h11 : (J1 107 11).toInt = t2 := by
        have hS := X1.1
        rw [em2] at hS
        exact hS.2.2.2.2.1
      have er : J3 118 s = I 118 s := ft 118 s (by omega)
      have eg : g3 = gc_st 0 0 g := by rw [← w3, y3]
      have e4 : fw 2 (Int32.ofNat 17) = 0 := by decide +kernel
      have fin : ∀ n24 : Int32, n24 = J3 118 s → sm_wp sm_P S (d + 3) 155 0 [.ref 107, .int (J1 107 11), .int (0 : Int32), .int n24] [] (xLay, J3, L, kM R) (0, 0) (fun z => ∃ (I25 : sm_I) (L26 : sm_L) (R27 : sm_R), z = (none, (xLay, I25, L26, (kM R27))) ∧ (vp_in (I25 107 19) 2) ∧ ∀ n31 : Int32, n31 = ((I25 118 (I25 107 19).toNatClampNeg) + (1 : Int32)) → (vp_in (I25 107 19) 2) ∧ ∀ I32 : sm_I, I32 = (sm_up I25 118 (I25 107 19).toNatClampNeg n31) → Φ (none, (xLay, I32, L26, (kM R27)))) := by
        intro n24 en
        refine x_knows (t := t2) h11 (by omega) (by rw [e20]; exact b0) (by rw [e20]; exact b49) X3 (fun J4 L4 e4J e4L X4 => ⟨J4, L4, R, rfl, ?_⟩)
        rw [ecm] at e4J e4L
        have o4 : ∀ p j, ¬ ((p = 116 ∨ p = 117) ∧ j = cntm I) → ¬ (p = 107 ∧ j = 20) → J4 p j = J3 p j := fun p j h1 h2 => by rw [e4J, en_up_ne _ _ _ _ (by omega), en_up_ne _ _ _ _ (by omega), en_up_ne _ _ _ _ (by omega)]
        have s4 : J4 107 19 = I 107 19 := by rw [o4 107 19 (by omega) (by omega)]; exact e19
        rw [s4, sn]
        refine ⟨sv, fun n31 en31 => ⟨sv, fun J5 e5 => h J5 L4 ⟨m3, o2, ?_, Or.inr ⟨t3 + 1, g3, ?_, by omega, ?_, fun a' ea => ?_⟩⟩⟩⟩
        · rw [e5]; exact PX_up (by decide) (by omega) X4
        · rw [v4, e4]
        all_goals
          have o5 : ∀ p j, ¬ ((p = 116 ∨ p = 117) ∧ j = cntm I) → ¬ (p = 118 ∧ j = s) → p ≠ 107 → J5 p j = I p j := fun p j h1 h2 h3 => by rw [e5, en_up_ne _ _ _ _ h2, o4 p j h1 (by omega), ft p j (by omega)]
          have r5 : J5 118 s = I 118 s + 1 := by rw [e5, en_up_eq, en31, o4 118 s (by omega) (by omega), er]
          have r5i : (J5 118 s).toInt = (I 118 s).toInt + 1 := by rw [r5]; exact ml_in1 (by omega)
        · rw [eg]
          unfold rG
          obtain ⟨G1, G2, G3, G4, G5, G6, G7⟩ := hG
          refine ⟨?_, ?_, ?_, ?_, ?_, ?_, ?_⟩
          · rw [r5i, gc0_t (by decide), if_pos (by decide)]; omega
          · rw [o5 119 s (by omega) (by omega) (by decide), gc0_t (by decide), if_neg (by decide)]; exact G2
          · rw [o5 120 s (by omega) (by omega) (by decide), gc0_t (by decide), if_neg (by decide)]; exact G3
          · rw [o5 122 s (by omega) (by omega) (by decide), gc0_t (by decide), if_neg (by decide)]; exact G4
          · rw [o5 125 s (by omega) (by omega) (by decide), gc0_t (by decide), if_neg (by decide)]; exact G5
          · rw [o5 134 s (by omega) (by omega) (by decide), gc0_t (by decide), if_neg (by decide)]; exact G6
          · rw [o5 136 s (by omega) (by omega) (by decide), gc0_t (by decide), if_neg (by decide)]; exact G7
        · rcases u5 with u5 | ⟨u5, u6⟩
          · rw [u5] at ea; cases ea
          obtain ⟨a1, ea1, ea2⟩ := om (Or.inr u5) ea
          obtain ⟨a, ea3, ea4⟩ := om (Or.inr rfl) ea1
          obtain ⟨⟨R5, RN⟩, RC, RT, RO, RW, RS, RQ, RB⟩ := hR a ea3
          subst ea2
          subst ea4
          have k7 : (u2 a 2 7 0).1 2 7 = 0 := u2_eq _ _ _ _
          have a12 : ∀ j, (u2 a 2 7 0).1 12 j = a.1 12 j := fun j => u2_ne _ _ _ _ (by omega)
          have ef : a.1 12 0 = I 118 s := RC.1
          obtain ⟨A1, A2, A3⟩ := nmA (v := V t2) (a := u2 a 2 7 0) (k := 0) (mx := 4) (f := 0) k7 (by decide) (fun b => by unfold nb_new; rw [if_pos (by decide)]) (by rw [a12, ef, show (4 : Int32).toInt = 4 from by decide]; exact hr) (by decide)
          have A4 : ∀ p j, ¬ (p = 12 ∧ j = 0) → p ≠ 2 → p ≠ 10 → p ≠ 11 → (nm_add (V t2) (u2 a 2 7 0)).1 p j = a.1 p j := fun p j h1 h2 h3 h4 => by rw [A3 p j h3 h4 (by omega), if_neg h1, u2_ne _ _ _ _ (by omega)]
          have A5 : (nm_add (V t2) (u2 a 2 7 0)).1 12 0 = I 118 s + 1 := by rw [A3 12 0 (by decide) (by decide) (by omega), if_pos ⟨rfl, rfl⟩, a12, ef]
          have eW : L 113 t2 = W t2 := (hX.1.1.2 t2 u1 (by omega)).2
          refine ⟨?_, ?_, ?_, ?_, ?_, ?_, ?_, ?_⟩
          · refine rN_new (a := u2 a 2 7 0) (I := I) (t := t) (so := 0) (x := I 118 s) (L := L) (by rw [u2_ne _ _ _ _ (by omega)]; exact R5) b0 (by omega) (rN_cg RN t (Nat.le_refl _) (fun i _ => ⟨rfl, u2_ne _ _ _ _ (by omega), u2_ne _ _ _ _ (by omega)⟩) (fun i _ => ⟨rfl, rfl, rfl⟩)) (by omega) (by omega) u3 ?_ ?_ ?_ ?_ ?_ (fun i hi => ⟨o5 116 i (by omega) (by omega) (by decide), o5 117 i (by omega) (by omega) (by decide)⟩) ?_ (fun i hi => ?_)
            · rw [A1]; unfold srt; exact Or.inl ⟨rfl, rfl⟩
            · rw [A2, a12, ef]
            · rw [e5, en_up_ne _ _ _ _ (by omega), e4J, en_up_eq, e20]
            · rw [e5, en_up_ne _ _ _ _ (by omega), e4J, en_up_ne _ _ _ _ (by omega), en_up_ne _ _ _ _ (by omega), en_up_eq]
            · rw [e5, en_up_ne _ _ _ _ (by omega), e4J, en_up_ne _ _ _ _ (by omega), en_up_eq, en, er]
            · rw [e4L, en_up_eq, eW]
            · rw [e4L, en_up_ne _ _ _ _ (by omega)]
          · unfold rC
            refine ⟨?_, ?_, ?_, ?_, ?_⟩
            · rw [A5, r5]
            · rw [A4 12 1 (by omega) (by omega) (by omega) (by omega), o5 119 s (by omega) (by omega) (by decide)]; exact RC.2.1
            · rw [A4 12 2 (by omega) (by omega) (by omega) (by omega), o5 122 s (by omega) (by omega) (by decide)]; exact RC.2.2.1
            · rw [A4 12 3 (by omega) (by omega) (by omega) (by omega), o5 125 s (by omega) (by omega) (by decide)]; exact RC.2.2.2.1
            · rw [A4 12 4 (by omega) (by omega) (by omega) (by omega), o5 136 s (by omega) (by omega) (by decide)]; exact RC.2.2.2.2
          · exact rT_cg RT (fun c' j hc => A4 c' j (by omega) (by omega) (by omega) (by omega)) (fun p j hp => o5 p j (by omega) (by omega) (by omega))
          · exact rO_cg RO b34.2 (fun c' j h1 h2 => A4 c' j (by omega) (by omega) (by omega) (by omega)) (by rw [o5 122 s (by omega) (by omega) (by decide)]; exact Int.le_refl _) (o5 134 s (by omega) (by omega) (by decide)) (fun j => o5 135 j (by omega) (by omega) (by decide)) (fun p j h1 h2 _ _ => o5 p j (by omega) (by omega) (by omega))
          · exact rW_cg RW (fun j => A4 13 j (by omega) (by omega) (by omega) (by omega)) (fun j => o5 121 j (by omega) (by omega) (by decide))
          · exact rS_cg RS bc.2.2.2.1.2 hs1 (fun c' j hc => A4 c' j (by omega) (by omega) (by omega) (by omega)) (fun p j hp => o5 p j (by omega) (by omega) (by omega))
          · exact rQ_cg RQ (fun c' j h1 h2 => A4 c' j (by omega) (by omega) (by omega) (by omega)) (fun p j hp => o5 p j (by omega) (by omega) (by omega))
          · exact rB_new (so := 0) (x := I 118 s) RB b0 (by omega) (by rw [e5, en_up_ne _ _ _ _ (by omega), e4J, en_up_eq, e20]) (by rw [e5, en_up_ne _ _ _ _ (by omega), e4J, en_up_ne _ _ _ _ (by omega), en_up_ne _ _ _ _ (by omega), en_up_eq]) (by rw [e5, en_up_ne _ _ _ _ (by omega), e4J, en_up_ne _ _ _ _ (by omega), en_up_eq, en, er]) (fun i hi => ⟨o5 116 i (by omega) (by omega) (by decide), o5 117 i (by omega) (by omega) (by decide)⟩) (by rw [o5 122 s (by omega) (by omega) (by decide)]; exact Int.le_refl _) (fun y => absurd y (by decide))
      rw [e19, sn]
      refine ⟨fun _ => ⟨sv, fun n24 en => sm_wp_mono (fin n24 en) (fun z hz => ?_)⟩, fun q => absurd rfl q⟩
      obtain ⟨J4, L4, R4, ez, w⟩ := hz
      exact ⟨J4, L4, R4, ez, fun _ => w, fun q => absurd rfl q⟩
    · have nz : ¬ J3 107 13 = 0 := fun y => z (by rw [y]; decide)
      have em := PS_n0 X3.1 nz
      exact h J3 L ⟨m3, o2, X3, Or.inl em⟩
theorem x_tellName1 (hT : TS K P V W N c) (hls : ml_ls l s) (hm : en_mem ml_tb mlX (xLay, I, L, R)) (hI : ml_TI l s I) (hX : PX K P V W N c R0 M0 (some (t, 0, g)) o I L) (hG : rG s g I) (hR : ∀ a, o = some a → rL K V W s t a I L) (ek : K t = 1) (hr : (I 119 s).toInt < 6) (h : ∀ (J : sm_I) (L' : sm_L), TP K P V W N c R0 M0 s t J L' → Φ (none, (xLay, J, L', kM R))) : sm_wp sm_P S (d + 4) 197 0 [.ref 107, .int (1 : Int32)] [] (xLay, I, L, kM R) (0, 0) Φ := by
  obtain ⟨hl1, hs1⟩ := ml_l1 hls
  obtain ⟨sn, sv⟩ := ml_sn hls hI
  have bc := ml_cs hs1 hm
  have b34 := x_34 hs1 hm
  obtain ⟨⟨b0, b1⟩, hb⟩ := x_b117 hm
  have bs : (I 107 20).toInt ≤ ml_sum I s := hI.2.2.1
  unfold ml_sum at bs
  have b49 := ml_nm49 hls hI hm
  have tc : t ≤ c := hX.1.2.2.2.2.2.1
  have ok : gc_ok 0 1 g = true := by
    unfold gc_ok
    rw [if_pos ⟨rfl, by decide⟩]
    refine decide_eq_true ?_
    have := hG.2.1
    rw [show gw 1 = 1 from by decide, show (sm_room.getD 1 0).toInt = 6 from by decide]
    omega
  refine u_X12_tellName_0 (x_go0 (k := 1) hT ek (by decide) (by decide) (by decide +kernel) (by decide) (by decide) ok hX (fun J1 m1 f1 X1 r1 => ⟨J1, L, R, rfl, ?_⟩))
  have e1 : ∀ t' s' g', m1 = some (t', s', g') → t' = t + 1 ∧ s' = 1 ∧ g' = gc_st 0 1 g ∧ t < c := fun t' s' g' em => by
    rcases r1 with r1 | ⟨q1, q2, q3⟩
    · rw [r1] at em; cases em
    · rw [q3] at em
      obtain ⟨y1, y2, y3⟩ := mo_i em
      exact ⟨y1.symm, by rw [← y2]; decide +kernel, y3.symm, q1⟩
  have c20 : J1 107 20 = I 107 20 := f1 107 20 (by omega)
  refine x_named (s0 := 1) hT (by decide +kernel) (fun v a => by unfold ms; rw [if_neg (fun z => absurd z.1 (by decide))]; unfold tk_take; rw [if_neg (by decide), if_pos (by decide)]) X1 (fun t' s' g' em => (e1 t' s' g' em).2.1) (by rw [c20]; exact b0) (by rw [c20]; exact b1) (fun t' g' a1 em eo uc ku => ?_) (fun J2 m2 o2 f2 X2 r2 => ⟨_, J2, L, R, rfl, ?_⟩)
  · cases eo' : o with
    | none => rw [eo'] at eo; cases eo
    | some a =>
      rw [eo'] at eo
      have := Option.some.inj eo
      subst this
      exact x_hn hT f1 (hR a eo') tc 1 uc ku (by omega)
  · refine x_mustT (i := 17) (s0 := 2) [] hT rfl (by decide +kernel) (fun v a => rfl) X2 (fun t' s' g' em => ⟨?_, fun j hj => absurd hj List.not_mem_nil⟩) (fun J3 m3 f3 X3 r3 => ⟨J3, L, R, rfl, fun z => ?_, fun z => ?_⟩)
    · rcases r2 with r2 | ⟨t2, g2, em2, q1, q2, q3, q4, q5⟩
      · rw [r2] at em; cases em
      · rw [q4] at em
        rw [← (mo_i em).2.1]; decide +kernel
    · have z := PS_le0 X3.1 z
      have n3 : m3 ≠ none := fun q => by rw [q] at X3; exact PS_no X3.1 z
      rcases r3 with r3 | ⟨t3, g3, em3, v1, v2, v3, v4⟩
      · exact absurd r3 n3
      rcases r2 with r2 | ⟨t2, g2, em2, u1, u2', u3, u4, u5⟩
      · rw [r2] at em3; cases em3
      obtain ⟨y1, y2, y3, y4⟩ := e1 t2 1 g2 em2
      rw [u4] at em3
      obtain ⟨w1, w2, w3⟩ := mo_i em3
      have ft : xfr I J3 := xfr_tr f1 (xfr_tr f2 f3)
      have e19 : J3 107 19 = I 107 19 := ft 107 19 (by omega)
      have e20 : J3 107 20 = I 107 20 := ft 107 20 (by omega)
      have ecm : cntm J3 = cntm I := by unfold cntm; rw [e20]
      have h11 : (J1 107 11).toInt = t2 := by
        have hS := X1.1
        rw [em2] at hS
        exact hS.2.2.2.2.1
      have er : J3 119 s = I 119 s := ft 119 s (by omega)
      have eg : g3 = gc_st 0 1 g := by rw [← w3, y3]
      have e4 : fw 2 (Int32.ofNat 17) = 0 := by decide +kernel
      have fin : ∀ n24 : Int32, n24 = J3 119 s → sm_wp sm_P S (d + 3) 155 0 [.ref 107, .int (J1 107 11), .int (1 : Int32), .int n24] [] (xLay, J3, L, kM R) (0, 0) (fun z => ∃ (I25 : sm_I) (L26 : sm_L) (R27 : sm_R), z = (none, (xLay, I25, L26, (kM R27))) ∧ (vp_in (I25 107 19) 2) ∧ ∀ n31 : Int32, n31 = ((I25 119 (I25 107 19).toNatClampNeg) + (1 : Int32)) → (vp_in (I25 107 19) 2) ∧ ∀ I32 : sm_I, I32 = (sm_up I25 119 (I25 107 19).toNatClampNeg n31) → Φ (none, (xLay, I32, L26, (kM R27)))) := by
        intro n24 en
        refine x_knows (t := t2) h11 (by omega) (by rw [e20]; exact b0) (by rw [e20]; exact b49) X3 (fun J4 L4 e4J e4L X4 => ⟨J4, L4, R, rfl, ?_⟩)
        rw [ecm] at e4J e4L
        have o4 : ∀ p j, ¬ ((p = 116 ∨ p = 117) ∧ j = cntm I) → ¬ (p = 107 ∧ j = 20) → J4 p j = J3 p j := fun p j h1 h2 => by rw [e4J, en_up_ne _ _ _ _ (by omega), en_up_ne _ _ _ _ (by omega), en_up_ne _ _ _ _ (by omega)]
        have s4 : J4 107 19 = I 107 19 := by rw [o4 107 19 (by omega) (by omega)]; exact e19
        rw [s4, sn]
        refine ⟨sv, fun n31 en31 => ⟨sv, fun J5 e5 => h J5 L4 ⟨m3, o2, ?_, Or.inr ⟨t3 + 1, g3, ?_, by omega, ?_, fun a' ea => ?_⟩⟩⟩⟩
        · rw [e5]; exact PX_up (by decide) (by omega) X4
        · rw [v4, e4]
        all_goals
          have o5 : ∀ p j, ¬ ((p = 116 ∨ p = 117) ∧ j = cntm I) → ¬ (p = 119 ∧ j = s) → p ≠ 107 → J5 p j = I p j := fun p j h1 h2 h3 => by rw [e5, en_up_ne _ _ _ _ h2, o4 p j h1 (by omega), ft p j (by omega)]
          have r5 : J5 119 s = I 119 s + 1 := by rw [e5, en_up_eq, en31, o4 119 s (by omega) (by omega), er]
          have r5i : (J5 119 s).toInt = (I 119 s).toInt + 1 := by rw [r5]; exact ml_in1 (by omega)
        · rw [eg]
          unfold rG
          obtain ⟨G1, G2, G3, G4, G5, G6, G7⟩ := hG
          refine ⟨?_, ?_, ?_, ?_, ?_, ?_, ?_⟩
          · rw [o5 118 s (by omega) (by omega) (by decide), gc0_t (by decide), if_neg (by decide)]; exact G1
          · rw [r5i, gc0_t (by decide), if_pos (by decide)]; omega
          · rw [o5 120 s (by omega) (by omega) (by decide), gc0_t (by decide), if_neg (by decide)]; exact G3
          · rw [o5 122 s (by omega) (by omega) (by decide), gc0_t (by decide), if_neg (by decide)]; exact G4
          · rw [o5 125 s (by omega) (by omega) (by decide), gc0_t (by decide), if_neg (by decide)]; exact G5
          · rw [o5 134 s (by omega) (by omega) (by decide), gc0_t (by decide), if_neg (by decide)]; exact G6
          · rw [o5 136 s (by omega) (by omega) (by decide), gc0_t (by decide), if_neg (by decide)]; exact G7
        · rcases u5 with u5 | ⟨u5, u6⟩
          · rw [u5] at ea; cases ea
          obtain ⟨a1, ea1, ea2⟩ := om (Or.inr u5) ea
          obtain ⟨a, ea3, ea4⟩ := om (Or.inr rfl) ea1
          obtain ⟨⟨R5, RN⟩, RC, RT, RO, RW, RS, RQ, RB⟩ := hR a ea3
          subst ea2
          subst ea4
          have k7 : (u2 a 2 7 1).1 2 7 = 1 := u2_eq _ _ _ _
          have a12 : ∀ j, (u2 a 2 7 1).1 12 j = a.1 12 j := fun j => u2_ne _ _ _ _ (by omega)
          have ef : a.1 12 1 = I 119 s := RC.2.1
          obtain ⟨A1, A2, A3⟩ := nmA (v := V t2) (a := u2 a 2 7 1) (k := 1) (mx := 6) (f := 1) k7 (by decide) (fun b => by unfold nb_new; rw [if_neg (by decide), if_pos (by decide)]) (by rw [a12, ef, show (6 : Int32).toInt = 6 from by decide]; exact hr) (by decide)
          have A4 : ∀ p j, ¬ (p = 12 ∧ j = 1) → p ≠ 2 → p ≠ 10 → p ≠ 11 → (nm_add (V t2) (u2 a 2 7 1)).1 p j = a.1 p j := fun p j h1 h2 h3 h4 => by rw [A3 p j h3 h4 (by omega), if_neg h1, u2_ne _ _ _ _ (by omega)]
          have A5 : (nm_add (V t2) (u2 a 2 7 1)).1 12 1 = I 119 s + 1 := by rw [A3 12 1 (by decide) (by decide) (by omega), if_pos ⟨rfl, rfl⟩, a12, ef]
          have eW : L 113 t2 = W t2 := (hX.1.1.2 t2 u1 (by omega)).2
          refine ⟨?_, ?_, ?_, ?_, ?_, ?_, ?_, ?_⟩
          · refine rN_new (a := u2 a 2 7 1) (I := I) (t := t) (so := 1) (x := I 119 s) (L := L) (by rw [u2_ne _ _ _ _ (by omega)]; exact R5) b0 (by omega) (rN_cg RN t (Nat.le_refl _) (fun i _ => ⟨rfl, u2_ne _ _ _ _ (by omega), u2_ne _ _ _ _ (by omega)⟩) (fun i _ => ⟨rfl, rfl, rfl⟩)) (by omega) (by omega) u3 ?_ ?_ ?_ ?_ ?_ (fun i hi => ⟨o5 116 i (by omega) (by omega) (by decide), o5 117 i (by omega) (by omega) (by decide)⟩) ?_ (fun i hi => ?_)
            · rw [A1]; unfold srt; exact Or.inr (Or.inl ⟨rfl, rfl⟩)
            · rw [A2, a12, ef]
            · rw [e5, en_up_ne _ _ _ _ (by omega), e4J, en_up_eq, e20]
            · rw [e5, en_up_ne _ _ _ _ (by omega), e4J, en_up_ne _ _ _ _ (by omega), en_up_ne _ _ _ _ (by omega), en_up_eq]
            · rw [e5, en_up_ne _ _ _ _ (by omega), e4J, en_up_ne _ _ _ _ (by omega), en_up_eq, en, er]
            · rw [e4L, en_up_eq, eW]
            · rw [e4L, en_up_ne _ _ _ _ (by omega)]
          · unfold rC
            refine ⟨?_, ?_, ?_, ?_, ?_⟩
            · rw [A4 12 0 (by omega) (by omega) (by omega) (by omega), o5 118 s (by omega) (by omega) (by decide)]; exact RC.1
            · rw [A5, r5]
            · rw [A4 12 2 (by omega) (by omega) (by omega) (by omega), o5 122 s (by omega) (by omega) (by decide)]; exact RC.2.2.1
            · rw [A4 12 3 (by omega) (by omega) (by omega) (by omega), o5 125 s (by omega) (by omega) (by decide)]; exact RC.2.2.2.1
            · rw [A4 12 4 (by omega) (by omega) (by omega) (by omega), o5 136 s (by omega) (by omega) (by decide)]; exact RC.2.2.2.2
          · exact rT_cg RT (fun c' j hc => A4 c' j (by omega) (by omega) (by omega) (by omega)) (fun p j hp => o5 p j (by omega) (by omega) (by omega))
          · exact rO_cg RO b34.2 (fun c' j h1 h2 => A4 c' j (by omega) (by omega) (by omega) (by omega)) (by rw [o5 122 s (by omega) (by omega) (by decide)]; exact Int.le_refl _) (o5 134 s (by omega) (by omega) (by decide)) (fun j => o5 135 j (by omega) (by omega) (by decide)) (fun p j h1 h2 _ _ => o5 p j (by omega) (by omega) (by omega))
          · exact rW_cg RW (fun j => A4 13 j (by omega) (by omega) (by omega) (by omega)) (fun j => o5 121 j (by omega) (by omega) (by decide))
          · exact rS_cg RS bc.2.2.2.1.2 hs1 (fun c' j hc => A4 c' j (by omega) (by omega) (by omega) (by omega)) (fun p j hp => o5 p j (by omega) (by omega) (by omega))
          · exact rQ_cg RQ (fun c' j h1 h2 => A4 c' j (by omega) (by omega) (by omega) (by omega)) (fun p j hp => o5 p j (by omega) (by omega) (by omega))
          · exact rB_new (so := 1) (x := I 119 s) RB b0 (by omega) (by rw [e5, en_up_ne _ _ _ _ (by omega), e4J, en_up_eq, e20]) (by rw [e5, en_up_ne _ _ _ _ (by omega), e4J, en_up_ne _ _ _ _ (by omega), en_up_ne _ _ _ _ (by omega), en_up_eq]) (by rw [e5, en_up_ne _ _ _ _ (by omega), e4J, en_up_ne _ _ _ _ (by omega), en_up_eq, en, er]) (fun i hi => ⟨o5 116 i (by omega) (by omega) (by decide), o5 117 i (by omega) (by omega) (by decide)⟩) (by rw [o5 122 s (by omega) (by omega) (by decide)]; exact Int.le_refl _) (fun y => absurd y (by decide))
      rw [e19, sn]
      refine ⟨fun q => absurd q (by decide), fun _ => ⟨sv, fun n24 en => sm_wp_mono (fin n24 en) (fun z hz => ?_)⟩⟩
      obtain ⟨J4, L4, R4, ez, w⟩ := hz
      exact ⟨J4, L4, R4, ez, fun q => absurd q (by decide), fun _ => w⟩
    · have nz : ¬ J3 107 13 = 0 := fun y => z (by rw [y]; decide)
      have em := PS_n0 X3.1 nz
      exact h J3 L ⟨m3, o2, X3, Or.inl em⟩
end
