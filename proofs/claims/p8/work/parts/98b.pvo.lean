/-! tells of the reference, exact: say and sure (wip/pe/mk98b.py) -/
theorem ms_tr {v : Int64} {a : sg} (h : ¬ lg_cmp v 1440 ≤ 0 ∨ v.toInt32 = 0 ∨ ¬ v.toInt32 ≤ 100) : ms 13 16 v a = (5, a) := by
  unfold ms
  by_cases c1 : lg_cmp v 1440 ≤ 0
  · rw [if_neg (fun z => z.2 c1)]
    show tk_trust v.toInt32 a = (5, a)
    unfold tk_trust
    by_cases c2 : v.toInt32 = 0
    · rw [if_pos c2]
    · rw [if_neg c2, if_neg]
      rcases h with h | h | h
      · exact absurd c1 h
      · exact absurd h c2
      · exact h
  · rw [if_pos ⟨rfl, c1⟩]
theorem ms_tr0 {v : Int64} {a : sg} (h1 : lg_cmp v 1440 ≤ 0) (h2 : ¬ v.toInt32 = 0) (h3 : v.toInt32 ≤ 100) : ms 13 16 v a = (0, tr_last v.toInt32 a) := by
  unfold ms
  rw [if_neg (fun z => z.2 h1)]
  show tk_trust v.toInt32 a = _
  unfold tk_trust
  rw [if_neg h2, if_pos h3]
theorem tr_last_s {v : Int32} {b : sg} {n : Nat} (h : (b.1 12 3).toInt = (n : Int) + 1) (hn : n < 10) : tr_last v b = u2 b 21 n v := by
  have c10 : (10 : Int32).toInt = 10 := by decide
  have e : (b.1 12 3 - 1).toInt = (n : Int) := by rw [Int32.toInt_sub, kl_1, h]; exact (en_bmod (by omega) (by omega) (Or.inl rfl)).trans (by omega)
  unfold tr_last
  rw [if_neg (fun y => by rw [kl_le, kl_0] at y; omega), if_neg (fun y => by rw [kl_lt, c10] at y; omega), tk_nat e]
section
variable {K : Nat → Int32} {P : Nat → Nat} {V W : Nat → Int64} {N : Nat → Int32} {c : Nat} {R0 : Option (Int32 × Nat)} {M0 : Option (Int32 × Nat) × sg}
variable {S : sm_C} {d : Nat} {Φ : sm_Z → Prop} {I : sm_I} {L : sm_L} {R : sm_R} {m : mo} {o : Option sg} {l s t : Nat} {g : gc}
theorem x_tellSure (hT : TS K P V W N c) (hls : ml_ls l s) (hm : en_mem ml_tb mlX (xLay, I, L, R)) (hI : ml_TI l s I) (hX : PX K P V W N c R0 M0 (some (t, 0, g)) o I L) (hG : rG s g I) (hR : ∀ a, o = some a → rL K V W s t a I L) (ek : K t = 8) (hr : (I 125 s).toInt < 10) (h : ∀ (J : sm_I) (L' : sm_L), TP K P V W N c R0 M0 s t J L' → Φ (none, (xLay, J, L', kM R))) : sm_wp sm_P S (d + 6) 200 0 [.ref 107] [] (xLay, I, L, kM R) (0, 0) Φ := by
  obtain ⟨hl1, hs1⟩ := ml_l1 hls
  obtain ⟨sn, sv⟩ := ml_sn hls hI
  have bc := ml_cs hs1 hm
  obtain ⟨⟨b0, b1⟩, hb⟩ := x_b117 hm
  have bs : (I 107 20).toInt ≤ ml_sum I s := hI.2.2.1
  unfold ml_sum at bs
  have tc : t ≤ c := hX.1.2.2.2.2.2.1
  obtain ⟨n, hn⟩ : ∃ n : Nat, (I 125 s).toInt = n := ⟨(I 125 s).toNatClampNeg, (kl_nat bc.2.2.2.1.1).symm⟩
  have n9 : n < 10 := by omega
  have ok : gc_ok 0 8 g = true := by
    unfold gc_ok
    rw [if_pos ⟨rfl, by decide⟩]
    refine decide_eq_true ?_
    have := hG.2.2.2.2.1
    rw [show gw 8 = 6 from by decide, show (sm_room.getD 6 0).toInt = 10 from by decide]
    omega
  have q1 : ((10 : Int32) * (I 107 19)).toInt = 10 * (s : Int) := ml_mu (by decide) hI.2.1 (by omega) (by omega)
  refine u_X12_tellSaying_0 ?_
  rw [sn]
  refine ⟨sv, fun n1 e1 => ?_⟩
  have h1 : n1.toInt = ((10 * s + n : Nat) : Int) := by rw [e1, ml_ad q1 rfl (by omega) (by omega)]; omega
  have n1n := tk_nat h1
  have v1 : vp_in n1 20 := kl_in (by omega) (by omega)
  refine x_is (i := 8) hT (by decide) rfl hX.1 (fun r5 hr05 hr5 => ⟨r5, I, L, R, rfl, v1, fun I6 e6 => ?_⟩)
  have r5v : r5 = 1 := by
    rcases hr05 with q | q
    · exact absurd q (hr5.mpr ⟨t, 0, g, rfl, ek⟩)
    · exact q
  rw [n1n, r5v, show vp_nar .boolean (1 : Int32) = 1 from by decide] at e6
  have o6 : ∀ p j, ¬ (p = 126 ∧ j = 10 * s + n) → I6 p j = I p j := fun p j hp => by rw [e6, en_up_ne _ _ _ _ hp]
  have X6 : PX K P V W N c R0 M0 (some (t, 0, g)) o I6 L := by rw [e6]; exact PX_up (by decide) (by omega) hX
  refine x_go0 (k := 8) hT ek (by decide) (by decide) (by decide +kernel) (by decide) (by decide) ok X6 (fun J1 m1 f1 X1 r1 => ⟨J1, L, R, rfl, ?_⟩)
  have m1s : ∀ t' s' g', m1 = some (t', s', g') → t' = t + 1 ∧ s' = 14 ∧ g' = gc_st 0 8 g := fun t' s' g' em => by
    rcases r1 with r1 | ⟨q1, q2, q3⟩
    · rw [r1] at em; cases em
    · rw [q3] at em
      obtain ⟨y1, y2, y3⟩ := mo_i em
      exact ⟨y1.symm, by rw [← y2]; decide +kernel, y3.symm⟩
  have c20 : J1 107 20 = I 107 20 := by rw [f1 107 20 (by omega), o6 107 20 (by omega)]
  refine x_named (s0 := 14) hT (by decide +kernel) (fun v a => by rw [ms_15]; rfl) X1 (fun t' s' g' em => (m1s t' s' g' em).2.1) (by rw [c20]; exact b0) (by rw [c20]; exact b1) (fun t' g' a1 em eo uc ku => ?_) (fun J2 m2 o2 f2 X2 r2 => ⟨_, J2, L, R, rfl, v1, fun J15 e15 => ?_⟩)
  · obtain ⟨a, ea3, ea4⟩ := om (Or.inr rfl) eo
    subst ea4
    exact x_hn2 hT c20 (hR a ea3) tc 8 uc ku (by omega)
  rw [n1n] at e15
  have o2f : ∀ p j, ¬ (p = 126 ∧ j = 10 * s + n) → ¬ (p = 107 ∧ (j = 11 ∨ j = 13 ∨ j = 14 ∨ j = 15 ∨ j = 16)) → J2 p j = I p j := fun p j h1 h2 => by rw [f2 p j h2, f1 p j h2, o6 p j h1]
  have k2 : J2 126 (10 * s + n) = 1 := by rw [f2 126 _ (by omega), f1 126 _ (by omega), e6, en_up_eq]
  have o15 : ∀ p j, ¬ ((p = 126 ∨ p = 127) ∧ j = 10 * s + n) → ¬ (p = 107 ∧ (j = 11 ∨ j = 13 ∨ j = 14 ∨ j = 15 ∨ j = 16)) → J15 p j = I p j := fun p j h1 h2 => by rw [e15, en_up_ne _ _ _ _ (by omega), o2f p j (by omega) h2]
  have k126 : J15 126 (10 * s + n) = 1 := by rw [e15, en_up_ne _ _ _ _ (by omega)]; exact k2
  have k127 : J15 127 (10 * s + n) = 1 := by rw [e15, en_up_eq]
  have X15 : PX K P V W N c R0 M0 m2 o2 J15 L := by rw [e15]; exact PX_up (by decide) (by omega) X2
  have m2s : ∀ t' s' g', m2 = some (t', s', g') → t' = t + 2 ∧ s' = 16 ∧ g' = gc_st 0 8 g ∧ t + 1 < c ∧ t + 1 < 500 ∧ K (t + 1) = 15 ∧ (J1 107 11).toInt = ((t + 1 : Nat) : Int) ∧ ∀ a2, o2 = some a2 → ∃ a, rL K V W s t a I L ∧ a2 = nm_add (V (t + 1)) (u2 a 2 7 8) := fun t' s' g' em => by
    rcases r2 with r2 | ⟨t2, g2, em2, q1, q2, q3, q4, q5⟩
    · rw [r2] at em; cases em
    · rw [q4] at em
      obtain ⟨y1, y2, y3⟩ := mo_i em
      obtain ⟨z1, z2, z3⟩ := m1s t2 14 g2 em2
      subst z1
      have hS := X1.1
      rw [em2] at hS
      refine ⟨by omega, by rw [← y2]; decide +kernel, by rw [← y3]; exact z3, q1, q2, q3, hS.2.2.2.2.1, fun a2 ea => ?_⟩
      rcases q5 with q5 | ⟨q5, -⟩
      · rw [q5] at ea; cases ea
      obtain ⟨a1, ea1, ea1'⟩ := om (Or.inr q5) ea
      obtain ⟨a, ea3, ea4⟩ := om (Or.inr rfl) ea1
      subst ea4
      exact ⟨a, hR a ea3, ea1'⟩
  -- the header's numbers
  have nm12 : ∀ a, rL K V W s t a I L → ((nm_add (V (t + 1)) (u2 a 2 7 8)).1 12 3).toInt = (n : Int) + 1 ∧ (nm_add (V (t + 1)) (u2 a 2 7 8)).1 21 n = 1 ∧ (nm_add (V (t + 1)) (u2 a 2 7 8)).1 2 7 = 8 := fun a RL => by
    have ef : a.1 12 3 = I 125 s := RL.2.1.2.2.2.1
    obtain ⟨Y1, Y2, Y3⟩ := nmY (v := V (t + 1)) (a := u2 a 2 7 8) (kk := 8) (n := n) (u2_eq _ _ _ _) (Or.inr rfl) (by rw [u2_ne _ _ _ _ (by omega), ef]; exact hn) n9
    refine ⟨?_, ?_, ?_⟩
    · rw [Y3 12 3 (by decide) (by decide) (by omega), if_pos ⟨rfl, rfl⟩, u2_ne _ _ _ _ (by omega), ef]
      have := ml_in1 (x := I 125 s) (by omega)
      omega
    · rw [Y3 21 n (by decide) (by decide) (by omega), if_neg (by omega), if_neg (by omega), if_neg (by omega), if_neg (by omega), u2_ne _ _ _ _ (by omega)]
      exact ((RL.2.2.2.2.2.1.1 n n9).2 (by omega)).1
    · rw [Y3 2 7 (by decide) (by decide) (by omega), if_neg (by omega), if_neg (by omega), if_neg (by omega), if_neg (by omega), u2_eq]
  -- the colon, and the choices
  have tail : ∀ (s0 : Int32) (ex : List Nat) (Jx : sm_I) (mx : mo) (ox : Option sg) (x7 : Int32), mkx s0 18 ex = true → (∀ (v : Int64) (a : sg), ms s0 (Int32.ofNat 18) v a = (0, a)) → fw s0 (Int32.ofNat 18) = 17 → PX K P V W N c R0 M0 mx ox Jx L → (∀ p j, ¬ ((p = 126 ∨ p = 127) ∧ j = 10 * s + n) → ¬ (p = 107 ∧ (j = 11 ∨ j = 13 ∨ j = 14 ∨ j = 15 ∨ j = 16)) → Jx p j = I p j) → Jx 126 (10 * s + n) = 1 → Jx 127 (10 * s + n) = x7 → (∀ t' s' g', mx = some (t', s', g') → t + 1 < t' ∧ s' = s0 ∧ g' = gc_st 0 8 g ∧ (∀ j, j ∈ ex → K t' = Int32.ofNat j → (j = 9 ∨ j = 13) ∧ g'.tell = 12) ∧ t + 1 < c ∧ t + 1 < 500 ∧ K (t + 1) = 15 ∧ (J1 107 11).toInt = ((t + 1 : Nat) : Int) ∧ ∀ A, ox = some A → ∃ a, rL K V W s t a I L ∧ hdA V 8 (t + 1) n x7 a A) → sm_wp sm_P S (d + 5) 165 0 [.ref 107, .int (5 : Int32)] [] (xLay, Jx, L, kM R) (0, 0) (fun z => ∃ (I20 : sm_I) (L21 : sm_L) (R22 : sm_R), z = (none, (xLay, I20, L21, (kM R22))) ∧ (vp_in n1 20) ∧ ∀ I24 : sm_I, I24 = (sm_up I20 128 n1.toNatClampNeg (0 : Int32)) → sm_wp sm_P S (d + 6) 200 10 [.ref 107, .int n1, .int (J1 107 11), .int (1 : Int32)] [] (xLay, I24, L21, (kM R22)) (0, 0) Φ) := by
    intro s0 ex Jx mx ox x7 hmk htr hfw hXx hfx h126 h127 hmx
    refine x_mustT (i := 18) (s0 := s0) ex hT rfl hmk htr hXx (fun t' s' g' em => ⟨(hmx t' s' g' em).2.1, (hmx t' s' g' em).2.2.2.1⟩) (fun J3 m3 f3 X3 r3 => ⟨J3, L, R, rfl, v1, fun J24 e24 => ?_⟩)
    rw [n1n] at e24
    refine x_sayT (Jh := J3) (m3 := m3) (o3 := ox) (kk := 8) (v6 := 1) (x7 := x7) hT hls hm hI hG tc hX.1.1 hn n9 (Or.inr ⟨rfl, rfl⟩) h1 (fun p j p1 p2 => by rw [f3 p j p2]; exact hfx p j p1 p2) (by rw [f3 126 _ (by omega)]; exact h126) (by rw [f3 127 _ (by omega)]; exact h127) X3 (fun t' s' g' em => ?_) e24 h
    rcases r3 with r3 | ⟨t3, g3, em3, w1, w2, w3, w4⟩
    · rw [r3] at em; cases em
    · rw [w4] at em
      obtain ⟨y1, y2, y3⟩ := mo_i em
      obtain ⟨z1, z2, z3, z4, z5⟩ := hmx t3 s0 g3 em3
      exact ⟨by omega, by rw [← y2]; exact hfw, by rw [← y3]; exact z3, z5⟩
  have hd1 : ∀ A, (∃ a, rL K V W s t a I L ∧ A = nm_add (V (t + 1)) (u2 a 2 7 8)) → ∃ a, rL K V W s t a I L ∧ hdA V 8 (t + 1) n 1 a A := fun A ⟨a, RL, eA⟩ => by
    obtain ⟨w1, w2, w3⟩ := nm12 a RL
    subst eA
    exact ⟨a, RL, rfl, fun _ _ _ _ => rfl, rfl, w3, w2⟩
  refine x_is (i := 7) hT (by decide) rfl X15.1 (fun r19 _ hr19 => ⟨r19, J15, L, R, rfl, fun r0 => ?_, fun r0 => ⟨v1, fun c126 => ?_, fun c126 => ?_⟩⟩)
  · refine tail 16 [] J15 m2 o2 1 (by decide +kernel) (fun v a => rfl) (by decide +kernel) X15 o15 k126 k127 (fun t' s' g' em => ?_)
    obtain ⟨y1, y2, y3, y4, y5, y6, y7, y8⟩ := m2s t' s' g' em
    refine ⟨by omega, y2, y3, fun j hj ekj => ?_, y4, y5, y6, y7, fun A ea => hd1 A (y8 A ea)⟩
    exact absurd hj List.not_mem_nil
  · rw [n1n, k126] at c126
    exact absurd c126 (by decide)
  · refine tail 16 [] J15 m2 o2 1 (by decide +kernel) (fun v a => rfl) (by decide +kernel) X15 o15 k126 k127 (fun t' s' g' em => ?_)
    obtain ⟨y1, y2, y3, y4, y5, y6, y7, y8⟩ := m2s t' s' g' em
    exact ⟨by omega, y2, y3, fun j hj => absurd hj List.not_mem_nil, y4, y5, y6, y7, fun A ea => hd1 A (y8 A ea)⟩
theorem x_tellSay (hT : TS K P V W N c) (hls : ml_ls l s) (hm : en_mem ml_tb mlX (xLay, I, L, R)) (hI : ml_TI l s I) (hX : PX K P V W N c R0 M0 (some (t, 0, g)) o I L) (hG : rG s g I) (hR : ∀ a, o = some a → rL K V W s t a I L) (ek : K t = 6) (hr : (I 125 s).toInt < 10) (h : ∀ (J : sm_I) (L' : sm_L), TP K P V W N c R0 M0 s t J L' → Φ (none, (xLay, J, L', kM R))) : sm_wp sm_P S (d + 6) 200 0 [.ref 107] [] (xLay, I, L, kM R) (0, 0) Φ := by
  obtain ⟨hl1, hs1⟩ := ml_l1 hls
  obtain ⟨sn, sv⟩ := ml_sn hls hI
  have bc := ml_cs hs1 hm
  obtain ⟨⟨b0, b1⟩, hb⟩ := x_b117 hm
  have bs : (I 107 20).toInt ≤ ml_sum I s := hI.2.2.1
  unfold ml_sum at bs
  have tc : t ≤ c := hX.1.2.2.2.2.2.1
  obtain ⟨n, hn⟩ : ∃ n : Nat, (I 125 s).toInt = n := ⟨(I 125 s).toNatClampNeg, (kl_nat bc.2.2.2.1.1).symm⟩
  have n9 : n < 10 := by omega
  have ok : gc_ok 0 6 g = true := by
    unfold gc_ok
    rw [if_pos ⟨rfl, by decide⟩]
    refine decide_eq_true ?_
    have := hG.2.2.2.2.1
    rw [show gw 6 = 6 from by decide, show (sm_room.getD 6 0).toInt = 10 from by decide]
    omega
  have q1 : ((10 : Int32) * (I 107 19)).toInt = 10 * (s : Int) := ml_mu (by decide) hI.2.1 (by omega) (by omega)
  refine u_X12_tellSaying_0 ?_
  rw [sn]
  refine ⟨sv, fun n1 e1 => ?_⟩
  have h1 : n1.toInt = ((10 * s + n : Nat) : Int) := by rw [e1, ml_ad q1 rfl (by omega) (by omega)]; omega
  have n1n := tk_nat h1
  have v1 : vp_in n1 20 := kl_in (by omega) (by omega)
  refine x_is (i := 8) hT (by decide) rfl hX.1 (fun r5 hr05 hr5 => ⟨r5, I, L, R, rfl, v1, fun I6 e6 => ?_⟩)
  have r5v : r5 = 0 := by
    rcases hr05 with q | q
    · exact q
    · exfalso
      obtain ⟨t', s', g', em, ek8⟩ := hr5.mp (by rw [q]; decide)
      have e := (mo_i em).1
      subst e
      rw [ek] at ek8
      exact absurd ek8 (by decide)
  rw [n1n, r5v, show vp_nar .boolean (0 : Int32) = 0 from by decide] at e6
  have o6 : ∀ p j, ¬ (p = 126 ∧ j = 10 * s + n) → I6 p j = I p j := fun p j hp => by rw [e6, en_up_ne _ _ _ _ hp]
  have X6 : PX K P V W N c R0 M0 (some (t, 0, g)) o I6 L := by rw [e6]; exact PX_up (by decide) (by omega) hX
  refine x_go0 (k := 6) hT ek (by decide) (by decide) (by decide +kernel) (by decide) (by decide) ok X6 (fun J1 m1 f1 X1 r1 => ⟨J1, L, R, rfl, ?_⟩)
  have m1s : ∀ t' s' g', m1 = some (t', s', g') → t' = t + 1 ∧ s' = 11 ∧ g' = gc_st 0 6 g := fun t' s' g' em => by
    rcases r1 with r1 | ⟨q1, q2, q3⟩
    · rw [r1] at em; cases em
    · rw [q3] at em
      obtain ⟨y1, y2, y3⟩ := mo_i em
      exact ⟨y1.symm, by rw [← y2]; decide +kernel, y3.symm⟩
  have c20 : J1 107 20 = I 107 20 := by rw [f1 107 20 (by omega), o6 107 20 (by omega)]
  refine x_named (s0 := 11) hT (by decide +kernel) (fun v a => by rw [ms_15]; rfl) X1 (fun t' s' g' em => (m1s t' s' g' em).2.1) (by rw [c20]; exact b0) (by rw [c20]; exact b1) (fun t' g' a1 em eo uc ku => ?_) (fun J2 m2 o2 f2 X2 r2 => ⟨_, J2, L, R, rfl, v1, fun J15 e15 => ?_⟩)
  · obtain ⟨a, ea3, ea4⟩ := om (Or.inr rfl) eo
    subst ea4
    exact x_hn2 hT c20 (hR a ea3) tc 6 uc ku (by omega)
  rw [n1n] at e15
  have o2f : ∀ p j, ¬ (p = 126 ∧ j = 10 * s + n) → ¬ (p = 107 ∧ (j = 11 ∨ j = 13 ∨ j = 14 ∨ j = 15 ∨ j = 16)) → J2 p j = I p j := fun p j h1 h2 => by rw [f2 p j h2, f1 p j h2, o6 p j h1]
  have k2 : J2 126 (10 * s + n) = 0 := by rw [f2 126 _ (by omega), f1 126 _ (by omega), e6, en_up_eq]
  have o15 : ∀ p j, ¬ ((p = 126 ∨ p = 127) ∧ j = 10 * s + n) → ¬ (p = 107 ∧ (j = 11 ∨ j = 13 ∨ j = 14 ∨ j = 15 ∨ j = 16)) → J15 p j = I p j := fun p j h1 h2 => by rw [e15, en_up_ne _ _ _ _ (by omega), o2f p j (by omega) h2]
  have k126 : J15 126 (10 * s + n) = 0 := by rw [e15, en_up_ne _ _ _ _ (by omega)]; exact k2
  have k127 : J15 127 (10 * s + n) = 1 := by rw [e15, en_up_eq]
  have X15 : PX K P V W N c R0 M0 m2 o2 J15 L := by rw [e15]; exact PX_up (by decide) (by omega) X2
  have m2s : ∀ t' s' g', m2 = some (t', s', g') → t' = t + 2 ∧ s' = 12 ∧ g' = gc_st 0 6 g ∧ t + 1 < c ∧ t + 1 < 500 ∧ K (t + 1) = 15 ∧ (J1 107 11).toInt = ((t + 1 : Nat) : Int) ∧ ∀ a2, o2 = some a2 → ∃ a, rL K V W s t a I L ∧ a2 = nm_add (V (t + 1)) (u2 a 2 7 6) := fun t' s' g' em => by
    rcases r2 with r2 | ⟨t2, g2, em2, q1, q2, q3, q4, q5⟩
    · rw [r2] at em; cases em
    · rw [q4] at em
      obtain ⟨y1, y2, y3⟩ := mo_i em
      obtain ⟨z1, z2, z3⟩ := m1s t2 11 g2 em2
      subst z1
      have hS := X1.1
      rw [em2] at hS
      refine ⟨by omega, by rw [← y2]; decide +kernel, by rw [← y3]; exact z3, q1, q2, q3, hS.2.2.2.2.1, fun a2 ea => ?_⟩
      rcases q5 with q5 | ⟨q5, -⟩
      · rw [q5] at ea; cases ea
      obtain ⟨a1, ea1, ea1'⟩ := om (Or.inr q5) ea
      obtain ⟨a, ea3, ea4⟩ := om (Or.inr rfl) ea1
      subst ea4
      exact ⟨a, hR a ea3, ea1'⟩
  -- the header's numbers
  have nm12 : ∀ a, rL K V W s t a I L → ((nm_add (V (t + 1)) (u2 a 2 7 6)).1 12 3).toInt = (n : Int) + 1 ∧ (nm_add (V (t + 1)) (u2 a 2 7 6)).1 21 n = 1 ∧ (nm_add (V (t + 1)) (u2 a 2 7 6)).1 2 7 = 6 := fun a RL => by
    have ef : a.1 12 3 = I 125 s := RL.2.1.2.2.2.1
    obtain ⟨Y1, Y2, Y3⟩ := nmY (v := V (t + 1)) (a := u2 a 2 7 6) (kk := 6) (n := n) (u2_eq _ _ _ _) (Or.inl rfl) (by rw [u2_ne _ _ _ _ (by omega), ef]; exact hn) n9
    refine ⟨?_, ?_, ?_⟩
    · rw [Y3 12 3 (by decide) (by decide) (by omega), if_pos ⟨rfl, rfl⟩, u2_ne _ _ _ _ (by omega), ef]
      have := ml_in1 (x := I 125 s) (by omega)
      omega
    · rw [Y3 21 n (by decide) (by decide) (by omega), if_neg (by omega), if_neg (by omega), if_neg (by omega), if_neg (by omega), u2_ne _ _ _ _ (by omega)]
      exact ((RL.2.2.2.2.2.1.1 n n9).2 (by omega)).1
    · rw [Y3 2 7 (by decide) (by decide) (by omega), if_neg (by omega), if_neg (by omega), if_neg (by omega), if_neg (by omega), u2_eq]
  -- the colon, and the choices
  have tail : ∀ (s0 : Int32) (ex : List Nat) (Jx : sm_I) (mx : mo) (ox : Option sg) (x7 : Int32), mkx s0 18 ex = true → (∀ (v : Int64) (a : sg), ms s0 (Int32.ofNat 18) v a = (0, a)) → fw s0 (Int32.ofNat 18) = 17 → PX K P V W N c R0 M0 mx ox Jx L → (∀ p j, ¬ ((p = 126 ∨ p = 127) ∧ j = 10 * s + n) → ¬ (p = 107 ∧ (j = 11 ∨ j = 13 ∨ j = 14 ∨ j = 15 ∨ j = 16)) → Jx p j = I p j) → Jx 126 (10 * s + n) = 0 → Jx 127 (10 * s + n) = x7 → (∀ t' s' g', mx = some (t', s', g') → t + 1 < t' ∧ s' = s0 ∧ g' = gc_st 0 6 g ∧ (∀ j, j ∈ ex → K t' = Int32.ofNat j → (j = 9 ∨ j = 13) ∧ g'.tell = 12) ∧ t + 1 < c ∧ t + 1 < 500 ∧ K (t + 1) = 15 ∧ (J1 107 11).toInt = ((t + 1 : Nat) : Int) ∧ ∀ A, ox = some A → ∃ a, rL K V W s t a I L ∧ hdA V 6 (t + 1) n x7 a A) → sm_wp sm_P S (d + 5) 165 0 [.ref 107, .int (5 : Int32)] [] (xLay, Jx, L, kM R) (0, 0) (fun z => ∃ (I20 : sm_I) (L21 : sm_L) (R22 : sm_R), z = (none, (xLay, I20, L21, (kM R22))) ∧ (vp_in n1 20) ∧ ∀ I24 : sm_I, I24 = (sm_up I20 128 n1.toNatClampNeg (0 : Int32)) → sm_wp sm_P S (d + 6) 200 10 [.ref 107, .int n1, .int (J1 107 11), .int (1 : Int32)] [] (xLay, I24, L21, (kM R22)) (0, 0) Φ) := by
    intro s0 ex Jx mx ox x7 hmk htr hfw hXx hfx h126 h127 hmx
    refine x_mustT (i := 18) (s0 := s0) ex hT rfl hmk htr hXx (fun t' s' g' em => ⟨(hmx t' s' g' em).2.1, (hmx t' s' g' em).2.2.2.1⟩) (fun J3 m3 f3 X3 r3 => ⟨J3, L, R, rfl, v1, fun J24 e24 => ?_⟩)
    rw [n1n] at e24
    refine x_sayT (Jh := J3) (m3 := m3) (o3 := ox) (kk := 6) (v6 := 0) (x7 := x7) hT hls hm hI hG tc hX.1.1 hn n9 (Or.inl ⟨rfl, rfl⟩) h1 (fun p j p1 p2 => by rw [f3 p j p2]; exact hfx p j p1 p2) (by rw [f3 126 _ (by omega)]; exact h126) (by rw [f3 127 _ (by omega)]; exact h127) X3 (fun t' s' g' em => ?_) e24 h
    rcases r3 with r3 | ⟨t3, g3, em3, w1, w2, w3, w4⟩
    · rw [r3] at em; cases em
    · rw [w4] at em
      obtain ⟨y1, y2, y3⟩ := mo_i em
      obtain ⟨z1, z2, z3, z4, z5⟩ := hmx t3 s0 g3 em3
      exact ⟨by omega, by rw [← y2]; exact hfw, by rw [← y3]; exact z3, z5⟩
  have hd1 : ∀ A, (∃ a, rL K V W s t a I L ∧ A = nm_add (V (t + 1)) (u2 a 2 7 6)) → ∃ a, rL K V W s t a I L ∧ hdA V 6 (t + 1) n 1 a A := fun A ⟨a, RL, eA⟩ => by
    obtain ⟨w1, w2, w3⟩ := nm12 a RL
    subst eA
    exact ⟨a, RL, rfl, fun _ _ _ _ => rfl, rfl, w3, w2⟩
  refine x_is (i := 7) hT (by decide) rfl X15.1 (fun r19 _ hr19 => ⟨r19, J15, L, R, rfl, fun r0 => ?_, fun r0 => ⟨v1, fun c126 => ?_, fun c126 => ?_⟩⟩)
  · refine tail 12 [7] J15 m2 o2 1 (by decide +kernel) (fun v a => rfl) (by decide +kernel) X15 o15 k126 k127 (fun t' s' g' em => ?_)
    obtain ⟨y1, y2, y3, y4, y5, y6, y7, y8⟩ := m2s t' s' g' em
    refine ⟨by omega, y2, y3, fun j hj ekj => ?_, y4, y5, y6, y7, fun A ea => hd1 A (y8 A ea)⟩
    rw [List.mem_singleton.mp hj] at ekj
    exact absurd r0 (hr19.mpr ⟨t', s', g', em, ekj⟩)
  · obtain ⟨tk, sk, gk, emk, ekk⟩ := hr19.mp r0
    refine x_goT (i := 7) (s0 := 12) [18] hT (by decide +kernel) (fun v a => rfl) X15 (fun t' s' g' em => ⟨(m2s t' s' g' em).2.1, ?_⟩) (fun J3 m3 f3 X3 r3 => ⟨J3, L, R, rfl, ?_⟩)
    · rw [emk] at em
      rw [← (mo_i em).1]; exact ekk
    have o3f : ∀ p j, ¬ ((p = 126 ∨ p = 127) ∧ j = 10 * s + n) → ¬ (p = 107 ∧ (j = 11 ∨ j = 13 ∨ j = 14 ∨ j = 15 ∨ j = 16)) → J3 p j = I p j := fun p j h1 h2 => by rw [f3 p j h2]; exact o15 p j h1 h2
    have k3 : J3 126 (10 * s + n) = 0 := by rw [f3 126 _ (by omega)]; exact k126
    have m3s : ∀ t' s' g', m3 = some (t', s', g') → t' = t + 3 ∧ s' = 13 ∧ g' = gc_st 0 6 g ∧ t + 1 < c ∧ t + 1 < 500 ∧ K (t + 1) = 15 ∧ (J1 107 11).toInt = ((t + 1 : Nat) : Int) ∧ ∀ a2, o2 = some a2 → ∃ a, rL K V W s t a I L ∧ a2 = nm_add (V (t + 1)) (u2 a 2 7 6) := fun t' s' g' em => by
      rcases r3 with r3 | ⟨t3, g3, em3, w1, w2, w3, w4⟩
      · rw [r3] at em; cases em
      · rw [w4] at em
        obtain ⟨y1, y2, y3⟩ := mo_i em
        obtain ⟨z1, z2, z3, z4⟩ := m2s t3 12 g3 em3
        exact ⟨by omega, by rw [← y2]; decide +kernel, by rw [← y3]; exact z3, z4⟩
    have bt := X3.1.2.1
    have bt2 := X3.1.2.2.1
    refine x_is (i := 16) hT (by decide) rfl X3.1 (fun r39 _ hr39 => ⟨r39, J3, L, R, rfl, fun r30 => ⟨v1, fun J40 e40 => ?_⟩, fun r30 => ⟨kl_in bt (by omega), fun n83 e83 => ⟨v1, fun J84 e84 => ?_⟩⟩⟩)
    · -- no number
      rw [n1n] at e40
      have X40 : PX K P V W N c R0 M0 m3 o2 J40 L := by rw [e40]; exact PX_up (by decide) (by omega) X3
      obtain ⟨e, hE, ee⟩ := PX_e X40
      refine x_must (i := 16) [] hT rfl X40.1 hE (fun t' s' g' em => ⟨by rw [(m3s t' s' g' em).2.1]; decide +kernel, fun j hj => absurd hj List.not_mem_nil⟩) (fun J41 m4 f4 p4 q4 r4 => ⟨J41, L, R, rfl, ?_⟩)
      have em4 : m4 = none := by
        rcases r4 with r4 | ⟨t4, s4, g4, em4, -, -, ek4, -⟩
        · exact r4
        · exact absurd r30 (hr39.mpr ⟨t4, s4, g4, em4, ek4⟩)
      subst em4
      have nz := PS_no p4
      refine ⟨fun z => absurd z nz, fun _ => ?_⟩
      exact tail 16 [] J41 none none (J41 127 (10 * s + n)) (by decide +kernel) (fun v a => rfl) (by decide +kernel) (PX_F p4) (fun p j h1 h2 => by rw [f4 p j h2, e40, en_up_ne _ _ _ _ (by omega)]; exact o3f p j h1 h2) (by rw [f4 126 _ (by omega), e40, en_up_ne _ _ _ _ (by omega)]; exact k3) rfl (fun t' s' g' em => by cases em)
    · obtain ⟨tq, sq, gq, emq, ekq⟩ := hr39.mp r30
      have ekq : K tq = 16 := ekq
      obtain ⟨T1, T2, T3, u1, u5, u3, h8, y8⟩ := m3s tq sq gq emq
      rw [n1n] at e84
      have hS3 := X3.1
      rw [emq] at hS3
      have h11 : (J3 107 11).toInt = tq := hS3.2.2.2.2.1
      have tqc : tq < c := by
        have q := hS3.2.2.2.2.2.1
        rcases Nat.lt_or_ge tq c with y | y
        · exact y
        · exfalso
          have e : tq = c := by omega
          have c5 : c ≤ 500 := by have := hS3.2.2.1; omega
          have k21 := hT.2.2.1 c5
          rw [← e, ekq] at k21
          exact absurd k21 (by decide)
      have tq5 : tq ≤ 500 := by have := hS3.2.2.1; omega
      have eN : n83 = N tq := by rw [e83, tk_nat h11]; exact (X3.1.1.2 tq tqc tq5).1
      obtain ⟨vv, v1', v2', v3'⟩ := hT.2.2.2.2.2.1 tq tqc ekq
      have e32 : (V tq).toInt32 = N tq := by
        refine en_ofI ?_
        rw [Int64.toInt_toInt32, v2', v3']
        exact en_bmod (by omega) (by omega) (Or.inl rfl)
      have c1440' : (1440 : Int64).toInt = 1440 := by decide
      have c100 : (100 : Int32).toInt = 100 := by decide
      have X84 : PX K P V W N c R0 M0 m3 o2 J84 L := by rw [e84]; exact PX_up (by decide) (by omega) X3
      obtain ⟨e, hE, ee⟩ := PX_e X84
      have n21 := hT.2.2.2.1 tq tqc
      refine x_must (i := 16) [] hT rfl X84.1 hE (fun t' s' g' em => ⟨by rw [(m3s t' s' g' em).2.1]; decide +kernel, fun j hj => absurd hj List.not_mem_nil⟩) (fun J85 m4 f4 p4 q4 r4 => ⟨J85, L, R, rfl, ?_⟩)
      have o85 : ∀ p j, ¬ ((p = 126 ∨ p = 127) ∧ j = 10 * s + n) → ¬ (p = 107 ∧ (j = 11 ∨ j = 13 ∨ j = 14 ∨ j = 15 ∨ j = 16)) → J85 p j = I p j := fun p j h1 h2 => by rw [f4 p j h2, e84, en_up_ne _ _ _ _ (by omega)]; exact o3f p j h1 h2
      have k85 : J85 126 (10 * s + n) = 0 := by rw [f4 126 _ (by omega), e84, en_up_ne _ _ _ _ (by omega)]; exact k3
      have k87 : J85 127 (10 * s + n) = N tq := by rw [f4 127 _ (by omega), e84, en_up_eq, eN]
      rw [n1n, k87]
      have st4 : ∀ t' s' g', m4 = some (t', s', g') → t' = tq + 1 ∧ s' = 16 ∧ g' = gc_st 0 6 g := fun t' s' g' em => by
        rcases r4 with r4 | ⟨t4, s4, g4, em4, w1, w2, w3, w4⟩
        · rw [r4] at em; cases em
        · rw [w4] at em
          obtain ⟨y1, y2, y3⟩ := mo_i em
          rw [emq] at em4
          obtain ⟨x1, x2, x3⟩ := mo_i em4
          exact ⟨by omega, by rw [← y2, ← x2, T2]; decide +kernel, by rw [← y3, ← x3]; exact T3⟩
      -- what is wrong with that number
      have bad : J85 107 13 = 0 → (N tq = 0 ∨ ¬ N tq ≤ 100) → sm_wp sm_P S (d + 5) 213 0 [.ref 107, .int (5 : Int32), .int (J3 107 11)] [] (xLay, J85, L, kM R) (0, 0) (fun z => ∃ (I95 : sm_I) (L96 : sm_L) (R97 : sm_R), z = (none, (xLay, I95, L96, (kM R97))) ∧ sm_wp sm_P S (d + 5) 165 0 [.ref 107, .int (5 : Int32)] [] (xLay, I95, L96, kM R97) (0, 0) (fun z => ∃ (I20 : sm_I) (L21 : sm_L) (R22 : sm_R), z = (none, (xLay, I20, L21, (kM R22))) ∧ (vp_in n1 20) ∧ ∀ I24 : sm_I, I24 = (sm_up I20 128 (10 * s + n) (0 : Int32)) → sm_wp sm_P S (d + 6) 200 10 [.ref 107, .int n1, .int (J1 107 11), .int (1 : Int32)] [] (xLay, I24, L21, (kM R22)) (0, 0) Φ)) := by
        intro z hbad
        refine x_wrong (M0 := M0) (t := tq) hT (by decide) h11 (by omega) (by omega) p4 (fun _ => ?_) (fun H fH _ pH wH => ⟨H, L, R, rfl, ?_⟩)
        · rw [ee tq sq gq emq] at q4
          cases eo : o2 with
          | none =>
            rw [eo] at q4
            exact Or.inl (PE_W q4 (Nat.le_refl tq) z)
          | some a =>
            rw [eo] at q4
            obtain ⟨pe1, pe2⟩ := q4 z
            refine Or.inr ⟨Or.inl pe1, ME_f (s := sq) (a := a) (a' := a) (by omega) n21 ?_ (by decide) pe2⟩
            rw [ekq, T2]
            exact ms_tr (Or.inr (by rw [e32]; exact hbad))
        · have := tail 16 [] H m4 none (N tq) (by decide +kernel) (fun v a => rfl) (by decide +kernel) ⟨pH, by
            cases em : m4 with
            | none => trivial
            | some q =>
              obtain ⟨t', s', g'⟩ := q
              obtain ⟨y1, -⟩ := st4 t' s' g' em
              rw [y1]
              exact PW_e wH⟩ (fun p j h1 h2 => by rw [fH p j h2]; exact o85 p j h1 h2) (by rw [fH 126 _ (by omega)]; exact k85) (by rw [fH 127 _ (by omega)]; exact k87) (fun t' s' g' em => by
              obtain ⟨y1, y2, y3⟩ := st4 t' s' g' em
              exact ⟨by omega, y2, y3, fun j hj => absurd hj List.not_mem_nil, u1, u5, u3, h8, fun A ea => by cases ea⟩)
          rw [n1n] at this
          exact this
      refine ⟨fun z => ⟨v1, fun l1 => bad z (Or.inl ?_), fun l1 => ⟨v1, fun l2 => ?_, fun l2 => bad z (Or.inr l2)⟩⟩, fun z => ?_⟩
      · rw [kl_lt, kl_1] at l1
        exact en_ofI (by rw [kl_0]; omega)
      · have l1 := kl_nlt l1
        rw [kl_1] at l1
        have l2' := kl_le.mp l2
        have := tail 16 [] J85 m4 (o2.map (tr_last (N tq))) (N tq) (by decide +kernel) (fun v a => rfl) (by decide +kernel) ⟨p4, by
            cases em : m4 with
            | none => trivial
            | some q =>
              obtain ⟨t', s', g'⟩ := q
              obtain ⟨y1, y2, -⟩ := st4 t' s' g' em
              rw [y1]
              rw [ee tq sq gq emq] at q4
              cases eo : o2 with
              | none =>
                rw [eo] at q4
                exact PE_w q4 (Nat.le_succ tq)
              | some a =>
                rw [eo] at q4
                have st := PE_st (a' := tr_last (N tq) a) (by omega) n21 (by rw [ekq, T2, ms_tr0 (lg_le.mpr (by omega)) (by rw [e32]; exact fun y => by rw [y, kl_0] at l1; omega) (by rw [e32]; exact l2), e32]) q4
                rw [ekq, T2] at st
                show PEm K P V M0 (tq + 1, some (s', tr_last (N tq) a)) J85
                rw [y2]
                exact st⟩ o85 k85 k87 (fun t' s' g' em => by
              obtain ⟨y1, y2, y3⟩ := st4 t' s' g' em
              refine ⟨by omega, y2, y3, fun j hj => absurd hj List.not_mem_nil, u1, u5, u3, h8, fun A ea => ?_⟩
              obtain ⟨a1, ea1, ea2⟩ := om (Or.inr rfl) ea
              obtain ⟨a, RL, ea3⟩ := y8 a1 ea1
              obtain ⟨w1, w2, w3⟩ := nm12 a RL
              rw [ea3] at ea2
              rw [tr_last_s w1 n9] at ea2
              subst ea2
              exact ⟨a, RL, rfl, fun p j p1 p2 => u2_ne _ _ _ _ p2, u2_ne _ _ _ _ (by omega), by rw [u2_ne _ _ _ _ (by omega)]; exact w3, u2_eq _ _ _ _⟩)
        rw [n1n] at this
        exact this
      · have em := PS_n0 p4 z
        subst em
        have := tail 16 [] J85 none none (N tq) (by decide +kernel) (fun v a => rfl) (by decide +kernel) (PX_F p4) o85 k85 k87 (fun t' s' g' em => by cases em)
        rw [n1n] at this
        exact this
  · exfalso
    rw [n1n, k126] at c126
    exact c126 rfl
end
