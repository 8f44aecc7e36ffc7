/-! numbers with a sign or without, the first TOKEN of a tell, names that are new -/
theorem i32_a1 (x : Int32) : x + 1 - 1 = x := by
  rw [Int32.sub_eq_add_neg, Int32.add_assoc, show (1 : Int32) + -1 = 0 from by decide, Int32.add_zero]
theorem i32_1m (x : Int32) : 1 * x = x := Int32.one_mul x
theorem i32_n1 (x : Int32) : (-1) * x = -x := by rw [Int32.neg_mul, Int32.one_mul]
theorem i32_neg {x : Int32} (h0 : 0 ≤ x.toInt) : (-x).toInt = -x.toInt := by
  have := x.toInt_lt
  rw [Int32.toInt_neg]; exact en_bmod (by omega) (by omega) (Or.inl rfl)
section
variable {K : Nat → Int32} {P : Nat → Nat} {V W : Nat → Int64} {N : Nat → Int32} {c : Nat} {R0 : Option (Int32 × Nat)} {M0 : Option (Int32 × Nat) × sg}
variable {S : sm_C} {d : Nat} {Φ : sm_Z → Prop} {I J : sm_I} {L : sm_L} {R : sm_R} {m : mo} {e : eo} {o : Option sg}
theorem x_numU {s0 : Int32} (hT : TS K P V W N c) (hm : mkx s0 16 [] = true) (F : Int32 → sg → sg) (hms : ∀ (v : Int64) (a : sg), lg_cmp v 1440 ≤ 0 → ms s0 16 v a = (0, F v.toInt32 a)) (hX : PX K P V W N c R0 M0 m o I L) (hs : ∀ t s g, m = some (t, s, g) → s = s0) (h : ∀ (r : Int32) (J : sm_I) (m' : mo) (o' : Option sg), xfr I J → PX K P V W N c R0 M0 m' o' J L → (m' = none ∨ ∃ t g, m = some (t, s0, g) ∧ t < c ∧ t < 500 ∧ m' = some (t + 1, fw s0 16, g) ∧ (o' = none ∨ (0 ≤ r.toInt ∧ r.toInt ≤ 1440 ∧ o' = o.map (F r)))) → Φ (some (.int r), (xLay, J, L, kM R))) : sm_wp sm_P S (d + 3) 169 0 [.ref 107, .int (0 : Int32)] [] (xLay, I, L, kM R) (0, 0) Φ := by
  refine u_X12_number_0 ⟨fun _ => ⟨fun _ => x_num7 [] hT hm F hms hX (fun t s g em => ⟨hs t s g em, fun j hj => absurd hj List.not_mem_nil⟩) (fun r J m' o' f p rel => h r J m' o' f p ?_), fun z => absurd rfl z⟩, fun z => absurd rfl z⟩
  rcases rel with rel | ⟨t, g, em, c1, c2, ek, em', er, ro⟩
  · exact Or.inl rel
  · rw [i32_1m] at er
    subst er
    exact Or.inr ⟨t, g, em, c1, c2, em', ro⟩
theorem x_numS {s0 s1 : Int32} (hT : TS K P V W N c) (hm : mkx s0 16 [19] = true) (hm0 : mkx s0 19 [16] = true) (hm1 : mkx s1 16 [] = true) (e1 : fw s0 19 = s1) (e2 : fw s1 16 = fw s0 16) (F : Int32 → sg → sg) (hms : ∀ (v : Int64) (a : sg), lg_cmp v 1440 ≤ 0 → ms s0 16 v a = (0, F v.toInt32 a)) (hms1 : ∀ (v : Int64) (a : sg), lg_cmp v 1440 ≤ 0 → ms s1 16 v a = (0, F (-v.toInt32) a)) (ht : ∀ (v : Int64) (a : sg), ms s0 19 v a = (0, a)) (hX : PX K P V W N c R0 M0 m o I L) (hs : ∀ t s g, m = some (t, s, g) → s = s0) (h : ∀ (r : Int32) (J : sm_I) (m' : mo) (o' : Option sg), xfr I J → PX K P V W N c R0 M0 m' o' J L → (m' = none ∨ ∃ t g u, m = some (t, s0, g) ∧ t ≤ u ∧ u < c ∧ u < 500 ∧ m' = some (u + 1, fw s0 16, g) ∧ (o' = none ∨ (-1440 ≤ r.toInt ∧ r.toInt ≤ 1440 ∧ o' = o.map (F r)))) → Φ (some (.int r), (xLay, J, L, kM R))) : sm_wp sm_P S (d + 3) 169 0 [.ref 107, .int (1 : Int32)] [] (xLay, I, L, kM R) (0, 0) Φ := by
  obtain ⟨k1, k2, k3, k4, k5, k6⟩ := mkx_ok hm0
  refine u_X12_number_0 ⟨fun z => absurd z (by decide), fun _ => x_is (i := 19) hT (by decide) rfl hX.1 (fun r16 _ hr => ⟨r16, I, L, R, rfl, fun r0 => ⟨fun z => absurd z (by decide), fun _ => x_is (i := 19) hT (by decide) rfl hX.1 (fun r20 _ hr2 => ⟨r20, I, L, R, rfl, fun _ => ?_, fun y => absurd r0 (hr.mpr (hr2.mp y))⟩)⟩, fun r1 => ⟨fun z => absurd z (by decide), fun _ => x_is (i := 19) hT (by decide) rfl hX.1 (fun r32 _ hr2 => ⟨r32, I, L, R, rfl, fun y => absurd y (hr2.mpr (hr.mp r1)), fun _ => ?_⟩)⟩⟩)⟩
  · refine x_num7 [19] hT hm F hms hX (fun t s g em => ⟨hs t s g em, fun j hj ek => ?_⟩) (fun r J m' o' f p rel => h r J m' o' f p ?_)
    · rw [List.mem_singleton.mp hj] at ek
      exact absurd r0 (hr.mpr ⟨t, s, g, em, ek⟩)
    · rcases rel with rel | ⟨t, g, em, c1, c2, ek, em', er, ro⟩
      · exact Or.inl rel
      · rw [i32_1m] at er
        subst er
        refine Or.inr ⟨t, g, t, em, Nat.le_refl _, c1, c2, em', ?_⟩
        rcases ro with ro | ⟨q1, q2, q3⟩
        · exact Or.inl ro
        · exact Or.inr ⟨by omega, q2, q3⟩
  · obtain ⟨t, s, g, em, ek⟩ := hr.mp r1
    have es := hs t s g em
    subst es
    obtain ⟨e, hE, ee⟩ := PX_e hX
    have gk : g.alls ≤ 4 ∧ g.parts ≤ 3 := by
      have hS := hX.1
      rw [em] at hS
      exact hS.2.2.2.2.2.2.2 k1
    obtain ⟨g1, g2, g3, g4⟩ := gc_in (g := g) k1 k2 k4 k5 gk
    refine x_go (k := Int32.ofNat 19) hT hX.1 hE (fun t' s' g' em' => ?_) (fun J m' f p q rel => ⟨J, L, R, rfl, ?_⟩)
    · obtain ⟨rfl, rfl, rfl⟩ : t = t' ∧ s = s' ∧ g = g' := by
        have q := Option.some.inj (em.symm.trans em')
        exact ⟨congrArg Prod.fst q, congrArg (fun x => x.2.1) q, congrArg (fun x => x.2.2) q⟩
      exact ⟨ek, by rw [ek]; exact g4, k3, g3, g2, by rw [g1]; exact gk⟩
    · have hX2 : PX K P V W N c R0 M0 m' o J L := by
        refine ⟨p, ?_⟩
        rcases rel with rel | ⟨t', s', g', em', b1, b2, b3⟩
        · rw [rel]; trivial
        · obtain ⟨rfl, rfl, rfl⟩ : t = t' ∧ s = s' ∧ g = g' := by
            have q := Option.some.inj (em.symm.trans em')
            exact ⟨congrArg Prod.fst q, congrArg (fun x => x.2.1) q, congrArg (fun x => x.2.2) q⟩
          rw [b3]
          rw [ee t s g em] at q
          cases eo : o with
          | none =>
            rw [eo] at q
            exact PE_w q (Nat.le_succ t)
          | some a =>
            rw [eo] at q
            have := PE_st (by omega) (hT.2.2.2.1 t b1) (by rw [ek]; exact ht (V t) a) q
            rw [ek] at this
            exact this
      refine x_num7 (x2 := -1) (s0 := s1) [] hT hm1 (fun r => F (-r)) hms1 hX2 (fun t' s' g' em' => ⟨?_, fun j hj => absurd hj List.not_mem_nil⟩) (fun r J' m'' o' f' p' rel' => h r J' m'' o' (xfr_tr f f') p' ?_)
      · rcases rel with rel | ⟨t2, s2, g2', em2, b1, b2, b3⟩
        · rw [rel] at em'; cases em'
        · obtain ⟨rfl, rfl, rfl⟩ : t = t2 ∧ s = s2 ∧ g = g2' := by
            have q := Option.some.inj (em.symm.trans em2)
            exact ⟨congrArg Prod.fst q, congrArg (fun x => x.2.1) q, congrArg (fun x => x.2.2) q⟩
          rw [b3] at em'
          have := congrArg (fun x => x.2.1) (Option.some.inj em')
          have : fw s (Int32.ofNat 19) = s' := this
          rw [← this]; exact e1
      · rcases rel' with rel' | ⟨t', g', em', c1, c2, ek', em'', er, ro⟩
        · exact Or.inl rel'
        · rcases rel with rel | ⟨t2, s2, g2', em2, b1, b2, b3⟩
          · rw [rel] at em'; cases em'
          · obtain ⟨rfl, rfl, rfl⟩ : t = t2 ∧ s = s2 ∧ g = g2' := by
              have q := Option.some.inj (em.symm.trans em2)
              exact ⟨congrArg Prod.fst q, congrArg (fun x => x.2.1) q, congrArg (fun x => x.2.2) q⟩
            rw [b3, g1] at em'
            have q := Option.some.inj em'
            have q1 : t + 1 = t' := congrArg Prod.fst q
            have q3 : g = g' := congrArg (fun x => x.2.2) q
            subst q3
            rw [i32_n1] at er
            refine Or.inr ⟨t, g, t', em, by omega, c1, c2, by rw [em'', e2], ?_⟩
            rcases ro with ro | ⟨y1, y2, y3⟩
            · exact Or.inl ro
            · have := i32_neg y1
              refine Or.inr ⟨by rw [er]; omega, by rw [er]; omega, ?_⟩
              rw [y3, er]
/-- the word that a tell begins with -/
theorem x_go0 {k : Int32} {t : Nat} {g : gc} (hT : TS K P V W N c) (ek : K t = k) (k16 : k ≠ 16) (k21 : k ≠ 21) (kf : fw 0 k ≠ -1) (k15 : k.toInt < 15) (k9 : ¬ (k = 9 ∨ k = 13)) (ok : gc_ok 0 k g = true) (hX : PX K P V W N c R0 M0 (some (t, 0, g)) o I L) (h : ∀ (J : sm_I) (m' : mo), xfr I J → PX K P V W N c R0 M0 m' (o.map (fun a => u2 a 2 7 k)) J L → (m' = none ∨ (t < c ∧ t < 500 ∧ m' = some (t + 1, fw 0 k, gc_st 0 k g))) → Φ (none, (xLay, J, L, kM R))) : sm_wp sm_P S (d + 1) 136 0 [.ref 107] [] (xLay, I, L, kM R) (0, 0) Φ := by
  have st : gc_st 0 k g = ⟨k, 1, 1, fun j => if j = gw k then g.tells j + 1 else g.tells j⟩ := by unfold gc_st; rw [if_pos ⟨rfl, k15⟩]
  refine x_go (k := k) hT hX.1 hX.2 (fun t' s' g' em' => ?_) (fun J m' f p q rel => h J m' f ⟨p, ?_⟩ ?_)
  · obtain ⟨rfl, rfl, rfl⟩ : t = t' ∧ 0 = s' ∧ g = g' := by
      have q := Option.some.inj em'
      exact ⟨congrArg Prod.fst q, congrArg (fun x => x.2.1) q, congrArg (fun x => x.2.2) q⟩
    exact ⟨ek, by rw [ek]; exact k21, kf, fun z => k9 z.1, ok, by rw [st]; exact ⟨(by decide : (1 : Nat) ≤ 4), (by decide : (1 : Nat) ≤ 3)⟩⟩
  · rcases rel with rel | ⟨t', s', g', em', b1, b2, b3⟩
    · rw [rel]; trivial
    · obtain ⟨rfl, rfl, rfl⟩ : t = t' ∧ 0 = s' ∧ g = g' := by
        have q := Option.some.inj em'
        exact ⟨congrArg Prod.fst q, congrArg (fun x => x.2.1) q, congrArg (fun x => x.2.2) q⟩
      rw [b3]
      cases eo : o with
      | none =>
        rw [eo] at q
        exact PE_w q (Nat.le_succ t)
      | some a =>
        rw [eo] at q
        have e0 : ms 0 (K t) (V t) a = (0, u2 a 2 7 k) := by
          rw [ek]; unfold ms; rw [if_neg (fun z => k16 z.1)]; unfold tk_take; rw [if_pos (by decide)]
        have := PE_st (by omega) (hT.2.2.2.1 t b1) e0 q
        rw [ek] at this
        exact this
  · rcases rel with rel | ⟨t', s', g', em', b1, b2, b3⟩
    · exact Or.inl rel
    · obtain ⟨rfl, rfl, rfl⟩ : t = t' ∧ 0 = s' ∧ g = g' := by
        have q := Option.some.inj em'
        exact ⟨congrArg Prod.fst q, congrArg (fun x => x.2.1) q, congrArg (fun x => x.2.2) q⟩
      exact Or.inr ⟨b1, b2, b3⟩
/-- a name is told from now on -/
theorem x_knows {x1 x2 x3 : Int32} {t : Nat} (h1 : x1.toInt = t) (t5 : t ≤ 500) (b0 : 0 ≤ (I 107 20).toInt) (b1 : (I 107 20).toInt ≤ 49) (hX : PX K P V W N c R0 M0 m o I L) (h : ∀ (J : sm_I) (L' : sm_L), J = sm_up (sm_up (sm_up I 116 (cntm I) x2) 117 (cntm I) x3) 107 20 (I 107 20 + 1) → L' = sm_up L 115 (cntm I) (L 113 t) → PX K P V W N c R0 M0 m o J L' → Φ (none, (xLay, J, L', kM R))) : sm_wp sm_P S d 155 0 [.ref 107, .int x1, .int x2, .int x3] [] (xLay, I, L, kM R) (0, 0) Φ := by
  have n1 := tk_nat h1
  have nc : ((cntm I : Nat) : Int) = (I 107 20).toInt := kl_nat b0
  have v : vp_in (I 107 20) 50 := kl_in b0 (by omega)
  refine u_X12_knows_0 ⟨kl_in (by omega) (by omega), v, fun L1 q1 => ⟨v, fun I2 q2 => ?_⟩⟩
  have g2 : I2 107 20 = I 107 20 := by rw [q2, en_up_ne _ _ _ _ (by omega)]
  rw [g2]
  refine ⟨v, fun I3 q3 I4 q4 => ?_⟩
  have g3 : I3 107 20 = I 107 20 := by rw [q3, en_up_ne _ _ _ _ (by omega)]; exact g2
  rw [n1] at q1
  rw [g3] at q4
  have hX3 : PX K P V W N c R0 M0 m o I3 L := by
    rw [q3, q2]
    exact PX_up (by decide) (by omega) (PX_up (by decide) (by omega) hX)
  have e4 : I4 = sm_up (sm_up (sm_up I 116 (cntm I) x2) 117 (cntm I) x3) 107 20 (I 107 20 + 1) := by rw [q4, q3, q2]; rfl
  refine h I4 L1 e4 q1 ?_
  have o4 : ∀ p j, ¬ (p = 107 ∧ j = 20) → I4 p j = I3 p j := fun p j hp => by rw [q4, en_up_ne _ _ _ _ hp]
  have oL : ∀ p j, p ≠ 115 → L1 p j = L p j := fun p j hp => by rw [q1, en_up_ne _ _ _ _ (by omega)]
  obtain ⟨hS, hE⟩ := hX3
  have tx4 : tx K P W N c I4 L1 := ⟨fun i a b => by rw [o4 110 i (by omega), o4 111 i (by omega)]; exact hS.1.1 i a b, fun i a b => by rw [o4 112 i (by omega), oL 113 i (by omega)]; exact hS.1.2 i a b⟩
  refine ⟨?_, ?_⟩
  · unfold PSm PFa at hS ⊢
    rw [o4 107 11 (by omega), o4 107 13 (by omega), o4 107 14 (by omega)]
    exact ⟨tx4, hS.2⟩
  · match m, hE with
    | none, _ => trivial
    | some (t, s, g), hE =>
      have hE : PEm K P V M0 (t, o.map (fun a => (s, a))) I3 := hE
      show PEm K P V M0 (t, o.map (fun a => (s, a))) I4
      exact PE_cg hE (fun z => by rw [o4 107 13 (by omega)] at z; exact z) (o4 107 15 (by omega)) (o4 107 16 (by omega))
end
