/-! names and numbers that the reference reads -/
def fm (I : sm_I) (L : sm_L) (nm : Int64) (so : Int32) : Nat → Nat → Int32
  | 0, _ => -1
  | m + 1, i => if L 115 i = nm then (if I 116 i = so then I 117 i else fm I L nm so m (i + 1)) else fm I L nm so m (i + 1)
def cntm (I : sm_I) : Nat := (I 107 20).toNatClampNeg
def fdm (I : sm_I) (L : sm_L) (nm : Int64) (so : Int32) : Int32 := fm I L nm so (cntm I) 0
theorem fm_cg {I J : sm_I} {L : sm_L} {nm : Int64} {so : Int32} (h : ∀ i, J 116 i = I 116 i ∧ J 117 i = I 117 i) : ∀ m i, fm J L nm so m i = fm I L nm so m i := by
  intro m
  induction m with
  | zero => intro i; rfl
  | succ m ih =>
    intro i
    show (if L 115 i = nm then (if J 116 i = so then J 117 i else fm J L nm so m (i + 1)) else fm J L nm so m (i + 1)) = (if L 115 i = nm then (if I 116 i = so then I 117 i else fm I L nm so m (i + 1)) else fm I L nm so m (i + 1))
    rw [ih, (h i).1, (h i).2]
theorem fdm_cg {I J : sm_I} {L : sm_L} {nm : Int64} {so : Int32} (f : xfr I J) : fdm J L nm so = fdm I L nm so := by
  unfold fdm cntm
  rw [f 107 20 (by omega), fm_cg (fun i => ⟨f 116 i (by omega), f 117 i (by omega)⟩)]
theorem fm_b {I : sm_I} {L : sm_L} {nm : Int64} {so : Int32} {Q : Int32 → Prop} (q0 : Q (-1)) : ∀ m i, (∀ j, i ≤ j → j < i + m → I 116 j = so → Q (I 117 j)) → Q (fm I L nm so m i) := by
  intro m
  induction m with
  | zero => intro i _; exact q0
  | succ m ih =>
    intro i h
    show Q (if L 115 i = nm then (if I 116 i = so then I 117 i else fm I L nm so m (i + 1)) else fm I L nm so m (i + 1))
    have g := ih (i + 1) (fun j a b => h j (by omega) (by omega))
    by_cases c1 : L 115 i = nm
    · rw [if_pos c1]
      by_cases c2 : I 116 i = so
      · rw [if_pos c2]; exact h i (Nat.le_refl _) (by omega) c2
      · rw [if_neg c2]; exact g
    · rw [if_neg c1]; exact g
theorem lg_le {x y : Int64} : lg_cmp x y ≤ 0 ↔ x.toInt ≤ y.toInt := by
  unfold lg_cmp
  by_cases c : x > y
  · rw [if_pos c]
    have c : y.toInt < x.toInt := Int64.lt_iff_toInt_lt.mp c
    exact ⟨fun z => absurd z (by decide), fun z => by omega⟩
  · rw [if_neg c]
    have c : ¬ y.toInt < x.toInt := fun q => c (Int64.lt_iff_toInt_lt.mpr q)
    refine ⟨fun _ => by omega, fun _ => ?_⟩
    by_cases c2 : x = y
    · rw [if_pos c2]; decide
    · rw [if_neg c2]; decide
section
variable {K : Nat → Int32} {P : Nat → Nat} {V W : Nat → Int64} {N : Nat → Int32} {c : Nat} {R0 : Option (Int32 × Nat)} {M0 : Option (Int32 × Nat) × sg}
variable {S : sm_C} {d : Nat} {Φ : sm_Z → Prop} {I J : sm_I} {L : sm_L} {R : sm_R} {m : mo} {e : eo} {o : Option sg}
theorem PX_e (hX : PX K P V W N c R0 M0 m o I L) : ∃ e, PEm K P V M0 e I ∧ ∀ t s g, m = some (t, s, g) → e = (t, o.map (fun a => (s, a))) := by
  match m, hX with
  | none, hX => exact ⟨(0, none), PE_n (PS_no hX.1), fun t s g q => by cases q⟩
  | some (t, s, g), hX =>
    refine ⟨_, hX.2, fun t' s' g' q => ?_⟩
    have q := Option.some.inj q
    have q1 : t = t' := congrArg Prod.fst q
    have q2 : s = s' := congrArg (fun x => x.2.1) q
    rw [← q1, ← q2]
theorem x_known3 {x1 x2 r : Int32} {t : Nat} (b0 : 0 ≤ (I 107 20).toInt) (b1 : (I 107 20).toInt ≤ 50) (h2 : x2.toInt = t) (t5 : t ≤ 502) (hb : ∀ i, i < cntm I → 0 ≤ (I 117 i).toInt) (hend : (r = -1 → sm_wp sm_P S d 213 0 [.ref 107, .int (4 : Int32), .int x2] [] (xLay, I, L, (kM R)) (0, 0) (fun z => ∃ (I1 : sm_I) (L2 : sm_L) (R3 : sm_R), z = (none, (xLay, I1, L2, (kM R3))) ∧ Φ (some (.int r), (xLay, I1, L2, (kM R3))))) ∧ (¬ r = -1 → Φ (some (.int r), (xLay, I, L, kM R)))) : ∀ (k i : Nat) (x3 x4 : Int32), x4.toInt = i → i + k = cntm I → (if x3 = -1 then fm I L (L 113 t) x1 k i else x3) = r → sm_wp sm_P S (d + 1) 154 3 [.ref 107, .int x1, .int x2, .int x3, .int x4] [] (xLay, I, L, kM R) (0, 0) Φ := by
  have nc : ((cntm I : Nat) : Int) = (I 107 20).toInt := kl_nat b0
  have n2 := tk_nat h2
  intro k
  induction k with
  | zero =>
    intro i x3 x4 hx hk hr
    have er : x3 = r := by
      by_cases c1 : x3 = -1
      · rw [if_pos c1] at hr
        have hr : (-1 : Int32) = r := hr
        rw [c1]; exact hr
      · rw [if_neg c1] at hr; exact hr
    refine u_X12_known_3 ⟨fun _ => ⟨fun c1 => ?_, fun c1 => ?_⟩, fun a => ?_⟩
    · rw [er] at c1 ⊢; exact hend.1 c1
    · rw [er] at c1 ⊢; exact hend.2 c1
    · have := kl_nle a
      omega
  | succ k ih =>
    intro i x3 x4 hx hk hr
    have n4 := tk_nat hx
    have s := ml_in1 (x := x4) (by omega)
    have v : vp_in x4 50 := kl_in (by omega) (by omega)
    have b := hb i (by omega)
    refine u_X12_known_3 ⟨fun a => ?_, fun _ => ⟨fun c1 => ⟨v, kl_in (by omega) (by omega), fun c2 => ⟨v, fun c3 => ⟨v, ?_⟩, fun c3 => ?_⟩, fun c2 => ?_⟩, fun c1 => ?_⟩⟩
    · have := kl_le.mp a
      omega
    all_goals
      have un : fm I L (L 113 t) x1 (k + 1) i = (if L 115 i = L 113 t then (if I 116 i = x1 then I 117 i else fm I L (L 113 t) x1 k (i + 1)) else fm I L (L 113 t) x1 k (i + 1)) := rfl
    · rw [tk_lg, n4, n2] at c2
      rw [n4] at c3
      rw [if_pos c1, un, if_pos c2, if_pos c3] at hr
      rw [n4]
      refine ih (i + 1) _ _ (by omega) (by omega) ?_
      rw [if_neg (fun q => by rw [q] at b; exact absurd b (by decide))]; exact hr
    · rw [tk_lg, n4, n2] at c2
      rw [n4] at c3
      rw [if_pos c1, un, if_pos c2, if_neg c3] at hr
      exact ih (i + 1) _ _ (by omega) (by omega) (by rw [if_pos c1]; exact hr)
    · rw [tk_lg, n4, n2] at c2
      rw [if_pos c1, un, if_neg c2] at hr
      exact ih (i + 1) _ _ (by omega) (by omega) (by rw [if_pos c1]; exact hr)
    · rw [if_neg c1] at hr
      exact ih (i + 1) _ _ (by omega) (by omega) (by rw [if_neg c1]; exact hr)
/-- a name that must be known: the meaning's step is left to the caller where it is -/
theorem x_known {so kd s0 : Int32} (hT : TS K P V W N c) (hm : mkx s0 15 [] = true) (hX : PX K P V W N c R0 M0 m o I L) (hs : ∀ t s g, m = some (t, s, g) → s = s0) (b0 : 0 ≤ (I 107 20).toInt) (b1 : (I 107 20).toInt ≤ 50) (hb : ∀ i, i < cntm I → 0 ≤ (I 117 i).toInt) (hl : ∀ t g a, m = some (t, s0, g) → o = some a → t < c → K t = 15 → fd a (V t) kd = fdm I L (W t) so) (h4 : ∀ (v : Int64) (a : sg), fd a v kd = -1 → ms s0 15 v a = (4, a)) (h : ∀ (r : Int32) (J : sm_I) (m' : mo), xfr I J → PSm K P W N c R0 m' J L → ((m' = none ∧ r = 0) ∨ ∃ t g, m = some (t, s0, g) ∧ t < c ∧ t < 500 ∧ K t = 15 ∧ m' = some (t + 1, fw s0 15, g) ∧ r = fdm I L (W t) so ∧ (r = -1 → PEm K P V M0 (t + 1, none) J) ∧ (¬ r = -1 → PEm K P V M0 (t, o.map (fun a => (s0, a))) J)) → Φ (some (.int r), (xLay, J, L, kM R))) : sm_wp sm_P S (d + 3) 154 0 [.ref 107, .int so] [] (xLay, I, L, kM R) (0, 0) Φ := by
  obtain ⟨e, hE, ee⟩ := PX_e hX
  refine u_X12_known_0 (x_must (i := 15) [] hT rfl hX.1 hE (fun t s g em => ⟨by rw [hs t s g em]; exact hm, fun j hj => absurd hj List.not_mem_nil⟩) (fun J m' f p q rel => ⟨J, L, R, rfl, fun z => ?_, fun z => ?_⟩))
  · have z := PS_le0 p z
    rcases rel with rel | ⟨t, s, g, em, c1, c2, ek, b3⟩
    · subst rel; exact absurd z (PS_no p)
    · have es := hs t s g em
      subst es
      have ek : K t = 15 := ek
      rw [ee t s g em] at q
      have h11 : (I 107 11).toInt = t := by
        have hS := hX.1
        rw [em] at hS
        exact hS.2.2.2.2.1
      have eW : L 113 t = W t := (hX.1.1.2 t c1 (by omega)).2
      have ef : fdm J L (W t) so = fdm I L (W t) so := fdm_cg f
      have e20 : J 107 20 = I 107 20 := f 107 20 (by omega)
      have ec : cntm J = cntm I := by unfold cntm; rw [e20]
      refine x_known3 (r := fdm I L (W t) so) (t := t) (by rw [e20]; exact b0) (by rw [e20]; exact b1) h11 (by omega) (fun i hi => by rw [f 117 i (by omega)]; exact hb i (by rw [← ec]; exact hi)) ⟨fun r1 => ?_, fun r1 => ?_⟩ (cntm J) 0 (-1) 0 (by decide) (by omega) (by rw [if_pos rfl, eW]; exact ef)
      · refine x_wrong (t := t) hT (by decide) h11 (by omega) (by omega) p (fun _ => ?_) (fun H fH _ pH wH => ⟨H, L, R, rfl, h _ H m' (xfr_tr f fH) pH (Or.inr ⟨t, g, em, c1, c2, ek, b3, rfl, fun _ => PW_e wH, fun z => absurd r1 z⟩)⟩)
        cases eo : o with
        | none =>
          rw [eo] at q
          exact Or.inl (PE_W q (Nat.le_refl t) z)
        | some a =>
          rw [eo] at q
          obtain ⟨q1, q2⟩ := q z
          refine Or.inr ⟨Or.inl q1, ME_f (s := s) (a := a) (by omega) (hT.2.2.2.1 t c1) (by rw [ek]; exact h4 (V t) a (by rw [hl t g a em eo c1 ek]; exact r1)) (by decide) q2⟩
      · exact h _ J m' f p (Or.inr ⟨t, g, em, c1, c2, ek, b3, rfl, fun z => absurd z r1, fun _ => q⟩)
  · have nz : ¬ J 107 13 = 0 := fun y => z (by rw [y]; decide)
    have := PS_n0 p nz
    subst this
    exact h 0 J none f p (Or.inl ⟨rfl, rfl⟩)
/-- the same where being known is all that is asked -/
theorem x_knownS {so kd s0 : Int32} (hT : TS K P V W N c) (hm : mkx s0 15 [] = true) (hX : PX K P V W N c R0 M0 m o I L) (hs : ∀ t s g, m = some (t, s, g) → s = s0) (b0 : 0 ≤ (I 107 20).toInt) (b1 : (I 107 20).toInt ≤ 50) (hb : ∀ i, i < cntm I → 0 ≤ (I 117 i).toInt) (hl : ∀ t g a, m = some (t, s0, g) → o = some a → t < c → K t = 15 → fd a (V t) kd = fdm I L (W t) so) (F : Int32 → sg → sg) (h4 : ∀ (v : Int64) (a : sg), ms s0 15 v a = if fd a v kd = -1 then (4, a) else (0, F (fd a v kd) a)) (h : ∀ (r : Int32) (J : sm_I) (m' : mo) (o' : Option sg), xfr I J → PX K P V W N c R0 M0 m' o' J L → ((m' = none ∧ r = 0) ∨ ∃ t g, m = some (t, s0, g) ∧ t < c ∧ t < 500 ∧ K t = 15 ∧ m' = some (t + 1, fw s0 15, g) ∧ r = fdm I L (W t) so ∧ (o' = none ∨ (¬ r = -1 ∧ o' = o.map (F r)))) → Φ (some (.int r), (xLay, J, L, kM R))) : sm_wp sm_P S (d + 3) 154 0 [.ref 107, .int so] [] (xLay, I, L, kM R) (0, 0) Φ := by
  refine x_known (kd := kd) hT hm hX hs b0 b1 hb hl (fun v a q => by rw [h4, if_pos q]) (fun r J m' f p rel => ?_)
  rcases rel with ⟨rel, r0⟩ | ⟨t, g, em, c1, c2, ek, em', er, w1, w2⟩
  · subst rel
    exact h r J none none f (PX_F p) (Or.inl ⟨rfl, r0⟩)
  · by_cases r1 : r = -1
    · refine h r J m' none f ⟨p, ?_⟩ (Or.inr ⟨t, g, em, c1, c2, ek, em', er, Or.inl rfl⟩)
      rw [em']; exact w1 r1
    · refine h r J m' (o.map (F r)) f ⟨p, ?_⟩ (Or.inr ⟨t, g, em, c1, c2, ek, em', er, Or.inr ⟨r1, rfl⟩⟩)
      rw [em']
      have q := w2 r1
      cases eo : o with
      | none =>
        rw [eo] at q
        exact PE_w q (Nat.le_succ t)
      | some a =>
        rw [eo] at q
        have ef : fd a (V t) kd = r := by rw [hl t g a em eo c1 ek, er]
        have := PE_st (a' := F r a) (by omega) (hT.2.2.2.1 t c1) (by rw [ek, h4, ef, if_neg r1]) q
        rw [ek] at this
        exact this
/-- a new name -/
theorem x_named1 {x1 : Int32} {t : Nat} {s : Int32} {I0 : sm_I} (hT : TS K P V W N c) (h1 : x1.toInt = t) (tc : t < c) (t5 : t ≤ 500) (b0 : 0 ≤ (I0 107 20).toInt) (b1 : (I0 107 20).toInt ≤ 50) (eW : L 113 t = W t) (hM : ∀ a, o = some a → (∃ i, i < cntm I0 ∧ L 115 i = W t) → ME K V (501 - t) t s a = M0 → M0.1 = some (3, t)) (h : ∀ J : sm_I, xfr I0 J → PSm K P W N c R0 m J L → (((∃ i, i < cntm I0 ∧ L 115 i = W t) ∧ PEm K P V M0 (t + 1, none) J) ∨ ((¬ ∃ i, i < cntm I0 ∧ L 115 i = W t) ∧ PEm K P V M0 (t, o.map (fun a => (s, a))) J)) → Φ (some (.int x1), (xLay, J, L, kM R))) : ∀ (k i : Nat) (I : sm_I) (x2 : Int32), x2.toInt = i → i + k = cntm I0 → xfr I0 I → PSm K P W N c R0 m I L → (I 107 13 = 0) → (((∃ j, j < i ∧ L 115 j = W t) ∧ PWx P M0 3 t I) ∨ ((¬ ∃ j, j < i ∧ L 115 j = W t) ∧ PEm K P V M0 (t, o.map (fun a => (s, a))) I)) → sm_wp sm_P S (d + 1) 166 1 [.ref 107, .int x1, .int x2] [] (xLay, I, L, kM R) (0, 0) Φ := by
  have nc : ((cntm I0 : Nat) : Int) = (I0 107 20).toInt := kl_nat b0
  have n1 := tk_nat h1
  intro k
  induction k with
  | zero =>
    intro i I x2 hx hk f hS z hi
    have ei : i = cntm I0 := by omega
    refine u_X12_named_1 ⟨fun _ => h I f hS ?_, fun a => ?_⟩
    · rcases hi with ⟨q1, q2⟩ | ⟨q1, q2⟩
      · exact Or.inl ⟨by rw [← ei]; exact q1, PW_e q2⟩
      · exact Or.inr ⟨by rw [← ei]; exact q1, q2⟩
    · have := kl_nle a
      rw [f 107 20 (by omega)] at this
      omega
  | succ k ih =>
    intro i I x2 hx hk f hS z hi
    have n2 := tk_nat hx
    have s1 := ml_in1 (x := x2) (by omega)
    refine u_X12_named_1 ⟨fun a => ?_, fun _ => ⟨fun _ => ⟨kl_in (by omega) (by omega), kl_in (by omega) (by omega), fun c1 => ?_, fun c1 => ?_⟩, fun q => absurd z q⟩⟩
    · have := kl_le.mp a
      rw [f 107 20 (by omega)] at this
      omega
    · rw [tk_lg, n2, n1, eW] at c1
      refine x_wrong (t := t) hT (by decide) h1 (by omega) (by omega) hS (fun _ => ?_) (fun H fH h11 pH wH => ⟨H, L, R, rfl, ih (i + 1) H _ (by omega) (by omega) (xfr_tr f fH) pH ?_ (Or.inl ⟨⟨i, by omega, c1⟩, wH⟩)⟩)
      · rcases hi with ⟨q1, q2⟩ | ⟨q1, q2⟩
        · exact Or.inl (q2 z)
        · cases eo : o with
          | none =>
            rw [eo] at q2
            exact Or.inl (PE_W q2 (Nat.le_refl t) z)
          | some a =>
            rw [eo] at q2
            obtain ⟨y1, y2⟩ := q2 z
            exact Or.inr ⟨Or.inl y1, hM a eo ⟨i, by omega, c1⟩ y2⟩
      · by_cases y : H 107 13 = 0
        · exact y
        · have em := PS_n0 pH y
          subst em
          exact absurd z (PS_no hS)
    · rw [tk_lg, n2, n1, eW] at c1
      refine ih (i + 1) I _ (by omega) (by omega) f hS z ?_
      rcases hi with ⟨⟨j, j1, j2⟩, q2⟩ | ⟨q1, q2⟩
      · exact Or.inl ⟨⟨j, by omega, j2⟩, q2⟩
      · refine Or.inr ⟨fun ⟨j, j1, j2⟩ => ?_, q2⟩
        by_cases c2 : j = i
        · subst c2; exact c1 j2
        · exact q1 ⟨j, by omega, j2⟩
theorem x_named {s0 : Int32} (hT : TS K P V W N c) (hm : mkx s0 15 [] = true) (hms : ∀ (v : Int64) (a : sg), ms s0 15 v a = tk_new v a) (hX : PX K P V W N c R0 M0 m o I L) (hs : ∀ t s g, m = some (t, s, g) → s = s0) (b0 : 0 ≤ (I 107 20).toInt) (b1 : (I 107 20).toInt ≤ 50) (hn : ∀ t g a, m = some (t, s0, g) → o = some a → t < c → K t = 15 → ((∃ i, i < cntm I ∧ L 115 i = W t) ↔ twc a.2 (V t) (cnt a.1) 0 = true) ∧ ¬ 35 ≤ a.1 2 5) (h : ∀ (J : sm_I) (m' : mo) (o' : Option sg), xfr I J → PX K P V W N c R0 M0 m' o' J L → (m' = none ∨ ∃ t g, m = some (t, s0, g) ∧ t < c ∧ t < 500 ∧ K t = 15 ∧ m' = some (t + 1, fw s0 15, g) ∧ (o' = none ∨ (o' = o.map (nm_add (V t)) ∧ ¬ ∃ i, i < cntm I ∧ L 115 i = W t))) → Φ (some (.int (I 107 11)), (xLay, J, L, kM R))) : sm_wp sm_P S (d + 3) 166 0 [.ref 107] [] (xLay, I, L, kM R) (0, 0) Φ := by
  obtain ⟨e, hE, ee⟩ := PX_e hX
  refine u_X12_named_0 (x_must (i := 15) [] hT rfl hX.1 hE (fun t s g em => ⟨by rw [hs t s g em]; exact hm, fun j hj => absurd hj List.not_mem_nil⟩) (fun J m' f p q rel => ⟨J, L, R, rfl, ?_⟩))
  by_cases z : J 107 13 = 0
  · rcases rel with rel | ⟨t, s, g, em, c1, c2, ek, b3⟩
    · subst rel; exact absurd z (PS_no p)
    · have es := hs t s g em
      subst es
      have ek : K t = 15 := ek
      rw [ee t s g em] at q
      have h11 : (I 107 11).toInt = t := by
        have hS := hX.1
        rw [em] at hS
        exact hS.2.2.2.2.1
      have eW : L 113 t = W t := (hX.1.1.2 t c1 (by omega)).2
      have e20 : J 107 20 = I 107 20 := f 107 20 (by omega)
      have ec : cntm J = cntm I := by unfold cntm; rw [e20]
      have n21 := hT.2.2.2.1 t c1
      refine x_named1 (t := t) (s := s) (o := o) (I0 := J) hT h11 c1 (by omega) (by rw [e20]; exact b0) (by rw [e20]; exact b1) eW (fun a eo w hq => ?_) (fun H fH pH rH => ?_) (cntm J) 0 J 0 (by decide) (by omega) xfr_rf p z (Or.inr ⟨fun ⟨j, j1, _⟩ => absurd j1 (Nat.not_lt_zero j), q⟩)
      · rw [ec] at w
        have tw := (hn t g a em eo c1 ek).1.mp w
        exact ME_f (s := s) (a := a) (by omega) n21 (by rw [ek, hms]; unfold tk_new; rw [if_pos tw]) (by decide) hq
      · rw [ec] at rH
        rcases rH with ⟨r1, r2⟩ | ⟨r1, r2⟩
        · refine h H m' none (xfr_tr f fH) ⟨pH, ?_⟩ (Or.inr ⟨t, g, em, c1, c2, ek, b3, Or.inl rfl⟩)
          rw [b3]; exact r2
        · refine h H m' (o.map (nm_add (V t))) (xfr_tr f fH) ⟨pH, ?_⟩ (Or.inr ⟨t, g, em, c1, c2, ek, b3, Or.inr ⟨rfl, r1⟩⟩)
          rw [b3]
          cases eo : o with
          | none =>
            rw [eo] at r2
            exact PE_w r2 (Nat.le_succ t)
          | some a =>
            rw [eo] at r2
            obtain ⟨y1, y2⟩ := hn t g a em eo c1 ek
            have tw : ¬ twc a.2 (V t) (cnt a.1) 0 = true := fun y => r1 (y1.mpr y)
            have := PE_st (a' := nm_add (V t) a) (by omega) n21 (by rw [ek, hms]; unfold tk_new; rw [if_neg tw, if_neg y2]) r2
            rw [ek] at this
            exact this
  · have em := PS_n0 p z
    subst em
    exact u_X12_named_1 ⟨fun _ => h J none none f (PX_F p) (Or.inl rfl), fun _ => ⟨fun q => absurd q z, fun _ => h J none none f (PX_F p) (Or.inl rfl)⟩⟩
/-- a number -/
theorem x_num7 {x2 s0 : Int32} (ex : List Nat) (hT : TS K P V W N c) (hm : mkx s0 16 ex = true) (F : Int32 → sg → sg) (hms : ∀ (v : Int64) (a : sg), lg_cmp v 1440 ≤ 0 → ms s0 16 v a = (0, F v.toInt32 a)) (hX : PX K P V W N c R0 M0 m o I L) (hs : ∀ t s g, m = some (t, s, g) → s = s0 ∧ ∀ j, j ∈ ex → K t = Int32.ofNat j → (j = 9 ∨ j = 13) ∧ g.tell = 12) (h : ∀ (r : Int32) (J : sm_I) (m' : mo) (o' : Option sg), xfr I J → PX K P V W N c R0 M0 m' o' J L → (m' = none ∨ ∃ t g, m = some (t, s0, g) ∧ t < c ∧ t < 500 ∧ K t = 16 ∧ m' = some (t + 1, fw s0 16, g) ∧ r = x2 * N t ∧ (o' = none ∨ (0 ≤ (N t).toInt ∧ (N t).toInt ≤ 1440 ∧ o' = o.map (F (N t))))) → Φ (some (.int r), (xLay, J, L, kM R))) : sm_wp sm_P S (d + 3) 169 7 [.ref 107, .int x2] [] (xLay, I, L, kM R) (0, 0) Φ := by
  obtain ⟨e, hE, ee⟩ := PX_e hX
  have bt := hX.1.2.1
  have bt2 := hX.1.2.2.1
  have c1440 : (1440 : Int32).toInt = 1440 := by decide
  have c1440' : (1440 : Int64).toInt = 1440 := by decide
  have go : ∀ s1 : Int32, (∀ t g, m = some (t, s0, g) → K t = 16 → t < c → t ≤ 500 → s1 = N t) → sm_wp sm_P S (d + 3) 169 10 [.ref 107, .int x2, .int (I 107 11)] [.int s1] (xLay, I, L, kM R) (0, 0) Φ := by
    intro s1 hv
    refine u_X12_number_10 (x_must (i := 16) ex hT rfl hX.1 hE (fun t s g em => ⟨by rw [(hs t s g em).1]; exact hm, (hs t s g em).2⟩) (fun J m' f p q rel => ⟨J, L, R, rfl, fun z => ?_, fun z => ?_⟩))
    · rcases rel with rel | ⟨t, s, g, em, c1, c2, ek, b3⟩
      · subst rel; exact absurd z (PS_no p)
      · have es := (hs t s g em).1
        subst es
        have ek : K t = 16 := ek
        rw [ee t s g em] at q
        have h11 : (I 107 11).toInt = t := by
          have hS := hX.1
          rw [em] at hS
          exact hS.2.2.2.2.1
        have n21 := hT.2.2.2.1 t c1
        have ev := hv t g em ek c1 (by omega)
        subst ev
        obtain ⟨v, v1, v2, v3⟩ := hT.2.2.2.2.2.1 t c1 ek
        have e32 : (V t).toInt32 = N t := by
          refine en_ofI ?_
          rw [Int64.toInt_toInt32, v2, v3]
          exact en_bmod (by omega) (by omega) (Or.inl rfl)
        refine ⟨fun l => u_X12_number_13 ?_, fun l => ?_⟩
        · have l := kl_le.mp l
          rw [c1440] at l
          refine h _ J m' (o.map (F (N t))) f ⟨p, ?_⟩ (Or.inr ⟨t, g, em, c1, c2, ek, b3, rfl, Or.inr ⟨by omega, l, rfl⟩⟩)
          rw [b3]
          cases eo : o with
          | none =>
            rw [eo] at q
            exact PE_w q (Nat.le_succ t)
          | some a =>
            rw [eo] at q
            have := PE_st (a' := F (N t) a) (by omega) n21 (by rw [ek, hms (V t) a (lg_le.mpr (by omega)), e32]) q
            rw [ek] at this
            exact this
        · have l := kl_nle l
          rw [c1440] at l
          refine x_wrong (M0 := M0) (t := t) hT (by decide) h11 (by omega) (by omega) p (fun _ => ?_) (fun H fH _ pH wH => ⟨H, L, R, rfl, u_X12_number_13 (h _ H m' none (xfr_tr f fH) ⟨pH, ?_⟩ (Or.inr ⟨t, g, em, c1, c2, ek, b3, rfl, Or.inl rfl⟩))⟩)
          · cases eo : o with
            | none =>
              rw [eo] at q
              exact Or.inl (PE_W q (Nat.le_refl t) z)
            | some a =>
              rw [eo] at q
              obtain ⟨q1, q2⟩ := q z
              refine Or.inr ⟨Or.inl q1, ME_f (s := s) (a := a) (a' := a) (by omega) n21 ?_ (by decide) q2⟩
              unfold ms
              rw [if_pos ⟨ek, fun y => by have := lg_le.mp y; omega⟩]
          · rw [b3]; exact PW_e wH
    · have em := PS_n0 p z
      subst em
      exact u_X12_number_13 (h _ J none none f (PX_F p) (Or.inl rfl))
  refine u_X12_number_7 (x_is (i := 2 + 14) hT (by decide) rfl hX.1 (fun r _ hr => ⟨r, I, L, R, rfl, fun r0 => go 0 (fun t g em ek _ _ => ?_), fun r1 => ⟨kl_in bt (by omega), go _ (fun t g em ek c1 t5 => ?_)⟩⟩))
  · exact absurd r0 (hr.mpr ⟨t, s0, g, em, ek⟩)
  · have h11 : (I 107 11).toInt = t := by
      have hS := hX.1
      rw [em] at hS
      exact hS.2.2.2.2.1
    rw [tk_nat h11]
    exact (hX.1.1.2 t c1 t5).1
end
