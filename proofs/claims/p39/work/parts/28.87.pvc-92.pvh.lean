section
/-! names and numbers that the reference reads -/
def fm (I : sm_I) (L : sm_L) (nm : Int64) (so : Int32) : Nat → Nat → Int32
  | 0, _ => -1
  | m + 1, i => if L 115 i = nm then (if I 116 i = so then I 117 i else fm I L nm so m (i + 1)) else fm I L nm so m (i + 1)
def cntm (I : sm_I) : Nat := (I 107 20).toNatClampNeg
def fdm (I : sm_I) (L : sm_L) (nm : Int64) (so : Int32) : Int32 := fm I L nm so (cntm I) 0
theorem fm_cg {I J : sm_I} {L : sm_L} {nm : Int64} {so : Int32} (h : ∀ i, J 116 i = I 116 i ∧ J 117 i = I 117 i) : ∀ m i, fm J L nm so m i = fm I L nm so m i := by
  intro m
  induction m with
  | zero => intro i; rfl
  | succ m ih =>
    intro i
    show (if L 115 i = nm then (if J 116 i = so then J 117 i else fm J L nm so m (i + 1)) else fm J L nm so m (i + 1)) = (if L 115 i = nm then (if I 116 i = so then I 117 i else fm I L nm so m (i + 1)) else fm I L nm so m (i + 1))
    rw [ih, (h i).1, (h i).2]
theorem fdm_cg {I J : sm_I} {L : sm_L} {nm : Int64} {so : Int32} (f : xfr I J) : fdm J L nm so = fdm I L nm so := by
  unfold fdm cntm
  rw [f 107 20 (by omega), fm_cg (fun i => ⟨f 116 i (by omega), f 117 i (by omega)⟩)]
theorem fm_b {I : sm_I} {L : sm_L} {nm : Int64} {so : Int32} {Q : Int32 → Prop} (q0 : Q (-1)) : ∀ m i, (∀ j, i ≤ j → j < i + m → I 116 j = so → Q (I 117 j)) → Q (fm I L nm so m i) := by
  intro m
  induction m with
  | zero => intro i _; exact q0
  | succ m ih =>
    intro i h
    show Q (if L 115 i = nm then (if I 116 i = so then I 117 i else fm I L nm so m (i + 1)) else fm I L nm so m (i + 1))
    have g := ih (i + 1) (fun j a b => h j (by omega) (by omega))
    by_cases c1 : L 115 i = nm
    · rw [if_pos c1]
      by_cases c2 : I 116 i = so
      · rw [if_pos c2]; exact h i (Nat.le_refl _) (by omega) c2
      · rw [if_neg c2]; exact g
    · rw [if_neg c1]; exact g
theorem lg_le {x y : Int64} : lg_cmp x y ≤ 0 ↔ x.toInt ≤ y.toInt := by
  unfold lg_cmp
  by_cases c : x > y
  · rw [if_pos c]
    have c : y.toInt < x.toInt := Int64.lt_iff_toInt_lt.mp c
    exact ⟨fun z => absurd z (by decide), fun z => by omega⟩
  · rw [if_neg c]
    have c : ¬ y.toInt < x.toInt := fun q => c (Int64.lt_iff_toInt_lt.mpr q)
    refine ⟨fun _ => by omega, fun _ => ?_⟩
    by_cases c2 : x = y
    · rw [if_pos c2]; decide
    · rw [if_neg c2]; decide
section
variable {K : Nat → Int32} {P : Nat → Nat} {V W : Nat → Int64} {N : Nat → Int32} {c : Nat} {R0 : Option (Int32 × Nat)} {M0 : Option (Int32 × Nat) × sg}
variable {S : sm_C} {d : Nat} {Φ : sm_Z → Prop} {I J : sm_I} {L : sm_L} {R : sm_R} {m : mo} {e : eo} {o : Option sg}
theorem PX_e (hX : PX K P V W N c R0 M0 m o I L) : ∃ e, PEm K P V M0 e I ∧ ∀ t s g, m = some (t, s, g) → e = (t, o.map (fun a => (s, a))) := by
  match m, hX with
  | none, hX => exact ⟨(0, none), PE_n (PS_no hX.1), fun t s g q => by cases q⟩
  | some (t, s, g), hX =>
    refine ⟨_, hX.2, fun t' s' g' q => ?_⟩
    have q := Option.some.inj q
    have q1 : t = t' := congrArg Prod.fst q
    have q2 : s = s' := congrArg (fun x => x.2.1) q
    rw [← q1, ← q2]
theorem x_known3 {x1 x2 r : Int32} {t : Nat} (b0 : 0 ≤ (I 107 20).toInt) (b1 : (I 107 20).toInt ≤ 50) (h2 : x2.toInt = t) (t5 : t ≤ 502) (hb : ∀ i, i < cntm I → 0 ≤ (I 117 i).toInt) (hend : (r = -1 → sm_wp sm_P S d 213 0 [.ref 107, .int (4 : Int32), .int x2] [] (xLay, I, L, (kM R)) (0, 0) (fun z => ∃ (I1 : sm_I) (L2 : sm_L) (R3 : sm_R), z = (none, (xLay, I1, L2, (kM R3))) ∧ Φ (some (.int r), (xLay, I1, L2, (kM R3))))) ∧ (¬ r = -1 → Φ (some (.int r), (xLay, I, L, kM R)))) : ∀ (k i : Nat) (x3 x4 : Int32), x4.toInt = i → i + k = cntm I → (if x3 = -1 then fm I L (L 113 t) x1 k i else x3) = r → sm_wp sm_P S (d + 1) 154 3 [.ref 107, .int x1, .int x2, .int x3, .int x4] [] (xLay, I, L, kM R) (0, 0) Φ := by
  have nc : ((cntm I : Nat) : Int) = (I 107 20).toInt := kl_nat b0
  have n2 := tk_nat h2
  intro k
  induction k with
  | zero =>
    intro i x3 x4 hx hk hr
    have er : x3 = r := by
      by_cases c1 : x3 = -1
      · rw [if_pos c1] at hr
        have hr : (-1 : Int32) = r := hr
        rw [c1]; exact hr
      · rw [if_neg c1] at hr; exact hr
    refine u_X12_known_3 ⟨fun _ => ⟨fun c1 => ?_, fun c1 => ?_⟩, fun a => ?_⟩
    · rw [er] at c1 ⊢; exact hend.1 c1
    · rw [er] at c1 ⊢; exact hend.2 c1
    · have := kl_nle a
      omega
  | succ k ih =>
    intro i x3 x4 hx hk hr
    have n4 := tk_nat hx
    have s := ml_in1 (x := x4) (by omega)
    have v : vp_in x4 50 := kl_in (by omega) (by omega)
    have b := hb i (by omega)
    refine u_X12_known_3 ⟨fun a => ?_, fun _ => ⟨fun c1 => ⟨v, kl_in (by omega) (by omega), fun c2 => ⟨v, fun c3 => ⟨v, ?_⟩, fun c3 => ?_⟩, fun c2 => ?_⟩, fun c1 => ?_⟩⟩
    · have := kl_le.mp a
      omega
    all_goals
      have un : fm I L (L 113 t) x1 (k + 1) i = (if L 115 i = L 113 t then (if I 116 i = x1 then I 117 i else fm I L (L 113 t) x1 k (i + 1)) else fm I L (L 113 t) x1 k (i + 1)) := rfl
    · rw [tk_lg, n4, n2] at c2
      rw [n4] at c3
      rw [if_pos c1, un, if_pos c2, if_pos c3] at hr
      rw [n4]
      refine ih (i + 1) _ _ (by omega) (by omega) ?_
      rw [if_neg (fun q => by rw [q] at b; exact absurd b (by decide))]; exact hr
    · rw [tk_lg, n4, n2] at c2
      rw [n4] at c3
      rw [if_pos c1, un, if_pos c2, if_neg c3] at hr
      exact ih (i + 1) _ _ (by omega) (by omega) (by rw [if_pos c1]; exact hr)
    · rw [tk_lg, n4, n2] at c2
      rw [if_pos c1, un, if_neg c2] at hr
      exact ih (i + 1) _ _ (by omega) (by omega) (by rw [if_pos c1]; exact hr)
    · rw [if_neg c1] at hr
      exact ih (i + 1) _ _ (by omega) (by omega) (by rw [if_neg c1]; exact hr)
/-- a name that must be known: the meaning's step is left to the caller where it is -/
theorem x_known {so kd s0 : Int32} (hT : TS K P V W N c) (hm : mkx s0 15 [] = true) (hX : PX K P V W N c R0 M0 m o I L) (hs : ∀ t s g, m = some (t, s, g) → s = s0) (b0 : 0 ≤ (I 107 20).toInt) (b1 : (I 107 20).toInt ≤ 50) (hb : ∀ i, i < cntm I → 0 ≤ (I 117 i).toInt) (hl : ∀ t g a, m = some (t, s0, g) → o = some a → t < c → K t = 15 → fd a (V t) kd = fdm I L (W t) so) (h4 : ∀ (v : Int64) (a : sg), fd a v kd = -1 → ms s0 15 v a = (4, a)) (h : ∀ (r : Int32) (J : sm_I) (m' : mo), xfr I J → PSm K P W N c R0 m' J L → ((m' = none ∧ r = 0) ∨ ∃ t g, m = some (t, s0, g) ∧ t < c ∧ t < 500 ∧ K t = 15 ∧ m' = some (t + 1, fw s0 15, g) ∧ r = fdm I L (W t) so ∧ (r = -1 → PEm K P V M0 (t + 1, none) J) ∧ (¬ r = -1 → PEm K P V M0 (t, o.map (fun a => (s0, a))) J)) → Φ (some (.int r), (xLay, J, L, kM R))) : sm_wp sm_P S (d + 3) 154 0 [.ref 107, .int so] [] (xLay, I, L, kM R) (0, 0) Φ := by
  obtain ⟨e, hE, ee⟩ := PX_e hX
  refine u_X12_known_0 (x_must (i := 15) [] hT rfl hX.1 hE (fun t s g em => ⟨by rw [hs t s g em]; exact hm, fun j hj => absurd hj List.not_mem_nil⟩) (fun J m' f p q rel => ⟨J, L, R, rfl, fun z => ?_, fun z => ?_⟩))
  · have z := PS_le0 p z
    rcases rel with rel | ⟨t, s, g, em, c1, c2, ek, b3⟩
    · subst rel; exact absurd z (PS_no p)
    · have es := hs t s g em
      subst es
      have ek : K t = 15 := ek
      rw [ee t s g em] at q
      have h11 : (I 107 11).toInt = t := by
        have hS := hX.1
        rw [em] at hS
        exact hS.2.2.2.2.1
      have eW : L 113 t = W t := (hX.1.1.2 t c1 (by omega)).2
      have ef : fdm J L (W t) so = fdm I L (W t) so := fdm_cg f
      have e20 : J 107 20 = I 107 20 := f 107 20 (by omega)
      have ec : cntm J = cntm I := by unfold cntm; rw [e20]
      refine x_known3 (r := fdm I L (W t) so) (t := t) (by rw [e20]; exact b0) (by rw [e20]; exact b1) h11 (by omega) (fun i hi => by rw [f 117 i (by omega)]; exact hb i (by rw [← ec]; exact hi)) ⟨fun r1 => ?_, fun r1 => ?_⟩ (cntm J) 0 (-1) 0 (by decide) (by omega) (by rw [if_pos rfl, eW]; exact ef)
      · refine x_wrong (t := t) hT (by decide) h11 (by omega) (by omega) p (fun _ => ?_) (fun H fH _ pH wH => ⟨H, L, R, rfl, h _ H m' (xfr_tr f fH) pH (Or.inr ⟨t, g, em, c1, c2, ek, b3, rfl, fun _ => PW_e wH, fun z => absurd r1 z⟩)⟩)
        cases eo : o with
        | none =>
          rw [eo] at q
          exact Or.inl (PE_W q (Nat.le_refl t) z)
        | some a =>
          rw [eo] at q
          obtain ⟨q1, q2⟩ := q z
          refine Or.inr ⟨Or.inl q1, ME_f (s := s) (a := a) (by omega) (hT.2.2.2.1 t c1) (by rw [ek]; exact h4 (V t) a (by rw [hl t g a em eo c1 ek]; exact r1)) (by decide) q2⟩
      · exact h _ J m' f p (Or.inr ⟨t, g, em, c1, c2, ek, b3, rfl, fun z => absurd z r1, fun _ => q⟩)
  · have nz : ¬ J 107 13 = 0 := fun y => z (by rw [y]; decide)
    have := PS_n0 p nz
    subst this
    exact h 0 J none f p (Or.inl ⟨rfl, rfl⟩)
/-- the same where being known is all that is asked -/
theorem x_knownS {so kd s0 : Int32} (hT : TS K P V W N c) (hm : mkx s0 15 [] = true) (hX : PX K P V W N c R0 M0 m o I L) (hs : ∀ t s g, m = some (t, s, g) → s = s0) (b0 : 0 ≤ (I 107 20).toInt) (b1 : (I 107 20).toInt ≤ 50) (hb : ∀ i, i < cntm I → 0 ≤ (I 117 i).toInt) (hl : ∀ t g a, m = some (t, s0, g) → o = some a → t < c → K t = 15 → fd a (V t) kd = fdm I L (W t) so) (F : Int32 → sg → sg) (h4 : ∀ (v : Int64) (a : sg), ms s0 15 v a = if fd a v kd = -1 then (4, a) else (0, F (fd a v kd) a)) (h : ∀ (r : Int32) (J : sm_I) (m' : mo) (o' : Option sg), xfr I J → PX K P V W N c R0 M0 m' o' J L → ((m' = none ∧ r = 0) ∨ ∃ t g, m = some (t, s0, g) ∧ t < c ∧ t < 500 ∧ K t = 15 ∧ m' = some (t + 1, fw s0 15, g) ∧ r = fdm I L (W t) so ∧ (o' = none ∨ (¬ r = -1 ∧ o' = o.map (F r)))) → Φ (some (.int r), (xLay, J, L, kM R))) : sm_wp sm_P S (d + 3) 154 0 [.ref 107, .int so] [] (xLay, I, L, kM R) (0, 0) Φ := by
  refine x_known (kd := kd) hT hm hX hs b0 b1 hb hl (fun v a q => by rw [h4, if_pos q]) (fun r J m' f p rel => ?_)
  rcases rel with ⟨rel, r0⟩ | ⟨t, g, em, c1, c2, ek, em', er, w1, w2⟩
  · subst rel
    exact h r J none none f (PX_F p) (Or.inl ⟨rfl, r0⟩)
  · by_cases r1 : r = -1
    · refine h r J m' none f ⟨p, ?_⟩ (Or.inr ⟨t, g, em, c1, c2, ek, em', er, Or.inl rfl⟩)
      rw [em']; exact w1 r1
    · refine h r J m' (o.map (F r)) f ⟨p, ?_⟩ (Or.inr ⟨t, g, em, c1, c2, ek, em', er, Or.inr ⟨r1, rfl⟩⟩)
      rw [em']
      have q := w2 r1
      cases eo : o with
      | none =>
        rw [eo] at q
        exact PE_w q (Nat.le_succ t)
      | some a =>
        rw [eo] at q
        have ef : fd a (V t) kd = r := by rw [hl t g a em eo c1 ek, er]
        have := PE_st (a' := F r a) (by omega) (hT.2.2.2.1 t c1) (by rw [ek, h4, ef, if_neg r1]) q
        rw [ek] at this
        exact this
/-- a new name -/
theorem x_named1 {x1 : Int32} {t : Nat} {s : Int32} {I0 : sm_I} (hT : TS K P V W N c) (h1 : x1.toInt = t) (tc : t < c) (t5 : t ≤ 500) (b0 : 0 ≤ (I0 107 20).toInt) (b1 : (I0 107 20).toInt ≤ 50) (eW : L 113 t = W t) (hM : ∀ a, o = some a → (∃ i, i < cntm I0 ∧ L 115 i = W t) → ME K V (501 - t) t s a = M0 → M0.1 = some (3, t)) (h : ∀ J : sm_I, xfr I0 J → PSm K P W N c R0 m J L → (((∃ i, i < cntm I0 ∧ L 115 i = W t) ∧ PEm K P V M0 (t + 1, none) J) ∨ ((¬ ∃ i, i < cntm I0 ∧ L 115 i = W t) ∧ PEm K P V M0 (t, o.map (fun a => (s, a))) J)) → Φ (some (.int x1), (xLay, J, L, kM R))) : ∀ (k i : Nat) (I : sm_I) (x2 : Int32), x2.toInt = i → i + k = cntm I0 → xfr I0 I → PSm K P W N c R0 m I L → (I 107 13 = 0) → (((∃ j, j < i ∧ L 115 j = W t) ∧ PWx P M0 3 t I) ∨ ((¬ ∃ j, j < i ∧ L 115 j = W t) ∧ PEm K P V M0 (t, o.map (fun a => (s, a))) I)) → sm_wp sm_P S (d + 1) 166 1 [.ref 107, .int x1, .int x2] [] (xLay, I, L, kM R) (0, 0) Φ := by
  have nc : ((cntm I0 : Nat) : Int) = (I0 107 20).toInt := kl_nat b0
  have n1 := tk_nat h1
  intro k
  induction k with
  | zero =>
    intro i I x2 hx hk f hS z hi
    have ei : i = cntm I0 := by omega
    refine u_X12_named_1 ⟨fun _ => h I f hS ?_, fun a => ?_⟩
    · rcases hi with ⟨q1, q2⟩ | ⟨q1, q2⟩
      · exact Or.inl ⟨by rw [← ei]; exact q1, PW_e q2⟩
      · exact Or.inr ⟨by rw [← ei]; exact q1, q2⟩
    · have := kl_nle a
      rw [f 107 20 (by omega)] at this
      omega
  | succ k ih =>
    intro i I x2 hx hk f hS z hi
    have n2 := tk_nat hx
    have s1 := ml_in1 (x := x2) (by omega)
    refine u_X12_named_1 ⟨fun a => ?_, fun _ => ⟨fun _ => ⟨kl_in (by omega) (by omega), kl_in (by omega) (by omega), fun c1 => ?_, fun c1 => ?_⟩, fun q => absurd z q⟩⟩
    · have := kl_le.mp a
      rw [f 107 20 (by omega)] at this
      omega
    · rw [tk_lg, n2, n1, eW] at c1
      refine x_wrong (t := t) hT (by decide) h1 (by omega) (by omega) hS (fun _ => ?_) (fun H fH h11 pH wH => ⟨H, L, R, rfl, ih (i + 1) H _ (by omega) (by omega) (xfr_tr f fH) pH ?_ (Or.inl ⟨⟨i, by omega, c1⟩, wH⟩)⟩)
      · rcases hi with ⟨q1, q2⟩ | ⟨q1, q2⟩
        · exact Or.inl (q2 z)
        · cases eo : o with
          | none =>
            rw [eo] at q2
            exact Or.inl (PE_W q2 (Nat.le_refl t) z)
          | some a =>
            rw [eo] at q2
            obtain ⟨y1, y2⟩ := q2 z
            exact Or.inr ⟨Or.inl y1, hM a eo ⟨i, by omega, c1⟩ y2⟩
      · by_cases y : H 107 13 = 0
        · exact y
        · have em := PS_n0 pH y
          subst em
          exact absurd z (PS_no hS)
    · rw [tk_lg, n2, n1, eW] at c1
      refine ih (i + 1) I _ (by omega) (by omega) f hS z ?_
      rcases hi with ⟨⟨j, j1, j2⟩, q2⟩ | ⟨q1, q2⟩
      · exact Or.inl ⟨⟨j, by omega, j2⟩, q2⟩
      · refine Or.inr ⟨fun ⟨j, j1, j2⟩ => ?_, q2⟩
        by_cases c2 : j = i
        · subst c2; exact c1 j2
        · exact q1 ⟨j, by omega, j2⟩
theorem x_named {s0 : Int32} (hT : TS K P V W N c) (hm : mkx s0 15 [] = true) (hms : ∀ (v : Int64) (a : sg), ms s0 15 v a = tk_new v a) (hX : PX K P V W N c R0 M0 m o I L) (hs : ∀ t s g, m = some (t, s, g) → s = s0) (b0 : 0 ≤ (I 107 20).toInt) (b1 : (I 107 20).toInt ≤ 50) (hn : ∀ t g a, m = some (t, s0, g) → o = some a → t < c → K t = 15 → ((∃ i, i < cntm I ∧ L 115 i = W t) ↔ twc a.2 (V t) (cnt a.1) 0 = true) ∧ ¬ 35 ≤ a.1 2 5) (h : ∀ (J : sm_I) (m' : mo) (o' : Option sg), xfr I J → PX K P V W N c R0 M0 m' o' J L → (m' = none ∨ ∃ t g, m = some (t, s0, g) ∧ t < c ∧ t < 500 ∧ K t = 15 ∧ m' = some (t + 1, fw s0 15, g) ∧ (o' = none ∨ (o' = o.map (nm_add (V t)) ∧ ¬ ∃ i, i < cntm I ∧ L 115 i = W t))) → Φ (some (.int (I 107 11)), (xLay, J, L, kM R))) : sm_wp sm_P S (d + 3) 166 0 [.ref 107] [] (xLay, I, L, kM R) (0, 0) Φ := by
  obtain ⟨e, hE, ee⟩ := PX_e hX
  refine u_X12_named_0 (x_must (i := 15) [] hT rfl hX.1 hE (fun t s g em => ⟨by rw [hs t s g em]; exact hm, fun j hj => absurd hj List.not_mem_nil⟩) (fun J m' f p q rel => ⟨J, L, R, rfl, ?_⟩))
  by_cases z : J 107 13 = 0
  · rcases rel with rel | ⟨t, s, g, em, c1, c2, ek, b3⟩
    · subst rel; exact absurd z (PS_no p)
    · have es := hs t s g em
      subst es
      have ek : K t = 15 := ek
      rw [ee t s g em] at q
      have h11 : (I 107 11).toInt = t := by
        have hS := hX.1
        rw [em] at hS
        exact hS.2.2.2.2.1
      have eW : L 113 t = W t := (hX.1.1.2 t c1 (by omega)).2
      have e20 : J 107 20 = I 107 20 := f 107 20 (by omega)
      have ec : cntm J = cntm I := by unfold cntm; rw [e20]
      have n21 := hT.2.2.2.1 t c1
      refine x_named1 (t := t) (s := s) (o := o) (I0 := J) hT h11 c1 (by omega) (by rw [e20]; exact b0) (by rw [e20]; exact b1) eW (fun a eo w hq => ?_) (fun H fH pH rH => ?_) (cntm J) 0 J 0 (by decide) (by omega) xfr_rf p z (Or.inr ⟨fun ⟨j, j1, _⟩ => absurd j1 (Nat.not_lt_zero j), q⟩)
      · rw [ec] at w
        have tw := (hn t g a em eo c1 ek).1.mp w
        exact ME_f (s := s) (a := a) (by omega) n21 (by rw [ek, hms]; unfold tk_new; rw [if_pos tw]) (by decide) hq
      · rw [ec] at rH
        rcases rH with ⟨r1, r2⟩ | ⟨r1, r2⟩
        · refine h H m' none (xfr_tr f fH) ⟨pH, ?_⟩ (Or.inr ⟨t, g, em, c1, c2, ek, b3, Or.inl rfl⟩)
          rw [b3]; exact r2
        · refine h H m' (o.map (nm_add (V t))) (xfr_tr f fH) ⟨pH, ?_⟩ (Or.inr ⟨t, g, em, c1, c2, ek, b3, Or.inr ⟨rfl, r1⟩⟩)
          rw [b3]
          cases eo : o with
          | none =>
            rw [eo] at r2
            exact PE_w r2 (Nat.le_succ t)
          | some a =>
            rw [eo] at r2
            obtain ⟨y1, y2⟩ := hn t g a em eo c1 ek
            have tw : ¬ twc a.2 (V t) (cnt a.1) 0 = true := fun y => r1 (y1.mpr y)
            have := PE_st (a' := nm_add (V t) a) (by omega) n21 (by rw [ek, hms]; unfold tk_new; rw [if_neg tw, if_neg y2]) r2
            rw [ek] at this
            exact this
  · have em := PS_n0 p z
    subst em
    exact u_X12_named_1 ⟨fun _ => h J none none f (PX_F p) (Or.inl rfl), fun _ => ⟨fun q => absurd q z, fun _ => h J none none f (PX_F p) (Or.inl rfl)⟩⟩
/-- a number -/
theorem x_num7 {x2 s0 : Int32} (ex : List Nat) (hT : TS K P V W N c) (hm : mkx s0 16 ex = true) (F : Int32 → sg → sg) (hms : ∀ (v : Int64) (a : sg), lg_cmp v 1440 ≤ 0 → ms s0 16 v a = (0, F v.toInt32 a)) (hX : PX K P V W N c R0 M0 m o I L) (hs : ∀ t s g, m = some (t, s, g) → s = s0 ∧ ∀ j, j ∈ ex → K t = Int32.ofNat j → (j = 9 ∨ j = 13) ∧ g.tell = 12) (h : ∀ (r : Int32) (J : sm_I) (m' : mo) (o' : Option sg), xfr I J → PX K P V W N c R0 M0 m' o' J L → (m' = none ∨ ∃ t g, m = some (t, s0, g) ∧ t < c ∧ t < 500 ∧ K t = 16 ∧ m' = some (t + 1, fw s0 16, g) ∧ r = x2 * N t ∧ (o' = none ∨ (0 ≤ (N t).toInt ∧ (N t).toInt ≤ 1440 ∧ o' = o.map (F (N t))))) → Φ (some (.int r), (xLay, J, L, kM R))) : sm_wp sm_P S (d + 3) 169 7 [.ref 107, .int x2] [] (xLay, I, L, kM R) (0, 0) Φ := by
  obtain ⟨e, hE, ee⟩ := PX_e hX
  have bt := hX.1.2.1
  have bt2 := hX.1.2.2.1
  have c1440 : (1440 : Int32).toInt = 1440 := by decide
  have c1440' : (1440 : Int64).toInt = 1440 := by decide
  have go : ∀ s1 : Int32, (∀ t g, m = some (t, s0, g) → K t = 16 → t < c → t ≤ 500 → s1 = N t) → sm_wp sm_P S (d + 3) 169 10 [.ref 107, .int x2, .int (I 107 11)] [.int s1] (xLay, I, L, kM R) (0, 0) Φ := by
    intro s1 hv
    refine u_X12_number_10 (x_must (i := 16) ex hT rfl hX.1 hE (fun t s g em => ⟨by rw [(hs t s g em).1]; exact hm, (hs t s g em).2⟩) (fun J m' f p q rel => ⟨J, L, R, rfl, fun z => ?_, fun z => ?_⟩))
    · rcases rel with rel | ⟨t, s, g, em, c1, c2, ek, b3⟩
      · subst rel; exact absurd z (PS_no p)
      · have es := (hs t s g em).1
        subst es
        have ek : K t = 16 := ek
        rw [ee t s g em] at q
        have h11 : (I 107 11).toInt = t := by
          have hS := hX.1
          rw [em] at hS
          exact hS.2.2.2.2.1
        have n21 := hT.2.2.2.1 t c1
        have ev := hv t g em ek c1 (by omega)
        subst ev
        obtain ⟨v, v1, v2, v3⟩ := hT.2.2.2.2.2.1 t c1 ek
        have e32 : (V t).toInt32 = N t := by
          refine en_ofI ?_
          rw [Int64.toInt_toInt32, v2, v3]
          exact en_bmod (by omega) (by omega) (Or.inl rfl)
        refine ⟨fun l => u_X12_number_13 ?_, fun l => ?_⟩
        · have l := kl_le.mp l
          rw [c1440] at l
          refine h _ J m' (o.map (F (N t))) f ⟨p, ?_⟩ (Or.inr ⟨t, g, em, c1, c2, ek, b3, rfl, Or.inr ⟨by omega, l, rfl⟩⟩)
          rw [b3]
          cases eo : o with
          | none =>
            rw [eo] at q
            exact PE_w q (Nat.le_succ t)
          | some a =>
            rw [eo] at q
            have := PE_st (a' := F (N t) a) (by omega) n21 (by rw [ek, hms (V t) a (lg_le.mpr (by omega)), e32]) q
            rw [ek] at this
            exact this
        · have l := kl_nle l
          rw [c1440] at l
          refine x_wrong (M0 := M0) (t := t) hT (by decide) h11 (by omega) (by omega) p (fun _ => ?_) (fun H fH _ pH wH => ⟨H, L, R, rfl, u_X12_number_13 (h _ H m' none (xfr_tr f fH) ⟨pH, ?_⟩ (Or.inr ⟨t, g, em, c1, c2, ek, b3, rfl, Or.inl rfl⟩))⟩)
          · cases eo : o with
            | none =>
              rw [eo] at q
              exact Or.inl (PE_W q (Nat.le_refl t) z)
            | some a =>
              rw [eo] at q
              obtain ⟨q1, q2⟩ := q z
              refine Or.inr ⟨Or.inl q1, ME_f (s := s) (a := a) (a' := a) (by omega) n21 ?_ (by decide) q2⟩
              unfold ms
              rw [if_pos ⟨ek, fun y => by have := lg_le.mp y; omega⟩]
          · rw [b3]; exact PW_e wH
    · have em := PS_n0 p z
      subst em
      exact u_X12_number_13 (h _ J none none f (PX_F p) (Or.inl rfl))
  refine u_X12_number_7 (x_is (i := 2 + 14) hT (by decide) rfl hX.1 (fun r _ hr => ⟨r, I, L, R, rfl, fun r0 => go 0 (fun t g em ek _ _ => ?_), fun r1 => ⟨kl_in bt (by omega), go _ (fun t g em ek c1 t5 => ?_)⟩⟩))
  · exact absurd r0 (hr.mpr ⟨t, s0, g, em, ek⟩)
  · have h11 : (I 107 11).toInt = t := by
      have hS := hX.1
      rw [em] at hS
      exact hS.2.2.2.2.1
    rw [tk_nat h11]
    exact (hX.1.1.2 t c1 t5).1
end
end
section
/-! numbers with a sign or without, the first TOKEN of a tell, names that are new -/
theorem i32_a1 (x : Int32) : x + 1 - 1 = x := by
  rw [Int32.sub_eq_add_neg, Int32.add_assoc, show (1 : Int32) + -1 = 0 from by decide, Int32.add_zero]
theorem i32_1m (x : Int32) : 1 * x = x := Int32.one_mul x
theorem i32_n1 (x : Int32) : (-1) * x = -x := by rw [Int32.neg_mul, Int32.one_mul]
theorem i32_neg {x : Int32} (h0 : 0 ≤ x.toInt) : (-x).toInt = -x.toInt := by
  have := x.toInt_lt
  rw [Int32.toInt_neg]; exact en_bmod (by omega) (by omega) (Or.inl rfl)
section
variable {K : Nat → Int32} {P : Nat → Nat} {V W : Nat → Int64} {N : Nat → Int32} {c : Nat} {R0 : Option (Int32 × Nat)} {M0 : Option (Int32 × Nat) × sg}
variable {S : sm_C} {d : Nat} {Φ : sm_Z → Prop} {I J : sm_I} {L : sm_L} {R : sm_R} {m : mo} {e : eo} {o : Option sg}
theorem x_numU {s0 : Int32} (hT : TS K P V W N c) (hm : mkx s0 16 [] = true) (F : Int32 → sg → sg) (hms : ∀ (v : Int64) (a : sg), lg_cmp v 1440 ≤ 0 → ms s0 16 v a = (0, F v.toInt32 a)) (hX : PX K P V W N c R0 M0 m o I L) (hs : ∀ t s g, m = some (t, s, g) → s = s0) (h : ∀ (r : Int32) (J : sm_I) (m' : mo) (o' : Option sg), xfr I J → PX K P V W N c R0 M0 m' o' J L → (m' = none ∨ ∃ t g, m = some (t, s0, g) ∧ t < c ∧ t < 500 ∧ m' = some (t + 1, fw s0 16, g) ∧ (o' = none ∨ (0 ≤ r.toInt ∧ r.toInt ≤ 1440 ∧ o' = o.map (F r)))) → Φ (some (.int r), (xLay, J, L, kM R))) : sm_wp sm_P S (d + 3) 169 0 [.ref 107, .int (0 : Int32)] [] (xLay, I, L, kM R) (0, 0) Φ := by
  refine u_X12_number_0 ⟨fun _ => ⟨fun _ => x_num7 [] hT hm F hms hX (fun t s g em => ⟨hs t s g em, fun j hj => absurd hj List.not_mem_nil⟩) (fun r J m' o' f p rel => h r J m' o' f p ?_), fun z => absurd rfl z⟩, fun z => absurd rfl z⟩
  rcases rel with rel | ⟨t, g, em, c1, c2, ek, em', er, ro⟩
  · exact Or.inl rel
  · rw [i32_1m] at er
    subst er
    exact Or.inr ⟨t, g, em, c1, c2, em', ro⟩
theorem x_numS {s0 s1 : Int32} (hT : TS K P V W N c) (hm : mkx s0 16 [19] = true) (hm0 : mkx s0 19 [16] = true) (hm1 : mkx s1 16 [] = true) (e1 : fw s0 19 = s1) (e2 : fw s1 16 = fw s0 16) (F : Int32 → sg → sg) (hms : ∀ (v : Int64) (a : sg), lg_cmp v 1440 ≤ 0 → ms s0 16 v a = (0, F v.toInt32 a)) (hms1 : ∀ (v : Int64) (a : sg), lg_cmp v 1440 ≤ 0 → ms s1 16 v a = (0, F (-v.toInt32) a)) (ht : ∀ (v : Int64) (a : sg), ms s0 19 v a = (0, a)) (hX : PX K P V W N c R0 M0 m o I L) (hs : ∀ t s g, m = some (t, s, g) → s = s0) (h : ∀ (r : Int32) (J : sm_I) (m' : mo) (o' : Option sg), xfr I J → PX K P V W N c R0 M0 m' o' J L → (m' = none ∨ ∃ t g u, m = some (t, s0, g) ∧ t ≤ u ∧ u < c ∧ u < 500 ∧ m' = some (u + 1, fw s0 16, g) ∧ (o' = none ∨ (-1440 ≤ r.toInt ∧ r.toInt ≤ 1440 ∧ o' = o.map (F r)))) → Φ (some (.int r), (xLay, J, L, kM R))) : sm_wp sm_P S (d + 3) 169 0 [.ref 107, .int (1 : Int32)] [] (xLay, I, L, kM R) (0, 0) Φ := by
  obtain ⟨k1, k2, k3, k4, k5, k6⟩ := mkx_ok hm0
  refine u_X12_number_0 ⟨fun z => absurd z (by decide), fun _ => x_is (i := 19) hT (by decide) rfl hX.1 (fun r16 _ hr => ⟨r16, I, L, R, rfl, fun r0 => ⟨fun z => absurd z (by decide), fun _ => x_is (i := 19) hT (by decide) rfl hX.1 (fun r20 _ hr2 => ⟨r20, I, L, R, rfl, fun _ => ?_, fun y => absurd r0 (hr.mpr (hr2.mp y))⟩)⟩, fun r1 => ⟨fun z => absurd z (by decide), fun _ => x_is (i := 19) hT (by decide) rfl hX.1 (fun r32 _ hr2 => ⟨r32, I, L, R, rfl, fun y => absurd y (hr2.mpr (hr.mp r1)), fun _ => ?_⟩)⟩⟩)⟩
  · refine x_num7 [19] hT hm F hms hX (fun t s g em => ⟨hs t s g em, fun j hj ek => ?_⟩) (fun r J m' o' f p rel => h r J m' o' f p ?_)
    · rw [List.mem_singleton.mp hj] at ek
      exact absurd r0 (hr.mpr ⟨t, s, g, em, ek⟩)
    · rcases rel with rel | ⟨t, g, em, c1, c2, ek, em', er, ro⟩
      · exact Or.inl rel
      · rw [i32_1m] at er
        subst er
        refine Or.inr ⟨t, g, t, em, Nat.le_refl _, c1, c2, em', ?_⟩
        rcases ro with ro | ⟨q1, q2, q3⟩
        · exact Or.inl ro
        · exact Or.inr ⟨by omega, q2, q3⟩
  · obtain ⟨t, s, g, em, ek⟩ := hr.mp r1
    have es := hs t s g em
    subst es
    obtain ⟨e, hE, ee⟩ := PX_e hX
    have gk : g.alls ≤ 4 ∧ g.parts ≤ 3 := by
      have hS := hX.1
      rw [em] at hS
      exact hS.2.2.2.2.2.2.2 k1
    obtain ⟨g1, g2, g3, g4⟩ := gc_in (g := g) k1 k2 k4 k5 gk
    refine x_go (k := Int32.ofNat 19) hT hX.1 hE (fun t' s' g' em' => ?_) (fun J m' f p q rel => ⟨J, L, R, rfl, ?_⟩)
    · obtain ⟨rfl, rfl, rfl⟩ : t = t' ∧ s = s' ∧ g = g' := by
        have q := Option.some.inj (em.symm.trans em')
        exact ⟨congrArg Prod.fst q, congrArg (fun x => x.2.1) q, congrArg (fun x => x.2.2) q⟩
      exact ⟨ek, by rw [ek]; exact g4, k3, g3, g2, by rw [g1]; exact gk⟩
    · have hX2 : PX K P V W N c R0 M0 m' o J L := by
        refine ⟨p, ?_⟩
        rcases rel with rel | ⟨t', s', g', em', b1, b2, b3⟩
        · rw [rel]; trivial
        · obtain ⟨rfl, rfl, rfl⟩ : t = t' ∧ s = s' ∧ g = g' := by
            have q := Option.some.inj (em.symm.trans em')
            exact ⟨congrArg Prod.fst q, congrArg (fun x => x.2.1) q, congrArg (fun x => x.2.2) q⟩
          rw [b3]
          rw [ee t s g em] at q
          cases eo : o with
          | none =>
            rw [eo] at q
            exact PE_w q (Nat.le_succ t)
          | some a =>
            rw [eo] at q
            have := PE_st (by omega) (hT.2.2.2.1 t b1) (by rw [ek]; exact ht (V t) a) q
            rw [ek] at this
            exact this
      refine x_num7 (x2 := -1) (s0 := s1) [] hT hm1 (fun r => F (-r)) hms1 hX2 (fun t' s' g' em' => ⟨?_, fun j hj => absurd hj List.not_mem_nil⟩) (fun r J' m'' o' f' p' rel' => h r J' m'' o' (xfr_tr f f') p' ?_)
      · rcases rel with rel | ⟨t2, s2, g2', em2, b1, b2, b3⟩
        · rw [rel] at em'; cases em'
        · obtain ⟨rfl, rfl, rfl⟩ : t = t2 ∧ s = s2 ∧ g = g2' := by
            have q := Option.some.inj (em.symm.trans em2)
            exact ⟨congrArg Prod.fst q, congrArg (fun x => x.2.1) q, congrArg (fun x => x.2.2) q⟩
          rw [b3] at em'
          have := congrArg (fun x => x.2.1) (Option.some.inj em')
          have : fw s (Int32.ofNat 19) = s' := this
          rw [← this]; exact e1
      · rcases rel' with rel' | ⟨t', g', em', c1, c2, ek', em'', er, ro⟩
        · exact Or.inl rel'
        · rcases rel with rel | ⟨t2, s2, g2', em2, b1, b2, b3⟩
          · rw [rel] at em'; cases em'
          · obtain ⟨rfl, rfl, rfl⟩ : t = t2 ∧ s = s2 ∧ g = g2' := by
              have q := Option.some.inj (em.symm.trans em2)
              exact ⟨congrArg Prod.fst q, congrArg (fun x => x.2.1) q, congrArg (fun x => x.2.2) q⟩
            rw [b3, g1] at em'
            have q := Option.some.inj em'
            have q1 : t + 1 = t' := congrArg Prod.fst q
            have q3 : g = g' := congrArg (fun x => x.2.2) q
            subst q3
            rw [i32_n1] at er
            refine Or.inr ⟨t, g, t', em, by omega, c1, c2, by rw [em'', e2], ?_⟩
            rcases ro with ro | ⟨y1, y2, y3⟩
            · exact Or.inl ro
            · have := i32_neg y1
              refine Or.inr ⟨by rw [er]; omega, by rw [er]; omega, ?_⟩
              rw [y3, er]
/-- the word that a tell begins with -/
theorem x_go0 {k : Int32} {t : Nat} {g : gc} (hT : TS K P V W N c) (ek : K t = k) (k16 : k ≠ 16) (k21 : k ≠ 21) (kf : fw 0 k ≠ -1) (k15 : k.toInt < 15) (k9 : ¬ (k = 9 ∨ k = 13)) (ok : gc_ok 0 k g = true) (hX : PX K P V W N c R0 M0 (some (t, 0, g)) o I L) (h : ∀ (J : sm_I) (m' : mo), xfr I J → PX K P V W N c R0 M0 m' (o.map (fun a => u2 a 2 7 k)) J L → (m' = none ∨ (t < c ∧ t < 500 ∧ m' = some (t + 1, fw 0 k, gc_st 0 k g))) → Φ (none, (xLay, J, L, kM R))) : sm_wp sm_P S (d + 1) 136 0 [.ref 107] [] (xLay, I, L, kM R) (0, 0) Φ := by
  have st : gc_st 0 k g = ⟨k, 1, 1, fun j => if j = gw k then g.tells j + 1 else g.tells j⟩ := by unfold gc_st; rw [if_pos ⟨rfl, k15⟩]
  refine x_go (k := k) hT hX.1 hX.2 (fun t' s' g' em' => ?_) (fun J m' f p q rel => h J m' f ⟨p, ?_⟩ ?_)
  · obtain ⟨rfl, rfl, rfl⟩ : t = t' ∧ 0 = s' ∧ g = g' := by
      have q := Option.some.inj em'
      exact ⟨congrArg Prod.fst q, congrArg (fun x => x.2.1) q, congrArg (fun x => x.2.2) q⟩
    exact ⟨ek, by rw [ek]; exact k21, kf, fun z => k9 z.1, ok, by rw [st]; exact ⟨(by decide : (1 : Nat) ≤ 4), (by decide : (1 : Nat) ≤ 3)⟩⟩
  · rcases rel with rel | ⟨t', s', g', em', b1, b2, b3⟩
    · rw [rel]; trivial
    · obtain ⟨rfl, rfl, rfl⟩ : t = t' ∧ 0 = s' ∧ g = g' := by
        have q := Option.some.inj em'
        exact ⟨congrArg Prod.fst q, congrArg (fun x => x.2.1) q, congrArg (fun x => x.2.2) q⟩
      rw [b3]
      cases eo : o with
      | none =>
        rw [eo] at q
        exact PE_w q (Nat.le_succ t)
      | some a =>
        rw [eo] at q
        have e0 : ms 0 (K t) (V t) a = (0, u2 a 2 7 k) := by
          rw [ek]; unfold ms; rw [if_neg (fun z => k16 z.1)]; unfold tk_take; rw [if_pos (by decide)]
        have := PE_st (by omega) (hT.2.2.2.1 t b1) e0 q
        rw [ek] at this
        exact this
  · rcases rel with rel | ⟨t', s', g', em', b1, b2, b3⟩
    · exact Or.inl rel
    · obtain ⟨rfl, rfl, rfl⟩ : t = t' ∧ 0 = s' ∧ g = g' := by
        have q := Option.some.inj em'
        exact ⟨congrArg Prod.fst q, congrArg (fun x => x.2.1) q, congrArg (fun x => x.2.2) q⟩
      exact Or.inr ⟨b1, b2, b3⟩
/-- a name is told from now on -/
theorem x_knows {x1 x2 x3 : Int32} {t : Nat} (h1 : x1.toInt = t) (t5 : t ≤ 500) (b0 : 0 ≤ (I 107 20).toInt) (b1 : (I 107 20).toInt ≤ 49) (hX : PX K P V W N c R0 M0 m o I L) (h : ∀ (J : sm_I) (L' : sm_L), J = sm_up (sm_up (sm_up I 116 (cntm I) x2) 117 (cntm I) x3) 107 20 (I 107 20 + 1) → L' = sm_up L 115 (cntm I) (L 113 t) → PX K P V W N c R0 M0 m o J L' → Φ (none, (xLay, J, L', kM R))) : sm_wp sm_P S d 155 0 [.ref 107, .int x1, .int x2, .int x3] [] (xLay, I, L, kM R) (0, 0) Φ := by
  have n1 := tk_nat h1
  have nc : ((cntm I : Nat) : Int) = (I 107 20).toInt := kl_nat b0
  have v : vp_in (I 107 20) 50 := kl_in b0 (by omega)
  refine u_X12_knows_0 ⟨kl_in (by omega) (by omega), v, fun L1 q1 => ⟨v, fun I2 q2 => ?_⟩⟩
  have g2 : I2 107 20 = I 107 20 := by rw [q2, en_up_ne _ _ _ _ (by omega)]
  rw [g2]
  refine ⟨v, fun I3 q3 I4 q4 => ?_⟩
  have g3 : I3 107 20 = I 107 20 := by rw [q3, en_up_ne _ _ _ _ (by omega)]; exact g2
  rw [n1] at q1
  rw [g3] at q4
  have hX3 : PX K P V W N c R0 M0 m o I3 L := by
    rw [q3, q2]
    exact PX_up (by decide) (by omega) (PX_up (by decide) (by omega) hX)
  have e4 : I4 = sm_up (sm_up (sm_up I 116 (cntm I) x2) 117 (cntm I) x3) 107 20 (I 107 20 + 1) := by rw [q4, q3, q2]; rfl
  refine h I4 L1 e4 q1 ?_
  have o4 : ∀ p j, ¬ (p = 107 ∧ j = 20) → I4 p j = I3 p j := fun p j hp => by rw [q4, en_up_ne _ _ _ _ hp]
  have oL : ∀ p j, p ≠ 115 → L1 p j = L p j := fun p j hp => by rw [q1, en_up_ne _ _ _ _ (by omega)]
  obtain ⟨hS, hE⟩ := hX3
  have tx4 : tx K P W N c I4 L1 := ⟨fun i a b => by rw [o4 110 i (by omega), o4 111 i (by omega)]; exact hS.1.1 i a b, fun i a b => by rw [o4 112 i (by omega), oL 113 i (by omega)]; exact hS.1.2 i a b⟩
  refine ⟨?_, ?_⟩
  · unfold PSm PFa at hS ⊢
    rw [o4 107 11 (by omega), o4 107 13 (by omega), o4 107 14 (by omega)]
    exact ⟨tx4, hS.2⟩
  · match m, hE with
    | none, _ => trivial
    | some (t, s, g), hE =>
      have hE : PEm K P V M0 (t, o.map (fun a => (s, a))) I3 := hE
      show PEm K P V M0 (t, o.map (fun a => (s, a))) I4
      exact PE_cg hE (fun z => by rw [o4 107 13 (by omega)] at z; exact z) (o4 107 15 (by omega)) (o4 107 16 (by omega))
end
end
section
/-! what the pure machine holds and what the reference holds -/
def srt (k s : Int32) : Prop := (k = 0 ∧ s = 0) ∨ (k = 1 ∧ s = 1) ∨ (k = 3 ∧ s = 2) ∨ (k = 6 ∧ s = 3) ∨ (k = 12 ∧ s = 4)
theorem srt_iff {k s k' s' : Int32} (h : srt k s) (h' : srt k' s') : k = k' ↔ s = s' := by
  unfold srt at h h'
  rcases h with ⟨rfl, rfl⟩ | ⟨rfl, rfl⟩ | ⟨rfl, rfl⟩ | ⟨rfl, rfl⟩ | ⟨rfl, rfl⟩ <;> rcases h' with ⟨rfl, rfl⟩ | ⟨rfl, rfl⟩ | ⟨rfl, rfl⟩ | ⟨rfl, rfl⟩ | ⟨rfl, rfl⟩ <;> decide
/-- the first n names -/
def rN (K : Nat → Int32) (V W : Nat → Int64) (t n : Nat) (a : sg) (I : sm_I) (L : sm_L) : Prop := ∃ ti : Nat → Nat, ∀ i, i < n → ti i < t ∧ K (ti i) = 15 ∧ a.2 i = V (ti i) ∧ L 115 i = W (ti i) ∧ srt (a.1 10 i) (I 116 i) ∧ a.1 11 i = I 117 i
section
variable {K : Nat → Int32} {P : Nat → Nat} {V W : Nat → Int64} {N : Nat → Int32} {c : Nat} {t n : Nat} {a a' : sg} {I J : sm_I} {L L' : sm_L}
theorem rN_cg (h : rN K V W t n a I L) (t' : Nat) (ht : t ≤ t') (h1 : ∀ i, i < n → a'.2 i = a.2 i ∧ a'.1 10 i = a.1 10 i ∧ a'.1 11 i = a.1 11 i) (h2 : ∀ i, i < n → L' 115 i = L 115 i ∧ J 116 i = I 116 i ∧ J 117 i = I 117 i) : rN K V W t' n a' J L' := by
  obtain ⟨ti, h⟩ := h
  refine ⟨ti, fun i hi => ?_⟩
  obtain ⟨q1, q2, q3, q4, q5, q6⟩ := h i hi
  rw [(h1 i hi).1, (h1 i hi).2.1, (h1 i hi).2.2, (h2 i hi).1, (h2 i hi).2.1, (h2 i hi).2.2]
  exact ⟨by omega, q2, q3, q4, q5, q6⟩
theorem rN_fnd {kd so : Int32} {u : Nat} (hT : TS K P V W N c) (h : rN K V W t n a I L) (tc : t ≤ c) (hk : srt kd so) (uc : u < c) (ku : K u = 15) : ∀ k i, i + k ≤ n → fnd a.1 a.2 (V u) kd k i = fm I L (W u) so k i := by
  obtain ⟨ti, h⟩ := h
  intro k
  induction k with
  | zero => intro i _; rfl
  | succ k ih =>
    intro i hi
    obtain ⟨q1, q2, q3, q4, q5, q6⟩ := h i (by omega)
    show (if a.2 i = V u then (if a.1 10 i = kd then a.1 11 i else fnd a.1 a.2 (V u) kd k (i + 1)) else fnd a.1 a.2 (V u) kd k (i + 1)) = (if L 115 i = W u then (if I 116 i = so then I 117 i else fm I L (W u) so k (i + 1)) else fm I L (W u) so k (i + 1))
    have e1 : a.2 i = V u ↔ L 115 i = W u := by rw [q3, q4]; exact hT.2.2.2.2.2.2 (ti i) u (by omega) uc q2 ku
    have e2 := srt_iff q5 hk
    rw [ih (i + 1) (by omega), q6]
    by_cases c1 : a.2 i = V u
    · rw [if_pos c1, if_pos (e1.mp c1)]
      by_cases c2 : a.1 10 i = kd
      · rw [if_pos c2, if_pos (e2.mp c2)]
      · rw [if_neg c2, if_neg (fun q => c2 (e2.mpr q))]
    · rw [if_neg c1, if_neg (fun q => c1 (e1.mpr q))]
theorem fnd_last {s : sm_I} {l : Nat → Int64} {nm : Int64} {kd : Int32} : ∀ k i, s 10 (i + k) ≠ kd → fnd s l nm kd (k + 1) i = fnd s l nm kd k i := by
  intro k
  induction k with
  | zero =>
    intro i h
    show (if l i = nm then (if s 10 i = kd then s 11 i else -1) else -1) = -1
    rw [if_neg (show ¬ s 10 i = kd from h)]
    by_cases c1 : l i = nm
    · rw [if_pos c1]
    · rw [if_neg c1]
  | succ k ih =>
    intro i h
    show (if l i = nm then (if s 10 i = kd then s 11 i else fnd s l nm kd (k + 1) (i + 1)) else fnd s l nm kd (k + 1) (i + 1)) = (if l i = nm then (if s 10 i = kd then s 11 i else fnd s l nm kd k (i + 1)) else fnd s l nm kd k (i + 1))
    rw [ih (i + 1) (by rw [show i + 1 + k = i + (k + 1) by omega]; exact h)]
/-- what is looked up is found alike, also while a name of another kind waits -/
theorem rN_fd {kd so : Int32} {u : Nat} (hT : TS K P V W N c) (h : rN K V W t (cntm I) a I L) (tc : t ≤ c) (hk : srt kd so) (hc : cnt a.1 = cntm I ∨ (cnt a.1 = cntm I + 1 ∧ a.1 10 (cntm I) ≠ kd)) (uc : u < c) (ku : K u = 15) : fd a (V u) kd = fdm I L (W u) so := by
  unfold fd fdm
  rcases hc with hc | ⟨hc, hk2⟩
  · rw [hc]; exact rN_fnd hT h tc hk uc ku (cntm I) 0 (by omega)
  · rw [hc, fnd_last (cntm I) 0 (by rw [Nat.zero_add]; exact hk2)]
    exact rN_fnd hT h tc hk uc ku (cntm I) 0 (by omega)
theorem twc_iff {l : Nat → Int64} {nm : Int64} : ∀ k i, twc l nm k i = true ↔ ∃ j, i ≤ j ∧ j < i + k ∧ l j = nm := by
  intro k
  induction k with
  | zero =>
    intro i
    exact ⟨fun q => absurd (show false = true from q) (by decide), fun ⟨j, j1, j2, _⟩ => by omega⟩
  | succ k ih =>
    intro i
    show (if l i = nm then true else twc l nm k (i + 1)) = true ↔ _
    by_cases c1 : l i = nm
    · rw [if_pos c1]
      exact ⟨fun _ => ⟨i, Nat.le_refl _, by omega, c1⟩, fun _ => rfl⟩
    · rw [if_neg c1, ih (i + 1)]
      refine ⟨fun ⟨j, j1, j2, j3⟩ => ⟨j, by omega, by omega, j3⟩, fun ⟨j, j1, j2, j3⟩ => ⟨j, ?_, by omega, j3⟩⟩
      rcases Nat.lt_or_ge i j with q | q
      · omega
      · have : j = i := by omega
        subst this
        exact absurd j3 c1
theorem rN_tw {u : Nat} (hT : TS K P V W N c) (h : rN K V W t n a I L) (tc : t ≤ c) (uc : u < c) (ku : K u = 15) : (∃ i, i < n ∧ L 115 i = W u) ↔ twc a.2 (V u) n 0 = true := by
  obtain ⟨ti, h⟩ := h
  rw [twc_iff]
  constructor
  · intro ⟨i, i1, i2⟩
    obtain ⟨q1, q2, q3, q4, q5, q6⟩ := h i i1
    exact ⟨i, Nat.zero_le _, by omega, by rw [q3]; exact (hT.2.2.2.2.2.2 (ti i) u (by omega) uc q2 ku).mpr (by rw [← q4]; exact i2)⟩
  · intro ⟨i, _, i1, i2⟩
    obtain ⟨q1, q2, q3, q4, q5, q6⟩ := h i (by omega)
    exact ⟨i, by omega, by rw [q4]; exact (hT.2.2.2.2.2.2 (ti i) u (by omega) uc q2 ku).mp (by rw [← q3]; exact i2)⟩
/-- one name more on both sides -/
theorem rN_add {so : Int32} {u t' : Nat} (h : rN K V W t n a I L) (ht : t ≤ t') (u1 : u < t') (ku : K u = 15) (h1 : ∀ i, i < n → a'.2 i = a.2 i ∧ a'.1 10 i = a.1 10 i ∧ a'.1 11 i = a.1 11 i) (h2 : ∀ i, i < n → L' 115 i = L 115 i ∧ J 116 i = I 116 i ∧ J 117 i = I 117 i) (e1 : a'.2 n = V u) (e2 : L' 115 n = W u) (e3 : srt (a'.1 10 n) (J 116 n)) (e4 : a'.1 11 n = J 117 n) : rN K V W t' (n + 1) a' J L' := by
  obtain ⟨ti, h⟩ := h
  refine ⟨fun i => if i = n then u else ti i, fun i hi => ?_⟩
  by_cases c1 : i = n
  · subst c1
    show (if i = i then u else ti i) < t' ∧ K (if i = i then u else ti i) = 15 ∧ a'.2 i = V (if i = i then u else ti i) ∧ L' 115 i = W (if i = i then u else ti i) ∧ _
    rw [if_pos rfl]
    exact ⟨u1, ku, e1, e2, e3, e4⟩
  · show (if i = n then u else ti i) < t' ∧ K (if i = n then u else ti i) = 15 ∧ a'.2 i = V (if i = n then u else ti i) ∧ L' 115 i = W (if i = n then u else ti i) ∧ _
    rw [if_neg c1]
    have hi : i < n := by omega
    obtain ⟨q1, q2, q3, q4, q5, q6⟩ := h i hi
    rw [(h1 i hi).1, (h1 i hi).2.1, (h1 i hi).2.2, (h2 i hi).1, (h2 i hi).2.1, (h2 i hi).2.2]
    exact ⟨by omega, q2, q3, q4, q5, q6⟩
end
/-! what a new name does to the pure machine -/
section
variable {v : Int64} {a : sg}
def nm_b (v : Int64) (a : sg) : sg := (sm_up a.1 10 (cnt a.1) (nm_kd a), nmu a.2 (cnt a.1) v)
theorem nm_add_u : nm_add v a = u2 (u2 (nb_new (nm_kd a) (nm_b v a)).2 11 (cnt a.1) (nb_new (nm_kd a) (nm_b v a)).1) 2 5 (a.1 2 5 + 1) := rfl
theorem nm_b_o {p j : Nat} (h : p ≠ 10) : (nm_b v a).1 p j = a.1 p j := en_up_ne _ _ _ _ (by omega)
theorem sy_new_o {b : Bool} {p j : Nat} (h : p ≠ 12) (h2 : p ≠ 22) (h3 : p ≠ 23) : (sy_new b a).1 p j = a.1 p j := by
  unfold sy_new
  by_cases c1 : a.1 12 3 < 10
  · rw [if_pos c1, u2_ne _ _ _ _ (by omega), u2_ne _ _ _ _ (by omega), u2_ne _ _ _ _ (by omega)]
    cases b with
    | true => exact u2_ne _ _ _ _ (by omega)
    | false => rfl
  · rw [if_neg c1]
theorem sy_new_2 {b : Bool} : (sy_new b a).2 = a.2 := by
  unfold sy_new
  by_cases c1 : a.1 12 3 < 10
  · rw [if_pos c1]
    cases b with
    | true => rfl
    | false => rfl
  · rw [if_neg c1]
theorem nb_new_o {k : Int32} {p j : Nat} (h : p ≠ 12) (h2 : p ≠ 22) (h3 : p ≠ 23) : (nb_new k a).2.1 p j = a.1 p j := by
  unfold nb_new
  by_cases c0 : k.toInt = 0
  · rw [if_pos c0]; exact u2_ne _ _ _ _ (by omega)
  · rw [if_neg c0]
    by_cases c1 : k.toInt = 1
    · rw [if_pos c1]; exact u2_ne _ _ _ _ (by omega)
    · rw [if_neg c1]
      by_cases c2 : k.toInt = 3
      · rw [if_pos c2]; exact u2_ne _ _ _ _ (by omega)
      · rw [if_neg c2]
        by_cases c3 : k.toInt = 12
        · rw [if_pos c3]; exact u2_ne _ _ _ _ (by omega)
        · rw [if_neg c3]; exact sy_new_o h h2 h3
theorem nb_new_2 {k : Int32} : (nb_new k a).2.2 = a.2 := by
  unfold nb_new
  by_cases c0 : k.toInt = 0
  · rw [if_pos c0]; rfl
  · rw [if_neg c0]
    by_cases c1 : k.toInt = 1
    · rw [if_pos c1]; rfl
    · rw [if_neg c1]
      by_cases c2 : k.toInt = 3
      · rw [if_pos c2]; rfl
      · rw [if_neg c2]
        by_cases c3 : k.toInt = 12
        · rw [if_pos c3]; rfl
        · rw [if_neg c3]; exact sy_new_2
theorem nm_add_2 : (nm_add v a).2 = nmu a.2 (cnt a.1) v := by
  rw [nm_add_u]
  show (nb_new (nm_kd a) (nm_b v a)).2.2 = _
  rw [nb_new_2]; rfl
theorem nm_add_o {p j : Nat} (h1 : p ≠ 10) (h2 : p ≠ 11) (h3 : ¬ (p = 2 ∧ j = 5)) : (nm_add v a).1 p j = (nb_new (nm_kd a) (nm_b v a)).2.1 p j := by
  rw [nm_add_u, u2_ne _ _ _ _ h3, u2_ne _ _ _ _ (by omega)]
theorem nm_add_5 : (nm_add v a).1 2 5 = a.1 2 5 + 1 := by rw [nm_add_u, u2_eq]
theorem nm_add_10 {i : Nat} : (nm_add v a).1 10 i = if i = cnt a.1 then nm_kd a else a.1 10 i := by
  rw [nm_add_u, u2_ne _ _ _ _ (by omega), u2_ne _ _ _ _ (by omega), nb_new_o (by decide) (by decide) (by decide)]
  show sm_up a.1 10 (cnt a.1) (nm_kd a) 10 i = _
  by_cases c1 : i = cnt a.1
  · rw [if_pos c1, c1, en_up_eq]
  · rw [if_neg c1, en_up_ne _ _ _ _ (by omega)]
theorem nm_add_11 {i : Nat} : (nm_add v a).1 11 i = if i = cnt a.1 then (nb_new (nm_kd a) (nm_b v a)).1 else a.1 11 i := by
  rw [nm_add_u, u2_ne _ _ _ _ (by omega)]
  by_cases c1 : i = cnt a.1
  · rw [if_pos c1, c1, u2_eq]
  · rw [if_neg c1, u2_ne _ _ _ _ (by omega), nb_new_o (by decide) (by decide) (by decide), nm_b_o (by decide)]
theorem nm_add_c (h0 : 0 ≤ (a.1 2 5).toInt) (h1 : (a.1 2 5).toInt ≤ 40) : cnt (nm_add v a).1 = cnt a.1 + 1 := by
  unfold cnt
  rw [nm_add_5]
  have n := kl_nat h0
  have s := ml_in1 (x := a.1 2 5) (by omega)
  exact tk_nat (by omega)
theorem mnn_s {n x : Int32} (h : x.toInt < n.toInt) (h2 : n.toInt ≤ 100) : mnn n x = x + 1 := by
  unfold mnn
  have s := ml_in1 (x := x) (by omega)
  rw [if_neg (fun q => by rw [kl_lt] at q; omega)]
end
end
section
/-! all that is told, on both sides -/
def sb (f : Nat → Int32) : Nat → Int32
  | 0 => 0
  | n + 1 => if f n = 0 then sb f n else sb f n ||| ((1 : Int32) <<< (Int32.ofNat n &&& 31))
theorem sb_cg {f g : Nat → Int32} : ∀ n, (∀ i, i < n → f i = g i) → sb f n = sb g n := by
  intro n
  induction n with
  | zero => intro _; rfl
  | succ n ih =>
    intro h
    show (if f n = 0 then sb f n else sb f n ||| ((1 : Int32) <<< (Int32.ofNat n &&& 31))) = (if g n = 0 then sb g n else sb g n ||| ((1 : Int32) <<< (Int32.ofNat n &&& 31)))
    rw [ih (fun i hi => h i (by omega)), h n (by omega)]
def rC (s : Nat) (a : sg) (I : sm_I) : Prop := a.1 12 0 = I 118 s ∧ a.1 12 1 = I 119 s ∧ a.1 12 2 = I 122 s ∧ a.1 12 3 = I 125 s ∧ a.1 12 4 = I 136 s
def rT (s : Nat) (a : sg) (I : sm_I) : Prop := ∀ i : Nat, i < 10 → ((i : Int) < (I 122 s).toInt → a.1 14 i = I 123 (10 * s + i) ∧ a.1 15 i = I 124 (10 * s + i)) ∧ ((I 122 s).toInt ≤ i → a.1 14 i = -1 ∧ a.1 15 i = -1)
def rO1 (s i k : Nat) (a : sg) (I : sm_I) : Prop := (k : Int) < (I 134 s).toInt ∧ (i : Int) < (I 122 s).toInt ∧ (I 135 (10 * s + i)).toInt = ((240 + 4 * s + k : Nat) : Int) ∧ I 130 (240 + 4 * s + k) = Int32.ofNat i ∧ a.1 17 i = Int32.ofNat i ∧ a.1 18 i = I 131 (240 + 4 * s + k) ∧ a.1 18 i ≠ -1 ∧ a.1 19 i = I 132 (240 + 4 * s + k) ∧ a.1 20 i = I 133 (240 + 4 * s + k)
def rO (s : Nat) (a : sg) (I : sm_I) : Prop := (∀ i : Nat, i < 10 → (I 135 (10 * s + i) = -1 ∧ a.1 18 i = -1) ∨ ∃ k : Nat, rO1 s i k a I) ∧ (∀ k : Nat, (k : Int) < (I 134 s).toInt → ∃ i : Nat, i < 10 ∧ rO1 s i k a I)
def rW (s : Nat) (a : sg) (I : sm_I) : Prop := ∀ i : Nat, i < 36 → (I 121 (36 * s + i) = -1 ∧ a.1 13 i = -2) ∨ (0 ≤ (I 121 (36 * s + i)).toInt ∧ a.1 13 i = I 121 (36 * s + i))
def rP (s i q : Nat) (a : sg) (I : sm_I) : Prop := ∀ p : Nat, (p : Int) < (I 129 (4 * (10 * s + i) + q)).toInt → a.1 25 (12 * i + 3 * q + p) = I 130 (120 * s + 12 * i + 3 * q + p) ∧ a.1 26 (12 * i + 3 * q + p) = I 131 (120 * s + 12 * i + 3 * q + p) ∧ a.1 27 (12 * i + 3 * q + p) = I 132 (120 * s + 12 * i + 3 * q + p) ∧ a.1 28 (12 * i + 3 * q + p) = I 133 (120 * s + 12 * i + 3 * q + p)
def rA (s i q : Nat) (a : sg) (I : sm_I) : Prop := a.1 23 (4 * i + q) = I 129 (4 * (10 * s + i) + q) ∧ 1 ≤ (I 129 (4 * (10 * s + i) + q)).toInt ∧ (I 129 (4 * (10 * s + i) + q)).toInt ≤ 3 ∧ rP s i q a I
def rY (s i : Nat) (a : sg) (I : sm_I) : Prop := a.1 21 i = I 127 (10 * s + i) ∧ a.1 22 i = I 128 (10 * s + i) ∧ 1 ≤ (I 128 (10 * s + i)).toInt ∧ (I 128 (10 * s + i)).toInt ≤ 4 ∧ ∀ q : Nat, (q : Int) < (I 128 (10 * s + i)).toInt → rA s i q a I
def rS (s : Nat) (a : sg) (I : sm_I) : Prop := (∀ i : Nat, i < 10 → ((i : Int) < (I 125 s).toInt → rY s i a I) ∧ ((I 125 s).toInt ≤ i → a.1 21 i = 1 ∧ ∀ q : Nat, q < 4 → a.1 23 (4 * i + q) = 0)) ∧ a.1 12 6 = sb (fun i => I 126 (10 * s + i)) (I 125 s).toNatClampNeg
def rQ (s : Nat) (a : sg) (I : sm_I) : Prop := ∀ q : Nat, q < 5 → (q : Int) < (I 136 s).toInt → a.1 30 q = I 130 (248 + 6 * s + q) ∧ a.1 31 q = I 131 (248 + 6 * s + q) ∧ a.1 32 q = I 132 (248 + 6 * s + q) ∧ a.1 33 q = I 133 (248 + 6 * s + q)
/-- a TIME's number is below how many there are -/
def rB (s : Nat) (I : sm_I) : Prop := ∀ i, i < cntm I → I 116 i = 2 → (I 117 i).toInt < (I 122 s).toInt
def rL (K : Nat → Int32) (V W : Nat → Int64) (s t : Nat) (a : sg) (I : sm_I) (L : sm_L) : Prop := (a.1 2 5 = I 107 20 ∧ rN K V W t (cntm I) a I L) ∧ rC s a I ∧ rT s a I ∧ rO s a I ∧ rW s a I ∧ rS s a I ∧ rQ s a I ∧ rB s I
/-- how many of each are told, as the grammar counts them -/
def rG (s : Nat) (g : gc) (I : sm_I) : Prop := (I 118 s).toInt = g.tells 0 ∧ (I 119 s).toInt = g.tells 1 ∧ (I 120 s).toInt = g.tells 2 ∧ (I 122 s).toInt = g.tells 3 ∧ (I 125 s).toInt = g.tells 6 ∧ (I 134 s).toInt = g.tells 10 ∧ (I 136 s).toInt = g.tells 12
section
variable {s : Nat} {a a' : sg} {I J : sm_I}
theorem rT_cg (h : rT s a I) (ha : ∀ c j, c = 14 ∨ c = 15 → a'.1 c j = a.1 c j) (hI : ∀ p j, (p = 122 ∧ j = s) ∨ p = 123 ∨ p = 124 → J p j = I p j) : rT s a' J := fun i hi => by
  rw [ha 14 i (Or.inl rfl), ha 15 i (Or.inr rfl), hI 122 s (Or.inl ⟨rfl, rfl⟩), hI 123 _ (Or.inr (Or.inl rfl)), hI 124 _ (Or.inr (Or.inr rfl))]
  exact h i hi
theorem rO1_cg {i k : Nat} (h : rO1 s i k a I) (h4 : (I 134 s).toInt ≤ 4) (ha : ∀ c, 17 ≤ c → c ≤ 20 → a'.1 c i = a.1 c i) (h34 : (I 134 s).toInt ≤ (J 134 s).toInt) (h22 : (I 122 s).toInt ≤ (J 122 s).toInt) (h35 : J 135 (10 * s + i) = I 135 (10 * s + i)) (hI : ∀ p j, 130 ≤ p → p ≤ 133 → 240 + 4 * s ≤ j → (j : Int) < 240 + 4 * s + (I 134 s).toInt → J p j = I p j) : rO1 s i k a' J := by
  obtain ⟨q1, q2, q3, q4, q5, q6, q7, q8, q9⟩ := h
  unfold rO1
  rw [ha 17 (by decide) (by decide), ha 18 (by decide) (by decide), ha 19 (by decide) (by decide), ha 20 (by decide) (by decide), h35, hI 130 _ (by decide) (by decide) (by omega) (by omega), hI 131 _ (by decide) (by decide) (by omega) (by omega), hI 132 _ (by decide) (by decide) (by omega) (by omega), hI 133 _ (by decide) (by decide) (by omega) (by omega)]
  exact ⟨by omega, by omega, q3, q4, q5, q6, q7, q8, q9⟩
theorem rO_cg (h : rO s a I) (h4 : (I 134 s).toInt ≤ 4) (ha : ∀ c j, 17 ≤ c → c ≤ 20 → a'.1 c j = a.1 c j) (h22 : (I 122 s).toInt ≤ (J 122 s).toInt) (h34 : J 134 s = I 134 s) (h35 : ∀ j, J 135 j = I 135 j) (hI : ∀ p j, 130 ≤ p → p ≤ 133 → 240 + 4 * s ≤ j → (j : Int) < 240 + 4 * s + (I 134 s).toInt → J p j = I p j) : rO s a' J := by
  refine ⟨fun i hi => ?_, fun k hk => ?_⟩
  · rcases h.1 i hi with q | ⟨k, q⟩
    · left; rw [ha 18 i (by decide) (by decide), h35]; exact q
    · exact Or.inr ⟨k, rO1_cg q h4 (fun c c1 c2 => ha c i c1 c2) (by rw [h34]; exact Int.le_refl _) h22 (h35 _) hI⟩
  · rw [h34] at hk
    obtain ⟨i, hi, q⟩ := h.2 k hk
    exact ⟨i, hi, rO1_cg q h4 (fun c c1 c2 => ha c i c1 c2) (by rw [h34]; exact Int.le_refl _) h22 (h35 _) hI⟩
theorem rW_cg (h : rW s a I) (ha : ∀ j, a'.1 13 j = a.1 13 j) (hI : ∀ j, J 121 j = I 121 j) : rW s a' J := fun i hi => by
  rw [ha, hI]; exact h i hi
theorem rP_cg {i q : Nat} (h : rP s i q a I) (i9 : i < 10) (q4 : q < 4) (b : (I 129 (4 * (10 * s + i) + q)).toInt ≤ 3) (ha : ∀ c j, 25 ≤ c → c ≤ 28 → 12 * i + 3 * q ≤ j → j < 12 * i + 3 * q + 3 → a'.1 c j = a.1 c j) (h9 : J 129 (4 * (10 * s + i) + q) = I 129 (4 * (10 * s + i) + q)) (hI : ∀ p j, 130 ≤ p → p ≤ 133 → 120 * s + 12 * i + 3 * q ≤ j → j < 120 * s + 12 * i + 3 * q + 3 → J p j = I p j) : rP s i q a' J := fun p hp => by
  rw [h9] at hp
  rw [ha 25 _ (by decide) (by decide) (by omega) (by omega), ha 26 _ (by decide) (by decide) (by omega) (by omega), ha 27 _ (by decide) (by decide) (by omega) (by omega), ha 28 _ (by decide) (by decide) (by omega) (by omega), hI 130 _ (by decide) (by decide) (by omega) (by omega), hI 131 _ (by decide) (by decide) (by omega) (by omega), hI 132 _ (by decide) (by decide) (by omega) (by omega), hI 133 _ (by decide) (by decide) (by omega) (by omega)]
  exact h p hp
theorem rA_cg {i q : Nat} (h : rA s i q a I) (i9 : i < 10) (q4 : q < 4) (ha : ∀ c j, 25 ≤ c → c ≤ 28 → 12 * i + 3 * q ≤ j → j < 12 * i + 3 * q + 3 → a'.1 c j = a.1 c j) (h23 : a'.1 23 (4 * i + q) = a.1 23 (4 * i + q)) (h9 : J 129 (4 * (10 * s + i) + q) = I 129 (4 * (10 * s + i) + q)) (hI : ∀ p j, 130 ≤ p → p ≤ 133 → 120 * s + 12 * i + 3 * q ≤ j → j < 120 * s + 12 * i + 3 * q + 3 → J p j = I p j) : rA s i q a' J := by
  obtain ⟨q1, q2, q3, q5⟩ := h
  refine ⟨?_, ?_, ?_, rP_cg q5 i9 q4 q3 ha h9 hI⟩
  · rw [h23, h9]; exact q1
  · rw [h9]; exact q2
  · rw [h9]; exact q3
theorem rY_cg {i : Nat} (h : rY s i a I) (i9 : i < 10) (h21 : a'.1 21 i = a.1 21 i) (h22 : a'.1 22 i = a.1 22 i) (h23 : ∀ j, 4 * i ≤ j → j < 4 * i + 4 → a'.1 23 j = a.1 23 j) (ha : ∀ c j, 25 ≤ c → c ≤ 28 → 12 * i ≤ j → j < 12 * i + 12 → a'.1 c j = a.1 c j) (h7 : J 127 (10 * s + i) = I 127 (10 * s + i)) (h8 : J 128 (10 * s + i) = I 128 (10 * s + i)) (h9 : ∀ j, 4 * (10 * s + i) ≤ j → j < 4 * (10 * s + i) + 4 → J 129 j = I 129 j) (hI : ∀ p j, 130 ≤ p → p ≤ 133 → 120 * s + 12 * i ≤ j → j < 120 * s + 12 * i + 12 → J p j = I p j) : rY s i a' J := by
  obtain ⟨q1, q2, q3, q4, q5⟩ := h
  refine ⟨?_, ?_, ?_, ?_, fun q hq => ?_⟩
  · rw [h21, h7]; exact q1
  · rw [h22, h8]; exact q2
  · rw [h8]; exact q3
  · rw [h8]; exact q4
  · rw [h8] at hq
    exact rA_cg (q5 q hq) i9 (by omega) (fun c j c1 c2 j1 j2 => ha c j c1 c2 (by omega) (by omega)) (h23 _ (by omega) (by omega)) (h9 _ (by omega) (by omega)) (fun p j p1 p2 j1 j2 => hI p j p1 p2 (by omega) (by omega))
theorem rS_cg (h : rS s a I) (b1 : (I 125 s).toInt ≤ 10) (hs : s ≤ 1) (ha : ∀ c j, (c = 12 ∧ j = 6) ∨ (21 ≤ c ∧ c ≤ 23) ∨ (25 ≤ c ∧ c ≤ 28) → a'.1 c j = a.1 c j) (hI : ∀ p j, (p = 125 ∧ j = s) ∨ (126 ≤ p ∧ p ≤ 129) ∨ (130 ≤ p ∧ p ≤ 133 ∧ j < 240) → J p j = I p j) : rS s a' J := by
  have b0 := (I 125 s).toNatClampNeg
  refine ⟨fun i hi => ⟨fun q => ?_, fun q => ?_⟩, ?_⟩
  · rw [hI 125 s (by omega)] at q
    exact rY_cg ((h.1 i hi).1 q) hi (ha _ _ (by omega)) (ha _ _ (by omega)) (fun j _ _ => ha _ _ (by omega)) (fun c j c1 c2 _ _ => ha _ _ (by omega)) (hI _ _ (by omega)) (hI _ _ (by omega)) (fun j _ _ => hI _ _ (by omega)) (fun p j p1 p2 _ _ => hI _ _ (by omega))
  · rw [hI 125 s (by omega)] at q
    refine ⟨by rw [ha 21 _ (by omega)]; exact ((h.1 i hi).2 q).1, fun k hk => by rw [ha 23 _ (by omega)]; exact ((h.1 i hi).2 q).2 k hk⟩
  · rw [ha 12 6 (by omega), hI 125 s (by omega), h.2]
    exact sb_cg _ (fun i _ => (hI 126 _ (by omega)).symm)
theorem rQ_cg (h : rQ s a I) (ha : ∀ c j, 30 ≤ c → c ≤ 33 → a'.1 c j = a.1 c j) (hI : ∀ p j, (p = 136 ∧ j = s) ∨ (130 ≤ p ∧ p ≤ 133 ∧ 248 + 6 * s ≤ j ∧ j < 253 + 6 * s) → J p j = I p j) : rQ s a' J := fun q hq hq2 => by
  rw [hI 136 s (by omega)] at hq2
  rw [ha 30 q (by decide) (by decide), ha 31 q (by decide) (by decide), ha 32 q (by decide) (by decide), ha 33 q (by decide) (by decide), hI 130 _ (by omega), hI 131 _ (by omega), hI 132 _ (by omega), hI 133 _ (by omega)]
  exact h q hq hq2
theorem rB_cg (h : rB s I) (h20 : J 107 20 = I 107 20) (hI : ∀ i, i < cntm I → J 116 i = I 116 i ∧ J 117 i = I 117 i) (h22 : (I 122 s).toInt ≤ (J 122 s).toInt) : rB s J := fun i hi e => by
  have ec : cntm J = cntm I := by unfold cntm; rw [h20]
  rw [ec] at hi
  rw [(hI i hi).1] at e
  rw [(hI i hi).2]
  have := h i hi e
  omega
theorem rB_new {so x : Int32} (h : rB s I) (b0 : 0 ≤ (I 107 20).toInt) (b1 : (I 107 20).toInt ≤ 40) (h20 : J 107 20 = I 107 20 + 1) (e116 : J 116 (cntm I) = so) (e117 : J 117 (cntm I) = x) (hI : ∀ i, i < cntm I → J 116 i = I 116 i ∧ J 117 i = I 117 i) (h22 : (I 122 s).toInt ≤ (J 122 s).toInt) (hso : so = 2 → x.toInt < (J 122 s).toInt) : rB s J := fun i hi e => by
  have ecJ : cntm J = cntm I + 1 := by
    have n := kl_nat b0
    have s' := ml_in1 (x := I 107 20) (by omega)
    unfold cntm
    rw [h20]
    exact tk_nat (by omega)
  by_cases ci : i = cntm I
  · rw [ci, e116] at e
    rw [ci, e117]; exact hso e
  · rw [(hI i (by omega)).1] at e
    rw [(hI i (by omega)).2]
    have := h i (by omega) e
    omega
theorem gc0_t {k : Int32} {g : gc} {j : Nat} (hk : k.toInt < 15) : (gc_st 0 k g).tells j = if j = gw k then g.tells j + 1 else g.tells j := by
  unfold gc_st; rw [if_pos ⟨rfl, hk⟩]
theorem gc0_l {k : Int32} {g : gc} (hk : k.toInt < 15) : (gc_st 0 k g).tell = k := by
  unfold gc_st; rw [if_pos ⟨rfl, hk⟩]
theorem gc0_a {k : Int32} {g : gc} (hk : k.toInt < 15) : (gc_st 0 k g).alls = 1 ∧ (gc_st 0 k g).parts = 1 := by
  unfold gc_st; rw [if_pos ⟨rfl, hk⟩]; exact ⟨rfl, rfl⟩
/-- a name of a counted kind -/
theorem nmA {v : Int64} {k mx : Int32} {f : Nat} (hk : a.1 2 7 = k) (k8 : k ≠ 8) (nb : ∀ b : sg, nb_new k b = (mnn mx (b.1 12 f) - 1, u2 b 12 f (mnn mx (b.1 12 f)))) (h1 : (a.1 12 f).toInt < mx.toInt) (h2 : mx.toInt ≤ 100) : nm_kd a = k ∧ (nm_add v a).1 11 (cnt a.1) = a.1 12 f ∧ ∀ p j, p ≠ 10 → p ≠ 11 → ¬ (p = 2 ∧ j = 5) → (nm_add v a).1 p j = if p = 12 ∧ j = f then a.1 12 f + 1 else a.1 p j := by
  have ek : nm_kd a = k := by unfold nm_kd; rw [hk, if_neg k8]
  have eb : (nm_b v a).1 12 f = a.1 12 f := nm_b_o (by decide)
  have em : mnn mx (a.1 12 f) = a.1 12 f + 1 := mnn_s h1 h2
  refine ⟨ek, ?_, fun p j p1 p2 p3 => ?_⟩
  · rw [nm_add_11, if_pos rfl, ek, nb, eb, em]; exact i32_a1 _
  · rw [nm_add_o p1 p2 p3, ek, nb, eb, em]
    by_cases c1 : p = 12 ∧ j = f
    · rw [if_pos c1, c1.1, c1.2, u2_eq]
    · rw [if_neg c1, u2_ne _ _ _ _ c1, nm_b_o p1]
/-- the names after one of a counted kind -/
theorem rN_new {K : Nat → Int32} {V W : Nat → Int64} {t t' u : Nat} {L L' : sm_L} {so x : Int32} (h5 : a.1 2 5 = I 107 20) (b0 : 0 ≤ (I 107 20).toInt) (b1 : (I 107 20).toInt ≤ 40) (hN : rN K V W t (cntm I) a I L) (ht : t ≤ t') (u1 : u < t') (ku : K u = 15) (hk : srt (nm_kd a) so) (h11 : (nm_add (V u) a).1 11 (cnt a.1) = x) (e20 : J 107 20 = I 107 20 + 1) (e116 : J 116 (cntm I) = so) (e117 : J 117 (cntm I) = x) (o1 : ∀ i, i < cntm I → J 116 i = I 116 i ∧ J 117 i = I 117 i) (eL : L' 115 (cntm I) = W u) (oL : ∀ i, i < cntm I → L' 115 i = L 115 i) : (nm_add (V u) a).1 2 5 = J 107 20 ∧ rN K V W t' (cntm J) (nm_add (V u) a) J L' := by
  have ec : cnt a.1 = cntm I := by unfold cnt cntm; rw [h5]
  have ecJ : cntm J = cntm I + 1 := by
    have n := kl_nat b0
    have s := ml_in1 (x := I 107 20) (by omega)
    unfold cntm
    rw [e20]
    exact tk_nat (by omega)
  refine ⟨by rw [nm_add_5, h5, e20], ?_⟩
  rw [ecJ]
  refine rN_add (so := so) (u := u) hN ht u1 ku (fun i hi => ⟨?_, ?_, ?_⟩) (fun i hi => ⟨oL i hi, (o1 i hi).1, (o1 i hi).2⟩) ?_ eL ?_ ?_
  · rw [nm_add_2, ec]
    show (if i = cntm I then _ else a.2 i) = _
    rw [if_neg (by omega)]
  · rw [nm_add_10, ec, if_neg (by omega)]
  · rw [nm_add_11, ec, if_neg (by omega)]
  · rw [nm_add_2, ec]
    show (if cntm I = cntm I then _ else _) = _
    rw [if_pos rfl]
  · rw [nm_add_10, ec, if_pos rfl, e116]; exact hk
  · rw [← ec, h11, ec, e117]
end
end
section
/-! tells of the reference, exact: who and place (wip/pe/mk91.py) -/
def TP (K : Nat → Int32) (P : Nat → Nat) (V W : Nat → Int64) (N : Nat → Int32) (c : Nat) (R0 : Option (Int32 × Nat)) (M0 : Option (Int32 × Nat) × sg) (s t : Nat) (J : sm_I) (L' : sm_L) : Prop := ∃ (m' : mo) (o' : Option sg), PX K P V W N c R0 M0 m' o' J L' ∧ (m' = none ∨ ∃ t' g', m' = some (t', 0, g') ∧ t < t' ∧ rG s g' J ∧ ∀ a', o' = some a' → rL K V W s t' a' J L')
theorem mo_i {t t' : Nat} {s s' : Int32} {g g' : gc} (h : (some (t, s, g) : mo) = some (t', s', g')) : t = t' ∧ s = s' ∧ g = g' := by
  have q := Option.some.inj h
  exact ⟨congrArg Prod.fst q, congrArg (fun x => x.2.1) q, congrArg (fun x => x.2.2) q⟩
theorem x_b117 {I : sm_I} {L : sm_L} {R : sm_R} (hm : en_mem ml_tb mlX (xLay, I, L, R)) : (0 ≤ (I 107 20).toInt ∧ (I 107 20).toInt ≤ 50) ∧ ∀ i, i < cntm I → 0 ≤ (I 117 i).toInt := by
  have b := ml_nm hm
  have n : ((cntm I : Nat) : Int) = (I 107 20).toInt := kl_nat b.1
  refine ⟨b, fun i hi => ?_⟩
  have q : 0 ≤ (I 117 i).toInt ∧ (I 117 i).toInt ≤ 9 := ml_row hm (p := 117) (n := 50) (q := (0, 9)) (fun _ => rfl) i (by omega)
  exact q.1
theorem x_34 {I : sm_I} {L : sm_L} {R : sm_R} {s : Nat} (hs : s ≤ 1) (hm : en_mem ml_tb mlX (xLay, I, L, R)) : 0 ≤ (I 134 s).toInt ∧ (I 134 s).toInt ≤ 4 := ml_row hm (p := 134) (n := 2) (q := (0, 4)) (fun _ => rfl) s (by omega)
/-- a new name may be read -/
theorem x_hn {K : Nat → Int32} {P : Nat → Nat} {V W : Nat → Int64} {N : Nat → Int32} {c s t u : Nat} {a : sg} {I J : sm_I} {L : sm_L} (hT : TS K P V W N c) (f : xfr I J) (hR : rL K V W s t a I L) (tc : t ≤ c) (k : Int32) (uc : u < c) (ku : K u = 15) (b : (I 107 20).toInt < 35) : ((∃ i, i < cntm J ∧ L 115 i = W u) ↔ twc (u2 a 2 7 k).2 (V u) (cnt (u2 a 2 7 k).1) 0 = true) ∧ ¬ 35 ≤ (u2 a 2 7 k).1 2 5 := by
  have ec : cnt (u2 a 2 7 k).1 = cntm J := by unfold cnt cntm; rw [u2_ne _ _ _ _ (by omega), hR.1.1, f 107 20 (by omega)]
  have ecI : cntm J = cntm I := by unfold cntm; rw [f 107 20 (by omega)]
  refine ⟨?_, fun q => ?_⟩
  · rw [ec, ecI]
    exact rN_tw hT hR.1.2 tc uc ku
  · rw [u2_ne _ _ _ _ (by omega), hR.1.1] at q
    have q := kl_le.mp q
    rw [show (35 : Int32).toInt = 35 from by decide] at q
    omega
section
variable {K : Nat → Int32} {P : Nat → Nat} {V W : Nat → Int64} {N : Nat → Int32} {c : Nat} {R0 : Option (Int32 × Nat)} {M0 : Option (Int32 × Nat) × sg}
variable {S : sm_C} {d : Nat} {Φ : sm_Z → Prop} {I : sm_I} {L : sm_L} {R : sm_R} {o : Option sg} {l s t : Nat} {g : gc}
theorem x_tellName0 (hT : TS K P V W N c) (hls : ml_ls l s) (hm : en_mem ml_tb mlX (xLay, I, L, R)) (hI : ml_TI l s I) (hX : PX K P V W N c R0 M0 (some (t, 0, g)) o I L) (hG : rG s g I) (hR : ∀ a, o = some a → rL K V W s t a I L) (ek : K t = 0) (hr : (I 118 s).toInt < 4) (h : ∀ (J : sm_I) (L' : sm_L), TP K P V W N c R0 M0 s t J L' → Φ (none, (xLay, J, L', kM R))) : sm_wp sm_P S (d + 4) 197 0 [.ref 107, .int (0 : Int32)] [] (xLay, I, L, kM R) (0, 0) Φ := by
  obtain ⟨hl1, hs1⟩ := ml_l1 hls
  obtain ⟨sn, sv⟩ := ml_sn hls hI
  have bc := ml_cs hs1 hm
  have b34 := x_34 hs1 hm
  obtain ⟨⟨b0, b1⟩, hb⟩ := x_b117 hm
  have bs : (I 107 20).toInt ≤ ml_sum I s := hI.2.2.1
  unfold ml_sum at bs
  have b49 := ml_nm49 hls hI hm
  have tc : t ≤ c := hX.1.2.2.2.2.2.1
  have ok : gc_ok 0 0 g = true := by
    unfold gc_ok
    rw [if_pos ⟨rfl, by decide⟩]
    refine decide_eq_true ?_
    have := hG.1
    rw [show gw 0 = 0 from by decide, show (sm_room.getD 0 0).toInt = 4 from by decide]
    omega
  refine u_X12_tellName_0 (x_go0 (k := 0) hT ek (by decide) (by decide) (by decide +kernel) (by decide) (by decide) ok hX (fun J1 m1 f1 X1 r1 => ⟨J1, L, R, rfl, ?_⟩))
  have e1 : ∀ t' s' g', m1 = some (t', s', g') → t' = t + 1 ∧ s' = 1 ∧ g' = gc_st 0 0 g ∧ t < c := fun t' s' g' em => by
    rcases r1 with r1 | ⟨q1, q2, q3⟩
    · rw [r1] at em; cases em
    · rw [q3] at em
      obtain ⟨y1, y2, y3⟩ := mo_i em
      exact ⟨y1.symm, by rw [← y2]; decide +kernel, y3.symm, q1⟩
  have c20 : J1 107 20 = I 107 20 := f1 107 20 (by omega)
  refine x_named (s0 := 1) hT (by decide +kernel) (fun v a => by unfold ms; rw [if_neg (fun z => absurd z.1 (by decide))]; unfold tk_take; rw [if_neg (by decide), if_pos (by decide)]) X1 (fun t' s' g' em => (e1 t' s' g' em).2.1) (by rw [c20]; exact b0) (by rw [c20]; exact b1) (fun t' g' a1 em eo uc ku => ?_) (fun J2 m2 o2 f2 X2 r2 => ⟨_, J2, L, R, rfl, ?_⟩)
  · cases eo' : o with
    | none => rw [eo'] at eo; cases eo
    | some a =>
      rw [eo'] at eo
      have := Option.some.inj eo
      subst this
      exact x_hn hT f1 (hR a eo') tc 0 uc ku (by omega)
  · refine x_mustT (i := 17) (s0 := 2) [] hT rfl (by decide +kernel) (fun v a => rfl) X2 (fun t' s' g' em => ⟨?_, fun j hj => absurd hj List.not_mem_nil⟩) (fun J3 m3 f3 X3 r3 => ⟨J3, L, R, rfl, fun z => ?_, fun z => ?_⟩)
    · rcases r2 with r2 | ⟨t2, g2, em2, q1, q2, q3, q4, q5⟩
      · rw [r2] at em; cases em
      · rw [q4] at em
        rw [← (mo_i em).2.1]; decide +kernel
    · have z := PS_le0 X3.1 z
      have n3 : m3 ≠ none := fun q => by rw [q] at X3; exact PS_no X3.1 z
      rcases r3 with r3 | ⟨t3, g3, em3, v1, v2, v3, v4⟩
      · exact absurd r3 n3
      rcases r2 with r2 | ⟨t2, g2, em2, u1, u2', u3, u4, u5⟩
      · rw [r2] at em3; cases em3
      obtain ⟨y1, y2, y3, y4⟩ := e1 t2 1 g2 em2
      rw [u4] at em3
      obtain ⟨w1, w2, w3⟩ := mo_i em3
      have ft : xfr I J3 := xfr_tr f1 (xfr_tr f2 f3)
      have e19 : J3 107 19 = I 107 19 := ft 107 19 (by omega)
      have e20 : J3 107 20 = I 107 20 := ft 107 20 (by omega)
      have ecm : cntm J3 = cntm I := by unfold cntm; rw [e20]
      have h11 : (J1 107 11).toInt = t2 := by
        have hS := X1.1
        rw [em2] at hS
        exact hS.2.2.2.2.1
      have er : J3 118 s = I 118 s := ft 118 s (by omega)
      have eg : g3 = gc_st 0 0 g := by rw [← w3, y3]
      have e4 : fw 2 (Int32.ofNat 17) = 0 := by decide +kernel
      have fin : ∀ n24 : Int32, n24 = J3 118 s → sm_wp sm_P S (d + 3) 155 0 [.ref 107, .int (J1 107 11), .int (0 : Int32), .int n24] [] (xLay, J3, L, kM R) (0, 0) (fun z => ∃ (I25 : sm_I) (L26 : sm_L) (R27 : sm_R), z = (none, (xLay, I25, L26, (kM R27))) ∧ (vp_in (I25 107 19) 2) ∧ ∀ n31 : Int32, n31 = ((I25 118 (I25 107 19).toNatClampNeg) + (1 : Int32)) → (vp_in (I25 107 19) 2) ∧ ∀ I32 : sm_I, I32 = (sm_up I25 118 (I25 107 19).toNatClampNeg n31) → Φ (none, (xLay, I32, L26, (kM R27)))) := by
        intro n24 en
        refine x_knows (t := t2) h11 (by omega) (by rw [e20]; exact b0) (by rw [e20]; exact b49) X3 (fun J4 L4 e4J e4L X4 => ⟨J4, L4, R, rfl, ?_⟩)
        rw [ecm] at e4J e4L
        have o4 : ∀ p j, ¬ ((p = 116 ∨ p = 117) ∧ j = cntm I) → ¬ (p = 107 ∧ j = 20) → J4 p j = J3 p j := fun p j h1 h2 => by rw [e4J, en_up_ne _ _ _ _ (by omega), en_up_ne _ _ _ _ (by omega), en_up_ne _ _ _ _ (by omega)]
        have s4 : J4 107 19 = I 107 19 := by rw [o4 107 19 (by omega) (by omega)]; exact e19
        rw [s4, sn]
        refine ⟨sv, fun n31 en31 => ⟨sv, fun J5 e5 => h J5 L4 ⟨m3, o2, ?_, Or.inr ⟨t3 + 1, g3, ?_, by omega, ?_, fun a' ea => ?_⟩⟩⟩⟩
        · rw [e5]; exact PX_up (by decide) (by omega) X4
        · rw [v4, e4]
        all_goals
          have o5 : ∀ p j, ¬ ((p = 116 ∨ p = 117) ∧ j = cntm I) → ¬ (p = 118 ∧ j = s) → p ≠ 107 → J5 p j = I p j := fun p j h1 h2 h3 => by rw [e5, en_up_ne _ _ _ _ h2, o4 p j h1 (by omega), ft p j (by omega)]
          have r5 : J5 118 s = I 118 s + 1 := by rw [e5, en_up_eq, en31, o4 118 s (by omega) (by omega), er]
          have r5i : (J5 118 s).toInt = (I 118 s).toInt + 1 := by rw [r5]; exact ml_in1 (by omega)
        · rw [eg]
          unfold rG
          obtain ⟨G1, G2, G3, G4, G5, G6, G7⟩ := hG
          refine ⟨?_, ?_, ?_, ?_, ?_, ?_, ?_⟩
          · rw [r5i, gc0_t (by decide), if_pos (by decide)]; omega
          · rw [o5 119 s (by omega) (by omega) (by decide), gc0_t (by decide), if_neg (by decide)]; exact G2
          · rw [o5 120 s (by omega) (by omega) (by decide), gc0_t (by decide), if_neg (by decide)]; exact G3
          · rw [o5 122 s (by omega) (by omega) (by decide), gc0_t (by decide), if_neg (by decide)]; exact G4
          · rw [o5 125 s (by omega) (by omega) (by decide), gc0_t (by decide), if_neg (by decide)]; exact G5
          · rw [o5 134 s (by omega) (by omega) (by decide), gc0_t (by decide), if_neg (by decide)]; exact G6
          · rw [o5 136 s (by omega) (by omega) (by decide), gc0_t (by decide), if_neg (by decide)]; exact G7
        · rcases u5 with u5 | ⟨u5, u6⟩
          · rw [u5] at ea; cases ea
          obtain ⟨a1, ea1, ea2⟩ := om (Or.inr u5) ea
          obtain ⟨a, ea3, ea4⟩ := om (Or.inr rfl) ea1
          obtain ⟨⟨R5, RN⟩, RC, RT, RO, RW, RS, RQ, RB⟩ := hR a ea3
          subst ea2
          subst ea4
          have k7 : (u2 a 2 7 0).1 2 7 = 0 := u2_eq _ _ _ _
          have a12 : ∀ j, (u2 a 2 7 0).1 12 j = a.1 12 j := fun j => u2_ne _ _ _ _ (by omega)
          have ef : a.1 12 0 = I 118 s := RC.1
          obtain ⟨A1, A2, A3⟩ := nmA (v := V t2) (a := u2 a 2 7 0) (k := 0) (mx := 4) (f := 0) k7 (by decide) (fun b => by unfold nb_new; rw [if_pos (by decide)]) (by rw [a12, ef, show (4 : Int32).toInt = 4 from by decide]; exact hr) (by decide)
          have A4 : ∀ p j, ¬ (p = 12 ∧ j = 0) → p ≠ 2 → p ≠ 10 → p ≠ 11 → (nm_add (V t2) (u2 a 2 7 0)).1 p j = a.1 p j := fun p j h1 h2 h3 h4 => by rw [A3 p j h3 h4 (by omega), if_neg h1, u2_ne _ _ _ _ (by omega)]
          have A5 : (nm_add (V t2) (u2 a 2 7 0)).1 12 0 = I 118 s + 1 := by rw [A3 12 0 (by decide) (by decide) (by omega), if_pos ⟨rfl, rfl⟩, a12, ef]
          have eW : L 113 t2 = W t2 := (hX.1.1.2 t2 u1 (by omega)).2
          refine ⟨?_, ?_, ?_, ?_, ?_, ?_, ?_, ?_⟩
          · refine rN_new (a := u2 a 2 7 0) (I := I) (t := t) (so := 0) (x := I 118 s) (L := L) (by rw [u2_ne _ _ _ _ (by omega)]; exact R5) b0 (by omega) (rN_cg RN t (Nat.le_refl _) (fun i _ => ⟨rfl, u2_ne _ _ _ _ (by omega), u2_ne _ _ _ _ (by omega)⟩) (fun i _ => ⟨rfl, rfl, rfl⟩)) (by omega) (by omega) u3 ?_ ?_ ?_ ?_ ?_ (fun i hi => ⟨o5 116 i (by omega) (by omega) (by decide), o5 117 i (by omega) (by omega) (by decide)⟩) ?_ (fun i hi => ?_)
            · rw [A1]; unfold srt; exact Or.inl ⟨rfl, rfl⟩
            · rw [A2, a12, ef]
            · rw [e5, en_up_ne _ _ _ _ (by omega), e4J, en_up_eq, e20]
            · rw [e5, en_up_ne _ _ _ _ (by omega), e4J, en_up_ne _ _ _ _ (by omega), en_up_ne _ _ _ _ (by omega), en_up_eq]
            · rw [e5, en_up_ne _ _ _ _ (by omega), e4J, en_up_ne _ _ _ _ (by omega), en_up_eq, en, er]
            · rw [e4L, en_up_eq, eW]
            · rw [e4L, en_up_ne _ _ _ _ (by omega)]
          · unfold rC
            refine ⟨?_, ?_, ?_, ?_, ?_⟩
            · rw [A5, r5]
            · rw [A4 12 1 (by omega) (by omega) (by omega) (by omega), o5 119 s (by omega) (by omega) (by decide)]; exact RC.2.1
            · rw [A4 12 2 (by omega) (by omega) (by omega) (by omega), o5 122 s (by omega) (by omega) (by decide)]; exact RC.2.2.1
            · rw [A4 12 3 (by omega) (by omega) (by omega) (by omega), o5 125 s (by omega) (by omega) (by decide)]; exact RC.2.2.2.1
            · rw [A4 12 4 (by omega) (by omega) (by omega) (by omega), o5 136 s (by omega) (by omega) (by decide)]; exact RC.2.2.2.2
          · exact rT_cg RT (fun c' j hc => A4 c' j (by omega) (by omega) (by omega) (by omega)) (fun p j hp => o5 p j (by omega) (by omega) (by omega))
          · exact rO_cg RO b34.2 (fun c' j h1 h2 => A4 c' j (by omega) (by omega) (by omega) (by omega)) (by rw [o5 122 s (by omega) (by omega) (by decide)]; exact Int.le_refl _) (o5 134 s (by omega) (by omega) (by decide)) (fun j => o5 135 j (by omega) (by omega) (by decide)) (fun p j h1 h2 _ _ => o5 p j (by omega) (by omega) (by omega))
          · exact rW_cg RW (fun j => A4 13 j (by omega) (by omega) (by omega) (by omega)) (fun j => o5 121 j (by omega) (by omega) (by decide))
          · exact rS_cg RS bc.2.2.2.1.2 hs1 (fun c' j hc => A4 c' j (by omega) (by omega) (by omega) (by omega)) (fun p j hp => o5 p j (by omega) (by omega) (by omega))
          · exact rQ_cg RQ (fun c' j h1 h2 => A4 c' j (by omega) (by omega) (by omega) (by omega)) (fun p j hp => o5 p j (by omega) (by omega) (by omega))
          · exact rB_new (so := 0) (x := I 118 s) RB b0 (by omega) (by rw [e5, en_up_ne _ _ _ _ (by omega), e4J, en_up_eq, e20]) (by rw [e5, en_up_ne _ _ _ _ (by omega), e4J, en_up_ne _ _ _ _ (by omega), en_up_ne _ _ _ _ (by omega), en_up_eq]) (by rw [e5, en_up_ne _ _ _ _ (by omega), e4J, en_up_ne _ _ _ _ (by omega), en_up_eq, en, er]) (fun i hi => ⟨o5 116 i (by omega) (by omega) (by decide), o5 117 i (by omega) (by omega) (by decide)⟩) (by rw [o5 122 s (by omega) (by omega) (by decide)]; exact Int.le_refl _) (fun y => absurd y (by decide))
      rw [e19, sn]
      refine ⟨fun _ => ⟨sv, fun n24 en => sm_wp_mono (fin n24 en) (fun z hz => ?_)⟩, fun q => absurd rfl q⟩
      obtain ⟨J4, L4, R4, ez, w⟩ := hz
      exact ⟨J4, L4, R4, ez, fun _ => w, fun q => absurd rfl q⟩
    · have nz : ¬ J3 107 13 = 0 := fun y => z (by rw [y]; decide)
      have em := PS_n0 X3.1 nz
      exact h J3 L ⟨m3, o2, X3, Or.inl em⟩
theorem x_tellName1 (hT : TS K P V W N c) (hls : ml_ls l s) (hm : en_mem ml_tb mlX (xLay, I, L, R)) (hI : ml_TI l s I) (hX : PX K P V W N c R0 M0 (some (t, 0, g)) o I L) (hG : rG s g I) (hR : ∀ a, o = some a → rL K V W s t a I L) (ek : K t = 1) (hr : (I 119 s).toInt < 6) (h : ∀ (J : sm_I) (L' : sm_L), TP K P V W N c R0 M0 s t J L' → Φ (none, (xLay, J, L', kM R))) : sm_wp sm_P S (d + 4) 197 0 [.ref 107, .int (1 : Int32)] [] (xLay, I, L, kM R) (0, 0) Φ := by
  obtain ⟨hl1, hs1⟩ := ml_l1 hls
  obtain ⟨sn, sv⟩ := ml_sn hls hI
  have bc := ml_cs hs1 hm
  have b34 := x_34 hs1 hm
  obtain ⟨⟨b0, b1⟩, hb⟩ := x_b117 hm
  have bs : (I 107 20).toInt ≤ ml_sum I s := hI.2.2.1
  unfold ml_sum at bs
  have b49 := ml_nm49 hls hI hm
  have tc : t ≤ c := hX.1.2.2.2.2.2.1
  have ok : gc_ok 0 1 g = true := by
    unfold gc_ok
    rw [if_pos ⟨rfl, by decide⟩]
    refine decide_eq_true ?_
    have := hG.2.1
    rw [show gw 1 = 1 from by decide, show (sm_room.getD 1 0).toInt = 6 from by decide]
    omega
  refine u_X12_tellName_0 (x_go0 (k := 1) hT ek (by decide) (by decide) (by decide +kernel) (by decide) (by decide) ok hX (fun J1 m1 f1 X1 r1 => ⟨J1, L, R, rfl, ?_⟩))
  have e1 : ∀ t' s' g', m1 = some (t', s', g') → t' = t + 1 ∧ s' = 1 ∧ g' = gc_st 0 1 g ∧ t < c := fun t' s' g' em => by
    rcases r1 with r1 | ⟨q1, q2, q3⟩
    · rw [r1] at em; cases em
    · rw [q3] at em
      obtain ⟨y1, y2, y3⟩ := mo_i em
      exact ⟨y1.symm, by rw [← y2]; decide +kernel, y3.symm, q1⟩
  have c20 : J1 107 20 = I 107 20 := f1 107 20 (by omega)
  refine x_named (s0 := 1) hT (by decide +kernel) (fun v a => by unfold ms; rw [if_neg (fun z => absurd z.1 (by decide))]; unfold tk_take; rw [if_neg (by decide), if_pos (by decide)]) X1 (fun t' s' g' em => (e1 t' s' g' em).2.1) (by rw [c20]; exact b0) (by rw [c20]; exact b1) (fun t' g' a1 em eo uc ku => ?_) (fun J2 m2 o2 f2 X2 r2 => ⟨_, J2, L, R, rfl, ?_⟩)
  · cases eo' : o with
    | none => rw [eo'] at eo; cases eo
    | some a =>
      rw [eo'] at eo
      have := Option.some.inj eo
      subst this
      exact x_hn hT f1 (hR a eo') tc 1 uc ku (by omega)
  · refine x_mustT (i := 17) (s0 := 2) [] hT rfl (by decide +kernel) (fun v a => rfl) X2 (fun t' s' g' em => ⟨?_, fun j hj => absurd hj List.not_mem_nil⟩) (fun J3 m3 f3 X3 r3 => ⟨J3, L, R, rfl, fun z => ?_, fun z => ?_⟩)
    · rcases r2 with r2 | ⟨t2, g2, em2, q1, q2, q3, q4, q5⟩
      · rw [r2] at em; cases em
      · rw [q4] at em
        rw [← (mo_i em).2.1]; decide +kernel
    · have z := PS_le0 X3.1 z
      have n3 : m3 ≠ none := fun q => by rw [q] at X3; exact PS_no X3.1 z
      rcases r3 with r3 | ⟨t3, g3, em3, v1, v2, v3, v4⟩
      · exact absurd r3 n3
      rcases r2 with r2 | ⟨t2, g2, em2, u1, u2', u3, u4, u5⟩
      · rw [r2] at em3; cases em3
      obtain ⟨y1, y2, y3, y4⟩ := e1 t2 1 g2 em2
      rw [u4] at em3
      obtain ⟨w1, w2, w3⟩ := mo_i em3
      have ft : xfr I J3 := xfr_tr f1 (xfr_tr f2 f3)
      have e19 : J3 107 19 = I 107 19 := ft 107 19 (by omega)
      have e20 : J3 107 20 = I 107 20 := ft 107 20 (by omega)
      have ecm : cntm J3 = cntm I := by unfold cntm; rw [e20]
      have h11 : (J1 107 11).toInt = t2 := by
        have hS := X1.1
        rw [em2] at hS
        exact hS.2.2.2.2.1
      have er : J3 119 s = I 119 s := ft 119 s (by omega)
      have eg : g3 = gc_st 0 1 g := by rw [← w3, y3]
      have e4 : fw 2 (Int32.ofNat 17) = 0 := by decide +kernel
      have fin : ∀ n24 : Int32, n24 = J3 119 s → sm_wp sm_P S (d + 3) 155 0 [.ref 107, .int (J1 107 11), .int (1 : Int32), .int n24] [] (xLay, J3, L, kM R) (0, 0) (fun z => ∃ (I25 : sm_I) (L26 : sm_L) (R27 : sm_R), z = (none, (xLay, I25, L26, (kM R27))) ∧ (vp_in (I25 107 19) 2) ∧ ∀ n31 : Int32, n31 = ((I25 119 (I25 107 19).toNatClampNeg) + (1 : Int32)) → (vp_in (I25 107 19) 2) ∧ ∀ I32 : sm_I, I32 = (sm_up I25 119 (I25 107 19).toNatClampNeg n31) → Φ (none, (xLay, I32, L26, (kM R27)))) := by
        intro n24 en
        refine x_knows (t := t2) h11 (by omega) (by rw [e20]; exact b0) (by rw [e20]; exact b49) X3 (fun J4 L4 e4J e4L X4 => ⟨J4, L4, R, rfl, ?_⟩)
        rw [ecm] at e4J e4L
        have o4 : ∀ p j, ¬ ((p = 116 ∨ p = 117) ∧ j = cntm I) → ¬ (p = 107 ∧ j = 20) → J4 p j = J3 p j := fun p j h1 h2 => by rw [e4J, en_up_ne _ _ _ _ (by omega), en_up_ne _ _ _ _ (by omega), en_up_ne _ _ _ _ (by omega)]
        have s4 : J4 107 19 = I 107 19 := by rw [o4 107 19 (by omega) (by omega)]; exact e19
        rw [s4, sn]
        refine ⟨sv, fun n31 en31 => ⟨sv, fun J5 e5 => h J5 L4 ⟨m3, o2, ?_, Or.inr ⟨t3 + 1, g3, ?_, by omega, ?_, fun a' ea => ?_⟩⟩⟩⟩
        · rw [e5]; exact PX_up (by decide) (by omega) X4
        · rw [v4, e4]
        all_goals
          have o5 : ∀ p j, ¬ ((p = 116 ∨ p = 117) ∧ j = cntm I) → ¬ (p = 119 ∧ j = s) → p ≠ 107 → J5 p j = I p j := fun p j h1 h2 h3 => by rw [e5, en_up_ne _ _ _ _ h2, o4 p j h1 (by omega), ft p j (by omega)]
          have r5 : J5 119 s = I 119 s + 1 := by rw [e5, en_up_eq, en31, o4 119 s (by omega) (by omega), er]
          have r5i : (J5 119 s).toInt = (I 119 s).toInt + 1 := by rw [r5]; exact ml_in1 (by omega)
        · rw [eg]
          unfold rG
          obtain ⟨G1, G2, G3, G4, G5, G6, G7⟩ := hG
          refine ⟨?_, ?_, ?_, ?_, ?_, ?_, ?_⟩
          · rw [o5 118 s (by omega) (by omega) (by decide), gc0_t (by decide), if_neg (by decide)]; exact G1
          · rw [r5i, gc0_t (by decide), if_pos (by decide)]; omega
          · rw [o5 120 s (by omega) (by omega) (by decide), gc0_t (by decide), if_neg (by decide)]; exact G3
          · rw [o5 122 s (by omega) (by omega) (by decide), gc0_t (by decide), if_neg (by decide)]; exact G4
          · rw [o5 125 s (by omega) (by omega) (by decide), gc0_t (by decide), if_neg (by decide)]; exact G5
          · rw [o5 134 s (by omega) (by omega) (by decide), gc0_t (by decide), if_neg (by decide)]; exact G6
          · rw [o5 136 s (by omega) (by omega) (by decide), gc0_t (by decide), if_neg (by decide)]; exact G7
        · rcases u5 with u5 | ⟨u5, u6⟩
          · rw [u5] at ea; cases ea
          obtain ⟨a1, ea1, ea2⟩ := om (Or.inr u5) ea
          obtain ⟨a, ea3, ea4⟩ := om (Or.inr rfl) ea1
          obtain ⟨⟨R5, RN⟩, RC, RT, RO, RW, RS, RQ, RB⟩ := hR a ea3
          subst ea2
          subst ea4
          have k7 : (u2 a 2 7 1).1 2 7 = 1 := u2_eq _ _ _ _
          have a12 : ∀ j, (u2 a 2 7 1).1 12 j = a.1 12 j := fun j => u2_ne _ _ _ _ (by omega)
          have ef : a.1 12 1 = I 119 s := RC.2.1
          obtain ⟨A1, A2, A3⟩ := nmA (v := V t2) (a := u2 a 2 7 1) (k := 1) (mx := 6) (f := 1) k7 (by decide) (fun b => by unfold nb_new; rw [if_neg (by decide), if_pos (by decide)]) (by rw [a12, ef, show (6 : Int32).toInt = 6 from by decide]; exact hr) (by decide)
          have A4 : ∀ p j, ¬ (p = 12 ∧ j = 1) → p ≠ 2 → p ≠ 10 → p ≠ 11 → (nm_add (V t2) (u2 a 2 7 1)).1 p j = a.1 p j := fun p j h1 h2 h3 h4 => by rw [A3 p j h3 h4 (by omega), if_neg h1, u2_ne _ _ _ _ (by omega)]
          have A5 : (nm_add (V t2) (u2 a 2 7 1)).1 12 1 = I 119 s + 1 := by rw [A3 12 1 (by decide) (by decide) (by omega), if_pos ⟨rfl, rfl⟩, a12, ef]
          have eW : L 113 t2 = W t2 := (hX.1.1.2 t2 u1 (by omega)).2
          refine ⟨?_, ?_, ?_, ?_, ?_, ?_, ?_, ?_⟩
          · refine rN_new (a := u2 a 2 7 1) (I := I) (t := t) (so := 1) (x := I 119 s) (L := L) (by rw [u2_ne _ _ _ _ (by omega)]; exact R5) b0 (by omega) (rN_cg RN t (Nat.le_refl _) (fun i _ => ⟨rfl, u2_ne _ _ _ _ (by omega), u2_ne _ _ _ _ (by omega)⟩) (fun i _ => ⟨rfl, rfl, rfl⟩)) (by omega) (by omega) u3 ?_ ?_ ?_ ?_ ?_ (fun i hi => ⟨o5 116 i (by omega) (by omega) (by decide), o5 117 i (by omega) (by omega) (by decide)⟩) ?_ (fun i hi => ?_)
            · rw [A1]; unfold srt; exact Or.inr (Or.inl ⟨rfl, rfl⟩)
            · rw [A2, a12, ef]
            · rw [e5, en_up_ne _ _ _ _ (by omega), e4J, en_up_eq, e20]
            · rw [e5, en_up_ne _ _ _ _ (by omega), e4J, en_up_ne _ _ _ _ (by omega), en_up_ne _ _ _ _ (by omega), en_up_eq]
            · rw [e5, en_up_ne _ _ _ _ (by omega), e4J, en_up_ne _ _ _ _ (by omega), en_up_eq, en, er]
            · rw [e4L, en_up_eq, eW]
            · rw [e4L, en_up_ne _ _ _ _ (by omega)]
          · unfold rC
            refine ⟨?_, ?_, ?_, ?_, ?_⟩
            · rw [A4 12 0 (by omega) (by omega) (by omega) (by omega), o5 118 s (by omega) (by omega) (by decide)]; exact RC.1
            · rw [A5, r5]
            · rw [A4 12 2 (by omega) (by omega) (by omega) (by omega), o5 122 s (by omega) (by omega) (by decide)]; exact RC.2.2.1
            · rw [A4 12 3 (by omega) (by omega) (by omega) (by omega), o5 125 s (by omega) (by omega) (by decide)]; exact RC.2.2.2.1
            · rw [A4 12 4 (by omega) (by omega) (by omega) (by omega), o5 136 s (by omega) (by omega) (by decide)]; exact RC.2.2.2.2
          · exact rT_cg RT (fun c' j hc => A4 c' j (by omega) (by omega) (by omega) (by omega)) (fun p j hp => o5 p j (by omega) (by omega) (by omega))
          · exact rO_cg RO b34.2 (fun c' j h1 h2 => A4 c' j (by omega) (by omega) (by omega) (by omega)) (by rw [o5 122 s (by omega) (by omega) (by decide)]; exact Int.le_refl _) (o5 134 s (by omega) (by omega) (by decide)) (fun j => o5 135 j (by omega) (by omega) (by decide)) (fun p j h1 h2 _ _ => o5 p j (by omega) (by omega) (by omega))
          · exact rW_cg RW (fun j => A4 13 j (by omega) (by omega) (by omega) (by omega)) (fun j => o5 121 j (by omega) (by omega) (by decide))
          · exact rS_cg RS bc.2.2.2.1.2 hs1 (fun c' j hc => A4 c' j (by omega) (by omega) (by omega) (by omega)) (fun p j hp => o5 p j (by omega) (by omega) (by omega))
          · exact rQ_cg RQ (fun c' j h1 h2 => A4 c' j (by omega) (by omega) (by omega) (by omega)) (fun p j hp => o5 p j (by omega) (by omega) (by omega))
          · exact rB_new (so := 1) (x := I 119 s) RB b0 (by omega) (by rw [e5, en_up_ne _ _ _ _ (by omega), e4J, en_up_eq, e20]) (by rw [e5, en_up_ne _ _ _ _ (by omega), e4J, en_up_ne _ _ _ _ (by omega), en_up_ne _ _ _ _ (by omega), en_up_eq]) (by rw [e5, en_up_ne _ _ _ _ (by omega), e4J, en_up_ne _ _ _ _ (by omega), en_up_eq, en, er]) (fun i hi => ⟨o5 116 i (by omega) (by omega) (by decide), o5 117 i (by omega) (by omega) (by decide)⟩) (by rw [o5 122 s (by omega) (by omega) (by decide)]; exact Int.le_refl _) (fun y => absurd y (by decide))
      rw [e19, sn]
      refine ⟨fun q => absurd q (by decide), fun _ => ⟨sv, fun n24 en => sm_wp_mono (fin n24 en) (fun z hz => ?_)⟩⟩
      obtain ⟨J4, L4, R4, ez, w⟩ := hz
      exact ⟨J4, L4, R4, ez, fun q => absurd q (by decide), fun _ => w⟩
    · have nz : ¬ J3 107 13 = 0 := fun y => z (by rw [y]; decide)
      have em := PS_n0 X3.1 nz
      exact h J3 L ⟨m3, o2, X3, Or.inl em⟩
end
end
section
/-! tells of the reference, exact: way -/
theorem rL_a {K : Nat → Int32} {V W : Nat → Int64} {s t t' : Nat} {a a' : sg} {I : sm_I} {L : sm_L} (h : rL K V W s t a I L) (ht : t ≤ t') (b34 : (I 134 s).toInt ≤ 4) (b25 : (I 125 s).toInt ≤ 10) (hs : s ≤ 1) (ha : ∀ p j, 10 ≤ p → a'.1 p j = a.1 p j) (h5 : a'.1 2 5 = a.1 2 5) (h2 : a'.2 = a.2) : rL K V W s t' a' I L := by
  obtain ⟨⟨R5, RN⟩, RC, RT, RO, RW, RS, RQ, RB⟩ := h
  refine ⟨⟨by rw [h5]; exact R5, rN_cg RN t' ht (fun i _ => ⟨by rw [h2], ha 10 i (by decide), ha 11 i (by decide)⟩) (fun i _ => ⟨rfl, rfl, rfl⟩)⟩, ?_, rT_cg RT (fun c j hc => ha c j (by omega)) (fun _ _ _ => rfl), rO_cg RO b34 (fun c j h1 h2 => ha c j (by omega)) (Int.le_refl _) rfl (fun _ => rfl) (fun _ _ _ _ _ _ => rfl), rW_cg RW (fun j => ha 13 j (by decide)) (fun _ => rfl), rS_cg RS b25 hs (fun c j hc => ha c j (by omega)) (fun _ _ _ => rfl), rQ_cg RQ (fun c j h1 h2 => ha c j (by omega)) (fun _ _ _ => rfl), RB⟩
  unfold rC
  rw [ha 12 0 (by decide), ha 12 1 (by decide), ha 12 2 (by decide), ha 12 3 (by decide), ha 12 4 (by decide)]
  exact RC
/-- what is looked up has its bounds -/
theorem x_fb {I : sm_I} {L : sm_L} {R : sm_R} (hm : en_mem ml_tb mlX (xLay, I, L, R)) (L' : sm_L) (nm : Int64) : (-1 ≤ (fdm I L' nm 0).toInt ∧ (fdm I L' nm 0).toInt ≤ 3) ∧ (-1 ≤ (fdm I L' nm 1).toInt ∧ (fdm I L' nm 1).toInt ≤ 5) ∧ (-1 ≤ (fdm I L' nm 2).toInt ∧ (fdm I L' nm 2).toInt ≤ 9) := by
  have b := ml_nm hm
  have n : ((cntm I : Nat) : Int) = (I 107 20).toInt := kl_nat b.1
  have rw_ : ∀ j, j < cntm I → (0 ≤ (I 117 j).toInt ∧ (I 117 j).toInt ≤ 9) ∧ ((I 116 j).toInt = 0 → (I 117 j).toInt ≤ 3) ∧ ((I 116 j).toInt = 1 → (I 117 j).toInt ≤ 5) := fun j hj => by
    have q : 0 ≤ (I 117 j).toInt ∧ (I 117 j).toInt ≤ 9 := ml_row hm (p := 117) (n := 50) (q := (0, 9)) (fun _ => rfl) j (by omega)
    have N := hm.2.2.2.2.2.2.2.2.1 j (by omega)
    exact ⟨q, N⟩
  have z0 : (0 : Int32).toInt = 0 := by decide
  have z1 : (1 : Int32).toInt = 1 := by decide
  refine ⟨?_, ?_, ?_⟩
  · refine fm_b (Q := fun r => -1 ≤ r.toInt ∧ r.toInt ≤ 3) (by decide) (cntm I) 0 (fun j _ hj e => ?_)
    have q := rw_ j (by omega)
    have := q.2.1 (by rw [e]; exact z0)
    omega
  · refine fm_b (Q := fun r => -1 ≤ r.toInt ∧ r.toInt ≤ 5) (by decide) (cntm I) 0 (fun j _ hj e => ?_)
    have q := rw_ j (by omega)
    have := q.2.2 (by rw [e]; exact z1)
    omega
  · refine fm_b (Q := fun r => -1 ≤ r.toInt ∧ r.toInt ≤ 9) (by decide) (cntm I) 0 (fun j _ hj e => ?_)
    have q := rw_ j (by omega)
    omega
theorem ms_15 (s : Int32) (v : Int64) (a : sg) : ms s 15 v a = tk_take s 15 v a := by unfold ms; rw [if_neg (fun z => absurd z.1 (by decide))]
theorem ms_16 {s : Int32} {v : Int64} {a : sg} (h : lg_cmp v 1440 ≤ 0) : ms s 16 v a = tk_take s 16 v a := by unfold ms; rw [if_neg (fun z => z.2 h)]
section
variable {K : Nat → Int32} {P : Nat → Nat} {V W : Nat → Int64} {N : Nat → Int32} {c : Nat} {R0 : Option (Int32 × Nat)} {M0 : Option (Int32 × Nat) × sg}
variable {S : sm_C} {d : Nat} {Φ : sm_Z → Prop} {I : sm_I} {L : sm_L} {R : sm_R} {o : Option sg} {l s t : Nat} {g : gc}
/-- an index of a way -/
theorem x_wi {s : Nat} {x y n : Int32} {z : Int32} (hs : s ≤ 1) (hz : z.toInt = s) (x0 : 0 ≤ x.toInt) (x1 : x.toInt ≤ 5) (y0 : 0 ≤ y.toInt) (y1 : y.toInt ≤ 5) (en : n = ((((36 : Int32) * z) + ((6 : Int32) * x)) + y)) : vp_in n 72 ∧ ∃ i : Nat, i < 36 ∧ n.toNatClampNeg = 36 * s + i ∧ (x * 6 + y).toNatClampNeg = i ∧ (i : Int) = 6 * x.toInt + y.toInt := by
  have c6 : (6 : Int32).toInt = 6 := by decide
  have q1 : ((36 : Int32) * z).toInt = 36 * (s : Int) := ml_mu (by decide) hz (by omega) (by omega)
  have q2 : ((6 : Int32) * x).toInt = 6 * x.toInt := ml_mu (by decide) rfl (by omega) (by omega)
  have q3 : (((36 : Int32) * z) + ((6 : Int32) * x)).toInt = 36 * (s : Int) + 6 * x.toInt := ml_ad q1 q2 (by omega) (by omega)
  have q4 : n.toInt = 36 * (s : Int) + 6 * x.toInt + y.toInt := by rw [en]; exact ml_ad q3 rfl (by omega) (by omega)
  have m : (x * 6).toInt = x.toInt * 6 := ml_mu rfl c6 (by omega) (by omega)
  have p : (x * 6 + y).toInt = x.toInt * 6 + y.toInt := ml_ad m rfl (by omega) (by omega)
  have n1 := kl_nat (i := n) (by omega)
  have n2 := kl_nat (i := x * 6 + y) (by omega)
  exact ⟨kl_in (by omega) (by omega), (x * 6 + y).toNatClampNeg, by omega, by omega, rfl, by omega⟩
theorem x_tellWay4 {m : mo} {o1 : Option sg} {I1 : sm_I} {x1 x3 : Int32} (hT : TS K P V W N c) (hls : ml_ls l s) (hm : en_mem ml_tb mlX (xLay, I, L, R)) (hI : ml_TI l s I) (hG : rG s g I) (hr : (I 120 s).toInt < 12) (f1 : xfr I I1) (X1 : PX K P V W N c R0 M0 m o1 I1 L) (r1 : ∀ t' s' g', m = some (t', s', g') → t < t' ∧ s' = 5 ∧ g' = gc_st 0 2 g) (b1 : m ≠ none → -1 ≤ x1.toInt ∧ x1.toInt ≤ 5) (b3 : m ≠ none → -1 ≤ x3.toInt ∧ x3.toInt ≤ 5) (ho : ∀ a1, o1 = some a1 → ¬ x1 = -1 ∧ ¬ x3 = -1 ∧ ¬ x1 = x3 ∧ ∃ a, rL K V W s t a I L ∧ a1 = u2 (u2 (u2 a 2 7 2) 2 8 x1) 2 9 x3) (h : ∀ (J : sm_I) (L' : sm_L), TP K P V W N c R0 M0 s t J L' → Φ (none, (xLay, J, L', kM R))) : sm_wp sm_P S (d + 4) 203 4 [.ref 107, .int x1, .int x3] [] (xLay, I1, L, kM R) (0, 0) Φ := by
  obtain ⟨hl1, hs1⟩ := ml_l1 hls
  obtain ⟨sn, sv⟩ := ml_sn hls hI
  have bc := ml_cs hs1 hm
  have b34 := x_34 hs1 hm
  have b120 : 0 ≤ (I 120 s).toInt ∧ (I 120 s).toInt ≤ 12 := ml_row hm (p := 120) (n := 2) (q := (0, 12)) (fun _ => rfl) s (by omega)
  refine u_X12_tellWay_4 (x_numU (s0 := 5) hT (by decide +kernel) en_po (fun v a hv => by rw [ms_16 hv]; rfl) X1 (fun t' s' g' em => (r1 t' s' g' em).2.1) (fun r J2 m2 o2 f2 X2 r2 => ⟨r, J2, L, R, rfl, ?_⟩))
  have e2 : ∀ t' s' g', m2 = some (t', s', g') → t < t' ∧ s' = 2 ∧ g' = gc_st 0 2 g ∧ m ≠ none ∧ (o2 = none ∨ 0 ≤ r.toInt ∧ r.toInt ≤ 1440 ∧ o2 = o1.map (en_po r)) := fun t' s' g' em => by
    rcases r2 with r2 | ⟨t2, g2, em2, q1, q2, q3, q4⟩
    · rw [r2] at em; cases em
    · rw [q3] at em
      obtain ⟨y1, y2, y3⟩ := mo_i em
      obtain ⟨z1, z2, z3⟩ := r1 t2 5 g2 em2
      exact ⟨by omega, by rw [← y2]; decide +kernel, by rw [← y3]; exact z3, (by rw [em2]; exact Option.some_ne_none _), q4⟩
  refine x_mustT (i := 17) (s0 := 2) [] hT rfl (by decide +kernel) (fun v a => rfl) X2 (fun t' s' g' em => ⟨(e2 t' s' g' em).2.1, fun j hj => absurd hj List.not_mem_nil⟩) (fun J3 m3 f3 X3 r3 => ⟨J3, L, R, rfl, fun z => ?_, fun z => ?_⟩)
  · have z := PS_le0 X3.1 z
    have n3 : m3 ≠ none := fun q => by rw [q] at X3; exact PS_no X3.1 z
    rcases r3 with r3 | ⟨t3, g3, em3, v1, v2, v3, v4⟩
    · exact absurd r3 n3
    obtain ⟨y1, y2, y3, y4, y5⟩ := e2 t3 2 g3 em3
    have ft : xfr I J3 := xfr_tr f1 (xfr_tr f2 f3)
    have e19 : J3 107 19 = I 107 19 := ft 107 19 (by omega)
    have e4 : fw 2 (Int32.ofNat 17) = 0 := by decide +kernel
    have b1 := b1 y4
    have b3 := b3 y4
    rw [e19, sn]
    refine ⟨sv, fun n9 e9 => ⟨sv, fun J10 e10 => ?_⟩⟩
    have o10 : ∀ p j, ¬ (p = 120 ∧ j = s) → p ≠ 107 → J10 p j = I p j := fun p j h1 h2 => by rw [e10, en_up_ne _ _ _ _ h1, ft p j (by omega)]
    have X10 : PX K P V W N c R0 M0 m3 o2 J10 L := by rw [e10]; exact PX_up (by decide) (by omega) X3
    have r10 : (J10 120 s).toInt = (I 120 s).toInt + 1 := by rw [e10, en_up_eq, e9, ft 120 s (by omega)]; exact ml_in1 (by omega)
    have s10 : J10 107 19 = I 107 19 := by rw [e10, en_up_ne _ _ _ _ (by omega)]; exact e19
    have fin : ∀ J : sm_I, (∀ p j, p ≠ 121 → J p j = J10 p j) → PX K P V W N c R0 M0 m3 o2 J L → (∀ a', o2 = some a' → rW s a' J) → Φ (none, (xLay, J, L, kM R)) := by
      intro J oJ XJ hW
      refine h J L ⟨m3, o2, XJ, Or.inr ⟨t3 + 1, g3, by rw [v4, e4], by omega, ?_, fun a' ea => ?_⟩⟩
      · rw [y3]
        unfold rG
        obtain ⟨G1, G2, G3, G4, G5, G6, G7⟩ := hG
        refine ⟨?_, ?_, ?_, ?_, ?_, ?_, ?_⟩
        · rw [oJ _ _ (by decide), o10 118 s (by omega) (by decide), gc0_t (by decide), if_neg (by decide)]; exact G1
        · rw [oJ _ _ (by decide), o10 119 s (by omega) (by decide), gc0_t (by decide), if_neg (by decide)]; exact G2
        · rw [oJ _ _ (by decide), r10, gc0_t (by decide), if_pos (by decide)]; omega
        · rw [oJ _ _ (by decide), o10 122 s (by omega) (by decide), gc0_t (by decide), if_neg (by decide)]; exact G4
        · rw [oJ _ _ (by decide), o10 125 s (by omega) (by decide), gc0_t (by decide), if_neg (by decide)]; exact G5
        · rw [oJ _ _ (by decide), o10 134 s (by omega) (by decide), gc0_t (by decide), if_neg (by decide)]; exact G6
        · rw [oJ _ _ (by decide), o10 136 s (by omega) (by decide), gc0_t (by decide), if_neg (by decide)]; exact G7
      · have hw := hW a' ea
        rcases y5 with y5 | ⟨y6, y7, y5⟩
        · rw [y5] at ea; cases ea
        obtain ⟨a1, ea1, ea2⟩ := om (Or.inr y5) ea
        obtain ⟨n1, n2, n3', a, RL, ea4⟩ := ho a1 ea1
        subst ea2
        subst ea4
        have A : ∀ p j, p ≠ 2 → p ≠ 13 → (en_po r (u2 (u2 (u2 a 2 7 2) 2 8 x1) 2 9 x3)).1 p j = a.1 p j := fun p j h1 h2 => by
          have base : (u2 (u2 (u2 a 2 7 2) 2 8 x1) 2 9 x3).1 p j = a.1 p j := by rw [u2_ne _ _ _ _ (by omega), u2_ne _ _ _ _ (by omega), u2_ne _ _ _ _ (by omega)]
          unfold en_po
          rw [if_pos (by rw [u2_ne _ _ _ _ (by omega), u2_ne _ _ _ _ (by omega), u2_eq])]
          unfold ad_path ad_w
          repeat' split
          all_goals first | exact base | (rw [u2_ne _ _ _ _ (by omega), u2_ne _ _ _ _ (by omega)]; exact base)
        have A2 : (en_po r (u2 (u2 (u2 a 2 7 2) 2 8 x1) 2 9 x3)).2 = a.2 := by
          unfold en_po
          rw [if_pos (by rw [u2_ne _ _ _ _ (by omega), u2_ne _ _ _ _ (by omega), u2_eq])]
          unfold ad_path ad_w
          repeat' split
          all_goals rfl
        have A5 : (en_po r (u2 (u2 (u2 a 2 7 2) 2 8 x1) 2 9 x3)).1 2 5 = a.1 2 5 := by
          have base : (u2 (u2 (u2 a 2 7 2) 2 8 x1) 2 9 x3).1 2 5 = a.1 2 5 := by rw [u2_ne _ _ _ _ (by omega), u2_ne _ _ _ _ (by omega), u2_ne _ _ _ _ (by omega)]
          unfold en_po
          rw [if_pos (by rw [u2_ne _ _ _ _ (by omega), u2_ne _ _ _ _ (by omega), u2_eq])]
          unfold ad_path ad_w
          repeat' split
          all_goals first | exact base | (rw [u2_ne _ _ _ _ (by omega), u2_ne _ _ _ _ (by omega)]; exact base)
        obtain ⟨⟨R5, RN⟩, RC, RT, RO, RW, RS, RQ, RB⟩ := RL
        have oJI : ∀ p j, p ≠ 121 → p ≠ 120 → p ≠ 107 → J p j = I p j := fun p j h1 h2 h3 => by rw [oJ p j h1, o10 p j (by omega) h3]
        have ec : J 107 20 = I 107 20 := by rw [oJ _ _ (by decide), e10, en_up_ne _ _ _ _ (by omega), ft 107 20 (by omega)]
        refine ⟨⟨by rw [A5, ec]; exact R5, ?_⟩, ?_, rT_cg RT (fun c' j hc => A c' j (by omega) (by omega)) (fun p j hp => oJI p j (by omega) (by omega) (by omega)), rO_cg RO b34.2 (fun c' j h1 h2 => A c' j (by omega) (by omega)) (by rw [oJI 122 s (by decide) (by decide) (by decide)]; exact Int.le_refl _) (oJI 134 s (by decide) (by decide) (by decide)) (fun j => oJI 135 j (by decide) (by decide) (by decide)) (fun p j h1 h2 _ _ => oJI p j (by omega) (by omega) (by omega)), hw, rS_cg RS bc.2.2.2.1.2 hs1 (fun c' j hc => A c' j (by omega) (by omega)) (fun p j hp => oJI p j (by omega) (by omega) (by omega)), rQ_cg RQ (fun c' j h1 h2 => A c' j (by omega) (by omega)) (fun p j hp => oJI p j (by omega) (by omega) (by omega)), rB_cg RB ec (fun i _ => ⟨oJI 116 i (by decide) (by decide) (by decide), oJI 117 i (by decide) (by decide) (by decide)⟩) (by rw [oJI 122 s (by decide) (by decide) (by decide)]; exact Int.le_refl _)⟩
        · have : cntm J = cntm I := by unfold cntm; rw [ec]
          rw [this]
          exact rN_cg RN (t3 + 1) (by omega) (fun i _ => ⟨by rw [A2], A 10 i (by decide) (by decide), A 11 i (by decide) (by decide)⟩) (fun i _ => ⟨rfl, oJI 116 i (by decide) (by decide) (by decide), oJI 117 i (by decide) (by decide) (by decide)⟩)
        · unfold rC
          rw [A 12 0 (by decide) (by decide), A 12 1 (by decide) (by decide), A 12 2 (by decide) (by decide), A 12 3 (by decide) (by decide), A 12 4 (by decide) (by decide), oJI 118 s (by decide) (by decide) (by decide), oJI 119 s (by decide) (by decide) (by decide), oJI 122 s (by decide) (by decide) (by decide), oJI 125 s (by decide) (by decide) (by decide), oJI 136 s (by decide) (by decide) (by decide)]
          exact RC
    have noW : (x1 = -1 ∨ x3 = -1 ∨ x1 = x3) → Φ (none, (xLay, J10, L, kM R)) := fun q => fin J10 (fun _ _ _ => rfl) X10 (fun a' ea => by
      exfalso
      rcases y5 with y5 | ⟨y6, y7, y5⟩
      · rw [y5] at ea; cases ea
      obtain ⟨a1, ea1, ea2⟩ := om (Or.inr y5) ea
      obtain ⟨n1, n2, n3', -⟩ := ho a1 ea1
      rcases q with q | q | q
      · exact n1 q
      · exact n2 q
      · exact n3' q)
    refine ⟨fun q => noW (Or.inl q), fun q1 => ⟨fun q => noW (Or.inr (Or.inl q)), fun q2 => ⟨fun q => noW (Or.inr (Or.inr q)), fun q3 n11 e11 => ?_⟩⟩⟩
    have d1 := ml_m1 q1
    have d3 := ml_m1 q2
    rw [s10] at e11
    obtain ⟨w1, i, i1, i2, i3, i4⟩ := x_wi hs1 hI.2.1 (by omega) b1.2 (by omega) b3.2 e11
    have e121 : J10 121 n11.toNatClampNeg = I 121 (36 * s + i) := by rw [i2]; exact o10 _ _ (by omega) (by decide)
    have cz : (-2 : Int32) < 0 := by decide
    have two : ∀ J12 : sm_I, J12 = sm_up J10 121 n11.toNatClampNeg r → (∀ a, rW s a I → 0 ≤ r.toInt → en_po r (u2 (u2 (u2 a 2 7 2) 2 8 x1) 2 9 x3) = ad_w x1 x3 r (u2 (u2 (u2 a 2 7 2) 2 8 x1) 2 9 x3)) → ∀ n13 : Int32, n13 = ((((36 : Int32) * (J12 107 19)) + ((6 : Int32) * x3)) + x1) → (vp_in n13 72) ∧ ∀ J14 : sm_I, J14 = (sm_up J12 121 n13.toNatClampNeg r) → Φ (none, (xLay, J14, L, (kM R))) := by
      intro J12 e12 hpo n13 e13
      rw [e12, en_up_ne _ _ _ _ (by omega), s10] at e13
      obtain ⟨w2, k, k1, k2, k3, k4⟩ := x_wi hs1 hI.2.1 (by omega) b3.2 (by omega) b1.2 e13
      refine ⟨w2, fun J14 e14 => fin J14 (fun p j hp => by rw [e14, en_up_ne _ _ _ _ (by omega), e12, en_up_ne _ _ _ _ (by omega)]) (by rw [e14, e12]; exact PX_up (by decide) (by omega) (PX_up (by decide) (by omega) X10)) (fun a' ea => ?_)⟩
      rcases y5 with y5 | ⟨y6, y7, y5⟩
      · rw [y5] at ea; cases ea
      obtain ⟨a1, ea1, ea2⟩ := om (Or.inr y5) ea
      obtain ⟨n1, n2, n3', a, RL, ea4⟩ := ho a1 ea1
      subst ea2
      subst ea4
      have RW := RL.2.2.2.2.1
      rw [hpo a RW y6]
      intro j hj
      unfold ad_w
      rw [i3, k3]
      by_cases cj : j = k
      · right
        rw [cj, u2_eq, e14, k2, en_up_eq]; exact ⟨y6, rfl⟩
      · rw [u2_ne _ _ _ _ (by omega), e14, k2, en_up_ne _ _ _ _ (by omega), e12, i2]
        by_cases ci : j = i
        · right
          rw [ci, u2_eq, en_up_eq]; exact ⟨y6, rfl⟩
        · rw [u2_ne _ _ _ _ (by omega), en_up_ne _ _ _ _ (by omega), u2_ne _ _ _ _ (by omega), u2_ne _ _ _ _ (by omega), u2_ne _ _ _ _ (by omega), o10 121 _ (by omega) (by decide)]
          exact RW j hj
    have po : ∀ a, rW s a I → en_po r (u2 (u2 (u2 a 2 7 2) 2 8 x1) 2 9 x3) = (if a.1 13 i < 0 then ad_w x1 x3 r (u2 (u2 (u2 a 2 7 2) 2 8 x1) 2 9 x3) else if a.1 13 i ≤ r then u2 (u2 (u2 a 2 7 2) 2 8 x1) 2 9 x3 else ad_w x1 x3 r (u2 (u2 (u2 a 2 7 2) 2 8 x1) 2 9 x3)) := by
      intro a _
      have c6 : (6 : Int32).toInt = 6 := by decide
      have k8 : (u2 (u2 (u2 a 2 7 2) 2 8 x1) 2 9 x3).1 2 8 = x1 := by rw [u2_ne _ _ _ _ (by omega), u2_eq]
      have k9 : (u2 (u2 (u2 a 2 7 2) 2 8 x1) 2 9 x3).1 2 9 = x3 := u2_eq _ _ _ _
      have k13 : (u2 (u2 (u2 a 2 7 2) 2 8 x1) 2 9 x3).1 13 i = a.1 13 i := by rw [u2_ne _ _ _ _ (by omega), u2_ne _ _ _ _ (by omega), u2_ne _ _ _ _ (by omega)]
      unfold en_po
      rw [if_pos (by rw [u2_ne _ _ _ _ (by omega), u2_ne _ _ _ _ (by omega), u2_eq]), k8, k9]
      unfold ad_path
      rw [if_neg (fun q => by rw [kl_lt, kl_0] at q; omega), if_neg (fun q => by rw [kl_le, c6] at q; omega), if_neg (fun q => by rw [kl_lt, kl_0] at q; omega), if_pos (by rw [kl_lt, c6]; omega), i3, k13]
    refine ⟨w1, fun q => ⟨w1, fun J12 e12 => two J12 e12 (fun a RW y6 => ?_)⟩, fun q => ⟨w1, fun q4 => ⟨w1, fun J12 e12 => two J12 e12 (fun a RW y6 => ?_)⟩, fun q4 => ?_⟩⟩
    · rw [po a RW]
      rw [e121] at q
      rcases RW i i1 with y | y
      · rw [if_pos (by rw [y.2]; exact cz)]
      · rw [q] at y
        exact absurd y.1 (by decide)
    · rw [po a RW]
      rw [e121] at q q4
      rcases RW i i1 with y | y
      · exact absurd y.1 q
      · rw [kl_lt] at q4
        rw [if_neg (fun p => by rw [y.2, kl_lt, kl_0] at p; omega), if_neg (fun p => by rw [y.2, kl_le] at p; omega)]
    · refine fin J10 (fun _ _ _ => rfl) X10 (fun a' ea => ?_)
      rcases y5 with y5 | ⟨y6, y7, y5⟩
      · rw [y5] at ea; cases ea
      obtain ⟨a1, ea1, ea2⟩ := om (Or.inr y5) ea
      obtain ⟨n1, n2, n3', a, RL, ea4⟩ := ho a1 ea1
      subst ea2
      subst ea4
      have RW := RL.2.2.2.2.1
      rw [po a RW]
      rw [e121] at q q4
      have q4 := kl_nlt q4
      rcases RW i i1 with y | y
      · exact absurd y.1 q
      · rw [if_neg (fun p => by rw [y.2, kl_lt, kl_0] at p; omega), if_pos (by rw [y.2, kl_le]; exact q4)]
        refine rW_cg RW (fun j => by rw [u2_ne _ _ _ _ (by omega), u2_ne _ _ _ _ (by omega), u2_ne _ _ _ _ (by omega)]) (fun j => o10 121 j (by omega) (by decide))
  · have nz : ¬ J3 107 13 = 0 := fun y => z (by rw [y]; decide)
    have em := PS_n0 X3.1 nz
    exact h J3 L ⟨m3, o2, X3, Or.inl em⟩
theorem x_tellWay (hT : TS K P V W N c) (hls : ml_ls l s) (hm : en_mem ml_tb mlX (xLay, I, L, R)) (hI : ml_TI l s I) (hX : PX K P V W N c R0 M0 (some (t, 0, g)) o I L) (hG : rG s g I) (hR : ∀ a, o = some a → rL K V W s t a I L) (ek : K t = 2) (hr : (I 120 s).toInt < 12) (h : ∀ (J : sm_I) (L' : sm_L), TP K P V W N c R0 M0 s t J L' → Φ (none, (xLay, J, L', kM R))) : sm_wp sm_P S (d + 4) 203 0 [.ref 107] [] (xLay, I, L, kM R) (0, 0) Φ := by
  obtain ⟨hl1, hs1⟩ := ml_l1 hls
  have bc := ml_cs hs1 hm
  have b34 := x_34 hs1 hm
  obtain ⟨⟨b0, b1⟩, hb⟩ := x_b117 hm
  have tc : t ≤ c := hX.1.2.2.2.2.2.1
  have ok : gc_ok 0 2 g = true := by
    unfold gc_ok
    rw [if_pos ⟨rfl, by decide⟩]
    refine decide_eq_true ?_
    have := hG.2.2.1
    rw [show gw 2 = 2 from by decide, show (sm_room.getD 2 0).toInt = 12 from by decide]
    omega
  refine u_X12_tellWay_0 (x_go0 (k := 2) hT ek (by decide) (by decide) (by decide +kernel) (by decide) (by decide) ok hX (fun J1 m1 f1 X1 r1 => ⟨J1, L, R, rfl, ?_⟩))
  have e1 : ∀ t' s' g', m1 = some (t', s', g') → t' = t + 1 ∧ s' = 3 ∧ g' = gc_st 0 2 g := fun t' s' g' em => by
    rcases r1 with r1 | ⟨q1, q2, q3⟩
    · rw [r1] at em; cases em
    · rw [q3] at em
      obtain ⟨y1, y2, y3⟩ := mo_i em
      exact ⟨y1.symm, by rw [← y2]; decide +kernel, y3.symm⟩
  have c20 : J1 107 20 = I 107 20 := f1 107 20 (by omega)
  have cm1 : cntm J1 = cntm I := by unfold cntm; rw [c20]
  refine x_knownS (kd := 1) (s0 := 3) hT (by decide +kernel) X1 (fun t' s' g' em => (e1 t' s' g' em).2.1) (by rw [c20]; exact b0) (by rw [c20]; exact b1) (fun i hi => by rw [f1 117 i (by omega)]; exact hb i (by rw [← cm1]; exact hi)) (fun t' g' a1 em eo uc ku => ?_) (fun r a => u2 a 2 8 r) (fun v a => by rw [ms_15]; rfl) (fun r8 J2 m2 o2 f2 X2 r2 => ⟨r8, J2, L, R, rfl, ?_⟩)
  · obtain ⟨a, ea3, ea4⟩ := om (Or.inr rfl) eo
    subst ea4
    rw [fdm_cg f1]
    have RL := rL_a (hR a ea3) (Nat.le_refl t) b34.2 bc.2.2.2.1.2 hs1 (a' := u2 a 2 7 2) (fun p j hp => u2_ne _ _ _ _ (by omega)) (u2_ne _ _ _ _ (by omega)) rfl
    exact rN_fd hT RL.1.2 tc (Or.inr (Or.inl ⟨rfl, rfl⟩)) (Or.inl (by unfold cnt cntm; rw [RL.1.1])) uc ku
  have f12 : xfr I J2 := xfr_tr f1 f2
  have e2 : ∀ t' s' g', m2 = some (t', s', g') → t' = t + 2 ∧ s' = 4 ∧ g' = gc_st 0 2 g ∧ r8 = fdm I L (W (t + 1)) 1 ∧ (o2 = none ∨ (¬ r8 = -1 ∧ o2 = (o.map (fun a => u2 a 2 7 2)).map (fun a => u2 a 2 8 r8))) := fun t' s' g' em => by
    rcases r2 with ⟨r2, -⟩ | ⟨t2, g2, em2, q1, q2, q3, q4, q5, q6⟩
    · rw [r2] at em; cases em
    · rw [q4] at em
      obtain ⟨y1, y2, y3⟩ := mo_i em
      obtain ⟨z1, z2, z3⟩ := e1 t2 3 g2 em2
      refine ⟨by omega, by rw [← y2]; decide +kernel, by rw [← y3]; exact z3, ?_, q6⟩
      rw [q5, fdm_cg f1, z1]
  have d20 : J2 107 20 = I 107 20 := f12 107 20 (by omega)
  have cm2 : cntm J2 = cntm I := by unfold cntm; rw [d20]
  have h11 : ∀ t' s' g', m2 = some (t', s', g') → (J2 107 11).toInt = t' := fun t' s' g' em => by
    have hS := X2.1
    rw [em] at hS
    exact hS.2.2.2.2.1
  refine x_known (kd := 1) (s0 := 4) hT (by decide +kernel) X2 (fun t' s' g' em => (e2 t' s' g' em).2.1) (by rw [d20]; exact b0) (by rw [d20]; exact b1) (fun i hi => by rw [f12 117 i (by omega)]; exact hb i (by rw [← cm2]; exact hi)) (fun t' g' a1 em eo uc ku => ?_) (fun v a q => by rw [ms_15]; show tk_path 4 v a = _; unfold tk_path; rw [if_pos q]) (fun r12 J3 m3 f3 p3 r3 => ⟨r12, J3, L, R, rfl, ?_⟩)
  · obtain ⟨-, -, -, -, q⟩ := e2 t' 4 g' em
    rcases q with q | ⟨q0, q⟩
    · rw [q] at eo; cases eo
    obtain ⟨a2, ea2, ea2'⟩ := om (Or.inr q) eo
    obtain ⟨a, ea3, ea4⟩ := om (Or.inr rfl) ea2
    subst ea4
    subst ea2'
    rw [fdm_cg f12]
    have RL := rL_a (hR a ea3) (Nat.le_refl t) b34.2 bc.2.2.2.1.2 hs1 (a' := u2 (u2 a 2 7 2) 2 8 r8) (fun p j hp => by rw [u2_ne _ _ _ _ (by omega), u2_ne _ _ _ _ (by omega)]) (by rw [u2_ne _ _ _ _ (by omega), u2_ne _ _ _ _ (by omega)]) rfl
    exact rN_fd hT RL.1.2 tc (Or.inr (Or.inl ⟨rfl, rfl⟩)) (Or.inl (by unfold cnt cntm; rw [RL.1.1])) uc ku
  have f13 : xfr I J3 := xfr_tr f12 f3
  have go : ∀ (o3 : Option sg) (J : sm_I), xfr J3 J → PX K P V W N c R0 M0 m3 o3 J L → (∀ a1, o3 = some a1 → ¬ r8 = -1 ∧ ¬ r12 = -1 ∧ ¬ r8 = r12 ∧ ∃ a, rL K V W s t a I L ∧ a1 = u2 (u2 (u2 a 2 7 2) 2 8 r8) 2 9 r12) → sm_wp sm_P S (d + 4) 203 4 [.ref 107, .int r8, .int r12] [] (xLay, J, L, kM R) (0, 0) Φ := by
    intro o3 J fJ XJ ho
    refine x_tellWay4 (o1 := o3) hT hls hm hI hG hr (xfr_tr f13 fJ) XJ (fun t' s' g' em => ?_) (fun nm => ?_) (fun nm => ?_) ho h
    · rcases r3 with ⟨r3, -⟩ | ⟨t3, g3, em3, q1, q2, q3, q4, q5, q6⟩
      · rw [r3] at em; cases em
      · rw [q4] at em
        obtain ⟨y1, y2, y3⟩ := mo_i em
        obtain ⟨z1, z2, z3, -⟩ := e2 t3 4 g3 em3
        exact ⟨by omega, by rw [← y2]; decide +kernel, by rw [← y3]; exact z3⟩
    · rcases r3 with ⟨r3, -⟩ | ⟨t3, g3, em3, q1, q2, q3, q4, q5, q6⟩
      · exact absurd r3 nm
      · obtain ⟨-, -, -, z4, -⟩ := e2 t3 4 g3 em3
        rw [z4]; exact (x_fb hm L _).2.1
    · rcases r3 with ⟨r3, -⟩ | ⟨t3, g3, em3, q1, q2, q3, q4, q5, q6⟩
      · exact absurd r3 nm
      · rw [q5, fdm_cg f12]; exact (x_fb hm L _).2.1
  by_cases z : J3 107 13 = 0
  · rcases r3 with ⟨r3, -⟩ | ⟨t3, g3, em3, q1, q2, q3, q4, q5, q6, q7⟩
    · rw [r3] at p3; exact absurd z (PS_no p3)
    obtain ⟨z1, z2, z3, z4, z5⟩ := e2 t3 4 g3 em3
    have h11' := h11 t3 4 g3 em3
    have n21 := hT.2.2.2.1 t3 q1
    have kfd : ∀ a2, o2 = some a2 → ¬ r8 = -1 ∧ (∃ a, rL K V W s t a I L ∧ a2 = u2 (u2 a 2 7 2) 2 8 r8) ∧ fd a2 (V t3) 1 = r12 := fun a2 ea => by
      rcases z5 with z5 | ⟨z0, z5⟩
      · rw [z5] at ea; cases ea
      obtain ⟨a3, ea2, ea2'⟩ := om (Or.inr z5) ea
      obtain ⟨a, ea3, ea4⟩ := om (Or.inr rfl) ea2
      subst ea4
      subst ea2'
      have RL := rL_a (hR a ea3) (Nat.le_refl t) b34.2 bc.2.2.2.1.2 hs1 (a' := u2 (u2 a 2 7 2) 2 8 r8) (fun p j hp => by rw [u2_ne _ _ _ _ (by omega), u2_ne _ _ _ _ (by omega)]) (by rw [u2_ne _ _ _ _ (by omega), u2_ne _ _ _ _ (by omega)]) rfl
      refine ⟨z0, ⟨a, hR a ea3, rfl⟩, ?_⟩
      rw [q5, fdm_cg f12]
      exact rN_fd hT RL.1.2 tc (Or.inr (Or.inl ⟨rfl, rfl⟩)) (Or.inl (by unfold cnt cntm; rw [RL.1.1])) q1 q3
    have k8 : ∀ a : sg, (u2 (u2 a 2 7 2) 2 8 r8).1 2 8 = r8 := fun a => u2_eq _ _ _ _
    -- nothing wrong here, or it is known that something is
    have same : (r8 = -1 ∨ ¬ r8 = r12) → sm_wp sm_P S (d + 4) 203 4 [.ref 107, .int r8, .int r12] [] (xLay, J3, L, kM R) (0, 0) Φ := fun hq => by
      by_cases r1' : r12 = -1
      · refine go none J3 xfr_rf ⟨p3, by rw [q4]; exact q6 r1'⟩ (fun a1 ea => by cases ea)
      · have pe := q7 r1'
        cases eo : o2 with
        | none =>
          rw [eo] at pe
          exact go none J3 xfr_rf ⟨p3, by rw [q4]; exact PE_w pe (Nat.le_succ t3)⟩ (fun a1 ea => by cases ea)
        | some a2 =>
          rw [eo] at pe
          obtain ⟨y1, ⟨a, RL, ya⟩, y3⟩ := kfd a2 eo
          have hq : ¬ r8 = r12 := hq.elim (fun q => absurd q y1) id
          have em : ms 4 (K t3) (V t3) a2 = (0, u2 a2 2 9 r12) := by
            rw [q3, ms_15]
            show tk_path 4 (V t3) a2 = _
            unfold tk_path
            rw [y3, if_neg r1', if_neg (by decide), if_neg (by rw [ya, k8]; exact hq)]
          have st := PE_st (by omega) n21 em pe
          rw [q3] at st
          exact go (some (u2 a2 2 9 r12)) J3 xfr_rf ⟨p3, by rw [q4]; exact st⟩ (fun a1 ea => by
            have := Option.some.inj ea
            subst this
            exact ⟨y1, r1', hq, a, RL, by rw [ya]⟩)
    refine ⟨fun _ => ⟨fun eq => ⟨fun q => same (Or.inl q), fun q => ?_⟩, fun q => same (Or.inr q)⟩, fun q => absurd z q⟩
    have r1' : ¬ r12 = -1 := by rw [← eq]; exact q
    have pe := q7 r1'
    refine x_wrong (M0 := M0) (t := t3) hT (by decide) h11' (by omega) (by omega) p3 (fun _ => ?_) (fun H fH _ pH wH => ⟨H, L, R, rfl, go none H fH ⟨pH, by rw [q4]; exact PW_e wH⟩ (fun a1 ea => by cases ea)⟩)
    cases eo : o2 with
    | none =>
      rw [eo] at pe
      exact Or.inl (PE_W pe (Nat.le_refl t3) z)
    | some a2 =>
      rw [eo] at pe
      obtain ⟨pe1, pe2⟩ := pe z
      obtain ⟨y1, ⟨a, RL, ya⟩, y3⟩ := kfd a2 eo
      refine Or.inr ⟨Or.inl pe1, ME_f (s := 4) (a := a2) (a' := u2 a2 2 9 r12) (by omega) n21 ?_ (by decide) pe2⟩
      rw [q3, ms_15]
      show tk_path 4 (V t3) a2 = _
      unfold tk_path
      rw [y3, if_neg r1', if_neg (by decide), if_pos (by rw [ya, k8]; exact eq)]
  · have em := PS_n0 p3 z
    exact ⟨fun q => absurd q z, fun _ => go none J3 xfr_rf (by rw [em] at p3 ⊢; exact PX_F p3) (fun a1 ea => by cases ea)⟩
end
end
