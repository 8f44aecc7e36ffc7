section
/-! tells of the reference, exact: all spans of a choice -/
theorem ad6 {n q : Nat} {x : Int32} {a : sg} (n9 : n < 10) (q4 : q < 4) (hx : x.toInt = n) (h22 : (a.1 22 n).toInt = (q : Int) + 1) (h3 : (a.1 23 (4 * n + q)).toInt < 3) : ad_pt6 x a = u2 a 23 (4 * n + q) (a.1 23 (4 * n + q) + 1) := by
  have c4 : (4 : Int32).toInt = 4 := by decide
  have c40 : (40 : Int32).toInt = 40 := by decide
  have c3 : (3 : Int32).toInt = 3 := by decide
  have nx := tk_nat hx
  have m : (x * 4).toInt = (n : Int) * 4 := ml_mu hx c4 (by omega) (by omega)
  have s1 : (x * 4 + a.1 22 n).toInt = (n : Int) * 4 + ((q : Int) + 1) := ml_ad m h22 (by omega) (by omega)
  have s2 : (x * 4 + a.1 22 n - 1).toInt = ((4 * n + q : Nat) : Int) := by rw [Int32.toInt_sub, kl_1, s1]; exact (en_bmod (by omega) (by omega) (Or.inl rfl)).trans (by omega)
  have nn := tk_nat s2
  unfold ad_pt6
  rw [nx, if_neg (fun y => by rw [kl_lt, kl_0] at y; omega), if_neg (fun y => by rw [kl_le, c40] at y; omega), nn, if_neg (fun y => by rw [kl_le, c3] at y; omega)]
theorem adp_f {n q : Nat} {a : sg} (n9 : n < 10) (q4 : q < 4) (h12 : (a.1 12 3).toInt = (n : Int) + 1) (h22 : (a.1 22 n).toInt = (q : Int) + 1) (h3 : (a.1 23 (4 * n + q)).toInt < 3) : ad_part false a = u2 a 23 (4 * n + q) (a.1 23 (4 * n + q) + 1) := by
  have c10 : (10 : Int32).toInt = 10 := by decide
  have e : (a.1 12 3 - 1).toInt = (n : Int) := by rw [Int32.toInt_sub, kl_1, h12]; exact (en_bmod (by omega) (by omega) (Or.inl rfl)).trans (by omega)
  unfold ad_part
  rw [if_neg (fun y => by rw [kl_lt, kl_0] at y; omega), if_pos (by rw [kl_lt, c10]; omega), if_neg (by decide)]
  exact ad6 n9 q4 e h22 h3
theorem adp_t {n q : Nat} {a : sg} (n9 : n < 10) (q3 : q < 3) (h12 : (a.1 12 3).toInt = (n : Int) + 1) (h22 : (a.1 22 n).toInt = (q : Int) + 1) (h0 : a.1 23 (4 * n + q + 1) = 0) : ad_part true a = u2 (u2 a 22 n (a.1 22 n + 1)) 23 (4 * n + (q + 1)) 1 := by
  have c10 : (10 : Int32).toInt = 10 := by decide
  have c4 : (4 : Int32).toInt = 4 := by decide
  have e : (a.1 12 3 - 1).toInt = (n : Int) := by rw [Int32.toInt_sub, kl_1, h12]; exact (en_bmod (by omega) (by omega) (Or.inl rfl)).trans (by omega)
  have en := tk_nat e
  unfold ad_part
  rw [if_neg (fun y => by rw [kl_lt, kl_0] at y; omega), if_pos (by rw [kl_lt, c10]; omega), if_pos rfl, en, if_neg (fun y => by rw [kl_le, c4] at y; omega)]
  have s := ml_in1 (x := a.1 22 n) (by omega)
  have k23 : (u2 a 22 n (a.1 22 n + 1)).1 23 (4 * n + (q + 1)) = 0 := by rw [u2_ne _ _ _ _ (by omega), show 4 * n + (q + 1) = 4 * n + q + 1 by omega]; exact h0
  rw [ad6 (q := q + 1) n9 (by omega) e (by rw [u2_eq]; omega) (by rw [k23]; decide), k23]
  rfl
/-- a SAYING while it is read: q choices are done, of the next one pc spans; e: as the class counts these -/
def rH (s n q e pc : Nat) (A a : sg) (I : sm_I) : Prop := (a.2 = A.2 ∧ (∀ u j, u ≠ 2 → ¬ (u = 22 ∧ j = n) → ¬ (u = 23 ∧ 4 * n ≤ j ∧ j < 4 * n + 4) → ¬ (25 ≤ u ∧ u ≤ 28 ∧ 12 * n ≤ j ∧ j < 12 * n + 12) → a.1 u j = A.1 u j) ∧ a.1 2 5 = A.1 2 5 ∧ a.1 2 7 = A.1 2 7) ∧ (a.1 22 n).toInt = (q : Int) + 1 ∧ (a.1 23 (4 * n + q)).toInt = e ∧ (∀ q', q < q' → q' < 4 → a.1 23 (4 * n + q') = 0) ∧ (∀ q', q' < q → rA s n q' a I) ∧ ∀ p, p < pc → a.1 25 (12 * n + 3 * q + p) = I 130 (120 * s + 12 * n + 3 * q + p) ∧ a.1 26 (12 * n + 3 * q + p) = I 131 (120 * s + 12 * n + 3 * q + p) ∧ a.1 27 (12 * n + 3 * q + p) = I 132 (120 * s + 12 * n + 3 * q + p) ∧ a.1 28 (12 * n + 3 * q + p) = I 133 (120 * s + 12 * n + 3 * q + p)
theorem rH_I {s n q e pc : Nat} {A a : sg} {I J : sm_I} (h : rH s n q e pc A a I) (n9 : n < 10) (q4 : q < 4) (p3 : pc ≤ 3) (h9 : ∀ q', q' < q → J 129 (4 * (10 * s + n) + q') = I 129 (4 * (10 * s + n) + q')) (hI : ∀ p j, 130 ≤ p → p ≤ 133 → 120 * s + 12 * n ≤ j → j < 120 * s + 12 * n + 3 * q + pc → J p j = I p j) : rH s n q e pc A a J := by
  obtain ⟨h1, h2, h3, h4, h5, h6⟩ := h
  refine ⟨h1, h2, h3, h4, fun q' hq => rA_cg (h5 q' hq) n9 (by omega) (fun _ _ _ _ _ _ => rfl) rfl (h9 q' hq) (fun p j p1 p2 j1 j2 => hI p j p1 p2 (by omega) (by omega)), fun p hp => ?_⟩
  rw [hI 130 _ (by decide) (by decide) (by omega) (by omega), hI 131 _ (by decide) (by decide) (by omega) (by omega), hI 132 _ (by decide) (by decide) (by omega) (by omega), hI 133 _ (by decide) (by decide) (by omega) (by omega)]
  exact h6 p hp
/-- one span more -/
theorem rH_sp {s n q pc : Nat} {A a b : sg} {I J : sm_I} {hi : Int32} (h : rH s n q (pc + 1) pc A a I) (hs : s ≤ 1) (n9 : n < 10) (q4 : q < 4) (p3 : pc < 3) (h12 : (A.1 12 3).toInt = (n : Int) + 1) (h7 : A.1 2 7 ≠ 12) (hb : spb0 a b) (h9 : ∀ q', q' < q → J 129 (4 * (10 * s + n) + q') = I 129 (4 * (10 * s + n) + q')) (hI : ∀ p j, 130 ≤ p → p ≤ 133 → 120 * s + 12 * n ≤ j → j < 120 * s + 12 * n + 3 * q + pc → J p j = I p j) (e0 : b.1 2 8 = J 130 (120 * s + 12 * n + 3 * q + pc)) (e1 : b.1 2 9 = J 131 (120 * s + 12 * n + 3 * q + pc)) (e2 : b.1 2 10 = J 132 (120 * s + 12 * n + 3 * q + pc)) (e3 : hi = J 133 (120 * s + 12 * n + 3 * q + pc)) : rH s n q (pc + 1) (pc + 1) A (en_sp hi b) J := by
  have h' := rH_I h n9 q4 (by omega) h9 hI
  obtain ⟨⟨g1, g2, g3, g4⟩, h2, h3, h4, h5, h6⟩ := h'
  have c4 : (4 : Int32).toInt = 4 := by decide
  have c3 : (3 : Int32).toInt = 3 := by decide
  have c10 : (10 : Int32).toInt = 10 := by decide
  have c40 : (40 : Int32).toInt = 40 := by decide
  have b7 : ¬ b.1 2 7 = 12 := by rw [hb.2.2.2, g4]; exact h7
  have b12 : (b.1 12 3).toInt = (n : Int) + 1 := by rw [hb.2.1 12 3 (by decide), g2 12 3 (by decide) (by omega) (by omega) (by omega)]; exact h12
  have b22 : (b.1 22 n).toInt = (q : Int) + 1 := by rw [hb.2.1 22 n (by decide)]; exact h2
  have b23 : (b.1 23 (4 * n + q)).toInt = (pc : Int) + 1 := by rw [hb.2.1 23 _ (by decide), h3]; omega
  have x : (b.1 12 3 - 1).toInt = (n : Int) := by rw [Int32.toInt_sub, kl_1, b12]; exact (en_bmod (by omega) (by omega) (Or.inl rfl)).trans (by omega)
  have xn := tk_nat x
  have va : va22 (b.1 12 3 - 1) b = b.1 22 n := by
    unfold va22
    rw [if_neg (fun y => by rw [kl_lt, kl_0] at y; omega), if_neg (fun y => by rw [kl_le, c10] at y; omega), xn]
  have y1 : (b.1 22 n - 1).toInt = (q : Int) := by rw [Int32.toInt_sub, kl_1, b22]; exact (en_bmod (by omega) (by omega) (Or.inl rfl)).trans (by omega)
  have m : ((b.1 12 3 - 1) * 4).toInt = (n : Int) * 4 := ml_mu x c4 (by omega) (by omega)
  have s1 : ((b.1 12 3 - 1) * 4 + (b.1 22 n - 1)).toInt = ((4 * n + q : Nat) : Int) := (ml_ad m y1 (by omega) (by omega)).trans (by omega)
  have s1n := tk_nat s1
  have pa : pa_of (b.1 12 3 - 1) (b.1 22 n - 1) b = b.1 23 (4 * n + q) := by
    unfold pa_of
    rw [if_neg (fun y => by rw [kl_lt, kl_0] at y; omega), if_neg (fun y => by rw [kl_le, c40] at y; omega), s1n]
  have m2 : (((b.1 12 3 - 1) * 4 + (b.1 22 n - 1)) * 3).toInt = ((4 * n + q : Nat) : Int) * 3 := ml_mu s1 c3 (by omega) (by omega)
  have s2 : (((b.1 12 3 - 1) * 4 + (b.1 22 n - 1)) * 3 + b.1 23 (4 * n + q)).toInt = ((4 * n + q : Nat) : Int) * 3 + ((pc : Int) + 1) := ml_ad m2 b23 (by omega) (by omega)
  have la : (la_span b).toInt = ((12 * n + 3 * q + pc : Nat) : Int) := by
    unfold la_span
    rw [va, pa, Int32.toInt_sub, kl_1, s2]
    exact (en_bmod (by omega) (by omega) (Or.inl rfl)).trans (by omega)
  have lan := tk_nat la
  have es : en_sp hi b = spb 24 120 (la_span b) (b.1 2 8) (b.1 2 9) (b.1 2 10) hi b := by unfold en_sp; rw [if_neg b7]
  have B : ∀ u j, u ≠ 2 → ¬ (25 ≤ u ∧ u ≤ 28 ∧ j = 12 * n + 3 * q + pc) → (en_sp hi b).1 u j = a.1 u j := fun u j u1 u2 => by rw [es, spb_o (by rw [lan]; omega), hb.2.1 u j u1]
  have SI := spb_i (cc := 24) (n := 120) (x := b.1 2 8) (y := b.1 2 9) (lo := b.1 2 10) (hi := hi) (a := b) la (by omega) (by omega)
  rw [← es] at SI
  refine ⟨⟨by rw [es, spb_2, hb.1, g1], fun u j u1 u2 u3 u4 => ?_, by rw [es, spb_o (by omega), hb.2.2.1, g3], by rw [es, spb_o (by omega), hb.2.2.2, g4]⟩, ?_, ?_, fun q' q1 q2 => ?_, fun q' hq => ?_, fun p hp => ?_⟩
  · rw [B u j u1 (by omega)]; exact g2 u j u1 u2 u3 u4
  · rw [B 22 n (by decide) (by omega)]; exact h2
  · rw [B 23 _ (by decide) (by omega)]; exact h3
  · rw [B 23 _ (by decide) (by omega)]; exact h4 q' q1 q2
  · exact rA_cg (h5 q' hq) n9 (by omega) (fun c j c1 c2 j1 j2 => B c j (by omega) (by omega)) (B 23 _ (by decide) (by omega)) rfl (fun _ _ _ _ _ _ => rfl)
  · by_cases cp : p = pc
    · subst cp
      rw [← e0, ← e1, ← e2, ← e3]; exact SI
    · rw [B 25 _ (by decide) (by omega), B 26 _ (by decide) (by omega), B 27 _ (by decide) (by omega), B 28 _ (by decide) (by omega)]
      exact h6 p (by omega)
/-- and: one span more is awaited -/
theorem rH_and {s n q pc : Nat} {A a : sg} {I : sm_I} (h : rH s n q pc pc A a I) (n9 : n < 10) (q4 : q < 4) (p3 : pc < 3) (h12 : (A.1 12 3).toInt = (n : Int) + 1) : rH s n q (pc + 1) pc A (ad_part false a) I := by
  obtain ⟨⟨g1, g2, g3, g4⟩, h2, h3, h4, h5, h6⟩ := h
  have a12 : (a.1 12 3).toInt = (n : Int) + 1 := by rw [g2 12 3 (by decide) (by omega) (by omega) (by omega)]; exact h12
  rw [adp_f n9 q4 a12 h2 (by omega)]
  refine ⟨⟨g1, fun u j u1 u2' u3 u4 => by rw [u2_ne _ _ _ _ (by omega)]; exact g2 u j u1 u2' u3 u4, by rw [u2_ne _ _ _ _ (by omega)]; exact g3, by rw [u2_ne _ _ _ _ (by omega)]; exact g4⟩, by rw [u2_ne _ _ _ _ (by omega)]; exact h2, ?_, fun q' q1 q2 => by rw [u2_ne _ _ _ _ (by omega)]; exact h4 q' q1 q2, fun q' hq => ?_, fun p hp => ?_⟩
  · rw [u2_eq]; have := ml_in1 (x := a.1 23 (4 * n + q)) (by omega); omega
  · exact rA_cg (h5 q' hq) n9 (by omega) (fun c j c1 c2 j1 j2 => u2_ne _ _ _ _ (by omega)) (u2_ne _ _ _ _ (by omega)) rfl (fun _ _ _ _ _ _ => rfl)
  · rw [u2_ne _ _ _ _ (by omega), u2_ne _ _ _ _ (by omega), u2_ne _ _ _ _ (by omega), u2_ne _ _ _ _ (by omega)]
    exact h6 p hp
/-- nothing but the choice i, and the reader's place, fault and worst -/
def afr (i : Nat) (I J : sm_I) : Prop := ∀ p j, ¬ (p = 129 ∧ j = i) → ¬ (130 ≤ p ∧ p ≤ 133 ∧ 3 * i ≤ j ∧ j < 3 * i + 3) → ¬ (p = 107 ∧ (j = 11 ∨ j = 13 ∨ j = 14 ∨ j = 15 ∨ j = 16)) → J p j = I p j
section
variable {K : Nat → Int32} {P : Nat → Nat} {V W : Nat → Int64} {N : Nat → Int32} {c : Nat} {R0 : Option (Int32 × Nat)} {M0 : Option (Int32 × Nat) × sg}
variable {S : sm_C} {d : Nat} {Φ : sm_Z → Prop} {I0 : sm_I} {L : sm_L} {R : sm_R} {x1 : Int32} {i s n q t0 al : Nat} {tl : Int32} {ts : Nat → Nat} {A : sg}
/-- a word that joins, where there is room for more -/
theorem x_join {k : Int32} {I : sm_I} {m : mo} {o : Option sg} {t : Nat} {g : gc} (F : sg → sg) (hT : TS K P V W N c) (hk : k = 9 ∨ k = 13) (ek : K t = k) (htl : g.tell ≠ 12) (hF : ∀ (v : Int64) (a : sg), ms 26 k v a = (0, F a)) (ok : (gc_st 26 k g).alls ≤ 4 ∧ (gc_st 26 k g).parts ≤ 3) (hX : PX K P V W N c R0 M0 m o I L) (hm : m = none ∨ m = some (t, 26, g)) (h : ∀ (J : sm_I) (m' : mo), xfr I J → PX K P V W N c R0 M0 m' (o.map F) J L → (m' = none ∨ (m = some (t, 26, g) ∧ m' = some (t + 1, 17, gc_st 26 k g))) → Φ (none, (xLay, J, L, kM R))) : sm_wp sm_P S (d + 1) 136 0 [.ref 107] [] (xLay, I, L, kM R) (0, 0) Φ := by
  obtain ⟨e, hE, ee⟩ := PX_e hX
  have n21 : k ≠ 21 := by rcases hk with rfl | rfl <;> decide
  have kf : fw 26 k = 17 := by rcases hk with rfl | rfl <;> decide +kernel
  have st : ∀ t' s' g', m = some (t', s', g') → t' = t ∧ s' = 26 ∧ g' = g := fun t' s' g' em => by
    rcases hm with hm | hm
    · rw [hm] at em; cases em
    · rw [hm] at em
      obtain ⟨y1, y2, y3⟩ := mo_i em
      exact ⟨y1.symm, y2.symm, y3.symm⟩
  refine x_go (k := k) hT hX.1 hE (fun t' s' g' em => ?_) (fun J m' f p q rel => h J m' f ⟨p, ?_⟩ ?_)
  · obtain ⟨y1, y2, y3⟩ := st t' s' g' em
    subst y1; subst y2; subst y3
    refine ⟨ek, by rw [ek]; exact n21, by rw [kf]; decide, fun z => htl z.2, ?_, ok⟩
    unfold gc_ok
    rw [if_neg (fun z => absurd z.1 (by decide)), decide_eq_true ok.1, decide_eq_true ok.2]; rfl
  · rcases rel with rel | ⟨t', s', g', em, b1, b2, b3⟩
    · rw [rel]; trivial
    · obtain ⟨y1, y2, y3⟩ := st t' s' g' em
      subst y1; subst y2; subst y3
      rw [b3]
      rw [ee t' 26 g' em] at q
      cases eo : o with
      | none =>
        rw [eo] at q
        exact PE_w q (Nat.le_succ t')
      | some a =>
        rw [eo] at q
        have := PE_st (by omega) (hT.2.2.2.1 t' b1) (by rw [ek]; exact hF (V t') a) q
        rw [ek] at this
        exact this
  · rcases rel with rel | ⟨t', s', g', em, b1, b2, b3⟩
    · exact Or.inl rel
    · obtain ⟨y1, y2, y3⟩ := st t' s' g' em
      subst y1; subst y2; subst y3
      exact Or.inr ⟨em, by rw [b3, kf]⟩
/-- no room for what the word joins -/
theorem x_full {k : Int32} {I : sm_I} {m : mo} {o : Option sg} {t : Nat} {g : gc} (hT : TS K P V W N c) (hk : k = 9 ∨ k = 13) (ek : K t = k) (htl : g.tell ≠ 12) (no : ¬ ((gc_st 26 k g).alls ≤ 4 ∧ (gc_st 26 k g).parts ≤ 3)) (hX : PX K P V W N c R0 M0 m o I L) (hm : m = some (t, 26, g)) : ∀ t' s' g', m = some (t', s', g') → R0 = some (2, t') := fun t' s' g' em => by
  have n21 : k ≠ 21 := by rcases hk with rfl | rfl <;> decide
  have kf : fw 26 k ≠ -1 := by rcases hk with rfl | rfl <;> decide +kernel
  rw [hm] at em
  obtain ⟨y1, y2, y3⟩ := mo_i em
  subst y1; subst y2; subst y3
  have hS := hX.1
  rw [hm] at hS
  obtain ⟨t2, s2, g2, em2, h11, tc, t5, hs, -⟩ := PS_0 hS (PS_so hS)
  obtain ⟨y1, y2, y3⟩ := mo_i em2
  subst y1; subst y2; subst y3
  have hs := SY_s t5 hs
  have ef : gf 26 (K t) t g = 2 := by
    unfold gf
    rw [ek, if_neg (fun z => z.elim (fun y => kf y) (fun y => htl y.2)), if_neg n21]
    by_cases c5 : 500 ≤ t
    · rw [if_pos c5]
    · rw [if_neg c5, if_neg]
      unfold gc_ok
      rw [if_neg (fun z => absurd z.1 (by decide))]
      intro y
      have y := Bool.and_eq_true_iff.mp y
      exact no ⟨of_decide_eq_true y.1, of_decide_eq_true y.2⟩
  rw [ef, if_neg (by decide)] at hs
  exact hs.symm
theorem ms_13 (v : Int64) (a : sg) : ms 26 13 v a = (0, ad_part false a) := by
  unfold ms
  rw [if_neg (fun z => absurd z.1 (by decide))]
  unfold tk_take
  rw [if_neg (by decide), if_neg (by decide), if_neg (by decide), if_neg (by decide), if_neg (by decide), if_neg (by decide), if_pos (by decide), if_neg (by decide), if_pos rfl]
theorem ms_9 (v : Int64) (a : sg) : ms 26 9 v a = (0, ad_part true a) := by
  unfold ms
  rw [if_neg (fun z => absurd z.1 (by decide))]
  unfold tk_take
  rw [if_neg (by decide), if_neg (by decide), if_neg (by decide), if_neg (by decide), if_neg (by decide), if_neg (by decide), if_pos (by decide), if_pos rfl]
theorem gs13 {g : gc} : gc_st 26 13 g = ⟨g.tell, g.alls, g.parts + 1, g.tells⟩ := by unfold gc_st; rw [if_neg (fun z => absurd z.1 (by decide)), if_neg (by decide), if_pos rfl]
theorem gs9 {g : gc} : gc_st 26 9 g = ⟨g.tell, g.alls + 1, 1, g.tells⟩ := by unfold gc_st; rw [if_neg (fun z => absurd z.1 (by decide)), if_pos rfl]
theorem x_tellAll1 (hT : TS K P V W N c) (h1 : x1.toInt = i) (hi : i = 4 * (10 * s + n) + q) (hs : s ≤ 1) (n9 : n < 10) (q4 : q < 4) (b0 : 0 ≤ (I0 107 20).toInt) (b1 : (I0 107 20).toInt ≤ 50) (hb : ∀ j, j < cntm I0 → 0 ≤ (I0 117 j).toInt) (hf : ∀ nm, -1 ≤ (fdm I0 L nm 2).toInt ∧ (fdm I0 L nm 2).toInt ≤ 9) (al4 : al ≤ 4) (htl : tl ≠ 12) (Q : Prop) (hQ : Q → (∀ {u : Nat} {b : sg}, u < c → K u = 15 → b.2 = A.2 → (∀ j, b.1 10 j = A.1 10 j ∧ b.1 11 j = A.1 11 j) → b.1 2 5 = A.1 2 5 → fd b (V u) 3 = fdm I0 L (W u) 2) ∧ (A.1 12 3).toInt = (n : Int) + 1 ∧ A.1 2 7 ≠ 12) (h : ∀ (J : sm_I) (m' : mo) (o' : Option sg), PX K P V W N c R0 M0 m' o' J L → afr i I0 J → (m' = none ∨ ∃ t' g', m' = some (t', 26, g') ∧ t0 < t' ∧ g'.alls = al ∧ g'.tell = tl ∧ g'.tells = ts ∧ (J 129 i).toInt = g'.parts ∧ 1 ≤ g'.parts ∧ K t' ≠ 13 ∧ ∀ a', o' = some a' → Q ∧ rH s n q g'.parts g'.parts A a' J) → Φ (none, (xLay, J, L, kM R))) : ∀ (f : Nat) (I : sm_I) (x2 : Int32) (m : mo) (o : Option sg), PX K P V W N c R0 M0 m o I L → afr i I0 I → (¬ x2 = 0 → m = none ∨ ∃ t g, m = some (t, 17, g) ∧ t0 ≤ t ∧ g.alls = al ∧ g.tell = tl ∧ g.tells = ts ∧ (I 129 i).toInt + 1 = g.parts ∧ 1 ≤ g.parts ∧ 3 < g.parts + f ∧ ∀ a, o = some a → Q ∧ rH s n q g.parts (g.parts - 1) A a I) → (x2 = 0 → m = none ∨ ∃ t' g', m = some (t', 26, g') ∧ t0 < t' ∧ g'.alls = al ∧ g'.tell = tl ∧ g'.tells = ts ∧ (I 129 i).toInt = g'.parts ∧ 1 ≤ g'.parts ∧ K t' ≠ 13 ∧ ∀ a', o = some a' → Q ∧ rH s n q g'.parts g'.parts A a' I) → sm_wp sm_P S (d + 5) 196 1 [.ref 107, .int x1, .int x2] [] (xLay, I, L, kM R) (0, 0) Φ := by
  have n1 := tk_nat h1
  have v : vp_in x1 80 := kl_in (by omega) (by omega)
  have c3 : (3 : Int32).toInt = 3 := by decide
  intro f
  induction f with
  | zero =>
    intro I x2 m o hX hfr H1 H0
    refine u_X12_tellAll_1 ⟨fun e => h I m o hX hfr (H0 e), fun e => ⟨fun z => ?_, fun z => h I m o hX hfr (Or.inl (PS_n0 hX.1 z))⟩⟩
    exfalso
    rcases H1 e with q' | ⟨t, g, em, a1, a2, a3, a4, a5, a51, a6, a7⟩
    · rw [q'] at hX; exact PS_no hX.1 z
    · have hS := hX.1
      rw [em] at hS
      have := (hS.2.2.2.2.2.2.2 (by decide)).2
      omega
  | succ f ih =>
    intro I x2 m o hX hfr H1 H0
    refine u_X12_tellAll_1 ⟨fun e => h I m o hX hfr (H0 e), fun e => ⟨fun z => ⟨v, fun n2 e2 => ?_⟩, fun z => h I m o hX hfr (Or.inl (PS_n0 hX.1 z))⟩⟩
    rcases H1 e with q' | ⟨t, g, em, a1, a2, a3, a4, a5, a51, a6, a7⟩
    · exfalso; rw [q'] at hX; exact PS_no hX.1 z
    have gp : g.parts ≤ 3 := by
      have hS := hX.1
      rw [em] at hS
      exact (hS.2.2.2.2.2.2.2 (by decide)).2
    obtain ⟨pc, hpc⟩ : ∃ pc, g.parts = pc + 1 := ⟨g.parts - 1, by omega⟩
    rw [n1] at e2
    have m3 : ((3 : Int32) * x1).toInt = 3 * (i : Int) := ml_mu c3 h1 (by omega) (by omega)
    have q2 : n2.toInt = ((3 * i + pc : Nat) : Int) := by rw [e2, ml_ad m3 rfl (by omega) (by omega)]; omega
    have e20 : I 107 20 = I0 107 20 := hfr 107 20 (by omega) (by omega) (by omega)
    have f116 : ∀ j, I 116 j = I0 116 j ∧ I 117 j = I0 117 j := fun j => ⟨hfr 116 j (by omega) (by omega) (by omega), hfr 117 j (by omega) (by omega) (by omega)⟩
    have cm : cntm I = cntm I0 := by unfold cntm; rw [e20]
    have efd : ∀ nm so, fdm I L nm so = fdm I0 L nm so := fun nm so => by unfold fdm; rw [cm, fm_cg f116]
    refine x_tellSpan (t0 := t) (g0 := g) hT q2 (by omega) (by rw [e20]; exact b0) (by rw [e20]; exact b1) (fun j hj => by rw [(f116 j).2]; exact hb j (by rw [← cm]; exact hj)) (fun nm => by rw [efd]; exact hf nm) hX (fun t' s' g' em' => by rw [em] at em'; obtain ⟨y1, y2, y3⟩ := mo_i em'; exact ⟨y1.symm, y2.symm, y3.symm⟩) (fun a0 ea0 b hb0 u uc ku => ?_) (fun J2 m2 o2 X2 r2 => ⟨J2, L, R, rfl, fun z2 => ⟨v, fun n6 e6 => ⟨v, fun J7 e7 => ?_⟩⟩, fun z2 => ?_⟩)
    · obtain ⟨hq, ⟨g1, g2, g3, g4⟩, -⟩ := a7 a0 ea0
      rw [efd]
      refine (hQ hq).1 uc ku (by rw [hb0.1, g1]) (fun j => ⟨?_, ?_⟩) (by rw [hb0.2.2.1, g3])
      · rw [hb0.2.1 10 j (by decide), g2 10 j (by decide) (by omega) (by omega) (by omega)]
      · rw [hb0.2.1 11 j (by decide), g2 11 j (by decide) (by omega) (by omega) (by omega)]
    · obtain ⟨sf2, r2⟩ := r2
      have z2 := PS_le0 X2.1 z2
      rcases r2 with r2 | ⟨t2, em2, w1, w2⟩
      · rw [r2] at X2; exact absurd z2 (PS_no X2.1)
      rw [n1] at e6 e7
      have s129 : J2 129 i = I 129 i := sf2 129 i (by omega) (by omega)
      have s6 : n6.toInt = (pc : Int) + 1 := by rw [e6, s129]; have := ml_in1 (x := I 129 i) (by omega); omega
      have o7 : ∀ p j, ¬ (p = 129 ∧ j = i) → J7 p j = J2 p j := fun p j hp => by rw [e7, en_up_ne _ _ _ _ hp]
      have c7 : (J7 129 i).toInt = (pc : Int) + 1 := by rw [e7, en_up_eq]; exact s6
      have X7 : PX K P V W N c R0 M0 m2 o2 J7 L := by rw [e7]; exact PX_up (by decide) (by omega) X2
      have fr7 : afr i I0 J7 := fun p j p1 p2 p3 => by rw [o7 p j p1, sf2 p j (by omega) p3]; exact hfr p j p1 p2 p3
      have H7 : ∀ a', o2 = some a' → Q ∧ rH s n q (pc + 1) (pc + 1) A a' J7 := fun a' ea => by
        obtain ⟨a0, ea0, b, eb, hb0, k8, k9, k10, -⟩ := w2 a' ea
        rw [eb]
        obtain ⟨hq, R7⟩ := a7 a0 ea0
        rw [hpc] at R7
        have ix : 3 * i + pc = 120 * s + 12 * n + 3 * q + pc := by omega
        rw [ix] at k8 k9 k10 ⊢
        refine ⟨hq, rH_sp R7 hs n9 q4 (by omega) (hQ hq).2.1 (hQ hq).2.2 hb0 (fun q' hq => ?_) (fun p j p1 p2 j1 j2 => ?_) ?_ ?_ ?_ ?_⟩
        · rw [o7 129 _ (by omega), sf2 129 _ (by omega) (by omega)]
        · rw [o7 p j (by omega), sf2 p j (by omega) (by omega)]
        · rw [o7 130 _ (by omega)]; exact k8
        · rw [o7 131 _ (by omega)]; exact k9
        · rw [o7 132 _ (by omega)]; exact k10
        · rw [o7 133 _ (by omega)]
      refine x_is (i := 13) hT (by decide) rfl X7.1 (fun r _ hr => ⟨r, J7, L, R, rfl, fun r0 => ⟨fun _ => ?_, fun y => absurd r0 y⟩, fun r1 => ⟨v, fun c30 => ?_, fun c30 => ⟨fun y => absurd y r1, fun _ => ?_⟩⟩⟩)
      · refine ih J7 r m2 o2 X7 fr7 (fun y => absurd r0 y) (fun _ => Or.inr ⟨t2, g, em2, by omega, a2, a3, a4, by rw [c7, hpc]; omega, by omega, fun ek => ?_, fun a' ea => by rw [hpc]; exact H7 a' ea⟩)
        exact absurd r0 (hr.mpr ⟨t2, 26, g, em2, ek⟩)
      · -- full
        rw [n1] at c30
        have p3 : pc + 1 = 3 := by
          have := congrArg Int32.toInt c30
          rw [c7, c3] at this; omega
        obtain ⟨tk, sk, gk, emk, ek⟩ := hr.mp r1
        rw [em2] at emk
        obtain ⟨y1, y2, y3⟩ := mo_i emk
        subst y1; subst y2; subst y3
        have full := x_full (k := 13) hT (Or.inr rfl) ek (by rw [a3]; exact htl) (by rw [gs13]; intro y; have := y.2; have : g.parts + 1 ≤ 3 := this; omega) X7 em2
        obtain ⟨e', hE', -⟩ := PX_e X7
        refine x_fail (by decide) X7.1 hE' full (fun J8 f8 _ p8 _ => ⟨J8, L, R, rfl, fun y => absurd y r1, fun _ => ?_⟩)
        refine x_go (k := 0) (e := (0, none)) (M0 := M0) hT p8 (PE_n (PS_no p8)) (fun t' s' g' em' => by cases em') (fun J9 m9 f9 p9 _ r9 => ⟨J9, L, R, rfl, ?_⟩)
        have e9 : m9 = none := by
          rcases r9 with r9 | ⟨t', s', g', em', -⟩
          · exact r9
          · cases em'
        subst e9
        refine ih J9 r none none (PX_F p9) (fun p j p1 p2 p3 => by rw [f9 p j p3, f8 p j p3]; exact fr7 p j p1 p2 p3) (fun _ => Or.inl rfl) (fun _ => Or.inl rfl)
      · rw [n1] at c30
        have p3 : pc + 1 ≠ 3 := fun y => c30 (en_ofI (by rw [c7, c3]; omega))
        obtain ⟨tk, sk, gk, emk, ek⟩ := hr.mp r1
        rw [em2] at emk
        obtain ⟨y1, y2, y3⟩ := mo_i emk
        subst y1; subst y2; subst y3
        refine x_join (k := 13) (t := t2) (g := g) (ad_part false) hT (Or.inr rfl) ek (by rw [a3]; exact htl) ms_13 (by rw [gs13]; exact ⟨by show g.alls ≤ 4; omega, by show g.parts + 1 ≤ 3; omega⟩) X7 (Or.inr em2) (fun J9 m9 f9 X9 r9 => ⟨J9, L, R, rfl, ?_⟩)
        refine ih J9 r m9 (o2.map (ad_part false)) X9 (fun p j p1 p2 p3 => by rw [f9 p j p3]; exact fr7 p j p1 p2 p3) (fun _ => ?_) (fun y => absurd y r1)
        rcases r9 with r9 | ⟨-, r9⟩
        · exact Or.inl r9
        · refine Or.inr ⟨t2 + 1, gc_st 26 13 g, r9, by omega, ?_⟩
          rw [gs13]
          refine ⟨a2, a3, a4, ?_, Nat.le_add_left 1 g.parts, ?_, fun a' ea => ?_⟩
          · show (J9 129 i).toInt + 1 = ((g.parts + 1 : Nat) : Int)
            rw [f9 129 i (by omega), c7]; omega
          · show 3 < g.parts + 1 + f
            omega
          · show Q ∧ rH s n q (g.parts + 1) (g.parts + 1 - 1) A a' J9
            obtain ⟨a2', eb, eb'⟩ := om (Or.inr rfl) ea
            obtain ⟨hq, R8⟩ := H7 a2' eb
            refine ⟨hq, ?_⟩
            rw [eb', hpc]
            exact rH_I (rH_and R8 n9 q4 (by omega) (hQ hq).2.1) n9 q4 (by omega) (fun q' hq => f9 129 _ (by omega)) (fun p j p1 p2 _ _ => f9 p j (by omega))
    · have nz : ¬ J2 107 13 = 0 := fun y => z2 (by rw [y]; decide)
      have em' := PS_n0 X2.1 nz
      refine h J2 m2 o2 X2 (fun p j p1 p2 p3 => ?_) (Or.inl em')
      rw [r2.1 p j (by omega) p3]; exact hfr p j p1 p2 p3
end
end
section
/-! tells of the reference, exact: the choices of a SAYING -/
/-- a choice is done -/
theorem rH_done {s n q pc : Nat} {A a : sg} {I : sm_I} (h : rH s n q pc pc A a I) (p1 : 1 ≤ pc) (p3 : pc ≤ 3) (h9 : (I 129 (4 * (10 * s + n) + q)).toInt = pc) : ∀ q', q' < q + 1 → rA s n q' a I := by
  obtain ⟨h1, h2, h3, h4, h5, h6⟩ := h
  intro q' hq
  by_cases c1 : q' = q
  · subst c1
    refine ⟨en_ofI (by rw [h3, h9]), by omega, by omega, fun p hp => h6 p (by omega)⟩
  · exact h5 q' (by omega)
/-- or: another choice is awaited -/
theorem rH_or {s n q pc : Nat} {A a : sg} {I : sm_I} (h : rH s n q pc pc A a I) (p1 : 1 ≤ pc) (p3 : pc ≤ 3) (h9 : (I 129 (4 * (10 * s + n) + q)).toInt = pc) (n9 : n < 10) (q3 : q < 3) (h12 : (A.1 12 3).toInt = (n : Int) + 1) : rH s n (q + 1) 1 0 A (ad_part true a) I := by
  have hd := rH_done h p1 p3 h9
  obtain ⟨⟨g1, g2, g3, g4⟩, h2, h3, h4, h5, h6⟩ := h
  have a12 : (a.1 12 3).toInt = (n : Int) + 1 := by rw [g2 12 3 (by decide) (by omega) (by omega) (by omega)]; exact h12
  rw [adp_t n9 q3 a12 h2 (by have := h4 (q + 1) (by omega) (by omega); rw [show 4 * n + q + 1 = 4 * n + (q + 1) by omega]; exact this)]
  have s1 := ml_in1 (x := a.1 22 n) (by omega)
  refine ⟨⟨g1, fun u j u1 u2' u3 u4 => by rw [u2_ne _ _ _ _ (by omega), u2_ne _ _ _ _ (by omega)]; exact g2 u j u1 u2' u3 u4, by rw [u2_ne _ _ _ _ (by omega), u2_ne _ _ _ _ (by omega)]; exact g3, by rw [u2_ne _ _ _ _ (by omega), u2_ne _ _ _ _ (by omega)]; exact g4⟩, by rw [u2_ne _ _ _ _ (by omega), u2_eq]; omega, by rw [u2_eq]; decide, fun q' q1 q2 => by rw [u2_ne _ _ _ _ (by omega), u2_ne _ _ _ _ (by omega)]; exact h4 q' (by omega) q2, fun q' hq => ?_, fun p hp => absurd hp (Nat.not_lt_zero p)⟩
  exact rA_cg (hd q' hq) n9 (by omega) (fun c j c1 c2 j1 j2 => by rw [u2_ne _ _ _ _ (by omega), u2_ne _ _ _ _ (by omega)]) (by rw [u2_ne _ _ _ _ (by omega), u2_ne _ _ _ _ (by omega)]) rfl (fun _ _ _ _ _ _ => rfl)
/-- all choices of a SAYING are read -/
def rF (s n al : Nat) (A a : sg) (I : sm_I) : Prop := (a.2 = A.2 ∧ (∀ u j, u ≠ 2 → ¬ (u = 22 ∧ j = n) → ¬ (u = 23 ∧ 4 * n ≤ j ∧ j < 4 * n + 4) → ¬ (25 ≤ u ∧ u ≤ 28 ∧ 12 * n ≤ j ∧ j < 12 * n + 12) → a.1 u j = A.1 u j) ∧ a.1 2 5 = A.1 2 5) ∧ (a.1 22 n).toInt = al ∧ ∀ q', q' < al → rA s n q' a I
theorem rF_I {s n al : Nat} {A a : sg} {I J : sm_I} (h : rF s n al A a I) (n9 : n < 10) (al4 : al ≤ 4) (h9 : ∀ q', q' < al → J 129 (4 * (10 * s + n) + q') = I 129 (4 * (10 * s + n) + q')) (hI : ∀ p j, 130 ≤ p → p ≤ 133 → 120 * s + 12 * n ≤ j → j < 120 * s + 12 * n + 12 → J p j = I p j) : rF s n al A a J :=
  ⟨h.1, h.2.1, fun q' hq => rA_cg (h.2.2 q' hq) n9 (by omega) (fun _ _ _ _ _ _ => rfl) rfl (h9 q' hq) (fun p j p1 p2 j1 j2 => hI p j p1 p2 (by omega) (by omega))⟩
/-- nothing but the SAYING k, and the reader's place, fault and worst -/
def bfr (k : Nat) (I J : sm_I) : Prop := ∀ p j, ¬ (p = 128 ∧ j = k) → ¬ (p = 129 ∧ 4 * k ≤ j ∧ j < 4 * k + 4) → ¬ (130 ≤ p ∧ p ≤ 133 ∧ 12 * k ≤ j ∧ j < 12 * k + 12) → ¬ (p = 107 ∧ (j = 11 ∨ j = 13 ∨ j = 14 ∨ j = 15 ∨ j = 16)) → J p j = I p j
section
variable {K : Nat → Int32} {P : Nat → Nat} {V W : Nat → Int64} {N : Nat → Int32} {c : Nat} {R0 : Option (Int32 × Nat)} {M0 : Option (Int32 × Nat) × sg}
variable {S : sm_C} {d : Nat} {Φ : sm_Z → Prop} {I0 : sm_I} {L : sm_L} {R : sm_R} {x1 x2 : Int32} {s n t0 : Nat} {tl : Int32} {ts : Nat → Nat} {A : sg}
theorem x_say10 (hT : TS K P V W N c) (h1 : x1.toInt = ((10 * s + n : Nat) : Int)) (hs : s ≤ 1) (n9 : n < 10) (b0 : 0 ≤ (I0 107 20).toInt) (b1 : (I0 107 20).toInt ≤ 50) (hb : ∀ j, j < cntm I0 → 0 ≤ (I0 117 j).toInt) (hf : ∀ nm, -1 ≤ (fdm I0 L nm 2).toInt ∧ (fdm I0 L nm 2).toInt ≤ 9) (htl : tl ≠ 12) (Q : Prop) (hQ : Q → (∀ {u : Nat} {b : sg}, u < c → K u = 15 → b.2 = A.2 → (∀ j, b.1 10 j = A.1 10 j ∧ b.1 11 j = A.1 11 j) → b.1 2 5 = A.1 2 5 → fd b (V u) 3 = fdm I0 L (W u) 2) ∧ (A.1 12 3).toInt = (n : Int) + 1 ∧ A.1 2 7 ≠ 12) (hend : ∀ (J : sm_I) (m' : mo) (o' : Option sg), PX K P V W N c R0 M0 m' o' J L → bfr (10 * s + n) I0 J → (m' = none ∨ ∃ t' g', m' = some (t', 0, g') ∧ t0 < t' ∧ g'.tells = ts ∧ (J 128 (10 * s + n)).toInt = g'.alls ∧ 1 ≤ g'.alls ∧ g'.alls ≤ 4 ∧ ∀ a', o' = some a' → Q ∧ rF s n g'.alls A a' J) → (((J 107 13) ≤ 0 → (vp_in (J 107 19) 2) ∧ ∀ n5 : Int32, n5 = (J 125 (J 107 19).toNatClampNeg) → sm_wp sm_P S (d + 5) 155 0 [.ref 107, .int x2, .int (3 : Int32), .int n5] [] (xLay, J, L, (kM R)) (0, 0) (fun z => ∃ (I6 : sm_I) (L7 : sm_L) (R8 : sm_R), z = (none, (xLay, I6, L7, (kM R8))) ∧ (vp_in (I6 107 19) 2) ∧ ∀ n10 : Int32, n10 = ((I6 125 (I6 107 19).toNatClampNeg) + (1 : Int32)) → (vp_in (I6 107 19) 2) ∧ ∀ I11 : sm_I, I11 = (sm_up I6 125 (I6 107 19).toNatClampNeg n10) → Φ (none, (xLay, I11, L7, (kM R8))))) ∧ (¬ (J 107 13) ≤ 0 → Φ (none, (xLay, J, L, (kM R)))))) (hF : ∀ (J : sm_I), PSm K P W N c R0 none J L → Φ (none, (xLay, J, L, kM R))) : ∀ (f : Nat) (I : sm_I) (x3 : Int32) (m : mo) (o : Option sg), PX K P V W N c R0 M0 m o I L → bfr (10 * s + n) I0 I → (¬ x3 = 0 → m = none ∨ ∃ t g, m = some (t, 17, g) ∧ t0 ≤ t ∧ g.tell = tl ∧ g.tells = ts ∧ (I 128 (10 * s + n)).toInt + 1 = g.alls ∧ 1 ≤ g.alls ∧ g.parts = 1 ∧ 4 < g.alls + f ∧ ∀ a, o = some a → Q ∧ rH s n (g.alls - 1) 1 0 A a I) → (x3 = 0 → m = none ∨ ∃ t' g', m = some (t', 26, g') ∧ t0 < t' ∧ g'.tells = ts ∧ (I 128 (10 * s + n)).toInt = g'.alls ∧ 1 ≤ g'.alls ∧ K t' ≠ 9 ∧ K t' ≠ 13 ∧ ∀ a', o = some a' → Q ∧ rF s n g'.alls A a' I) → sm_wp sm_P S (d + 6) 200 10 [.ref 107, .int x1, .int x2, .int x3] [] (xLay, I, L, kM R) (0, 0) Φ := by
  have n1 := tk_nat h1
  have v : vp_in x1 20 := kl_in (by omega) (by omega)
  have c4 : (4 : Int32).toInt = 4 := by decide
  -- the end of the SAYING
  have fin : ∀ (I : sm_I) (m : mo) (o : Option sg), PX K P V W N c R0 M0 m o I L → bfr (10 * s + n) I0 I → (m = none ∨ ∃ t' g', m = some (t', 26, g') ∧ t0 < t' ∧ g'.tells = ts ∧ (I 128 (10 * s + n)).toInt = g'.alls ∧ 1 ≤ g'.alls ∧ K t' ≠ 9 ∧ K t' ≠ 13 ∧ ∀ a', o = some a' → Q ∧ rF s n g'.alls A a' I) → sm_wp sm_P S (d + 5) 165 0 [.ref 107, .int (4 : Int32)] [] (xLay, I, L, (kM R)) (0, 0) (fun z => ∃ (I1 : sm_I) (L2 : sm_L) (R3 : sm_R), z = (none, (xLay, I1, L2, (kM R3))) ∧ (((I1 107 13) ≤ 0 → (vp_in (I1 107 19) 2) ∧ ∀ n5 : Int32, n5 = (I1 125 (I1 107 19).toNatClampNeg) → sm_wp sm_P S (d + 5) 155 0 [.ref 107, .int x2, .int (3 : Int32), .int n5] [] (xLay, I1, L2, (kM R3)) (0, 0) (fun z => ∃ (I6 : sm_I) (L7 : sm_L) (R8 : sm_R), z = (none, (xLay, I6, L7, (kM R8))) ∧ (vp_in (I6 107 19) 2) ∧ ∀ n10 : Int32, n10 = ((I6 125 (I6 107 19).toNatClampNeg) + (1 : Int32)) → (vp_in (I6 107 19) 2) ∧ ∀ I11 : sm_I, I11 = (sm_up I6 125 (I6 107 19).toNatClampNeg n10) → Φ (none, (xLay, I11, L7, (kM R8))))) ∧ (¬ (I1 107 13) ≤ 0 → Φ (none, (xLay, I1, L2, (kM R3)))))) := by
    intro I m o hX hfr hm
    refine x_mustT (i := 17) (s0 := 26) [9, 13] hT rfl (by decide +kernel) (fun v a => rfl) hX (fun t' s' g' em => ?_) (fun J m2 f2 X2 r2 => ⟨J, L, R, rfl, hend J m2 o X2 (fun p j p1 p2 p3 p4 => by rw [f2 p j p4]; exact hfr p j p1 p2 p3 p4) ?_⟩)
    · rcases hm with hm | ⟨t4, g4, em4, w1, w2, w3, w4, w5, w6, w7⟩
      · rw [hm] at em; cases em
      · rw [em4] at em
        obtain ⟨y1, y2, y3⟩ := mo_i em
        subst y1
        refine ⟨y2.symm, fun j hj ekj => ?_⟩
        rcases List.mem_cons.mp hj with q | q
        · rw [q] at ekj; exact absurd ekj w5
        · rw [List.mem_singleton.mp q] at ekj; exact absurd ekj w6
    · rcases r2 with r2 | ⟨t2, g2, em2, v1, v2, v3, v4⟩
      · exact Or.inl r2
      · rcases hm with hm | ⟨t4, g4, em4, w1, w2, w3, w4, w5, w6, w7⟩
        · rw [hm] at em2; cases em2
        · have em2' := em2
          rw [em4] at em2'
          obtain ⟨y1, y2, y3⟩ := mo_i em2'
          subst y1; subst y3
          have ga : g4.alls ≤ 4 := by
            have hS := hX.1
            rw [em4] at hS
            exact (hS.2.2.2.2.2.2.2 (by decide)).1
          refine Or.inr ⟨t4 + 1, g4, by rw [v4, show fw 26 (Int32.ofNat 17) = 0 from by decide +kernel], by omega, w2, ?_, w4, ga, fun a' ea => ?_⟩
          · rw [f2 128 _ (by omega)]; exact w3
          · obtain ⟨q1, q2⟩ := w7 a' ea
            exact ⟨q1, rF_I q2 n9 ga (fun q' _ => f2 129 _ (by omega)) (fun p j p1 p2 _ _ => f2 p j (by omega))⟩
  intro f
  induction f with
  | zero =>
    intro I x3 m o hX hfr H1 H0
    refine u_X12_tellSaying_10 ⟨fun e => fin I m o hX hfr (H0 e), fun e => ⟨fun z => ?_, fun z => fin I m o hX hfr (Or.inl (PS_n0 hX.1 z))⟩⟩
    exfalso
    rcases H1 e with q' | ⟨t, g, em, a1, a2, a3, a4, a5, a6, a7, a8⟩
    · rw [q'] at hX; exact PS_no hX.1 z
    · have hS := hX.1
      rw [em] at hS
      have := (hS.2.2.2.2.2.2.2 (by decide)).1
      omega
  | succ f ih =>
    intro I x3 m o hX hfr H1 H0
    refine u_X12_tellSaying_10 ⟨fun e => fin I m o hX hfr (H0 e), fun e => ⟨fun z => ⟨v, fun n2 e2 => ?_⟩, fun z => fin I m o hX hfr (Or.inl (PS_n0 hX.1 z))⟩⟩
    rcases H1 e with q' | ⟨t, g, em, a1, a2, a3, a4, a5, a6, a7, a8⟩
    · exfalso; rw [q'] at hX; exact PS_no hX.1 z
    have ga : g.alls ≤ 4 := by
      have hS := hX.1
      rw [em] at hS
      exact (hS.2.2.2.2.2.2.2 (by decide)).1
    obtain ⟨q, hq⟩ : ∃ q, g.alls = q + 1 := ⟨g.alls - 1, by omega⟩
    rw [n1] at e2
    have m4 : ((4 : Int32) * x1).toInt = 4 * ((10 * s + n : Nat) : Int) := ml_mu c4 h1 (by omega) (by omega)
    have q2 : n2.toInt = ((4 * (10 * s + n) + q : Nat) : Int) := by rw [e2, ml_ad m4 rfl (by omega) (by omega)]; omega
    have n2n := tk_nat q2
    have e20 : I 107 20 = I0 107 20 := hfr 107 20 (by omega) (by omega) (by omega) (by omega)
    have f116 : ∀ j, I 116 j = I0 116 j ∧ I 117 j = I0 117 j := fun j => ⟨hfr 116 j (by omega) (by omega) (by omega) (by omega), hfr 117 j (by omega) (by omega) (by omega) (by omega)⟩
    have cm : cntm I = cntm I0 := by unfold cntm; rw [e20]
    have efd : ∀ nm so, fdm I L nm so = fdm I0 L nm so := fun nm so => by unfold fdm; rw [cm, fm_cg f116]
    refine u_X12_tellAll_0 ⟨kl_in (by omega) (by omega), fun I1 e1 => ?_⟩
    rw [n2n] at e1
    have o1 : ∀ p j, ¬ (p = 129 ∧ j = 4 * (10 * s + n) + q) → I1 p j = I p j := fun p j hp => by rw [e1, en_up_ne _ _ _ _ hp]
    have X1 : PX K P V W N c R0 M0 m o I1 L := by rw [e1]; exact PX_up (by decide) (by omega) hX
    have z1 : (I1 129 (4 * (10 * s + n) + q)).toInt = 0 := by rw [e1, en_up_eq]; decide
    refine x_tellAll1 (I0 := I) (A := A) (al := q + 1) (tl := tl) (ts := ts) (t0 := t0) (s := s) (n := n) (q := q) hT q2 rfl hs n9 (by omega) (by rw [e20]; exact b0) (by rw [e20]; exact b1) (fun j hj => by rw [(f116 j).2]; exact hb j (by rw [← cm]; exact hj)) (fun nm => by rw [efd]; exact hf nm) (by omega) htl Q (fun hq' => ⟨fun {u b} uc ku w1 w2 w3 => by rw [efd]; exact (hQ hq').1 uc ku w1 w2 w3, (hQ hq').2⟩) (fun J2 m2 o2 X2 fr2 r2 => ⟨J2, L, R, rfl, fun z2 => ⟨v, fun n34 e34 => ⟨v, fun J3 e3 => ?_⟩⟩, fun z2 => ?_⟩) 3 I1 1 m o X1 (fun p j p1 _ _ => o1 p j p1) (fun _ => Or.inr ⟨t, g, em, a1, hq, a2, a3, by rw [z1, a6]; rfl, by omega, by omega, fun a ea => ?_⟩) (fun y => absurd y (by decide))
    · obtain ⟨y1, y2⟩ := a8 a ea
      rw [hq] at y2
      rw [a6]
      exact ⟨y1, rH_I y2 n9 (by omega) (by omega) (fun q' _ => o1 _ _ (by omega)) (fun p j p1 p2 _ _ => o1 _ _ (by omega))⟩
    · rw [n1] at e34 e3
      have z2 := PS_le0 X2.1 z2
      rcases r2 with r2 | ⟨t2, g2, em2, w1, w2, w3, w4, w5, w6, w7, w8⟩
      · rw [r2] at X2; exact absurd z2 (PS_no X2.1)
      have s128 : J2 128 (10 * s + n) = I 128 (10 * s + n) := fr2 128 _ (by omega) (by omega) (by omega)
      have s34 : n34.toInt = (q : Int) + 1 := by rw [e34, s128]; have := ml_in1 (x := I 128 (10 * s + n)) (by omega); omega
      have o3' : ∀ p j, ¬ (p = 128 ∧ j = 10 * s + n) → J3 p j = J2 p j := fun p j hp => by rw [e3, en_up_ne _ _ _ _ hp]
      have c3' : (J3 128 (10 * s + n)).toInt = (q : Int) + 1 := by rw [e3, en_up_eq]; exact s34
      have X3 : PX K P V W N c R0 M0 m2 o2 J3 L := by rw [e3]; exact PX_up (by decide) (by omega) X2
      have fr3 : bfr (10 * s + n) I0 J3 := fun p j p1 p2 p3 p4 => by rw [o3' p j p1, fr2 p j (by omega) (by omega) p4]; exact hfr p j p1 p2 p3 p4
      have g2p : g2.parts ≤ 3 := by
        have hS := X2.1
        rw [em2] at hS
        exact (hS.2.2.2.2.2.2.2 (by decide)).2
      have h9 : (J3 129 (4 * (10 * s + n) + q)).toInt = g2.parts := by rw [o3' _ _ (by omega)]; exact w5
      have H3 : ∀ a', o2 = some a' → Q ∧ rH s n q g2.parts g2.parts A a' J3 := fun a' ea => by
        obtain ⟨y1, y2⟩ := w8 a' ea
        exact ⟨y1, rH_I y2 n9 (by omega) g2p (fun q' _ => o3' _ _ (by omega)) (fun p j p1 p2 _ _ => o3' _ _ (by omega))⟩
      refine x_is (i := 9) hT (by decide) rfl X3.1 (fun r _ hr => ⟨r, J3, L, R, rfl, fun r0 => ⟨fun _ => ?_, fun y => absurd r0 y⟩, fun r1 => ⟨v, fun c40 => ?_, fun c40 => ⟨fun y => absurd y r1, fun _ => ?_⟩⟩⟩)
      · refine ih J3 r m2 o2 X3 fr3 (fun y => absurd r0 y) (fun _ => Or.inr ⟨t2, g2, em2, w1, w4, by rw [c3', w2]; omega, by omega, fun ek => ?_, w7, fun a' ea => ?_⟩)
        · exact absurd r0 (hr.mpr ⟨t2, 26, g2, em2, ek⟩)
        · obtain ⟨y1, y2⟩ := H3 a' ea
          rw [w2]
          exact ⟨y1, ⟨y2.1.1, y2.1.2.1, y2.1.2.2.1⟩, by rw [y2.2.1]; omega, rH_done y2 w6 g2p h9⟩
      · rw [n1] at c40
        have p4 : q + 1 = 4 := by
          have := congrArg Int32.toInt c40
          rw [c3', c4] at this; omega
        obtain ⟨tk, sk, gk, emk, ek⟩ := hr.mp r1
        rw [em2] at emk
        obtain ⟨y1, y2, y3⟩ := mo_i emk
        subst y1; subst y2; subst y3
        have full := x_full (k := 9) hT (Or.inl rfl) ek (by rw [w3]; exact htl) (by rw [gs9]; intro y; have := y.1; have : g2.alls + 1 ≤ 4 := this; omega) X3 em2
        obtain ⟨e', hE', -⟩ := PX_e X3
        refine x_fail (by decide) X3.1 hE' full (fun J8 f8 _ p8 _ => ⟨J8, L, R, rfl, fun y => absurd y r1, fun _ => ?_⟩)
        refine x_go (k := 0) (e := (0, none)) (M0 := M0) hT p8 (PE_n (PS_no p8)) (fun t' s' g' em' => by cases em') (fun J9 m9 f9 p9 _ r9 => ⟨J9, L, R, rfl, ?_⟩)
        have e9 : m9 = none := by
          rcases r9 with r9 | ⟨t', s', g', em', -⟩
          · exact r9
          · cases em'
        subst e9
        exact ih J9 r none none (PX_F p9) (fun p j p1 p2 p3 p4 => by rw [f9 p j p4, f8 p j p4]; exact fr3 p j p1 p2 p3 p4) (fun _ => Or.inl rfl) (fun _ => Or.inl rfl)
      · rw [n1] at c40
        have p4 : q + 1 ≠ 4 := fun y => c40 (en_ofI (by rw [c3', c4]; omega))
        obtain ⟨tk, sk, gk, emk, ek⟩ := hr.mp r1
        rw [em2] at emk
        obtain ⟨y1, y2, y3⟩ := mo_i emk
        subst y1; subst y2; subst y3
        refine x_join (k := 9) (t := t2) (g := g2) (ad_part true) hT (Or.inl rfl) ek (by rw [w3]; exact htl) ms_9 (by rw [gs9]; exact ⟨by show g2.alls + 1 ≤ 4; omega, by show (1 : Nat) ≤ 3; omega⟩) X3 (Or.inr em2) (fun J9 m9 f9 X9 r9 => ⟨J9, L, R, rfl, ?_⟩)
        refine ih J9 r m9 (o2.map (ad_part true)) X9 (fun p j p1 p2 p3 p4 => by rw [f9 p j p4]; exact fr3 p j p1 p2 p3 p4) (fun _ => ?_) (fun y => absurd y r1)
        rcases r9 with r9 | ⟨-, r9⟩
        · exact Or.inl r9
        · refine Or.inr ⟨t2 + 1, gc_st 26 9 g2, r9, by omega, ?_⟩
          rw [gs9]
          refine ⟨w3, w4, ?_, Nat.le_add_left 1 g2.alls, rfl, ?_, fun a' ea => ?_⟩
          · show (J9 128 (10 * s + n)).toInt + 1 = ((g2.alls + 1 : Nat) : Int)
            rw [f9 128 _ (by omega), c3', w2]; omega
          · show 4 < g2.alls + 1 + f
            omega
          · show Q ∧ rH s n (g2.alls + 1 - 1) 1 0 A a' J9
            obtain ⟨a2', eb, eb'⟩ := om (Or.inr rfl) ea
            obtain ⟨hq', R8⟩ := H3 a2' eb
            refine ⟨hq', ?_⟩
            rw [eb', w2]
            exact rH_I (rH_or R8 w6 g2p h9 n9 (by omega) (hQ hq').2.1) n9 (by omega) (by omega) (fun q' _ => f9 129 _ (by omega)) (fun p j p1 p2 _ _ => f9 p j (by omega))
    · have nz : ¬ J2 107 13 = 0 := fun y => z2 (by rw [y]; decide)
      have em' := PS_n0 X2.1 nz
      subst em'
      exact hF J2 X2.1
end
end
section
/-! tells of the reference, exact: the end of a SAYING -/
/-- a SAYING's name -/
theorem nmY {v : Int64} {a : sg} {kk : Int32} {n : Nat} (hk : a.1 2 7 = kk) (k68 : kk = 6 ∨ kk = 8) (hn : (a.1 12 3).toInt = n) (n9 : n < 10) : nm_kd a = 6 ∧ (nm_add v a).1 11 (cnt a.1) = a.1 12 3 ∧ ∀ p j, p ≠ 10 → p ≠ 11 → ¬ (p = 2 ∧ j = 5) → (nm_add v a).1 p j = if p = 12 ∧ j = 3 then a.1 12 3 + 1 else if p = 12 ∧ j = 6 ∧ kk = 8 then a.1 12 6 ||| ((1 : Int32) <<< (a.1 12 3 &&& 31)) else if p = 22 ∧ j = n then 1 else if p = 23 ∧ j = 4 * n then 1 else a.1 p j := by
  have c10 : (10 : Int32).toInt = 10 := by decide
  have c4 : (4 : Int32).toInt = 4 := by decide
  have ek : nm_kd a = 6 := by
    unfold nm_kd
    rcases k68 with e | e
    · rw [hk, e, if_neg (by decide)]
    · rw [hk, e, if_pos rfl]
  have b12 : ∀ j, (nm_b v a).1 12 j = a.1 12 j := fun j => nm_b_o (by decide)
  have b27 : (nm_b v a).1 2 7 = kk := by rw [nm_b_o (by decide)]; exact hk
  have nn := tk_nat hn
  have m4 : (a.1 12 3 * 4).toInt = ((4 * n : Nat) : Int) := (ml_mu hn c4 (by omega) (by omega)).trans (by omega)
  have nn4 := tk_nat m4
  have nb : nb_new 6 (nm_b v a) = ((sy_new (decide (kk = 8)) (nm_b v a)).1 12 3 - 1, sy_new (decide (kk = 8)) (nm_b v a)) := by
    unfold nb_new
    rw [if_neg (by decide), if_neg (by decide), if_neg (by decide), if_neg (by decide), b27]
  have sy : sy_new (decide (kk = 8)) (nm_b v a) = u2 (u2 (u2 (if decide (kk = 8) = true then u2 (nm_b v a) 12 6 (a.1 12 6 ||| ((1 : Int32) <<< (a.1 12 3 &&& 31))) else nm_b v a) 22 n 1) 23 (4 * n) 1) 12 3 (a.1 12 3 + 1) := by
    unfold sy_new
    rw [b12, b12, if_pos (by rw [kl_lt, c10]; omega), nn, nn4]
  refine ⟨ek, ?_, fun p j p1 p2 p3 => ?_⟩
  · rw [nm_add_11, if_pos rfl, ek, nb]
    show (sy_new (decide (kk = 8)) (nm_b v a)).1 12 3 - 1 = _
    rw [sy, u2_eq]; exact i32_a1 _
  · rw [nm_add_o p1 p2 p3, ek, nb]
    show (sy_new (decide (kk = 8)) (nm_b v a)).1 p j = _
    rw [sy]
    by_cases c1 : p = 12 ∧ j = 3
    · rw [if_pos c1, c1.1, c1.2, u2_eq]
    · rw [if_neg c1, u2_ne _ _ _ _ c1]
      by_cases c2 : p = 12 ∧ j = 6 ∧ kk = 8
      · rw [if_pos c2, c2.1, c2.2.1, u2_ne _ _ _ _ (by omega), u2_ne _ _ _ _ (by omega), if_pos (decide_eq_true c2.2.2), u2_eq]
      · rw [if_neg c2]
        by_cases c3 : p = 22 ∧ j = n
        · rw [if_pos c3, c3.1, c3.2, u2_ne _ _ _ _ (by omega), u2_eq]
        · rw [if_neg c3]
          by_cases c4 : p = 23 ∧ j = 4 * n
          · rw [if_pos c4, c4.1, c4.2, u2_eq]
          · rw [if_neg c4, u2_ne _ _ _ _ c4, u2_ne _ _ _ _ c3]
            by_cases c5 : kk = 8
            · rw [if_pos (decide_eq_true c5), u2_ne _ _ _ _ (fun q => c2 ⟨q.1, q.2, c5⟩), nm_b_o p1]
            · rw [if_neg (by rw [decide_eq_false c5]; decide), nm_b_o p1]
section
variable {K : Nat → Int32} {P : Nat → Nat} {V W : Nat → Int64} {N : Nat → Int32} {c : Nat} {R0 : Option (Int32 × Nat)} {M0 : Option (Int32 × Nat) × sg}
variable {S : sm_C} {d : Nat} {Φ : sm_Z → Prop} {I : sm_I} {L : sm_L} {R : sm_R} {m : mo} {o : Option sg} {l s t n : Nat} {g : gc}
theorem x_hn2 {u : Nat} {a : sg} {J : sm_I} (hT : TS K P V W N c) (f : J 107 20 = I 107 20) (hR : rL K V W s t a I L) (tc : t ≤ c) (k : Int32) (uc : u < c) (ku : K u = 15) (b : (I 107 20).toInt < 35) : ((∃ i, i < cntm J ∧ L 115 i = W u) ↔ twc (u2 a 2 7 k).2 (V u) (cnt (u2 a 2 7 k).1) 0 = true) ∧ ¬ 35 ≤ (u2 a 2 7 k).1 2 5 := by
  have ec : cnt (u2 a 2 7 k).1 = cntm J := by unfold cnt cntm; rw [u2_ne _ _ _ _ (by omega), hR.1.1, f]
  have ecI : cntm J = cntm I := by unfold cntm; rw [f]
  refine ⟨?_, fun q => ?_⟩
  · rw [ec, ecI]
    exact rN_tw hT hR.1.2 tc uc ku
  · rw [u2_ne _ _ _ _ (by omega), hR.1.1] at q
    have q := kl_le.mp q
    rw [show (35 : Int32).toInt = 35 from by decide] at q
    omega
/-- what the header of a SAYING has told -/
def hdA (V : Nat → Int64) (kk : Int32) (tn n : Nat) (x : Int32) (a A : sg) : Prop := A.2 = (nm_add (V tn) (u2 a 2 7 kk)).2 ∧ (∀ p j, p ≠ 2 → ¬ (p = 21 ∧ j = n) → A.1 p j = (nm_add (V tn) (u2 a 2 7 kk)).1 p j) ∧ A.1 2 5 = (nm_add (V tn) (u2 a 2 7 kk)).1 2 5 ∧ A.1 2 7 = kk ∧ A.1 21 n = x
theorem x_sayT {Jh J24 : sm_I} {m3 : mo} {o3 : Option sg} {kk x1 x8 v6 x7 : Int32} (hT : TS K P V W N c) (hls : ml_ls l s) (hm : en_mem ml_tb mlX (xLay, I, L, R)) (hI : ml_TI l s I) (hG : rG s g I) (tc : t ≤ c) (tx0 : tx K P W N c I L) (hn : (I 125 s).toInt = n) (n9 : n < 10) (k68 : (kk = 6 ∧ v6 = 0) ∨ (kk = 8 ∧ v6 = 1)) (h1 : x1.toInt = ((10 * s + n : Nat) : Int)) (hfr : ∀ p j, ¬ ((p = 126 ∨ p = 127) ∧ j = 10 * s + n) → ¬ (p = 107 ∧ (j = 11 ∨ j = 13 ∨ j = 14 ∨ j = 15 ∨ j = 16)) → Jh p j = I p j) (e126 : Jh 126 (10 * s + n) = v6) (e127 : Jh 127 (10 * s + n) = x7) (X3 : PX K P V W N c R0 M0 m3 o3 Jh L) (r3 : ∀ t' s' g', m3 = some (t', s', g') → t + 1 < t' ∧ s' = 17 ∧ g' = gc_st 0 kk g ∧ t + 1 < c ∧ t + 1 < 500 ∧ K (t + 1) = 15 ∧ x8.toInt = ((t + 1 : Nat) : Int) ∧ ∀ A, o3 = some A → ∃ a, rL K V W s t a I L ∧ hdA V kk (t + 1) n x7 a A) (e24 : J24 = sm_up Jh 128 (10 * s + n) 0) (h : ∀ (J : sm_I) (L' : sm_L), TP K P V W N c R0 M0 s t J L' → Φ (none, (xLay, J, L', kM R))) : sm_wp sm_P S (d + 6) 200 10 [.ref 107, .int x1, .int x8, .int (1 : Int32)] [] (xLay, J24, L, kM R) (0, 0) Φ := by
  obtain ⟨hl1, hs1⟩ := ml_l1 hls
  obtain ⟨sn, sv⟩ := ml_sn hls hI
  have bc := ml_cs hs1 hm
  have b34 := x_34 hs1 hm
  obtain ⟨⟨b0, b1⟩, hb⟩ := x_b117 hm
  have bs : (I 107 20).toInt ≤ ml_sum I s := hI.2.2.1
  unfold ml_sum at bs
  have b49 := ml_nm49 hls hI hm
  have kk68 : kk = 6 ∨ kk = 8 := by rcases k68 with q | q; exact Or.inl q.1; exact Or.inr q.1
  have kk15 : kk.toInt < 15 := by rcases kk68 with q | q <;> rw [q] <;> decide
  have kk12 : kk ≠ 12 := by rcases kk68 with q | q <;> rw [q] <;> decide
  have gwk : gw kk = 6 := by rcases kk68 with q | q <;> rw [q] <;> decide
  have kn := tk_nat hn
  have o24 : ∀ p j, ¬ ((p = 126 ∨ p = 127 ∨ p = 128) ∧ j = 10 * s + n) → ¬ (p = 107 ∧ (j = 11 ∨ j = 13 ∨ j = 14 ∨ j = 15 ∨ j = 16)) → J24 p j = I p j := fun p j h1 h2 => by rw [e24, en_up_ne _ _ _ _ (by omega)]; exact hfr p j (by omega) h2
  have X24 : PX K P V W N c R0 M0 m3 o3 J24 L := by rw [e24]; exact PX_up (by decide) (by omega) X3
  have z128 : (J24 128 (10 * s + n)).toInt = 0 := by rw [e24, en_up_eq]; decide
  have d20 : J24 107 20 = I 107 20 := o24 107 20 (by omega) (by omega)
  have f116 : ∀ j, J24 116 j = I 116 j ∧ J24 117 j = I 117 j := fun j => ⟨o24 116 j (by omega) (by omega), o24 117 j (by omega) (by omega)⟩
  have cm : cntm J24 = cntm I := by unfold cntm; rw [d20]
  have efd : ∀ nm so, fdm J24 L nm so = fdm I L nm so := fun nm so => by unfold fdm; rw [cm, fm_cg f116]
  cases em3 : m3 with
  | none =>
    subst em3
    have nz := PS_no X24.1
    refine u_X12_tellSaying_10 ⟨fun q => absurd q (by decide), fun _ => ⟨fun q => absurd q nz, fun _ => ?_⟩⟩
    refine x_must (i := 17) [] hT rfl X24.1 (e := (0, none)) (M0 := M0) (V := V) (PE_n nz) (fun t' s' g' em => by cases em) (fun J4 m4 f4 X4 _ r4 => ⟨J4, L, R, rfl, fun z4 => ?_, fun z4 => ?_⟩)
    · exfalso
      rcases r4 with r4 | ⟨t4, s4, g4, em4, -⟩
      · subst r4; exact PS_no X4 (PS_le0 X4 z4)
      · cases em4
    · have em := PS_n0 X4 (fun y => z4 (by rw [y]; decide))
      subst em
      exact h J4 L ⟨none, none, PX_F X4, Or.inl rfl⟩
  | some mq =>
  obtain ⟨t3, s3, g3⟩ := mq
  obtain ⟨T1, T2, T3, u1, u5, u3, h8, y8⟩ := r3 t3 s3 g3 em3
  -- what is known of the header
  have hdr : ∀ A, o3 = some A → ∃ a, rL K V W s t a I L ∧ hdA V kk (t + 1) n x7 a A ∧ (nm_kd (u2 a 2 7 kk) = 6 ∧ (nm_add (V (t + 1)) (u2 a 2 7 kk)).1 11 (cnt (u2 a 2 7 kk).1) = I 125 s) ∧ ∀ p j, p ≠ 10 → p ≠ 11 → p ≠ 2 → (nm_add (V (t + 1)) (u2 a 2 7 kk)).1 p j = if p = 12 ∧ j = 3 then I 125 s + 1 else if p = 12 ∧ j = 6 ∧ kk = 8 then a.1 12 6 ||| ((1 : Int32) <<< (I 125 s &&& 31)) else if p = 22 ∧ j = n then 1 else if p = 23 ∧ j = 4 * n then 1 else a.1 p j := fun A ea => by
    obtain ⟨a, RL, hA⟩ := y8 A ea
    have ef : a.1 12 3 = I 125 s := RL.2.1.2.2.2.1
    have u12 : ∀ j, (u2 a 2 7 kk).1 12 j = a.1 12 j := fun j => u2_ne _ _ _ _ (by omega)
    obtain ⟨Y1, Y2, Y3⟩ := nmY (v := V (t + 1)) (a := u2 a 2 7 kk) (kk := kk) (n := n) (u2_eq _ _ _ _) kk68 (by rw [u12, ef]; exact hn) n9
    rw [u12, ef] at Y2
    refine ⟨a, RL, hA, ⟨Y1, Y2⟩, fun p j p1 p2 p3 => ?_⟩
    rw [Y3 p j p1 p2 (by omega), u12, u12, ef, u2_ne _ _ _ _ (by omega)]
  refine x_say10 (I0 := J24) (A := o3.getD (fun _ _ => 0, fun _ => 0)) (s := s) (n := n) (t0 := t + 1) (tl := kk) (ts := (gc_st 0 kk g).tells) hT h1 hs1 n9 (by rw [d20]; exact b0) (by rw [d20]; exact b1) (fun j hj => by rw [(f116 j).2]; exact hb j (by rw [← cm]; exact hj)) (fun nm => by rw [efd]; exact (x_fb hm L nm).2.2) kk12 (∃ A, o3 = some A) (fun hq => ?_) (fun J m' o' XJ frJ rJ => ⟨fun z => ?_, fun z => ?_⟩) (fun J pJ => h J L ⟨none, none, PX_F pJ, Or.inl rfl⟩) 4 J24 1 m3 o3 X24 (fun _ _ _ _ _ _ => rfl) (fun _ => ?_) (fun y => absurd y (by decide))
  · obtain ⟨A, ea⟩ := hq
    obtain ⟨a, RL, hA, ⟨Y1, Y2⟩, Y3⟩ := hdr A ea
    rw [ea]
    show (∀ {u : Nat} {b : sg}, u < c → K u = 15 → b.2 = A.2 → (∀ j, b.1 10 j = A.1 10 j ∧ b.1 11 j = A.1 11 j) → b.1 2 5 = A.1 2 5 → fd b (V u) 3 = fdm J24 L (W u) 2) ∧ (A.1 12 3).toInt = (n : Int) + 1 ∧ A.1 2 7 ≠ 12
    refine ⟨fun {u b} uc ku w1 w2 w3 => ?_, ?_, by rw [hA.2.2.2.1]; exact kk12⟩
    · rw [efd]
      exact x_pend (k := kk) (v := V (t + 1)) hT xfr_rf RL tc b0 (by omega) (by rw [Y1]; decide) (Or.inr (Or.inr (Or.inl ⟨rfl, rfl⟩))) (by rw [w1, hA.1]) (fun i => by rw [(w2 i).1, hA.2.1 10 i (by decide) (by omega)]) (fun i => by rw [(w2 i).2, hA.2.1 11 i (by decide) (by omega)]) (by rw [w3, hA.2.2.1]) uc ku
    · rw [hA.2.1 12 3 (by decide) (by omega), Y3 12 3 (by decide) (by decide) (by decide), if_pos ⟨rfl, rfl⟩]
      have := ml_in1 (x := I 125 s) (by omega)
      omega
  · -- the end
    have z := PS_le0 XJ.1 z
    rcases rJ with rJ | ⟨t', g', em', w1, w2, w3, w4, w5, w6⟩
    · rw [rJ] at XJ; exact absurd z (PS_no XJ.1)
    have ft : ∀ p j, ¬ ((p = 126 ∨ p = 127 ∨ p = 128) ∧ j = 10 * s + n) → ¬ (p = 129 ∧ 4 * (10 * s + n) ≤ j ∧ j < 4 * (10 * s + n) + 4) → ¬ (130 ≤ p ∧ p ≤ 133 ∧ 12 * (10 * s + n) ≤ j ∧ j < 12 * (10 * s + n) + 12) → ¬ (p = 107 ∧ (j = 11 ∨ j = 13 ∨ j = 14 ∨ j = 15 ∨ j = 16)) → J p j = I p j := fun p j p1 p2 p3 p4 => by rw [frJ p j (by omega) p2 p3 p4]; exact o24 p j p1 p4
    have k126 : J 126 (10 * s + n) = v6 := by rw [frJ 126 _ (by omega) (by omega) (by omega) (by omega), e24, en_up_ne _ _ _ _ (by omega)]; exact e126
    have k127 : J 127 (10 * s + n) = x7 := by rw [frJ 127 _ (by omega) (by omega) (by omega) (by omega), e24, en_up_ne _ _ _ _ (by omega)]; exact e127
    have g19 : J 107 19 = I 107 19 := ft 107 19 (by omega) (by omega) (by omega) (by omega)
    have g20 : J 107 20 = I 107 20 := ft 107 20 (by omega) (by omega) (by omega) (by omega)
    have g125 : J 125 s = I 125 s := ft 125 s (by omega) (by omega) (by omega) (by omega)
    have ecm : cntm J = cntm I := by unfold cntm; rw [g20]
    rw [g19, sn]
    refine ⟨sv, fun n5 e5 => ?_⟩
    rw [g125] at e5
    refine x_knows (t := t + 1) h8 (by omega) (by rw [g20]; exact b0) (by rw [g20]; exact b49) XJ (fun J6 L6 e6J e6L X6 => ⟨J6, L6, R, rfl, ?_⟩)
    rw [ecm] at e6J e6L
    have o6 : ∀ p j, ¬ ((p = 116 ∨ p = 117) ∧ j = cntm I) → ¬ (p = 107 ∧ j = 20) → J6 p j = J p j := fun p j h1 h2 => by rw [e6J, en_up_ne _ _ _ _ (by omega), en_up_ne _ _ _ _ (by omega), en_up_ne _ _ _ _ (by omega)]
    have s6 : J6 107 19 = I 107 19 := by rw [o6 107 19 (by omega) (by omega)]; exact g19
    rw [s6, sn]
    refine ⟨sv, fun n10 e10 => ⟨sv, fun J7 e7 => h J7 L6 ⟨m', o', ?_, Or.inr ⟨t', g', em', by omega, ?_, fun a' ea => ?_⟩⟩⟩⟩
    · rw [e7]; exact PX_up (by decide) (by omega) X6
    all_goals
      have o7J : ∀ p j, ¬ ((p = 116 ∨ p = 117) ∧ j = cntm I) → ¬ (p = 125 ∧ j = s) → p ≠ 107 → J7 p j = J p j := fun p j h1 h2 h3 => by rw [e7, en_up_ne _ _ _ _ h2, o6 p j h1 (by omega)]
      have o7 : ∀ p j, ¬ ((p = 116 ∨ p = 117) ∧ j = cntm I) → ¬ (p = 125 ∧ j = s) → p ≠ 107 → ¬ ((p = 126 ∨ p = 127 ∨ p = 128) ∧ j = 10 * s + n) → ¬ (p = 129 ∧ 4 * (10 * s + n) ≤ j ∧ j < 4 * (10 * s + n) + 4) → ¬ (130 ≤ p ∧ p ≤ 133 ∧ 12 * (10 * s + n) ≤ j ∧ j < 12 * (10 * s + n) + 12) → J7 p j = I p j := fun p j h1 h2 h3 h4 h5 h6 => by rw [o7J p j h1 h2 h3, ft p j h4 h5 h6 (by omega)]
      have r7 : J7 125 s = I 125 s + 1 := by rw [e7, en_up_eq, e10, o6 125 s (by omega) (by omega), g125]
      have r7i : (J7 125 s).toInt = (I 125 s).toInt + 1 := by rw [r7]; exact ml_in1 (by omega)
    · unfold rG
      obtain ⟨G1, G2, G3, G4, G5, G6, G7⟩ := hG
      rw [w2]
      refine ⟨?_, ?_, ?_, ?_, ?_, ?_, ?_⟩
      · rw [o7 118 s (by omega) (by omega) (by decide) (by omega) (by omega) (by omega), gc0_t kk15, if_neg (by rw [gwk]; decide)]; exact G1
      · rw [o7 119 s (by omega) (by omega) (by decide) (by omega) (by omega) (by omega), gc0_t kk15, if_neg (by rw [gwk]; decide)]; exact G2
      · rw [o7 120 s (by omega) (by omega) (by decide) (by omega) (by omega) (by omega), gc0_t kk15, if_neg (by rw [gwk]; decide)]; exact G3
      · rw [o7 122 s (by omega) (by omega) (by decide) (by omega) (by omega) (by omega), gc0_t kk15, if_neg (by rw [gwk]; decide)]; exact G4
      · rw [r7i, gc0_t kk15, if_pos (by rw [gwk])]; omega
      · rw [o7 134 s (by omega) (by omega) (by decide) (by omega) (by omega) (by omega), gc0_t kk15, if_neg (by rw [gwk]; decide)]; exact G6
      · rw [o7 136 s (by omega) (by omega) (by decide) (by omega) (by omega) (by omega), gc0_t kk15, if_neg (by rw [gwk]; decide)]; exact G7
    · obtain ⟨⟨A, eA⟩, RF⟩ := w6 a' ea
      rw [eA] at RF
      have RF : rF s n g'.alls A a' J := RF
      obtain ⟨a, RL, hA, ⟨Y1, Y2⟩, Y3⟩ := hdr A eA
      obtain ⟨⟨R5, RN⟩, RC, RT, RO, RW, RS, RQ, RB⟩ := RL
      obtain ⟨⟨F1, F2, F3⟩, F4, F5⟩ := RF
      have u12 : ∀ j, (u2 a 2 7 kk).1 12 j = a.1 12 j := fun j => u2_ne _ _ _ _ (by omega)
      -- cells that neither the name nor the choices touch
      have B : ∀ p j, p ≠ 2 → p ≠ 10 → p ≠ 11 → ¬ (p = 12 ∧ (j = 3 ∨ j = 6)) → ¬ (p = 21 ∧ j = n) → ¬ (p = 22 ∧ j = n) → ¬ (p = 23 ∧ 4 * n ≤ j ∧ j < 4 * n + 4) → ¬ (25 ≤ p ∧ p ≤ 28 ∧ 12 * n ≤ j ∧ j < 12 * n + 12) → a'.1 p j = a.1 p j := fun p j q1 q2 q3 q4 q5 q6 q7 q8 => by
        rw [F2 p j q1 q6 q7 q8, hA.2.1 p j q1 q5, Y3 p j q2 q3 q1, if_neg (by omega), if_neg (by omega), if_neg (by omega), if_neg (by omega)]
      have eW : L 113 (t + 1) = W (t + 1) := (tx0.2 (t + 1) u1 (by omega)).2
      refine ⟨?_, ?_, ?_, ?_, ?_, ?_, ?_, ?_⟩
      · have q := rN_new (a := u2 a 2 7 kk) (I := I) (J := J7) (L' := L6) (t := t) (t' := t') (u := t + 1) (W := W) (so := 3) (x := I 125 s) (L := L) (by rw [u2_ne _ _ _ _ (by omega)]; exact R5) b0 (by omega) (rN_cg RN t (Nat.le_refl _) (fun i _ => ⟨rfl, u2_ne _ _ _ _ (by omega), u2_ne _ _ _ _ (by omega)⟩) (fun i _ => ⟨rfl, rfl, rfl⟩)) (by omega) (by omega) u3 (by rw [Y1]; exact Or.inr (Or.inr (Or.inr (Or.inl ⟨rfl, rfl⟩)))) Y2 (by rw [e7, en_up_ne _ _ _ _ (by omega), e6J, en_up_eq, g20]) (by rw [e7, en_up_ne _ _ _ _ (by omega), e6J, en_up_ne _ _ _ _ (by omega), en_up_ne _ _ _ _ (by omega), en_up_eq]) (by rw [e7, en_up_ne _ _ _ _ (by omega), e6J, en_up_ne _ _ _ _ (by omega), en_up_eq, e5]) (fun i hi => ⟨o7 116 i (by omega) (by omega) (by decide) (by omega) (by omega) (by omega), o7 117 i (by omega) (by omega) (by decide) (by omega) (by omega) (by omega)⟩) (by rw [e6L, en_up_eq, eW]) (fun i hi => by rw [e6L, en_up_ne _ _ _ _ (by omega)])
        refine ⟨by rw [F3, hA.2.2.1]; exact q.1, rN_cg q.2 t' (Nat.le_refl _) (fun i _ => ⟨by rw [F1, hA.1], by rw [F2 10 i (by decide) (by omega) (by omega) (by omega), hA.2.1 10 i (by decide) (by omega)], by rw [F2 11 i (by decide) (by omega) (by omega) (by omega), hA.2.1 11 i (by decide) (by omega)]⟩) (fun i _ => ⟨rfl, rfl, rfl⟩)⟩
      · unfold rC
        refine ⟨?_, ?_, ?_, ?_, ?_⟩
        · rw [B 12 0 (by omega) (by omega) (by omega) (by omega) (by omega) (by omega) (by omega) (by omega), o7 118 s (by omega) (by omega) (by decide) (by omega) (by omega) (by omega)]; exact RC.1
        · rw [B 12 1 (by omega) (by omega) (by omega) (by omega) (by omega) (by omega) (by omega) (by omega), o7 119 s (by omega) (by omega) (by decide) (by omega) (by omega) (by omega)]; exact RC.2.1
        · rw [B 12 2 (by omega) (by omega) (by omega) (by omega) (by omega) (by omega) (by omega) (by omega), o7 122 s (by omega) (by omega) (by decide) (by omega) (by omega) (by omega)]; exact RC.2.2.1
        · rw [F2 12 3 (by decide) (by omega) (by omega) (by omega), hA.2.1 12 3 (by decide) (by omega), Y3 12 3 (by decide) (by decide) (by decide), if_pos ⟨rfl, rfl⟩, r7]
        · rw [B 12 4 (by omega) (by omega) (by omega) (by omega) (by omega) (by omega) (by omega) (by omega), o7 136 s (by omega) (by omega) (by decide) (by omega) (by omega) (by omega)]; exact RC.2.2.2.2
      · exact rT_cg RT (fun c' j hc => B c' j (by omega) (by omega) (by omega) (by omega) (by omega) (by omega) (by omega) (by omega)) (fun p j hp => o7 p j (by omega) (by omega) (by omega) (by omega) (by omega) (by omega))
      · exact rO_cg RO b34.2 (fun c' j h1 h2 => B c' j (by omega) (by omega) (by omega) (by omega) (by omega) (by omega) (by omega) (by omega)) (by rw [o7 122 s (by omega) (by omega) (by decide) (by omega) (by omega) (by omega)]; exact Int.le_refl _) (o7 134 s (by omega) (by omega) (by decide) (by omega) (by omega) (by omega)) (fun j => o7 135 j (by omega) (by omega) (by decide) (by omega) (by omega) (by omega)) (fun p j h1 h2 _ _ => o7 p j (by omega) (by omega) (by omega) (by omega) (by omega) (by omega))
      · exact rW_cg RW (fun j => B 13 j (by omega) (by omega) (by omega) (by omega) (by omega) (by omega) (by omega) (by omega)) (fun j => o7 121 j (by omega) (by omega) (by decide) (by omega) (by omega) (by omega))
      · refine ⟨fun i hi => ⟨fun q => ?_, fun q => ?_⟩, ?_⟩
        · rw [r7i] at q
          by_cases ci : i = n
          · subst ci
            have e8 : J7 128 (10 * s + i) = J 128 (10 * s + i) := o7J 128 _ (by omega) (by omega) (by decide)
            refine ⟨?_, ?_, ?_, ?_, fun q' hq => ?_⟩
            · rw [F2 21 i (by decide) (by omega) (by omega) (by omega), hA.2.2.2.2, o7J 127 _ (by omega) (by omega) (by decide), k127]
            · rw [e8]; exact en_ofI (by rw [F4, w3])
            · rw [e8, w3]; omega
            · rw [e8, w3]; omega
            · rw [e8, w3] at hq
              exact rA_cg (F5 q' (by omega)) hi (by omega) (fun _ _ _ _ _ _ => rfl) rfl (o7J 129 _ (by omega) (by omega) (by decide)) (fun p j p1 p2 _ _ => o7J p j (by omega) (by omega) (by omega))
          · exact rY_cg ((RS.1 i hi).1 (by omega)) hi (B 21 i (by omega) (by omega) (by omega) (by omega) (by omega) (by omega) (by omega) (by omega)) (B 22 i (by omega) (by omega) (by omega) (by omega) (by omega) (by omega) (by omega) (by omega)) (fun j j1 j2 => B 23 j (by omega) (by omega) (by omega) (by omega) (by omega) (by omega) (by omega) (by omega)) (fun c' j c1 c2 j1 j2 => B c' j (by omega) (by omega) (by omega) (by omega) (by omega) (by omega) (by omega) (by omega)) (o7 127 _ (by omega) (by omega) (by decide) (by omega) (by omega) (by omega)) (o7 128 _ (by omega) (by omega) (by decide) (by omega) (by omega) (by omega)) (fun j j1 j2 => o7 129 _ (by omega) (by omega) (by decide) (by omega) (by omega) (by omega)) (fun p j p1 p2 j1 j2 => o7 p _ (by omega) (by omega) (by omega) (by omega) (by omega) (by omega))
        · rw [r7i] at q
          have q0 := (RS.1 i hi).2 (by omega)
          refine ⟨by rw [B 21 i (by omega) (by omega) (by omega) (by omega) (by omega) (by omega) (by omega) (by omega)]; exact q0.1, fun q' hq => by rw [B 23 _ (by omega) (by omega) (by omega) (by omega) (by omega) (by omega) (by omega) (by omega)]; exact q0.2 q' hq⟩
        · have e1 : (J7 125 s).toNatClampNeg = n + 1 := tk_nat (by rw [r7i]; omega)
          rw [e1, F2 12 6 (by decide) (by omega) (by omega) (by omega), hA.2.1 12 6 (by decide) (by omega), Y3 12 6 (by decide) (by decide) (by decide), if_neg (by omega)]
          have S0 := RS.2
          rw [kn] at S0
          have cgS : sb (fun i => J7 126 (10 * s + i)) n = a.1 12 6 := by
            rw [S0]
            exact sb_cg n (fun i hi => o7 126 _ (by omega) (by omega) (by decide) (by omega) (by omega) (by omega))
          have k7 : J7 126 (10 * s + n) = v6 := by rw [o7J 126 _ (by omega) (by omega) (by decide)]; exact k126
          have eI : I 125 s = Int32.ofNat n := en_ofI (by rw [hn, Int32.toInt_ofNat_of_lt (by omega)])
          show _ = (if J7 126 (10 * s + n) = 0 then sb (fun i => J7 126 (10 * s + i)) n else sb (fun i => J7 126 (10 * s + i)) n ||| ((1 : Int32) <<< (Int32.ofNat n &&& 31)))
          rw [cgS, k7]
          rcases k68 with ⟨q1, q2⟩ | ⟨q1, q2⟩
          · rw [if_neg (fun y => by rw [q1] at y; exact absurd y.2.2 (by decide)), if_neg (by omega), if_neg (by omega), if_pos q2]
          · rw [if_pos ⟨rfl, rfl, q1⟩, if_neg (by rw [q2]; decide), eI]
      · exact rQ_cg RQ (fun c' j h1 h2 => B c' j (by omega) (by omega) (by omega) (by omega) (by omega) (by omega) (by omega) (by omega)) (fun p j hp => o7 p j (by omega) (by omega) (by omega) (by omega) (by omega) (by omega))
      · exact rB_new (so := 3) (x := I 125 s) RB b0 (by omega) (by rw [e7, en_up_ne _ _ _ _ (by omega), e6J, en_up_eq, g20]) (by rw [e7, en_up_ne _ _ _ _ (by omega), e6J, en_up_ne _ _ _ _ (by omega), en_up_ne _ _ _ _ (by omega), en_up_eq]) (by rw [e7, en_up_ne _ _ _ _ (by omega), e6J, en_up_ne _ _ _ _ (by omega), en_up_eq, e5]) (fun i hi => ⟨o7 116 i (by omega) (by omega) (by decide) (by omega) (by omega) (by omega), o7 117 i (by omega) (by omega) (by decide) (by omega) (by omega) (by omega)⟩) (by rw [o7 122 s (by omega) (by omega) (by decide) (by omega) (by omega) (by omega)]; exact Int.le_refl _) (fun y => absurd y (by decide))
  · have em := PS_n0 XJ.1 (fun y => z (by rw [y]; decide))
    exact h J L ⟨m', o', XJ, Or.inl em⟩
  · refine Or.inr ⟨t3, g3, by rw [em3, T2], by omega, by rw [T3]; exact gc0_l kk15, by rw [T3], by rw [z128, T3, (gc0_a kk15).1]; rfl, by rw [T3, (gc0_a kk15).1]; omega, by rw [T3]; exact (gc0_a kk15).2, by rw [T3, (gc0_a kk15).1]; omega, fun A ea => ⟨⟨A, ea⟩, ?_⟩⟩
    obtain ⟨a, RL, hA, ⟨Y1, Y2⟩, Y3⟩ := hdr A ea
    rw [ea, T3, (gc0_a kk15).1]
    show rH s n (1 - 1) 1 0 A A J24
    refine ⟨⟨rfl, fun _ _ _ _ _ _ => rfl, rfl, rfl⟩, ?_, ?_, fun q' q1 q2 => ?_, fun q' hq => absurd hq (Nat.not_lt_zero q'), fun p hp => absurd hp (Nat.not_lt_zero p)⟩
    · rw [hA.2.1 22 n (by decide) (by omega), Y3 22 n (by decide) (by decide) (by decide), if_neg (by omega), if_neg (by omega), if_pos ⟨rfl, rfl⟩]; decide
    · rw [hA.2.1 23 _ (by decide) (by omega), Y3 23 _ (by decide) (by decide) (by decide), if_neg (by omega), if_neg (by omega), if_neg (by omega), if_pos ⟨rfl, by omega⟩]; decide
    · rw [hA.2.1 23 _ (by decide) (by omega), Y3 23 _ (by decide) (by decide) (by decide), if_neg (by omega), if_neg (by omega), if_neg (by omega), if_neg (by omega)]
      exact ((RL.2.2.2.2.2.1.1 n n9).2 (by omega)).2 q' q2
end
end
section
/-! tells of the reference, exact: say and sure (wip/pe/mk98b.py) -/
theorem ms_tr {v : Int64} {a : sg} (h : ¬ lg_cmp v 1440 ≤ 0 ∨ v.toInt32 = 0 ∨ ¬ v.toInt32 ≤ 100) : ms 13 16 v a = (5, a) := by
  unfold ms
  by_cases c1 : lg_cmp v 1440 ≤ 0
  · rw [if_neg (fun z => z.2 c1)]
    show tk_trust v.toInt32 a = (5, a)
    unfold tk_trust
    by_cases c2 : v.toInt32 = 0
    · rw [if_pos c2]
    · rw [if_neg c2, if_neg]
      rcases h with h | h | h
      · exact absurd c1 h
      · exact absurd h c2
      · exact h
  · rw [if_pos ⟨rfl, c1⟩]
theorem ms_tr0 {v : Int64} {a : sg} (h1 : lg_cmp v 1440 ≤ 0) (h2 : ¬ v.toInt32 = 0) (h3 : v.toInt32 ≤ 100) : ms 13 16 v a = (0, tr_last v.toInt32 a) := by
  unfold ms
  rw [if_neg (fun z => z.2 h1)]
  show tk_trust v.toInt32 a = _
  unfold tk_trust
  rw [if_neg h2, if_pos h3]
theorem tr_last_s {v : Int32} {b : sg} {n : Nat} (h : (b.1 12 3).toInt = (n : Int) + 1) (hn : n < 10) : tr_last v b = u2 b 21 n v := by
  have c10 : (10 : Int32).toInt = 10 := by decide
  have e : (b.1 12 3 - 1).toInt = (n : Int) := by rw [Int32.toInt_sub, kl_1, h]; exact (en_bmod (by omega) (by omega) (Or.inl rfl)).trans (by omega)
  unfold tr_last
  rw [if_neg (fun y => by rw [kl_le, kl_0] at y; omega), if_neg (fun y => by rw [kl_lt, c10] at y; omega), tk_nat e]
section
variable {K : Nat → Int32} {P : Nat → Nat} {V W : Nat → Int64} {N : Nat → Int32} {c : Nat} {R0 : Option (Int32 × Nat)} {M0 : Option (Int32 × Nat) × sg}
variable {S : sm_C} {d : Nat} {Φ : sm_Z → Prop} {I : sm_I} {L : sm_L} {R : sm_R} {m : mo} {o : Option sg} {l s t : Nat} {g : gc}
theorem x_tellSure (hT : TS K P V W N c) (hls : ml_ls l s) (hm : en_mem ml_tb mlX (xLay, I, L, R)) (hI : ml_TI l s I) (hX : PX K P V W N c R0 M0 (some (t, 0, g)) o I L) (hG : rG s g I) (hR : ∀ a, o = some a → rL K V W s t a I L) (ek : K t = 8) (hr : (I 125 s).toInt < 10) (h : ∀ (J : sm_I) (L' : sm_L), TP K P V W N c R0 M0 s t J L' → Φ (none, (xLay, J, L', kM R))) : sm_wp sm_P S (d + 6) 200 0 [.ref 107] [] (xLay, I, L, kM R) (0, 0) Φ := by
  obtain ⟨hl1, hs1⟩ := ml_l1 hls
  obtain ⟨sn, sv⟩ := ml_sn hls hI
  have bc := ml_cs hs1 hm
  obtain ⟨⟨b0, b1⟩, hb⟩ := x_b117 hm
  have bs : (I 107 20).toInt ≤ ml_sum I s := hI.2.2.1
  unfold ml_sum at bs
  have tc : t ≤ c := hX.1.2.2.2.2.2.1
  obtain ⟨n, hn⟩ : ∃ n : Nat, (I 125 s).toInt = n := ⟨(I 125 s).toNatClampNeg, (kl_nat bc.2.2.2.1.1).symm⟩
  have n9 : n < 10 := by omega
  have ok : gc_ok 0 8 g = true := by
    unfold gc_ok
    rw [if_pos ⟨rfl, by decide⟩]
    refine decide_eq_true ?_
    have := hG.2.2.2.2.1
    rw [show gw 8 = 6 from by decide, show (sm_room.getD 6 0).toInt = 10 from by decide]
    omega
  have q1 : ((10 : Int32) * (I 107 19)).toInt = 10 * (s : Int) := ml_mu (by decide) hI.2.1 (by omega) (by omega)
  refine u_X12_tellSaying_0 ?_
  rw [sn]
  refine ⟨sv, fun n1 e1 => ?_⟩
  have h1 : n1.toInt = ((10 * s + n : Nat) : Int) := by rw [e1, ml_ad q1 rfl (by omega) (by omega)]; omega
  have n1n := tk_nat h1
  have v1 : vp_in n1 20 := kl_in (by omega) (by omega)
  refine x_is (i := 8) hT (by decide) rfl hX.1 (fun r5 hr05 hr5 => ⟨r5, I, L, R, rfl, v1, fun I6 e6 => ?_⟩)
  have r5v : r5 = 1 := by
    rcases hr05 with q | q
    · exact absurd q (hr5.mpr ⟨t, 0, g, rfl, ek⟩)
    · exact q
  rw [n1n, r5v, show vp_nar .boolean (1 : Int32) = 1 from by decide] at e6
  have o6 : ∀ p j, ¬ (p = 126 ∧ j = 10 * s + n) → I6 p j = I p j := fun p j hp => by rw [e6, en_up_ne _ _ _ _ hp]
  have X6 : PX K P V W N c R0 M0 (some (t, 0, g)) o I6 L := by rw [e6]; exact PX_up (by decide) (by omega) hX
  refine x_go0 (k := 8) hT ek (by decide) (by decide) (by decide +kernel) (by decide) (by decide) ok X6 (fun J1 m1 f1 X1 r1 => ⟨J1, L, R, rfl, ?_⟩)
  have m1s : ∀ t' s' g', m1 = some (t', s', g') → t' = t + 1 ∧ s' = 14 ∧ g' = gc_st 0 8 g := fun t' s' g' em => by
    rcases r1 with r1 | ⟨q1, q2, q3⟩
    · rw [r1] at em; cases em
    · rw [q3] at em
      obtain ⟨y1, y2, y3⟩ := mo_i em
      exact ⟨y1.symm, by rw [← y2]; decide +kernel, y3.symm⟩
  have c20 : J1 107 20 = I 107 20 := by rw [f1 107 20 (by omega), o6 107 20 (by omega)]
  refine x_named (s0 := 14) hT (by decide +kernel) (fun v a => by rw [ms_15]; rfl) X1 (fun t' s' g' em => (m1s t' s' g' em).2.1) (by rw [c20]; exact b0) (by rw [c20]; exact b1) (fun t' g' a1 em eo uc ku => ?_) (fun J2 m2 o2 f2 X2 r2 => ⟨_, J2, L, R, rfl, v1, fun J15 e15 => ?_⟩)
  · obtain ⟨a, ea3, ea4⟩ := om (Or.inr rfl) eo
    subst ea4
    exact x_hn2 hT c20 (hR a ea3) tc 8 uc ku (by omega)
  rw [n1n] at e15
  have o2f : ∀ p j, ¬ (p = 126 ∧ j = 10 * s + n) → ¬ (p = 107 ∧ (j = 11 ∨ j = 13 ∨ j = 14 ∨ j = 15 ∨ j = 16)) → J2 p j = I p j := fun p j h1 h2 => by rw [f2 p j h2, f1 p j h2, o6 p j h1]
  have k2 : J2 126 (10 * s + n) = 1 := by rw [f2 126 _ (by omega), f1 126 _ (by omega), e6, en_up_eq]
  have o15 : ∀ p j, ¬ ((p = 126 ∨ p = 127) ∧ j = 10 * s + n) → ¬ (p = 107 ∧ (j = 11 ∨ j = 13 ∨ j = 14 ∨ j = 15 ∨ j = 16)) → J15 p j = I p j := fun p j h1 h2 => by rw [e15, en_up_ne _ _ _ _ (by omega), o2f p j (by omega) h2]
  have k126 : J15 126 (10 * s + n) = 1 := by rw [e15, en_up_ne _ _ _ _ (by omega)]; exact k2
  have k127 : J15 127 (10 * s + n) = 1 := by rw [e15, en_up_eq]
  have X15 : PX K P V W N c R0 M0 m2 o2 J15 L := by rw [e15]; exact PX_up (by decide) (by omega) X2
  have m2s : ∀ t' s' g', m2 = some (t', s', g') → t' = t + 2 ∧ s' = 16 ∧ g' = gc_st 0 8 g ∧ t + 1 < c ∧ t + 1 < 500 ∧ K (t + 1) = 15 ∧ (J1 107 11).toInt = ((t + 1 : Nat) : Int) ∧ ∀ a2, o2 = some a2 → ∃ a, rL K V W s t a I L ∧ a2 = nm_add (V (t + 1)) (u2 a 2 7 8) := fun t' s' g' em => by
    rcases r2 with r2 | ⟨t2, g2, em2, q1, q2, q3, q4, q5⟩
    · rw [r2] at em; cases em
    · rw [q4] at em
      obtain ⟨y1, y2, y3⟩ := mo_i em
      obtain ⟨z1, z2, z3⟩ := m1s t2 14 g2 em2
      subst z1
      have hS := X1.1
      rw [em2] at hS
      refine ⟨by omega, by rw [← y2]; decide +kernel, by rw [← y3]; exact z3, q1, q2, q3, hS.2.2.2.2.1, fun a2 ea => ?_⟩
      rcases q5 with q5 | ⟨q5, -⟩
      · rw [q5] at ea; cases ea
      obtain ⟨a1, ea1, ea1'⟩ := om (Or.inr q5) ea
      obtain ⟨a, ea3, ea4⟩ := om (Or.inr rfl) ea1
      subst ea4
      exact ⟨a, hR a ea3, ea1'⟩
  -- the header's numbers
  have nm12 : ∀ a, rL K V W s t a I L → ((nm_add (V (t + 1)) (u2 a 2 7 8)).1 12 3).toInt = (n : Int) + 1 ∧ (nm_add (V (t + 1)) (u2 a 2 7 8)).1 21 n = 1 ∧ (nm_add (V (t + 1)) (u2 a 2 7 8)).1 2 7 = 8 := fun a RL => by
    have ef : a.1 12 3 = I 125 s := RL.2.1.2.2.2.1
    obtain ⟨Y1, Y2, Y3⟩ := nmY (v := V (t + 1)) (a := u2 a 2 7 8) (kk := 8) (n := n) (u2_eq _ _ _ _) (Or.inr rfl) (by rw [u2_ne _ _ _ _ (by omega), ef]; exact hn) n9
    refine ⟨?_, ?_, ?_⟩
    · rw [Y3 12 3 (by decide) (by decide) (by omega), if_pos ⟨rfl, rfl⟩, u2_ne _ _ _ _ (by omega), ef]
      have := ml_in1 (x := I 125 s) (by omega)
      omega
    · rw [Y3 21 n (by decide) (by decide) (by omega), if_neg (by omega), if_neg (by omega), if_neg (by omega), if_neg (by omega), u2_ne _ _ _ _ (by omega)]
      exact ((RL.2.2.2.2.2.1.1 n n9).2 (by omega)).1
    · rw [Y3 2 7 (by decide) (by decide) (by omega), if_neg (by omega), if_neg (by omega), if_neg (by omega), if_neg (by omega), u2_eq]
  -- the colon, and the choices
  have tail : ∀ (s0 : Int32) (ex : List Nat) (Jx : sm_I) (mx : mo) (ox : Option sg) (x7 : Int32), mkx s0 18 ex = true → (∀ (v : Int64) (a : sg), ms s0 (Int32.ofNat 18) v a = (0, a)) → fw s0 (Int32.ofNat 18) = 17 → PX K P V W N c R0 M0 mx ox Jx L → (∀ p j, ¬ ((p = 126 ∨ p = 127) ∧ j = 10 * s + n) → ¬ (p = 107 ∧ (j = 11 ∨ j = 13 ∨ j = 14 ∨ j = 15 ∨ j = 16)) → Jx p j = I p j) → Jx 126 (10 * s + n) = 1 → Jx 127 (10 * s + n) = x7 → (∀ t' s' g', mx = some (t', s', g') → t + 1 < t' ∧ s' = s0 ∧ g' = gc_st 0 8 g ∧ (∀ j, j ∈ ex → K t' = Int32.ofNat j → (j = 9 ∨ j = 13) ∧ g'.tell = 12) ∧ t + 1 < c ∧ t + 1 < 500 ∧ K (t + 1) = 15 ∧ (J1 107 11).toInt = ((t + 1 : Nat) : Int) ∧ ∀ A, ox = some A → ∃ a, rL K V W s t a I L ∧ hdA V 8 (t + 1) n x7 a A) → sm_wp sm_P S (d + 5) 165 0 [.ref 107, .int (5 : Int32)] [] (xLay, Jx, L, kM R) (0, 0) (fun z => ∃ (I20 : sm_I) (L21 : sm_L) (R22 : sm_R), z = (none, (xLay, I20, L21, (kM R22))) ∧ (vp_in n1 20) ∧ ∀ I24 : sm_I, I24 = (sm_up I20 128 n1.toNatClampNeg (0 : Int32)) → sm_wp sm_P S (d + 6) 200 10 [.ref 107, .int n1, .int (J1 107 11), .int (1 : Int32)] [] (xLay, I24, L21, (kM R22)) (0, 0) Φ) := by
    intro s0 ex Jx mx ox x7 hmk htr hfw hXx hfx h126 h127 hmx
    refine x_mustT (i := 18) (s0 := s0) ex hT rfl hmk htr hXx (fun t' s' g' em => ⟨(hmx t' s' g' em).2.1, (hmx t' s' g' em).2.2.2.1⟩) (fun J3 m3 f3 X3 r3 => ⟨J3, L, R, rfl, v1, fun J24 e24 => ?_⟩)
    rw [n1n] at e24
    refine x_sayT (Jh := J3) (m3 := m3) (o3 := ox) (kk := 8) (v6 := 1) (x7 := x7) hT hls hm hI hG tc hX.1.1 hn n9 (Or.inr ⟨rfl, rfl⟩) h1 (fun p j p1 p2 => by rw [f3 p j p2]; exact hfx p j p1 p2) (by rw [f3 126 _ (by omega)]; exact h126) (by rw [f3 127 _ (by omega)]; exact h127) X3 (fun t' s' g' em => ?_) e24 h
    rcases r3 with r3 | ⟨t3, g3, em3, w1, w2, w3, w4⟩
    · rw [r3] at em; cases em
    · rw [w4] at em
      obtain ⟨y1, y2, y3⟩ := mo_i em
      obtain ⟨z1, z2, z3, z4, z5⟩ := hmx t3 s0 g3 em3
      exact ⟨by omega, by rw [← y2]; exact hfw, by rw [← y3]; exact z3, z5⟩
  have hd1 : ∀ A, (∃ a, rL K V W s t a I L ∧ A = nm_add (V (t + 1)) (u2 a 2 7 8)) → ∃ a, rL K V W s t a I L ∧ hdA V 8 (t + 1) n 1 a A := fun A ⟨a, RL, eA⟩ => by
    obtain ⟨w1, w2, w3⟩ := nm12 a RL
    subst eA
    exact ⟨a, RL, rfl, fun _ _ _ _ => rfl, rfl, w3, w2⟩
  refine x_is (i := 7) hT (by decide) rfl X15.1 (fun r19 _ hr19 => ⟨r19, J15, L, R, rfl, fun r0 => ?_, fun r0 => ⟨v1, fun c126 => ?_, fun c126 => ?_⟩⟩)
  · refine tail 16 [] J15 m2 o2 1 (by decide +kernel) (fun v a => rfl) (by decide +kernel) X15 o15 k126 k127 (fun t' s' g' em => ?_)
    obtain ⟨y1, y2, y3, y4, y5, y6, y7, y8⟩ := m2s t' s' g' em
    refine ⟨by omega, y2, y3, fun j hj ekj => ?_, y4, y5, y6, y7, fun A ea => hd1 A (y8 A ea)⟩
    exact absurd hj List.not_mem_nil
  · rw [n1n, k126] at c126
    exact absurd c126 (by decide)
  · refine tail 16 [] J15 m2 o2 1 (by decide +kernel) (fun v a => rfl) (by decide +kernel) X15 o15 k126 k127 (fun t' s' g' em => ?_)
    obtain ⟨y1, y2, y3, y4, y5, y6, y7, y8⟩ := m2s t' s' g' em
    exact ⟨by omega, y2, y3, fun j hj => absurd hj List.not_mem_nil, y4, y5, y6, y7, fun A ea => hd1 A (y8 A ea)⟩
theorem x_tellSay (hT : TS K P V W N c) (hls : ml_ls l s) (hm : en_mem ml_tb mlX (xLay, I, L, R)) (hI : ml_TI l s I) (hX : PX K P V W N c R0 M0 (some (t, 0, g)) o I L) (hG : rG s g I) (hR : ∀ a, o = some a → rL K V W s t a I L) (ek : K t = 6) (hr : (I 125 s).toInt < 10) (h : ∀ (J : sm_I) (L' : sm_L), TP K P V W N c R0 M0 s t J L' → Φ (none, (xLay, J, L', kM R))) : sm_wp sm_P S (d + 6) 200 0 [.ref 107] [] (xLay, I, L, kM R) (0, 0) Φ := by
  obtain ⟨hl1, hs1⟩ := ml_l1 hls
  obtain ⟨sn, sv⟩ := ml_sn hls hI
  have bc := ml_cs hs1 hm
  obtain ⟨⟨b0, b1⟩, hb⟩ := x_b117 hm
  have bs : (I 107 20).toInt ≤ ml_sum I s := hI.2.2.1
  unfold ml_sum at bs
  have tc : t ≤ c := hX.1.2.2.2.2.2.1
  obtain ⟨n, hn⟩ : ∃ n : Nat, (I 125 s).toInt = n := ⟨(I 125 s).toNatClampNeg, (kl_nat bc.2.2.2.1.1).symm⟩
  have n9 : n < 10 := by omega
  have ok : gc_ok 0 6 g = true := by
    unfold gc_ok
    rw [if_pos ⟨rfl, by decide⟩]
    refine decide_eq_true ?_
    have := hG.2.2.2.2.1
    rw [show gw 6 = 6 from by decide, show (sm_room.getD 6 0).toInt = 10 from by decide]
    omega
  have q1 : ((10 : Int32) * (I 107 19)).toInt = 10 * (s : Int) := ml_mu (by decide) hI.2.1 (by omega) (by omega)
  refine u_X12_tellSaying_0 ?_
  rw [sn]
  refine ⟨sv, fun n1 e1 => ?_⟩
  have h1 : n1.toInt = ((10 * s + n : Nat) : Int) := by rw [e1, ml_ad q1 rfl (by omega) (by omega)]; omega
  have n1n := tk_nat h1
  have v1 : vp_in n1 20 := kl_in (by omega) (by omega)
  refine x_is (i := 8) hT (by decide) rfl hX.1 (fun r5 hr05 hr5 => ⟨r5, I, L, R, rfl, v1, fun I6 e6 => ?_⟩)
  have r5v : r5 = 0 := by
    rcases hr05 with q | q
    · exact q
    · exfalso
      obtain ⟨t', s', g', em, ek8⟩ := hr5.mp (by rw [q]; decide)
      have e := (mo_i em).1
      subst e
      rw [ek] at ek8
      exact absurd ek8 (by decide)
  rw [n1n, r5v, show vp_nar .boolean (0 : Int32) = 0 from by decide] at e6
  have o6 : ∀ p j, ¬ (p = 126 ∧ j = 10 * s + n) → I6 p j = I p j := fun p j hp => by rw [e6, en_up_ne _ _ _ _ hp]
  have X6 : PX K P V W N c R0 M0 (some (t, 0, g)) o I6 L := by rw [e6]; exact PX_up (by decide) (by omega) hX
  refine x_go0 (k := 6) hT ek (by decide) (by decide) (by decide +kernel) (by decide) (by decide) ok X6 (fun J1 m1 f1 X1 r1 => ⟨J1, L, R, rfl, ?_⟩)
  have m1s : ∀ t' s' g', m1 = some (t', s', g') → t' = t + 1 ∧ s' = 11 ∧ g' = gc_st 0 6 g := fun t' s' g' em => by
    rcases r1 with r1 | ⟨q1, q2, q3⟩
    · rw [r1] at em; cases em
    · rw [q3] at em
      obtain ⟨y1, y2, y3⟩ := mo_i em
      exact ⟨y1.symm, by rw [← y2]; decide +kernel, y3.symm⟩
  have c20 : J1 107 20 = I 107 20 := by rw [f1 107 20 (by omega), o6 107 20 (by omega)]
  refine x_named (s0 := 11) hT (by decide +kernel) (fun v a => by rw [ms_15]; rfl) X1 (fun t' s' g' em => (m1s t' s' g' em).2.1) (by rw [c20]; exact b0) (by rw [c20]; exact b1) (fun t' g' a1 em eo uc ku => ?_) (fun J2 m2 o2 f2 X2 r2 => ⟨_, J2, L, R, rfl, v1, fun J15 e15 => ?_⟩)
  · obtain ⟨a, ea3, ea4⟩ := om (Or.inr rfl) eo
    subst ea4
    exact x_hn2 hT c20 (hR a ea3) tc 6 uc ku (by omega)
  rw [n1n] at e15
  have o2f : ∀ p j, ¬ (p = 126 ∧ j = 10 * s + n) → ¬ (p = 107 ∧ (j = 11 ∨ j = 13 ∨ j = 14 ∨ j = 15 ∨ j = 16)) → J2 p j = I p j := fun p j h1 h2 => by rw [f2 p j h2, f1 p j h2, o6 p j h1]
  have k2 : J2 126 (10 * s + n) = 0 := by rw [f2 126 _ (by omega), f1 126 _ (by omega), e6, en_up_eq]
  have o15 : ∀ p j, ¬ ((p = 126 ∨ p = 127) ∧ j = 10 * s + n) → ¬ (p = 107 ∧ (j = 11 ∨ j = 13 ∨ j = 14 ∨ j = 15 ∨ j = 16)) → J15 p j = I p j := fun p j h1 h2 => by rw [e15, en_up_ne _ _ _ _ (by omega), o2f p j (by omega) h2]
  have k126 : J15 126 (10 * s + n) = 0 := by rw [e15, en_up_ne _ _ _ _ (by omega)]; exact k2
  have k127 : J15 127 (10 * s + n) = 1 := by rw [e15, en_up_eq]
  have X15 : PX K P V W N c R0 M0 m2 o2 J15 L := by rw [e15]; exact PX_up (by decide) (by omega) X2
  have m2s : ∀ t' s' g', m2 = some (t', s', g') → t' = t + 2 ∧ s' = 12 ∧ g' = gc_st 0 6 g ∧ t + 1 < c ∧ t + 1 < 500 ∧ K (t + 1) = 15 ∧ (J1 107 11).toInt = ((t + 1 : Nat) : Int) ∧ ∀ a2, o2 = some a2 → ∃ a, rL K V W s t a I L ∧ a2 = nm_add (V (t + 1)) (u2 a 2 7 6) := fun t' s' g' em => by
    rcases r2 with r2 | ⟨t2, g2, em2, q1, q2, q3, q4, q5⟩
    · rw [r2] at em; cases em
    · rw [q4] at em
      obtain ⟨y1, y2, y3⟩ := mo_i em
      obtain ⟨z1, z2, z3⟩ := m1s t2 11 g2 em2
      subst z1
      have hS := X1.1
      rw [em2] at hS
      refine ⟨by omega, by rw [← y2]; decide +kernel, by rw [← y3]; exact z3, q1, q2, q3, hS.2.2.2.2.1, fun a2 ea => ?_⟩
      rcases q5 with q5 | ⟨q5, -⟩
      · rw [q5] at ea; cases ea
      obtain ⟨a1, ea1, ea1'⟩ := om (Or.inr q5) ea
      obtain ⟨a, ea3, ea4⟩ := om (Or.inr rfl) ea1
      subst ea4
      exact ⟨a, hR a ea3, ea1'⟩
  -- the header's numbers
  have nm12 : ∀ a, rL K V W s t a I L → ((nm_add (V (t + 1)) (u2 a 2 7 6)).1 12 3).toInt = (n : Int) + 1 ∧ (nm_add (V (t + 1)) (u2 a 2 7 6)).1 21 n = 1 ∧ (nm_add (V (t + 1)) (u2 a 2 7 6)).1 2 7 = 6 := fun a RL => by
    have ef : a.1 12 3 = I 125 s := RL.2.1.2.2.2.1
    obtain ⟨Y1, Y2, Y3⟩ := nmY (v := V (t + 1)) (a := u2 a 2 7 6) (kk := 6) (n := n) (u2_eq _ _ _ _) (Or.inl rfl) (by rw [u2_ne _ _ _ _ (by omega), ef]; exact hn) n9
    refine ⟨?_, ?_, ?_⟩
    · rw [Y3 12 3 (by decide) (by decide) (by omega), if_pos ⟨rfl, rfl⟩, u2_ne _ _ _ _ (by omega), ef]
      have := ml_in1 (x := I 125 s) (by omega)
      omega
    · rw [Y3 21 n (by decide) (by decide) (by omega), if_neg (by omega), if_neg (by omega), if_neg (by omega), if_neg (by omega), u2_ne _ _ _ _ (by omega)]
      exact ((RL.2.2.2.2.2.1.1 n n9).2 (by omega)).1
    · rw [Y3 2 7 (by decide) (by decide) (by omega), if_neg (by omega), if_neg (by omega), if_neg (by omega), if_neg (by omega), u2_eq]
  -- the colon, and the choices
  have tail : ∀ (s0 : Int32) (ex : List Nat) (Jx : sm_I) (mx : mo) (ox : Option sg) (x7 : Int32), mkx s0 18 ex = true → (∀ (v : Int64) (a : sg), ms s0 (Int32.ofNat 18) v a = (0, a)) → fw s0 (Int32.ofNat 18) = 17 → PX K P V W N c R0 M0 mx ox Jx L → (∀ p j, ¬ ((p = 126 ∨ p = 127) ∧ j = 10 * s + n) → ¬ (p = 107 ∧ (j = 11 ∨ j = 13 ∨ j = 14 ∨ j = 15 ∨ j = 16)) → Jx p j = I p j) → Jx 126 (10 * s + n) = 0 → Jx 127 (10 * s + n) = x7 → (∀ t' s' g', mx = some (t', s', g') → t + 1 < t' ∧ s' = s0 ∧ g' = gc_st 0 6 g ∧ (∀ j, j ∈ ex → K t' = Int32.ofNat j → (j = 9 ∨ j = 13) ∧ g'.tell = 12) ∧ t + 1 < c ∧ t + 1 < 500 ∧ K (t + 1) = 15 ∧ (J1 107 11).toInt = ((t + 1 : Nat) : Int) ∧ ∀ A, ox = some A → ∃ a, rL K V W s t a I L ∧ hdA V 6 (t + 1) n x7 a A) → sm_wp sm_P S (d + 5) 165 0 [.ref 107, .int (5 : Int32)] [] (xLay, Jx, L, kM R) (0, 0) (fun z => ∃ (I20 : sm_I) (L21 : sm_L) (R22 : sm_R), z = (none, (xLay, I20, L21, (kM R22))) ∧ (vp_in n1 20) ∧ ∀ I24 : sm_I, I24 = (sm_up I20 128 n1.toNatClampNeg (0 : Int32)) → sm_wp sm_P S (d + 6) 200 10 [.ref 107, .int n1, .int (J1 107 11), .int (1 : Int32)] [] (xLay, I24, L21, (kM R22)) (0, 0) Φ) := by
    intro s0 ex Jx mx ox x7 hmk htr hfw hXx hfx h126 h127 hmx
    refine x_mustT (i := 18) (s0 := s0) ex hT rfl hmk htr hXx (fun t' s' g' em => ⟨(hmx t' s' g' em).2.1, (hmx t' s' g' em).2.2.2.1⟩) (fun J3 m3 f3 X3 r3 => ⟨J3, L, R, rfl, v1, fun J24 e24 => ?_⟩)
    rw [n1n] at e24
    refine x_sayT (Jh := J3) (m3 := m3) (o3 := ox) (kk := 6) (v6 := 0) (x7 := x7) hT hls hm hI hG tc hX.1.1 hn n9 (Or.inl ⟨rfl, rfl⟩) h1 (fun p j p1 p2 => by rw [f3 p j p2]; exact hfx p j p1 p2) (by rw [f3 126 _ (by omega)]; exact h126) (by rw [f3 127 _ (by omega)]; exact h127) X3 (fun t' s' g' em => ?_) e24 h
    rcases r3 with r3 | ⟨t3, g3, em3, w1, w2, w3, w4⟩
    · rw [r3] at em; cases em
    · rw [w4] at em
      obtain ⟨y1, y2, y3⟩ := mo_i em
      obtain ⟨z1, z2, z3, z4, z5⟩ := hmx t3 s0 g3 em3
      exact ⟨by omega, by rw [← y2]; exact hfw, by rw [← y3]; exact z3, z5⟩
  have hd1 : ∀ A, (∃ a, rL K V W s t a I L ∧ A = nm_add (V (t + 1)) (u2 a 2 7 6)) → ∃ a, rL K V W s t a I L ∧ hdA V 6 (t + 1) n 1 a A := fun A ⟨a, RL, eA⟩ => by
    obtain ⟨w1, w2, w3⟩ := nm12 a RL
    subst eA
    exact ⟨a, RL, rfl, fun _ _ _ _ => rfl, rfl, w3, w2⟩
  refine x_is (i := 7) hT (by decide) rfl X15.1 (fun r19 _ hr19 => ⟨r19, J15, L, R, rfl, fun r0 => ?_, fun r0 => ⟨v1, fun c126 => ?_, fun c126 => ?_⟩⟩)
  · refine tail 12 [7] J15 m2 o2 1 (by decide +kernel) (fun v a => rfl) (by decide +kernel) X15 o15 k126 k127 (fun t' s' g' em => ?_)
    obtain ⟨y1, y2, y3, y4, y5, y6, y7, y8⟩ := m2s t' s' g' em
    refine ⟨by omega, y2, y3, fun j hj ekj => ?_, y4, y5, y6, y7, fun A ea => hd1 A (y8 A ea)⟩
    rw [List.mem_singleton.mp hj] at ekj
    exact absurd r0 (hr19.mpr ⟨t', s', g', em, ekj⟩)
  · obtain ⟨tk, sk, gk, emk, ekk⟩ := hr19.mp r0
    refine x_goT (i := 7) (s0 := 12) [18] hT (by decide +kernel) (fun v a => rfl) X15 (fun t' s' g' em => ⟨(m2s t' s' g' em).2.1, ?_⟩) (fun J3 m3 f3 X3 r3 => ⟨J3, L, R, rfl, ?_⟩)
    · rw [emk] at em
      rw [← (mo_i em).1]; exact ekk
    have o3f : ∀ p j, ¬ ((p = 126 ∨ p = 127) ∧ j = 10 * s + n) → ¬ (p = 107 ∧ (j = 11 ∨ j = 13 ∨ j = 14 ∨ j = 15 ∨ j = 16)) → J3 p j = I p j := fun p j h1 h2 => by rw [f3 p j h2]; exact o15 p j h1 h2
    have k3 : J3 126 (10 * s + n) = 0 := by rw [f3 126 _ (by omega)]; exact k126
    have m3s : ∀ t' s' g', m3 = some (t', s', g') → t' = t + 3 ∧ s' = 13 ∧ g' = gc_st 0 6 g ∧ t + 1 < c ∧ t + 1 < 500 ∧ K (t + 1) = 15 ∧ (J1 107 11).toInt = ((t + 1 : Nat) : Int) ∧ ∀ a2, o2 = some a2 → ∃ a, rL K V W s t a I L ∧ a2 = nm_add (V (t + 1)) (u2 a 2 7 6) := fun t' s' g' em => by
      rcases r3 with r3 | ⟨t3, g3, em3, w1, w2, w3, w4⟩
      · rw [r3] at em; cases em
      · rw [w4] at em
        obtain ⟨y1, y2, y3⟩ := mo_i em
        obtain ⟨z1, z2, z3, z4⟩ := m2s t3 12 g3 em3
        exact ⟨by omega, by rw [← y2]; decide +kernel, by rw [← y3]; exact z3, z4⟩
    have bt := X3.1.2.1
    have bt2 := X3.1.2.2.1
    refine x_is (i := 16) hT (by decide) rfl X3.1 (fun r39 _ hr39 => ⟨r39, J3, L, R, rfl, fun r30 => ⟨v1, fun J40 e40 => ?_⟩, fun r30 => ⟨kl_in bt (by omega), fun n83 e83 => ⟨v1, fun J84 e84 => ?_⟩⟩⟩)
    · -- no number
      rw [n1n] at e40
      have X40 : PX K P V W N c R0 M0 m3 o2 J40 L := by rw [e40]; exact PX_up (by decide) (by omega) X3
      obtain ⟨e, hE, ee⟩ := PX_e X40
      refine x_must (i := 16) [] hT rfl X40.1 hE (fun t' s' g' em => ⟨by rw [(m3s t' s' g' em).2.1]; decide +kernel, fun j hj => absurd hj List.not_mem_nil⟩) (fun J41 m4 f4 p4 q4 r4 => ⟨J41, L, R, rfl, ?_⟩)
      have em4 : m4 = none := by
        rcases r4 with r4 | ⟨t4, s4, g4, em4, -, -, ek4, -⟩
        · exact r4
        · exact absurd r30 (hr39.mpr ⟨t4, s4, g4, em4, ek4⟩)
      subst em4
      have nz := PS_no p4
      refine ⟨fun z => absurd z nz, fun _ => ?_⟩
      exact tail 16 [] J41 none none (J41 127 (10 * s + n)) (by decide +kernel) (fun v a => rfl) (by decide +kernel) (PX_F p4) (fun p j h1 h2 => by rw [f4 p j h2, e40, en_up_ne _ _ _ _ (by omega)]; exact o3f p j h1 h2) (by rw [f4 126 _ (by omega), e40, en_up_ne _ _ _ _ (by omega)]; exact k3) rfl (fun t' s' g' em => by cases em)
    · obtain ⟨tq, sq, gq, emq, ekq⟩ := hr39.mp r30
      have ekq : K tq = 16 := ekq
      obtain ⟨T1, T2, T3, u1, u5, u3, h8, y8⟩ := m3s tq sq gq emq
      rw [n1n] at e84
      have hS3 := X3.1
      rw [emq] at hS3
      have h11 : (J3 107 11).toInt = tq := hS3.2.2.2.2.1
      have tqc : tq < c := by
        have q := hS3.2.2.2.2.2.1
        rcases Nat.lt_or_ge tq c with y | y
        · exact y
        · exfalso
          have e : tq = c := by omega
          have c5 : c ≤ 500 := by have := hS3.2.2.1; omega
          have k21 := hT.2.2.1 c5
          rw [← e, ekq] at k21
          exact absurd k21 (by decide)
      have tq5 : tq ≤ 500 := by have := hS3.2.2.1; omega
      have eN : n83 = N tq := by rw [e83, tk_nat h11]; exact (X3.1.1.2 tq tqc tq5).1
      obtain ⟨vv, v1', v2', v3'⟩ := hT.2.2.2.2.2.1 tq tqc ekq
      have e32 : (V tq).toInt32 = N tq := by
        refine en_ofI ?_
        rw [Int64.toInt_toInt32, v2', v3']
        exact en_bmod (by omega) (by omega) (Or.inl rfl)
      have c1440' : (1440 : Int64).toInt = 1440 := by decide
      have c100 : (100 : Int32).toInt = 100 := by decide
      have X84 : PX K P V W N c R0 M0 m3 o2 J84 L := by rw [e84]; exact PX_up (by decide) (by omega) X3
      obtain ⟨e, hE, ee⟩ := PX_e X84
      have n21 := hT.2.2.2.1 tq tqc
      refine x_must (i := 16) [] hT rfl X84.1 hE (fun t' s' g' em => ⟨by rw [(m3s t' s' g' em).2.1]; decide +kernel, fun j hj => absurd hj List.not_mem_nil⟩) (fun J85 m4 f4 p4 q4 r4 => ⟨J85, L, R, rfl, ?_⟩)
      have o85 : ∀ p j, ¬ ((p = 126 ∨ p = 127) ∧ j = 10 * s + n) → ¬ (p = 107 ∧ (j = 11 ∨ j = 13 ∨ j = 14 ∨ j = 15 ∨ j = 16)) → J85 p j = I p j := fun p j h1 h2 => by rw [f4 p j h2, e84, en_up_ne _ _ _ _ (by omega)]; exact o3f p j h1 h2
      have k85 : J85 126 (10 * s + n) = 0 := by rw [f4 126 _ (by omega), e84, en_up_ne _ _ _ _ (by omega)]; exact k3
      have k87 : J85 127 (10 * s + n) = N tq := by rw [f4 127 _ (by omega), e84, en_up_eq, eN]
      rw [n1n, k87]
      have st4 : ∀ t' s' g', m4 = some (t', s', g') → t' = tq + 1 ∧ s' = 16 ∧ g' = gc_st 0 6 g := fun t' s' g' em => by
        rcases r4 with r4 | ⟨t4, s4, g4, em4, w1, w2, w3, w4⟩
        · rw [r4] at em; cases em
        · rw [w4] at em
          obtain ⟨y1, y2, y3⟩ := mo_i em
          rw [emq] at em4
          obtain ⟨x1, x2, x3⟩ := mo_i em4
          exact ⟨by omega, by rw [← y2, ← x2, T2]; decide +kernel, by rw [← y3, ← x3]; exact T3⟩
      -- what is wrong with that number
      have bad : J85 107 13 = 0 → (N tq = 0 ∨ ¬ N tq ≤ 100) → sm_wp sm_P S (d + 5) 213 0 [.ref 107, .int (5 : Int32), .int (J3 107 11)] [] (xLay, J85, L, kM R) (0, 0) (fun z => ∃ (I95 : sm_I) (L96 : sm_L) (R97 : sm_R), z = (none, (xLay, I95, L96, (kM R97))) ∧ sm_wp sm_P S (d + 5) 165 0 [.ref 107, .int (5 : Int32)] [] (xLay, I95, L96, kM R97) (0, 0) (fun z => ∃ (I20 : sm_I) (L21 : sm_L) (R22 : sm_R), z = (none, (xLay, I20, L21, (kM R22))) ∧ (vp_in n1 20) ∧ ∀ I24 : sm_I, I24 = (sm_up I20 128 (10 * s + n) (0 : Int32)) → sm_wp sm_P S (d + 6) 200 10 [.ref 107, .int n1, .int (J1 107 11), .int (1 : Int32)] [] (xLay, I24, L21, (kM R22)) (0, 0) Φ)) := by
        intro z hbad
        refine x_wrong (M0 := M0) (t := tq) hT (by decide) h11 (by omega) (by omega) p4 (fun _ => ?_) (fun H fH _ pH wH => ⟨H, L, R, rfl, ?_⟩)
        · rw [ee tq sq gq emq] at q4
          cases eo : o2 with
          | none =>
            rw [eo] at q4
            exact Or.inl (PE_W q4 (Nat.le_refl tq) z)
          | some a =>
            rw [eo] at q4
            obtain ⟨pe1, pe2⟩ := q4 z
            refine Or.inr ⟨Or.inl pe1, ME_f (s := sq) (a := a) (a' := a) (by omega) n21 ?_ (by decide) pe2⟩
            rw [ekq, T2]
            exact ms_tr (Or.inr (by rw [e32]; exact hbad))
        · have := tail 16 [] H m4 none (N tq) (by decide +kernel) (fun v a => rfl) (by decide +kernel) ⟨pH, by
            cases em : m4 with
            | none => trivial
            | some q =>
              obtain ⟨t', s', g'⟩ := q
              obtain ⟨y1, -⟩ := st4 t' s' g' em
              rw [y1]
              exact PW_e wH⟩ (fun p j h1 h2 => by rw [fH p j h2]; exact o85 p j h1 h2) (by rw [fH 126 _ (by omega)]; exact k85) (by rw [fH 127 _ (by omega)]; exact k87) (fun t' s' g' em => by
              obtain ⟨y1, y2, y3⟩ := st4 t' s' g' em
              exact ⟨by omega, y2, y3, fun j hj => absurd hj List.not_mem_nil, u1, u5, u3, h8, fun A ea => by cases ea⟩)
          rw [n1n] at this
          exact this
      refine ⟨fun z => ⟨v1, fun l1 => bad z (Or.inl ?_), fun l1 => ⟨v1, fun l2 => ?_, fun l2 => bad z (Or.inr l2)⟩⟩, fun z => ?_⟩
      · rw [kl_lt, kl_1] at l1
        exact en_ofI (by rw [kl_0]; omega)
      · have l1 := kl_nlt l1
        rw [kl_1] at l1
        have l2' := kl_le.mp l2
        have := tail 16 [] J85 m4 (o2.map (tr_last (N tq))) (N tq) (by decide +kernel) (fun v a => rfl) (by decide +kernel) ⟨p4, by
            cases em : m4 with
            | none => trivial
            | some q =>
              obtain ⟨t', s', g'⟩ := q
              obtain ⟨y1, y2, -⟩ := st4 t' s' g' em
              rw [y1]
              rw [ee tq sq gq emq] at q4
              cases eo : o2 with
              | none =>
                rw [eo] at q4
                exact PE_w q4 (Nat.le_succ tq)
              | some a =>
                rw [eo] at q4
                have st := PE_st (a' := tr_last (N tq) a) (by omega) n21 (by rw [ekq, T2, ms_tr0 (lg_le.mpr (by omega)) (by rw [e32]; exact fun y => by rw [y, kl_0] at l1; omega) (by rw [e32]; exact l2), e32]) q4
                rw [ekq, T2] at st
                show PEm K P V M0 (tq + 1, some (s', tr_last (N tq) a)) J85
                rw [y2]
                exact st⟩ o85 k85 k87 (fun t' s' g' em => by
              obtain ⟨y1, y2, y3⟩ := st4 t' s' g' em
              refine ⟨by omega, y2, y3, fun j hj => absurd hj List.not_mem_nil, u1, u5, u3, h8, fun A ea => ?_⟩
              obtain ⟨a1, ea1, ea2⟩ := om (Or.inr rfl) ea
              obtain ⟨a, RL, ea3⟩ := y8 a1 ea1
              obtain ⟨w1, w2, w3⟩ := nm12 a RL
              rw [ea3] at ea2
              rw [tr_last_s w1 n9] at ea2
              subst ea2
              exact ⟨a, RL, rfl, fun p j p1 p2 => u2_ne _ _ _ _ p2, u2_ne _ _ _ _ (by omega), by rw [u2_ne _ _ _ _ (by omega)]; exact w3, u2_eq _ _ _ _⟩)
        rw [n1n] at this
        exact this
      · have em := PS_n0 p4 z
        subst em
        have := tail 16 [] J85 none none (N tq) (by decide +kernel) (fun v a => rfl) (by decide +kernel) (PX_F p4) o85 k85 k87 (fun t' s' g' em => by cases em)
        rw [n1n] at this
        exact this
  · exfalso
    rw [n1n, k126] at c126
    exact c126 rfl
end
end
