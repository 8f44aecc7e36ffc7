/-! tells of the reference, exact: all spans of a choice -/
theorem ad6 {n q : Nat} {x : Int32} {a : sg} (n9 : n < 10) (q4 : q < 4) (hx : x.toInt = n) (h22 : (a.1 22 n).toInt = (q : Int) + 1) (h3 : (a.1 23 (4 * n + q)).toInt < 3) : ad_pt6 x a = u2 a 23 (4 * n + q) (a.1 23 (4 * n + q) + 1) := by
  have c4 : (4 : Int32).toInt = 4 := by decide
  have c40 : (40 : Int32).toInt = 40 := by decide
  have c3 : (3 : Int32).toInt = 3 := by decide
  have nx := tk_nat hx
  have m : (x * 4).toInt = (n : Int) * 4 := ml_mu hx c4 (by omega) (by omega)
  have s1 : (x * 4 + a.1 22 n).toInt = (n : Int) * 4 + ((q : Int) + 1) := ml_ad m h22 (by omega) (by omega)
  have s2 : (x * 4 + a.1 22 n - 1).toInt = ((4 * n + q : Nat) : Int) := by rw [Int32.toInt_sub, kl_1, s1]; exact (en_bmod (by omega) (by omega) (Or.inl rfl)).trans (by omega)
  have nn := tk_nat s2
  unfold ad_pt6
  rw [nx, if_neg (fun y => by rw [kl_lt, kl_0] at y; omega), if_neg (fun y => by rw [kl_le, c40] at y; omega), nn, if_neg (fun y => by rw [kl_le, c3] at y; omega)]
theorem adp_f {n q : Nat} {a : sg} (n9 : n < 10) (q4 : q < 4) (h12 : (a.1 12 3).toInt = (n : Int) + 1) (h22 : (a.1 22 n).toInt = (q : Int) + 1) (h3 : (a.1 23 (4 * n + q)).toInt < 3) : ad_part false a = u2 a 23 (4 * n + q) (a.1 23 (4 * n + q) + 1) := by
  have c10 : (10 : Int32).toInt = 10 := by decide
  have e : (a.1 12 3 - 1).toInt = (n : Int) := by rw [Int32.toInt_sub, kl_1, h12]; exact (en_bmod (by omega) (by omega) (Or.inl rfl)).trans (by omega)
  unfold ad_part
  rw [if_neg (fun y => by rw [kl_lt, kl_0] at y; omega), if_pos (by rw [kl_lt, c10]; omega), if_neg (by decide)]
  exact ad6 n9 q4 e h22 h3
theorem adp_t {n q : Nat} {a : sg} (n9 : n < 10) (q3 : q < 3) (h12 : (a.1 12 3).toInt = (n : Int) + 1) (h22 : (a.1 22 n).toInt = (q : Int) + 1) (h0 : a.1 23 (4 * n + q + 1) = 0) : ad_part true a = u2 (u2 a 22 n (a.1 22 n + 1)) 23 (4 * n + (q + 1)) 1 := by
  have c10 : (10 : Int32).toInt = 10 := by decide
  have c4 : (4 : Int32).toInt = 4 := by decide
  have e : (a.1 12 3 - 1).toInt = (n : Int) := by rw [Int32.toInt_sub, kl_1, h12]; exact (en_bmod (by omega) (by omega) (Or.inl rfl)).trans (by omega)
  have en := tk_nat e
  unfold ad_part
  rw [if_neg (fun y => by rw [kl_lt, kl_0] at y; omega), if_pos (by rw [kl_lt, c10]; omega), if_pos rfl, en, if_neg (fun y => by rw [kl_le, c4] at y; omega)]
  have s := ml_in1 (x := a.1 22 n) (by omega)
  have k23 : (u2 a 22 n (a.1 22 n + 1)).1 23 (4 * n + (q + 1)) = 0 := by rw [u2_ne _ _ _ _ (by omega), show 4 * n + (q + 1) = 4 * n + q + 1 by omega]; exact h0
  rw [ad6 (q := q + 1) n9 (by omega) e (by rw [u2_eq]; omega) (by rw [k23]; decide), k23]
  rfl
/-- a SAYING while it is read: q choices are done, of the next one pc spans; e: as the class counts these -/
def rH (s n q e pc : Nat) (A a : sg) (I : sm_I) : Prop := (a.2 = A.2 ∧ (∀ u j, u ≠ 2 → ¬ (u = 22 ∧ j = n) → ¬ (u = 23 ∧ 4 * n ≤ j ∧ j < 4 * n + 4) → ¬ (25 ≤ u ∧ u ≤ 28 ∧ 12 * n ≤ j ∧ j < 12 * n + 12) → a.1 u j = A.1 u j) ∧ a.1 2 5 = A.1 2 5 ∧ a.1 2 7 = A.1 2 7) ∧ (a.1 22 n).toInt = (q : Int) + 1 ∧ (a.1 23 (4 * n + q)).toInt = e ∧ (∀ q', q < q' → q' < 4 → a.1 23 (4 * n + q') = 0) ∧ (∀ q', q' < q → rA s n q' a I) ∧ ∀ p, p < pc → a.1 25 (12 * n + 3 * q + p) = I 130 (120 * s + 12 * n + 3 * q + p) ∧ a.1 26 (12 * n + 3 * q + p) = I 131 (120 * s + 12 * n + 3 * q + p) ∧ a.1 27 (12 * n + 3 * q + p) = I 132 (120 * s + 12 * n + 3 * q + p) ∧ a.1 28 (12 * n + 3 * q + p) = I 133 (120 * s + 12 * n + 3 * q + p)
theorem rH_I {s n q e pc : Nat} {A a : sg} {I J : sm_I} (h : rH s n q e pc A a I) (n9 : n < 10) (q4 : q < 4) (p3 : pc ≤ 3) (h9 : ∀ q', q' < q → J 129 (4 * (10 * s + n) + q') = I 129 (4 * (10 * s + n) + q')) (hI : ∀ p j, 130 ≤ p → p ≤ 133 → 120 * s + 12 * n ≤ j → j < 120 * s + 12 * n + 3 * q + pc → J p j = I p j) : rH s n q e pc A a J := by
  obtain ⟨h1, h2, h3, h4, h5, h6⟩ := h
  refine ⟨h1, h2, h3, h4, fun q' hq => rA_cg (h5 q' hq) n9 (by omega) (fun _ _ _ _ _ _ => rfl) rfl (h9 q' hq) (fun p j p1 p2 j1 j2 => hI p j p1 p2 (by omega) (by omega)), fun p hp => ?_⟩
  rw [hI 130 _ (by decide) (by decide) (by omega) (by omega), hI 131 _ (by decide) (by decide) (by omega) (by omega), hI 132 _ (by decide) (by decide) (by omega) (by omega), hI 133 _ (by decide) (by decide) (by omega) (by omega)]
  exact h6 p hp
/-- one span more -/
theorem rH_sp {s n q pc : Nat} {A a b : sg} {I J : sm_I} {hi : Int32} (h : rH s n q (pc + 1) pc A a I) (hs : s ≤ 1) (n9 : n < 10) (q4 : q < 4) (p3 : pc < 3) (h12 : (A.1 12 3).toInt = (n : Int) + 1) (h7 : A.1 2 7 ≠ 12) (hb : spb0 a b) (h9 : ∀ q', q' < q → J 129 (4 * (10 * s + n) + q') = I 129 (4 * (10 * s + n) + q')) (hI : ∀ p j, 130 ≤ p → p ≤ 133 → 120 * s + 12 * n ≤ j → j < 120 * s + 12 * n + 3 * q + pc → J p j = I p j) (e0 : b.1 2 8 = J 130 (120 * s + 12 * n + 3 * q + pc)) (e1 : b.1 2 9 = J 131 (120 * s + 12 * n + 3 * q + pc)) (e2 : b.1 2 10 = J 132 (120 * s + 12 * n + 3 * q + pc)) (e3 : hi = J 133 (120 * s + 12 * n + 3 * q + pc)) : rH s n q (pc + 1) (pc + 1) A (en_sp hi b) J := by
  have h' := rH_I h n9 q4 (by omega) h9 hI
  obtain ⟨⟨g1, g2, g3, g4⟩, h2, h3, h4, h5, h6⟩ := h'
  have c4 : (4 : Int32).toInt = 4 := by decide
  have c3 : (3 : Int32).toInt = 3 := by decide
  have c10 : (10 : Int32).toInt = 10 := by decide
  have c40 : (40 : Int32).toInt = 40 := by decide
  have b7 : ¬ b.1 2 7 = 12 := by rw [hb.2.2.2, g4]; exact h7
  have b12 : (b.1 12 3).toInt = (n : Int) + 1 := by rw [hb.2.1 12 3 (by decide), g2 12 3 (by decide) (by omega) (by omega) (by omega)]; exact h12
  have b22 : (b.1 22 n).toInt = (q : Int) + 1 := by rw [hb.2.1 22 n (by decide)]; exact h2
  have b23 : (b.1 23 (4 * n + q)).toInt = (pc : Int) + 1 := by rw [hb.2.1 23 _ (by decide), h3]; omega
  have x : (b.1 12 3 - 1).toInt = (n : Int) := by rw [Int32.toInt_sub, kl_1, b12]; exact (en_bmod (by omega) (by omega) (Or.inl rfl)).trans (by omega)
  have xn := tk_nat x
  have va : va22 (b.1 12 3 - 1) b = b.1 22 n := by
    unfold va22
    rw [if_neg (fun y => by rw [kl_lt, kl_0] at y; omega), if_neg (fun y => by rw [kl_le, c10] at y; omega), xn]
  have y1 : (b.1 22 n - 1).toInt = (q : Int) := by rw [Int32.toInt_sub, kl_1, b22]; exact (en_bmod (by omega) (by omega) (Or.inl rfl)).trans (by omega)
  have m : ((b.1 12 3 - 1) * 4).toInt = (n : Int) * 4 := ml_mu x c4 (by omega) (by omega)
  have s1 : ((b.1 12 3 - 1) * 4 + (b.1 22 n - 1)).toInt = ((4 * n + q : Nat) : Int) := (ml_ad m y1 (by omega) (by omega)).trans (by omega)
  have s1n := tk_nat s1
  have pa : pa_of (b.1 12 3 - 1) (b.1 22 n - 1) b = b.1 23 (4 * n + q) := by
    unfold pa_of
    rw [if_neg (fun y => by rw [kl_lt, kl_0] at y; omega), if_neg (fun y => by rw [kl_le, c40] at y; omega), s1n]
  have m2 : (((b.1 12 3 - 1) * 4 + (b.1 22 n - 1)) * 3).toInt = ((4 * n + q : Nat) : Int) * 3 := ml_mu s1 c3 (by omega) (by omega)
  have s2 : (((b.1 12 3 - 1) * 4 + (b.1 22 n - 1)) * 3 + b.1 23 (4 * n + q)).toInt = ((4 * n + q : Nat) : Int) * 3 + ((pc : Int) + 1) := ml_ad m2 b23 (by omega) (by omega)
  have la : (la_span b).toInt = ((12 * n + 3 * q + pc : Nat) : Int) := by
    unfold la_span
    rw [va, pa, Int32.toInt_sub, kl_1, s2]
    exact (en_bmod (by omega) (by omega) (Or.inl rfl)).trans (by omega)
  have lan := tk_nat la
  have es : en_sp hi b = spb 24 120 (la_span b) (b.1 2 8) (b.1 2 9) (b.1 2 10) hi b := by unfold en_sp; rw [if_neg b7]
  have B : ∀ u j, u ≠ 2 → ¬ (25 ≤ u ∧ u ≤ 28 ∧ j = 12 * n + 3 * q + pc) → (en_sp hi b).1 u j = a.1 u j := fun u j u1 u2 => by rw [es, spb_o (by rw [lan]; omega), hb.2.1 u j u1]
  have SI := spb_i (cc := 24) (n := 120) (x := b.1 2 8) (y := b.1 2 9) (lo := b.1 2 10) (hi := hi) (a := b) la (by omega) (by omega)
  rw [← es] at SI
  refine ⟨⟨by rw [es, spb_2, hb.1, g1], fun u j u1 u2 u3 u4 => ?_, by rw [es, spb_o (by omega), hb.2.2.1, g3], by rw [es, spb_o (by omega), hb.2.2.2, g4]⟩, ?_, ?_, fun q' q1 q2 => ?_, fun q' hq => ?_, fun p hp => ?_⟩
  · rw [B u j u1 (by omega)]; exact g2 u j u1 u2 u3 u4
  · rw [B 22 n (by decide) (by omega)]; exact h2
  · rw [B 23 _ (by decide) (by omega)]; exact h3
  · rw [B 23 _ (by decide) (by omega)]; exact h4 q' q1 q2
  · exact rA_cg (h5 q' hq) n9 (by omega) (fun c j c1 c2 j1 j2 => B c j (by omega) (by omega)) (B 23 _ (by decide) (by omega)) rfl (fun _ _ _ _ _ _ => rfl)
  · by_cases cp : p = pc
    · subst cp
      rw [← e0, ← e1, ← e2, ← e3]; exact SI
    · rw [B 25 _ (by decide) (by omega), B 26 _ (by decide) (by omega), B 27 _ (by decide) (by omega), B 28 _ (by decide) (by omega)]
      exact h6 p (by omega)
/-- and: one span more is awaited -/
theorem rH_and {s n q pc : Nat} {A a : sg} {I : sm_I} (h : rH s n q pc pc A a I) (n9 : n < 10) (q4 : q < 4) (p3 : pc < 3) (h12 : (A.1 12 3).toInt = (n : Int) + 1) : rH s n q (pc + 1) pc A (ad_part false a) I := by
  obtain ⟨⟨g1, g2, g3, g4⟩, h2, h3, h4, h5, h6⟩ := h
  have a12 : (a.1 12 3).toInt = (n : Int) + 1 := by rw [g2 12 3 (by decide) (by omega) (by omega) (by omega)]; exact h12
  rw [adp_f n9 q4 a12 h2 (by omega)]
  refine ⟨⟨g1, fun u j u1 u2' u3 u4 => by rw [u2_ne _ _ _ _ (by omega)]; exact g2 u j u1 u2' u3 u4, by rw [u2_ne _ _ _ _ (by omega)]; exact g3, by rw [u2_ne _ _ _ _ (by omega)]; exact g4⟩, by rw [u2_ne _ _ _ _ (by omega)]; exact h2, ?_, fun q' q1 q2 => by rw [u2_ne _ _ _ _ (by omega)]; exact h4 q' q1 q2, fun q' hq => ?_, fun p hp => ?_⟩
  · rw [u2_eq]; have := ml_in1 (x := a.1 23 (4 * n + q)) (by omega); omega
  · exact rA_cg (h5 q' hq) n9 (by omega) (fun c j c1 c2 j1 j2 => u2_ne _ _ _ _ (by omega)) (u2_ne _ _ _ _ (by omega)) rfl (fun _ _ _ _ _ _ => rfl)
  · rw [u2_ne _ _ _ _ (by omega), u2_ne _ _ _ _ (by omega), u2_ne _ _ _ _ (by omega), u2_ne _ _ _ _ (by omega)]
    exact h6 p hp
/-- nothing but the choice i, and the reader's place, fault and worst -/
def afr (i : Nat) (I J : sm_I) : Prop := ∀ p j, ¬ (p = 129 ∧ j = i) → ¬ (130 ≤ p ∧ p ≤ 133 ∧ 3 * i ≤ j ∧ j < 3 * i + 3) → ¬ (p = 107 ∧ (j = 11 ∨ j = 13 ∨ j = 14 ∨ j = 15 ∨ j = 16)) → J p j = I p j
section
variable {K : Nat → Int32} {P : Nat → Nat} {V W : Nat → Int64} {N : Nat → Int32} {c : Nat} {R0 : Option (Int32 × Nat)} {M0 : Option (Int32 × Nat) × sg}
variable {S : sm_C} {d : Nat} {Φ : sm_Z → Prop} {I0 : sm_I} {L : sm_L} {R : sm_R} {x1 : Int32} {i s n q t0 al : Nat} {tl : Int32} {ts : Nat → Nat} {A : sg}
/-- a word that joins, where there is room for more -/
theorem x_join {k : Int32} {I : sm_I} {m : mo} {o : Option sg} {t : Nat} {g : gc} (F : sg → sg) (hT : TS K P V W N c) (hk : k = 9 ∨ k = 13) (ek : K t = k) (htl : g.tell ≠ 12) (hF : ∀ (v : Int64) (a : sg), ms 26 k v a = (0, F a)) (ok : (gc_st 26 k g).alls ≤ 4 ∧ (gc_st 26 k g).parts ≤ 3) (hX : PX K P V W N c R0 M0 m o I L) (hm : m = none ∨ m = some (t, 26, g)) (h : ∀ (J : sm_I) (m' : mo), xfr I J → PX K P V W N c R0 M0 m' (o.map F) J L → (m' = none ∨ (m = some (t, 26, g) ∧ m' = some (t + 1, 17, gc_st 26 k g))) → Φ (none, (xLay, J, L, kM R))) : sm_wp sm_P S (d + 1) 136 0 [.ref 107] [] (xLay, I, L, kM R) (0, 0) Φ := by
  obtain ⟨e, hE, ee⟩ := PX_e hX
  have n21 : k ≠ 21 := by rcases hk with rfl | rfl <;> decide
  have kf : fw 26 k = 17 := by rcases hk with rfl | rfl <;> decide +kernel
  have st : ∀ t' s' g', m = some (t', s', g') → t' = t ∧ s' = 26 ∧ g' = g := fun t' s' g' em => by
    rcases hm with hm | hm
    · rw [hm] at em; cases em
    · rw [hm] at em
      obtain ⟨y1, y2, y3⟩ := mo_i em
      exact ⟨y1.symm, y2.symm, y3.symm⟩
  refine x_go (k := k) hT hX.1 hE (fun t' s' g' em => ?_) (fun J m' f p q rel => h J m' f ⟨p, ?_⟩ ?_)
  · obtain ⟨y1, y2, y3⟩ := st t' s' g' em
    subst y1; subst y2; subst y3
    refine ⟨ek, by rw [ek]; exact n21, by rw [kf]; decide, fun z => htl z.2, ?_, ok⟩
    unfold gc_ok
    rw [if_neg (fun z => absurd z.1 (by decide)), decide_eq_true ok.1, decide_eq_true ok.2]; rfl
  · rcases rel with rel | ⟨t', s', g', em, b1, b2, b3⟩
    · rw [rel]; trivial
    · obtain ⟨y1, y2, y3⟩ := st t' s' g' em
      subst y1; subst y2; subst y3
      rw [b3]
      rw [ee t' 26 g' em] at q
      cases eo : o with
      | none =>
        rw [eo] at q
        exact PE_w q (Nat.le_succ t')
      | some a =>
        rw [eo] at q
        have := PE_st (by omega) (hT.2.2.2.1 t' b1) (by rw [ek]; exact hF (V t') a) q
        rw [ek] at this
        exact this
  · rcases rel with rel | ⟨t', s', g', em, b1, b2, b3⟩
    · exact Or.inl rel
    · obtain ⟨y1, y2, y3⟩ := st t' s' g' em
      subst y1; subst y2; subst y3
      exact Or.inr ⟨em, by rw [b3, kf]⟩
/-- no room for what the word joins -/
theorem x_full {k : Int32} {I : sm_I} {m : mo} {o : Option sg} {t : Nat} {g : gc} (hT : TS K P V W N c) (hk : k = 9 ∨ k = 13) (ek : K t = k) (htl : g.tell ≠ 12) (no : ¬ ((gc_st 26 k g).alls ≤ 4 ∧ (gc_st 26 k g).parts ≤ 3)) (hX : PX K P V W N c R0 M0 m o I L) (hm : m = some (t, 26, g)) : ∀ t' s' g', m = some (t', s', g') → R0 = some (2, t') := fun t' s' g' em => by
  have n21 : k ≠ 21 := by rcases hk with rfl | rfl <;> decide
  have kf : fw 26 k ≠ -1 := by rcases hk with rfl | rfl <;> decide +kernel
  rw [hm] at em
  obtain ⟨y1, y2, y3⟩ := mo_i em
  subst y1; subst y2; subst y3
  have hS := hX.1
  rw [hm] at hS
  obtain ⟨t2, s2, g2, em2, h11, tc, t5, hs, -⟩ := PS_0 hS (PS_so hS)
  obtain ⟨y1, y2, y3⟩ := mo_i em2
  subst y1; subst y2; subst y3
  have hs := SY_s t5 hs
  have ef : gf 26 (K t) t g = 2 := by
    unfold gf
    rw [ek, if_neg (fun z => z.elim (fun y => kf y) (fun y => htl y.2)), if_neg n21]
    by_cases c5 : 500 ≤ t
    · rw [if_pos c5]
    · rw [if_neg c5, if_neg]
      unfold gc_ok
      rw [if_neg (fun z => absurd z.1 (by decide))]
      intro y
      have y := Bool.and_eq_true_iff.mp y
      exact no ⟨of_decide_eq_true y.1, of_decide_eq_true y.2⟩
  rw [ef, if_neg (by decide)] at hs
  exact hs.symm
theorem ms_13 (v : Int64) (a : sg) : ms 26 13 v a = (0, ad_part false a) := by
  unfold ms
  rw [if_neg (fun z => absurd z.1 (by decide))]
  unfold tk_take
  rw [if_neg (by decide), if_neg (by decide), if_neg (by decide), if_neg (by decide), if_neg (by decide), if_neg (by decide), if_pos (by decide), if_neg (by decide), if_pos rfl]
theorem ms_9 (v : Int64) (a : sg) : ms 26 9 v a = (0, ad_part true a) := by
  unfold ms
  rw [if_neg (fun z => absurd z.1 (by decide))]
  unfold tk_take
  rw [if_neg (by decide), if_neg (by decide), if_neg (by decide), if_neg (by decide), if_neg (by decide), if_neg (by decide), if_pos (by decide), if_pos rfl]
theorem gs13 {g : gc} : gc_st 26 13 g = ⟨g.tell, g.alls, g.parts + 1, g.tells⟩ := by unfold gc_st; rw [if_neg (fun z => absurd z.1 (by decide)), if_neg (by decide), if_pos rfl]
theorem gs9 {g : gc} : gc_st 26 9 g = ⟨g.tell, g.alls + 1, 1, g.tells⟩ := by unfold gc_st; rw [if_neg (fun z => absurd z.1 (by decide)), if_pos rfl]
theorem x_tellAll1 (hT : TS K P V W N c) (h1 : x1.toInt = i) (hi : i = 4 * (10 * s + n) + q) (hs : s ≤ 1) (n9 : n < 10) (q4 : q < 4) (b0 : 0 ≤ (I0 107 20).toInt) (b1 : (I0 107 20).toInt ≤ 50) (hb : ∀ j, j < cntm I0 → 0 ≤ (I0 117 j).toInt) (hf : ∀ nm, -1 ≤ (fdm I0 L nm 2).toInt ∧ (fdm I0 L nm 2).toInt ≤ 9) (al4 : al ≤ 4) (htl : tl ≠ 12) (Q : Prop) (hQ : Q → (∀ {u : Nat} {b : sg}, u < c → K u = 15 → b.2 = A.2 → (∀ j, b.1 10 j = A.1 10 j ∧ b.1 11 j = A.1 11 j) → b.1 2 5 = A.1 2 5 → fd b (V u) 3 = fdm I0 L (W u) 2) ∧ (A.1 12 3).toInt = (n : Int) + 1 ∧ A.1 2 7 ≠ 12) (h : ∀ (J : sm_I) (m' : mo) (o' : Option sg), PX K P V W N c R0 M0 m' o' J L → afr i I0 J → (m' = none ∨ ∃ t' g', m' = some (t', 26, g') ∧ t0 < t' ∧ g'.alls = al ∧ g'.tell = tl ∧ g'.tells = ts ∧ (J 129 i).toInt = g'.parts ∧ 1 ≤ g'.parts ∧ K t' ≠ 13 ∧ ∀ a', o' = some a' → Q ∧ rH s n q g'.parts g'.parts A a' J) → Φ (none, (xLay, J, L, kM R))) : ∀ (f : Nat) (I : sm_I) (x2 : Int32) (m : mo) (o : Option sg), PX K P V W N c R0 M0 m o I L → afr i I0 I → (¬ x2 = 0 → m = none ∨ ∃ t g, m = some (t, 17, g) ∧ t0 ≤ t ∧ g.alls = al ∧ g.tell = tl ∧ g.tells = ts ∧ (I 129 i).toInt + 1 = g.parts ∧ 1 ≤ g.parts ∧ 3 < g.parts + f ∧ ∀ a, o = some a → Q ∧ rH s n q g.parts (g.parts - 1) A a I) → (x2 = 0 → m = none ∨ ∃ t' g', m = some (t', 26, g') ∧ t0 < t' ∧ g'.alls = al ∧ g'.tell = tl ∧ g'.tells = ts ∧ (I 129 i).toInt = g'.parts ∧ 1 ≤ g'.parts ∧ K t' ≠ 13 ∧ ∀ a', o = some a' → Q ∧ rH s n q g'.parts g'.parts A a' I) → sm_wp sm_P S (d + 5) 196 1 [.ref 107, .int x1, .int x2] [] (xLay, I, L, kM R) (0, 0) Φ := by
  have n1 := tk_nat h1
  have v : vp_in x1 80 := kl_in (by omega) (by omega)
  have c3 : (3 : Int32).toInt = 3 := by decide
  intro f
  induction f with
  | zero =>
    intro I x2 m o hX hfr H1 H0
    refine u_X12_tellAll_1 ⟨fun e => h I m o hX hfr (H0 e), fun e => ⟨fun z => ?_, fun z => h I m o hX hfr (Or.inl (PS_n0 hX.1 z))⟩⟩
    exfalso
    rcases H1 e with q' | ⟨t, g, em, a1, a2, a3, a4, a5, a51, a6, a7⟩
    · rw [q'] at hX; exact PS_no hX.1 z
    · have hS := hX.1
      rw [em] at hS
      have := (hS.2.2.2.2.2.2.2 (by decide)).2
      omega
  | succ f ih =>
    intro I x2 m o hX hfr H1 H0
    refine u_X12_tellAll_1 ⟨fun e => h I m o hX hfr (H0 e), fun e => ⟨fun z => ⟨v, fun n2 e2 => ?_⟩, fun z => h I m o hX hfr (Or.inl (PS_n0 hX.1 z))⟩⟩
    rcases H1 e with q' | ⟨t, g, em, a1, a2, a3, a4, a5, a51, a6, a7⟩
    · exfalso; rw [q'] at hX; exact PS_no hX.1 z
    have gp : g.parts ≤ 3 := by
      have hS := hX.1
      rw [em] at hS
      exact (hS.2.2.2.2.2.2.2 (by decide)).2
    obtain ⟨pc, hpc⟩ : ∃ pc, g.parts = pc + 1 := ⟨g.parts - 1, by omega⟩
    rw [n1] at e2
    have m3 : ((3 : Int32) * x1).toInt = 3 * (i : Int) := ml_mu c3 h1 (by omega) (by omega)
    have q2 : n2.toInt = ((3 * i + pc : Nat) : Int) := by rw [e2, ml_ad m3 rfl (by omega) (by omega)]; omega
    have e20 : I 107 20 = I0 107 20 := hfr 107 20 (by omega) (by omega) (by omega)
    have f116 : ∀ j, I 116 j = I0 116 j ∧ I 117 j = I0 117 j := fun j => ⟨hfr 116 j (by omega) (by omega) (by omega), hfr 117 j (by omega) (by omega) (by omega)⟩
    have cm : cntm I = cntm I0 := by unfold cntm; rw [e20]
    have efd : ∀ nm so, fdm I L nm so = fdm I0 L nm so := fun nm so => by unfold fdm; rw [cm, fm_cg f116]
    refine x_tellSpan (t0 := t) (g0 := g) hT q2 (by omega) (by rw [e20]; exact b0) (by rw [e20]; exact b1) (fun j hj => by rw [(f116 j).2]; exact hb j (by rw [← cm]; exact hj)) (fun nm => by rw [efd]; exact hf nm) hX (fun t' s' g' em' => by rw [em] at em'; obtain ⟨y1, y2, y3⟩ := mo_i em'; exact ⟨y1.symm, y2.symm, y3.symm⟩) (fun a0 ea0 b hb0 u uc ku => ?_) (fun J2 m2 o2 X2 r2 => ⟨J2, L, R, rfl, fun z2 => ⟨v, fun n6 e6 => ⟨v, fun J7 e7 => ?_⟩⟩, fun z2 => ?_⟩)
    · obtain ⟨hq, ⟨g1, g2, g3, g4⟩, -⟩ := a7 a0 ea0
      rw [efd]
      refine (hQ hq).1 uc ku (by rw [hb0.1, g1]) (fun j => ⟨?_, ?_⟩) (by rw [hb0.2.2.1, g3])
      · rw [hb0.2.1 10 j (by decide), g2 10 j (by decide) (by omega) (by omega) (by omega)]
      · rw [hb0.2.1 11 j (by decide), g2 11 j (by decide) (by omega) (by omega) (by omega)]
    · obtain ⟨sf2, r2⟩ := r2
      have z2 := PS_le0 X2.1 z2
      rcases r2 with r2 | ⟨t2, em2, w1, w2⟩
      · rw [r2] at X2; exact absurd z2 (PS_no X2.1)
      rw [n1] at e6 e7
      have s129 : J2 129 i = I 129 i := sf2 129 i (by omega) (by omega)
      have s6 : n6.toInt = (pc : Int) + 1 := by rw [e6, s129]; have := ml_in1 (x := I 129 i) (by omega); omega
      have o7 : ∀ p j, ¬ (p = 129 ∧ j = i) → J7 p j = J2 p j := fun p j hp => by rw [e7, en_up_ne _ _ _ _ hp]
      have c7 : (J7 129 i).toInt = (pc : Int) + 1 := by rw [e7, en_up_eq]; exact s6
      have X7 : PX K P V W N c R0 M0 m2 o2 J7 L := by rw [e7]; exact PX_up (by decide) (by omega) X2
      have fr7 : afr i I0 J7 := fun p j p1 p2 p3 => by rw [o7 p j p1, sf2 p j (by omega) p3]; exact hfr p j p1 p2 p3
      have H7 : ∀ a', o2 = some a' → Q ∧ rH s n q (pc + 1) (pc + 1) A a' J7 := fun a' ea => by
        obtain ⟨a0, ea0, b, eb, hb0, k8, k9, k10, -⟩ := w2 a' ea
        rw [eb]
        obtain ⟨hq, R7⟩ := a7 a0 ea0
        rw [hpc] at R7
        have ix : 3 * i + pc = 120 * s + 12 * n + 3 * q + pc := by omega
        rw [ix] at k8 k9 k10 ⊢
        refine ⟨hq, rH_sp R7 hs n9 q4 (by omega) (hQ hq).2.1 (hQ hq).2.2 hb0 (fun q' hq => ?_) (fun p j p1 p2 j1 j2 => ?_) ?_ ?_ ?_ ?_⟩
        · rw [o7 129 _ (by omega), sf2 129 _ (by omega) (by omega)]
        · rw [o7 p j (by omega), sf2 p j (by omega) (by omega)]
        · rw [o7 130 _ (by omega)]; exact k8
        · rw [o7 131 _ (by omega)]; exact k9
        · rw [o7 132 _ (by omega)]; exact k10
        · rw [o7 133 _ (by omega)]
      refine x_is (i := 13) hT (by decide) rfl X7.1 (fun r _ hr => ⟨r, J7, L, R, rfl, fun r0 => ⟨fun _ => ?_, fun y => absurd r0 y⟩, fun r1 => ⟨v, fun c30 => ?_, fun c30 => ⟨fun y => absurd y r1, fun _ => ?_⟩⟩⟩)
      · refine ih J7 r m2 o2 X7 fr7 (fun y => absurd r0 y) (fun _ => Or.inr ⟨t2, g, em2, by omega, a2, a3, a4, by rw [c7, hpc]; omega, by omega, fun ek => ?_, fun a' ea => by rw [hpc]; exact H7 a' ea⟩)
        exact absurd r0 (hr.mpr ⟨t2, 26, g, em2, ek⟩)
      · -- full
        rw [n1] at c30
        have p3 : pc + 1 = 3 := by
          have := congrArg Int32.toInt c30
          rw [c7, c3] at this; omega
        obtain ⟨tk, sk, gk, emk, ek⟩ := hr.mp r1
        rw [em2] at emk
        obtain ⟨y1, y2, y3⟩ := mo_i emk
        subst y1; subst y2; subst y3
        have full := x_full (k := 13) hT (Or.inr rfl) ek (by rw [a3]; exact htl) (by rw [gs13]; intro y; have := y.2; have : g.parts + 1 ≤ 3 := this; omega) X7 em2
        obtain ⟨e', hE', -⟩ := PX_e X7
        refine x_fail (by decide) X7.1 hE' full (fun J8 f8 _ p8 _ => ⟨J8, L, R, rfl, fun y => absurd y r1, fun _ => ?_⟩)
        refine x_go (k := 0) (e := (0, none)) (M0 := M0) hT p8 (PE_n (PS_no p8)) (fun t' s' g' em' => by cases em') (fun J9 m9 f9 p9 _ r9 => ⟨J9, L, R, rfl, ?_⟩)
        have e9 : m9 = none := by
          rcases r9 with r9 | ⟨t', s', g', em', -⟩
          · exact r9
          · cases em'
        subst e9
        refine ih J9 r none none (PX_F p9) (fun p j p1 p2 p3 => by rw [f9 p j p3, f8 p j p3]; exact fr7 p j p1 p2 p3) (fun _ => Or.inl rfl) (fun _ => Or.inl rfl)
      · rw [n1] at c30
        have p3 : pc + 1 ≠ 3 := fun y => c30 (en_ofI (by rw [c7, c3]; omega))
        obtain ⟨tk, sk, gk, emk, ek⟩ := hr.mp r1
        rw [em2] at emk
        obtain ⟨y1, y2, y3⟩ := mo_i emk
        subst y1; subst y2; subst y3
        refine x_join (k := 13) (t := t2) (g := g) (ad_part false) hT (Or.inr rfl) ek (by rw [a3]; exact htl) ms_13 (by rw [gs13]; exact ⟨by show g.alls ≤ 4; omega, by show g.parts + 1 ≤ 3; omega⟩) X7 (Or.inr em2) (fun J9 m9 f9 X9 r9 => ⟨J9, L, R, rfl, ?_⟩)
        refine ih J9 r m9 (o2.map (ad_part false)) X9 (fun p j p1 p2 p3 => by rw [f9 p j p3]; exact fr7 p j p1 p2 p3) (fun _ => ?_) (fun y => absurd y r1)
        rcases r9 with r9 | ⟨-, r9⟩
        · exact Or.inl r9
        · refine Or.inr ⟨t2 + 1, gc_st 26 13 g, r9, by omega, ?_⟩
          rw [gs13]
          refine ⟨a2, a3, a4, ?_, Nat.le_add_left 1 g.parts, ?_, fun a' ea => ?_⟩
          · show (J9 129 i).toInt + 1 = ((g.parts + 1 : Nat) : Int)
            rw [f9 129 i (by omega), c7]; omega
          · show 3 < g.parts + 1 + f
            omega
          · show Q ∧ rH s n q (g.parts + 1) (g.parts + 1 - 1) A a' J9
            obtain ⟨a2', eb, eb'⟩ := om (Or.inr rfl) ea
            obtain ⟨hq, R8⟩ := H7 a2' eb
            refine ⟨hq, ?_⟩
            rw [eb', hpc]
            exact rH_I (rH_and R8 n9 q4 (by omega) (hQ hq).2.1) n9 q4 (by omega) (fun q' hq => f9 129 _ (by omega)) (fun p j p1 p2 _ _ => f9 p j (by omega))
    · have nz : ¬ J2 107 13 = 0 := fun y => z2 (by rw [y]; decide)
      have em' := PS_n0 X2.1 nz
      refine h J2 m2 o2 X2 (fun p j p1 p2 p3 => ?_) (Or.inl em')
      rw [r2.1 p j (by omega) p3]; exact hfr p j p1 p2 p3
end
