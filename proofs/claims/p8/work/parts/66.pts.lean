/-! the class's scanner: words, runs, one TOKEN, all TOKENS -/
theorem tk_nat {x : Int32} {p : Nat} (h : x.toInt = p) : x.toNatClampNeg = p := by
  have := kl_nat (i := x) (by omega)
  omega
theorem tk_if (c : Bool) : ((if c = true then (1 : Int32) else 0) = 0) ↔ c = false := by cases c <;> decide
theorem tk_lg {x y : Int64} : lg_cmp x y = 0 ↔ x = y := by
  unfold lg_cmp
  constructor
  · intro h
    split at h
    · exact absurd h (by decide)
    · split at h
      · assumption
      · exact absurd h (by decide)
  · intro h
    subst h
    simp
theorem ks_word {S : sm_C} {d q : Nat} {Φ : sm_Z → Prop} {I : sm_I} {L : sm_L} {R : sm_R} {y : Int64} : ∀ (m i : Nat) (x2 : Int32), x2.toInt = i → i + m = 15 → Φ (some (.int (tk_wd y m i)), (xLay, I, L, kT q R)) → sm_wp sm_P S d 304 1 [.long y, .int x2] [] (xLay, I, L, kT q R) (0, 0) Φ := by
  have w15 : (Int32.ofNat sm_words.length).toInt = 15 := by decide
  have l15 : sm_words.length = 15 := rfl
  intro m
  induction m with
  | zero =>
    intro i x2 hx hm h
    refine t_X9_wordOrName_1 ⟨fun _ => h, fun a => ?_⟩
    have := kl_nle a
    omega
  | succ m ih =>
    intro i x2 hx hm h
    have np := tk_nat hx
    refine t_X9_wordOrName_1 ⟨fun a => ?_, fun _ => ⟨kl_in (by omega) (by omega), fun e => ?_, fun e => ?_⟩⟩
    · have := kl_le.mp a
      omega
    · have e := tk_lg.mp e
      rw [np] at e
      have h : Φ (some (.int (if sm_words.getD i 0 = y then Int32.ofNat i else tk_wd y m (i + 1))), (xLay, I, L, kT q R)) := h
      rw [if_pos e] at h
      have : x2 = Int32.ofNat i := en_ofI (by rw [hx, Int32.toInt_ofNat_of_lt (by omega)])
      rw [this]; exact h
    · have e : ¬ sm_words.getD i 0 = y := fun c => e (tk_lg.mpr (by rw [np]; exact c))
      have h : Φ (some (.int (if sm_words.getD i 0 = y then Int32.ofNat i else tk_wd y m (i + 1))), (xLay, I, L, kT q R)) := h
      rw [if_neg e] at h
      have s := ml_in1 (x := x2) (by omega)
      exact ih (i + 1) _ (by omega) (by omega) h
theorem ks_eol {S : sm_C} {d q : Nat} {Φ : sm_Z → Prop} {I : sm_I} {L : sm_L} {R : sm_R} {x2 : Int32} {n e : Nat} (hn : n ≤ 2000) (h2 : x2.toInt = n) (h : ∀ r : Int32, r.toInt = e → Φ (some (.int r), (xLay, I, L, kT q R))) : ∀ (m p : Nat) (x3 : Int32), x3.toInt = p → tk_end tk_le (I 1) n p = e → n - p < m → sm_wp sm_P S (d + 1) 296 1 [.ref 1, .int x2, .int x3] [] (xLay, I, L, kT q R) (0, 0) Φ := by
  intro m
  induction m with
  | zero => intro p x3 _ _ hM; omega
  | succ m ih =>
    intro p x3 hx he hM
    have np := tk_nat hx
    refine t_X9_endOfLetters_1 ⟨fun a => h x3 ?_, fun a => ⟨?_, ks_isLetter ⟨_, I, L, rfl, fun c => h x3 ?_, fun c => ?_⟩⟩⟩
    · have := kl_le.mp a
      rw [tk_end_n (by omega)] at he; omega
    · have := kl_nle a
      exact kl_in (by omega) (by omega)
    · rw [np] at c
      have c := (tk_if _).mp c
      rw [tk_end_n (by rw [c]; simp)] at he; omega
    · have a := kl_nle a
      rw [np, tk_if] at c
      have s := ml_in1 (x := x3) (by omega)
      rw [tk_end_s (by omega) (by simpa using c)] at he
      exact ih (p + 1) _ (by omega) he (by omega)
theorem ks_eod {S : sm_C} {d q : Nat} {Φ : sm_Z → Prop} {I : sm_I} {L : sm_L} {R : sm_R} {x2 : Int32} {n e : Nat} (hn : n ≤ 2000) (h2 : x2.toInt = n) (h : ∀ r : Int32, r.toInt = e → Φ (some (.int r), (xLay, I, L, kT q R))) : ∀ (m p : Nat) (x3 : Int32), x3.toInt = p → tk_end tk_di (I 1) n p = e → n - p < m → sm_wp sm_P S (d + 1) 295 1 [.ref 1, .int x2, .int x3] [] (xLay, I, L, kT q R) (0, 0) Φ := by
  intro m
  induction m with
  | zero => intro p x3 _ _ hM; omega
  | succ m ih =>
    intro p x3 hx he hM
    have np := tk_nat hx
    refine t_X9_endOfDigits_1 ⟨fun a => h x3 ?_, fun a => ⟨?_, ks_isDigit ⟨_, I, L, rfl, fun c => h x3 ?_, fun c => ?_⟩⟩⟩
    · have := kl_le.mp a
      rw [tk_end_n (by omega)] at he; omega
    · have := kl_nle a
      exact kl_in (by omega) (by omega)
    · rw [np] at c
      have c := (tk_if _).mp c
      rw [tk_end_n (by rw [c]; simp)] at he; omega
    · have a := kl_nle a
      rw [np, tk_if] at c
      have s := ml_in1 (x := x3) (by omega)
      rw [tk_end_s (by omega) (by simpa using c)] at he
      exact ih (p + 1) _ (by omega) he (by omega)
theorem tk_sub {x y : Int32} {e p : Nat} (hx : x.toInt = e) (hy : y.toInt = p) (h : p ≤ e) (h2 : e ≤ 2000) : (x - y).toInt = ((e - p : Nat) : Int) := by
  have q : (x - y).toInt = x.toInt - y.toInt := by
    rw [Int32.toInt_sub]; exact en_bmod (by omega) (by omega) (Or.inl rfl)
  rw [q, hx, hy]; omega
theorem ks_let {S : sm_C} {d q : Nat} {Φ : sm_Z → Prop} {I : sm_I} {L : sm_L} {R : sm_R} {x2 x4 : Int32} {b : Nat → Int32} {p e c : Nat} (hb : I 1 = b) (hc : (I 3 3).toInt = c) (c5 : c ≤ 500) (hp : x2.toInt = p) (he : x4.toInt = e) (pe : p ≤ e) (e2 : e ≤ 2000) (h : ∀ (J : sm_I) (Lj : sm_L), J = sm_up (sm_up I 4 c (if e - p ≤ 8 then tk_wd (tk_cd tk_f8 b p (e - p)) 15 0 else 20)) 3 3 (I 3 3 + 1) → Lj = sm_up L 6 c (tk_cd tk_f8 b p (e - p)) → Φ (some (.int x4), (xLay, J, Lj, kT q R))) : ∀ (m k : Nat) (x7 : Int32) (y5 : Int64), x7.toInt = ((p + k : Nat) : Int) → y5 = tk_cd tk_f8 b p k → p + k ≤ e → e - (p + k) < m → sm_wp sm_P S (d + 1) 302 2 [.ref 3, .ref 1, .int x2, .int x4, .long y5, .int x7] [] (xLay, I, L, kT q R) (0, 0) Φ := by
  have nc := tk_nat hc
  have c8 : (8 : Int32).toInt = 8 := by decide
  intro m
  induction m with
  | zero => intro k x7 y5 _ _ _ hM; omega
  | succ m ih =>
    intro k x7 y5 hx hy hk hM
    have np := tk_nat hx
    refine t_X9_scanOne_2 ⟨fun a => ?_, fun a => ?_⟩
    · have a := kl_le.mp a
      have ek : k = e - p := by omega
      subst ek
      subst hy
      have sb := tk_sub he hp pe e2
      have v : vp_in (I 3 3) 502 := kl_in (by omega) (by omega)
      refine ⟨fun g => ?_, fun g => ?_⟩
      · have g := kl_le.mp g
        rw [sb, c8] at g
        refine t_X9_wordOrName_0 (ks_word 15 0 0 (by decide) (by decide) ⟨_, I, L, rfl, v, fun I4 e4 => ?_⟩)
        rw [nc] at e4
        have g4 : I4 3 3 = I 3 3 := by rw [e4, en_up_ne _ _ _ _ (by omega)]
        rw [g4]
        refine ⟨v, fun L5 e5 I6 e6 => h I6 L5 ?_ ?_⟩
        · rw [e6, e4, if_pos (by omega)]
        · rw [e5, nc]
      · have g := kl_nle g
        rw [sb, c8] at g
        refine ⟨v, fun I4 e4 => ?_⟩
        rw [nc] at e4
        have g4 : I4 3 3 = I 3 3 := by rw [e4, en_up_ne _ _ _ _ (by omega)]
        rw [g4]
        refine ⟨v, fun L5 e5 I6 e6 => h I6 L5 ?_ ?_⟩
        · rw [e6, e4, if_neg (by omega)]
        · rw [e5, nc]
    · have a := kl_nle a
      have s := ml_in1 (x := x7) (by omega)
      refine ⟨kl_in (by omega) (by omega), fun n12 en => ih (k + 1) _ n12 (by omega) ?_ (by omega) (by omega)⟩
      rw [en, hy, np, hb]
      rfl
theorem ks_dig {S : sm_C} {d q : Nat} {Φ : sm_Z → Prop} {I : sm_I} {L : sm_L} {R : sm_R} {x2 x4 : Int32} {b : Nat → Int32} {p e c : Nat} (hb : I 1 = b) (hc : (I 3 3).toInt = c) (c5 : c ≤ 500) (hp : x2.toInt = p) (he : x4.toInt = e) (pe : p ≤ e) (e2 : e ≤ 2000) (h : ∀ (J : sm_I) (Lj : sm_L), J = sm_up (sm_up I 4 c (if e - p ≤ 4 then 16 else 20)) 3 3 (I 3 3 + 1) → Lj = sm_up L 6 c (tk_cd tk_f10 b p (e - p)) → Φ (some (.int x4), (xLay, J, Lj, kT q R))) : ∀ (m k : Nat) (x7 : Int32) (y5 : Int64), x7.toInt = ((p + k : Nat) : Int) → y5 = tk_cd tk_f10 b p k → p + k ≤ e → e - (p + k) < m → sm_wp sm_P S (d + 1) 302 10 [.ref 3, .ref 1, .int x2, .int x4, .long y5, .int x7] [] (xLay, I, L, kT q R) (0, 0) Φ := by
  have nc := tk_nat hc
  have c4 : (4 : Int32).toInt = 4 := by decide
  intro m
  induction m with
  | zero => intro k x7 y5 _ _ _ hM; omega
  | succ m ih =>
    intro k x7 y5 hx hy hk hM
    have np := tk_nat hx
    refine t_X9_scanOne_10 ⟨fun a => ?_, fun a => ?_⟩
    · have a := kl_le.mp a
      have ek : k = e - p := by omega
      subst ek
      subst hy
      have sb := tk_sub he hp pe e2
      have v : vp_in (I 3 3) 502 := kl_in (by omega) (by omega)
      refine ⟨fun g => ⟨v, fun I4 e4 => ?_⟩, fun g => ⟨v, fun I4 e4 => ?_⟩⟩
      · have g := kl_le.mp g
        rw [sb, c4] at g
        rw [nc] at e4
        have g4 : I4 3 3 = I 3 3 := by rw [e4, en_up_ne _ _ _ _ (by omega)]
        rw [g4]
        refine ⟨v, fun L5 e5 I6 e6 => h I6 L5 ?_ ?_⟩
        · rw [e6, e4, if_pos (by omega)]
        · rw [e5, nc]
      · have g := kl_nle g
        rw [sb, c4] at g
        rw [nc] at e4
        have g4 : I4 3 3 = I 3 3 := by rw [e4, en_up_ne _ _ _ _ (by omega)]
        rw [g4]
        refine ⟨v, fun L5 e5 I6 e6 => h I6 L5 ?_ ?_⟩
        · rw [e6, e4, if_neg (by omega)]
        · rw [e5, nc]
    · have a := kl_nle a
      have s := ml_in1 (x := x7) (by omega)
      refine ⟨kl_in (by omega) (by omega), fun n12 en => ih (k + 1) _ n12 (by omega) ?_ (by omega) (by omega)⟩
      rw [en, hy, np, hb]
      rfl
