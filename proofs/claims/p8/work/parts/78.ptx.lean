/-! two conditions of one run hold together -/
theorem sm_wp_and {P : Nat → sm_M} {S : sm_C} {d f b : Nat} {vs st : List Value} {w : sm_W} {cs : Nat × Nat} {Φ Ψ : sm_Z → Prop} (h : sm_wp P S d f b vs st w cs Φ) (g : sm_wp P S d f b vs st w cs Ψ) : sm_wp P S d f b vs st w cs (fun z => Φ z ∧ Ψ z) := by
  obtain ⟨n, z, h1, h2⟩ := h
  obtain ⟨m, y, g1, g2⟩ := g
  have a := sm_run_mono (Nat.le_max_left n m) h1
  have b := sm_run_mono (Nat.le_max_right n m) g1
  rw [a] at b
  have e : z = y := Option.some.inj b
  subst e
  exact ⟨n, z, h1, h2, g2⟩
/-- a TOKEN's kind is none of the end's -/
theorem tk_wd_r {y : Int64} : ∀ m i : Nat, i + m = 15 → 0 ≤ (tk_wd y m i).toInt ∧ (tk_wd y m i).toInt ≤ 15 := by
  intro m
  induction m with
  | zero => intro i _; exact (by decide : 0 ≤ (15 : Int32).toInt ∧ (15 : Int32).toInt ≤ 15)
  | succ m ih =>
    intro i h
    show 0 ≤ (if sm_words.getD i 0 = y then Int32.ofNat i else tk_wd y m (i + 1)).toInt ∧ (if sm_words.getD i 0 = y then Int32.ofNat i else tk_wd y m (i + 1)).toInt ≤ 15
    by_cases c : sm_words.getD i 0 = y
    · rw [if_pos c, Int32.toInt_ofNat_of_lt (by omega)]; omega
    · rw [if_neg c]; exact ih (i + 1) (by omega)
theorem tk_kd_r {b : Nat → Int32} {n p : Nat} : 0 ≤ (tk_kd b n p).toInt ∧ (tk_kd b n p).toInt ≤ 20 := by
  have c20 : 0 ≤ (20 : Int32).toInt ∧ (20 : Int32).toInt ≤ 20 := by decide
  have c16 : 0 ≤ (16 : Int32).toInt ∧ (16 : Int32).toInt ≤ 20 := by decide
  unfold tk_kd
  by_cases c : tk_le (b p) = true
  · rw [if_pos c]
    by_cases c8 : tk_end tk_le b n p - p ≤ 8
    · rw [if_pos c8]
      have := tk_wd_r (y := tk_cd tk_f8 b p (tk_end tk_le b n p - p)) 15 0 (by decide)
      omega
    · rw [if_neg c8]; exact c20
  · rw [if_neg c]
    by_cases c2 : tk_di (b p) = true
    · rw [if_pos c2]
      by_cases c4 : tk_end tk_di b n p - p ≤ 4
      · rw [if_pos c4]; exact c16
      · rw [if_neg c4]; exact c20
    · rw [if_neg c2]
      unfold tk_sg
      by_cases e1 : (b p).toInt = 45
      · rw [if_pos e1]; decide
      · rw [if_neg e1]
        by_cases e2 : (b p).toInt = 58
        · rw [if_pos e2]; decide
        · rw [if_neg e2]
          by_cases e3 : (b p).toInt = 59
          · rw [if_pos e3]; decide
          · rw [if_neg e3]; exact c20
theorem tk_K_21 {b : Nat → Int32} {n i : Nat} : tk_K b n i = 21 ↔ n ≤ tk_at b n i := by
  unfold tk_K
  by_cases c : tk_at b n i < n
  · rw [if_pos c]
    refine ⟨fun e => ?_, fun e => absurd c (by omega)⟩
    have := tk_kd_r (b := b) (n := n) (p := tk_at b n i)
    rw [e] at this
    exact absurd this.2 (by decide)
  · rw [if_neg c]
    exact ⟨fun _ => by omega, fun _ => rfl⟩
/-- the reference's kinds are those of the stream -/
theorem mt_K {b : Nat → Int32} {n c : Nat} {J : sm_I} {K : sm_L} (hr : mt_rows b n c J K) (hf : mt_fin b n c J) : ∀ i, i ≤ c → i ≤ 500 → J 110 i = kd_m.getD (tk_K b n i).toNatClampNeg 0 ∧ (J 111 i).toInt = tk_at b n i := by
  intro i hi h5
  rcases Nat.lt_or_ge i c with q | q
  · have r := hr i q
    unfold tk_K
    rw [if_pos r.1, ← kd_eq]
    exact ⟨r.2.1, r.2.2.1⟩
  · have e : i = c := by omega
    subst e
    rcases hf with f | f
    · omega
    · rw [tk_K_21.mpr (by omega), f.2.2.2.1, f.2.2.2.2, f.2.2.1]
      exact ⟨by decide, rfl⟩
