/-! THE LAW: at the start nothing is gone through -/
theorem lw_s1 {I : sm_I} {L : sm_L} {R : sm_R} (h : lw_I I L R) (z : sz (xLay, I, L, R)) : lw_J I L R := by
  have iz : ∀ {x : Int32}, x.toInt = 0 → x = 0 := fun e => en_ofI (by rw [e]; decide)
  have r : ∀ p n v, (p, n, v) ∈ sz_rows → ∀ j, j < n → (I p j).toInt = v := fun p n v h j hj => z.1 (p, n, v) h j hj
  have f : ∀ p j v, (p, j, v) ∈ sz_flds → (I p j).toInt = v := fun p j v h => z.2.1 (p, j, v) h
  refine ⟨h, GG_of h (fun qt qi l hrf => ⟨Or.inl (iz (f 0 12 0 (by decide))), Or.inl (iz (f 107 70 0 (by decide))), fun s c i h1 _ _ => ?_, fun k hk => ?_, fun q hq => ?_, fun k hk => ?_⟩)⟩
  · rw [r 125 2 0 (by decide) l (by have := hrf.2.1; omega)] at h1; omega
  · rw [r 134 2 0 (by decide) l (by have := hrf.2.1; omega)] at hk; omega
  · rw [r 136 2 0 (by decide) l (by have := hrf.2.1; omega)] at hq; omega
  · rw [f 107 54 0 (by decide)] at hk; omega
theorem klw_211 {Sc : sm_C} : ∀ (d : Nat), klc_211.2.2.2.2.2 ≤ d → ∀ (vs : List Value) (w : sm_W), en_pvs klc_211.2.1 vs → en_mem kl_tb klX w → sm_wp sm_P Sc d klc_211.1 0 vs [] w (0, 0) (fun z => z.2.2.2.1 = w.2.2.1) := by
  intro d hd vs w hv hm
  obtain ⟨lay, I, L, R⟩ := w
  obtain ⟨vs1, rfl, hv1⟩ := kl_vr (q := 0) rfl hv
  obtain ⟨x1, vs2, rfl, b1, hv2⟩ := kl_vi hv1
  obtain rfl := kl_v0 hv2
  obtain rfl : lay = xLay := hm.2.2.2.2.1
  show sm_wp sm_P Sc d 30 0 _ [] (xLay, I, L, R) (0, 0) _
  exact k0_back_0 ⟨fun _ => rfl, fun _ => ⟨fun _ _ _ => rfl, fun _ => rfl⟩⟩
theorem klk_211 {Sc : sm_C} : en_hold kl_tb2 klY sm_P Sc klc_211 := by
  intro d hd vs w hv hm hp
  have m := ky_dn hm
  have A := klh_211 (Sc := Sc) d hd vs w hv m hp
  have B := klw_211 (Sc := Sc) d hd vs w hv m
  refine sm_wp_mono (sm_wp_and A B) (fun z q => ?_)
  obtain ⟨⟨q1, q2, q3⟩, q4⟩ := q
  have nw : ∀ a b, ¬ (a = 0 ∧ b ≠ 9 ∧ b ≠ 12) → en_wok klc_211.2.2.2.2.1 a b = false := fun a b c => by
    by_cases e : a = 0
    · subst e
      rcases (by omega : b = 9 ∨ b = 12) with e | e <;> subst e <;> decide
    · cases u : en_wok klc_211.2.2.2.2.1 a b with
      | false => rfl
      | true =>
        obtain ⟨q, g1, g2⟩ := List.any_eq_true.mp u
        have g3 : q = (0, [10]) := List.mem_singleton.mp g1
        subst g3
        exact absurd (Nat.eq_of_beq_eq_true (Bool.and_eq_true_iff.mp g2).1).symm e
  exact ⟨q1, ky_up q2 (GK_cg (fun a b k => (q3.2 a b (nw a b (by omega))).1) (fun j => by rw [q4]) (q3.2 0 9 (nw 0 9 (by decide))).2 (q3.2 74 4 (nw 74 4 (by decide))).2 (ky_gk hm)), q3⟩

