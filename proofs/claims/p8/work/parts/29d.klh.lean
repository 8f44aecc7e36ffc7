/-! the contracts by hand -/
theorem kl_vr {p : Int} {q : Nat} {ts : List en_Fd} {vs : List Value} (e : p = (q : Int)) (h : en_pvs ((2, p, 0) :: ts) vs) : ∃ r, vs = .ref q :: r ∧ en_pvs ts r := by
  cases vs with
  | nil => exact h.elim
  | cons v r =>
    refine ⟨r, ?_, h.2⟩
    have a := h.1
    cases v with
    | ref x =>
      have : (q : Int) = (x : Int) := e.symm.trans a.2
      have : q = x := by omega
      rw [this]
    | int x => exact absurd (show (2 : Nat) = 0 from a.1) (by decide)
    | long x => exact absurd (show (2 : Nat) = 5 from a) (by decide)
    | null => exact absurd (show (2 : Nat) = 1 from a) (by decide)
    | _ => exact a.elim
theorem kl_vi {lo hi : Int} {ts : List en_Fd} {vs : List Value} (h : en_pvs ((0, lo, hi) :: ts) vs) : ∃ x r, vs = .int x :: r ∧ (lo ≤ x.toInt ∧ x.toInt ≤ hi) ∧ en_pvs ts r := by
  cases vs with
  | nil => exact h.elim
  | cons v r =>
    have a := h.1
    cases v with
    | int x => exact ⟨x, r, rfl, a.2, h.2⟩
    | ref x => exact absurd (show (0 : Nat) = 2 from a.1) (by decide)
    | long x => exact absurd (show (0 : Nat) = 5 from a) (by decide)
    | null => exact absurd (show (0 : Nat) = 1 from a) (by decide)
    | _ => exact a.elim
theorem kl_v0 {vs : List Value} (h : en_pvs [] vs) : vs = [] := by
  cases vs with
  | nil => rfl
  | cons v r => exact h.elim
theorem kl_ref {w : sm_W} (hm : en_mem kl_tb klX w) {p j q : Nat} (e : en_refs kl_tb p j = [q]) : w.2.2.2 p j = some q := by
  obtain ⟨r, h1, h2⟩ := hm.2.2.1 p j (by rw [e]; exact List.cons_ne_nil _ _)
  rw [e] at h1
  rw [h2, List.mem_singleton.mp h1]
theorem kl_full {a n : Nat} (h : ∀ j, en_int kl_tb a j = bif Nat.blt j n then some (-2147483648, 2147483647) else none) : ∀ j q, en_int kl_tb a j = some q → q = (-2147483648, 2147483647) := by
  intro j q hq
  rw [h j] at hq
  cases e : Nat.blt j n with
  | true => rw [e] at hq; exact (Option.some.inj hq).symm
  | false => rw [e] at hq; cases hq
theorem kl_fr_bl {P M S A B : Nat} {lay : List (Nat × Nat)} {I I' : sm_I} {L L' : sm_L} {R : sm_R} (ho : kl_bl P M S A B I I') : en_fr [(P, [4, 5]), (M, []), (S, []), (A, []), (B, [])] (lay, I, L, R) (lay, I', L', R) := by
  refine ⟨rfl, fun p j h => ⟨?_, rfl⟩⟩
  refine ho p j (fun e => ?_) (fun e => ?_) (fun e => ?_) (fun e => ?_) (fun e => ?_)
  · subst e; simp [en_wok] at h
  · subst e; simp [en_wok] at h
  · subst e; simp [en_wok] at h
  · subst e; simp [en_wok] at h
  · obtain ⟨e, e2⟩ := e
    subst e
    rcases e2 with e2 | e2 <;> · subst e2; simp [en_wok] at h
/-! the net 75 -/
theorem m75_R {w : sm_W} (hm : en_mem kl_tb klX w) : kR 75 w.2.2.2 = w.2.2.2 := kR_eq (fun j hj => by
  have : j = 0 ∨ j = 1 ∨ j = 2 ∨ j = 3 := by omega
  rcases this with e | e | e | e <;> subst e
  · exact kl_ref hm (by decide +kernel)
  · exact kl_ref hm (by decide +kernel)
  · exact kl_ref hm (by decide +kernel)
  · exact kl_ref hm (by decide +kernel))
theorem m75_X {w : sm_W} (hm : en_mem kl_tb klX w) : kl_net w.2.1 75 77 := hm.2.2.2.2.2.1
theorem m75_w {w : sm_W} (hm : en_mem kl_tb klX w) : 1 ≤ (w.2.1 75 4).toInt ∧ (w.2.1 75 4).toInt ≤ 11 := hm.2.1 75 4 (1, 11) (by decide +kernel)
theorem m75_nb {w : sm_W} (hm : en_mem kl_tb klX w) : kl_nb w.2.1 75 := by
  have a := m75_w hm
  exact ⟨a.1, by omega, (m75_X hm).1⟩
theorem m75_S {w : sm_W} (hm : en_mem kl_tb klX w) (t : Nat) (ht : t < 11) : 0 ≤ (w.2.1 77 t).toInt ∧ (w.2.1 77 t).toInt ≤ 11 - 1 := by
  have e : en_int kl_tb 77 t = bif Nat.blt t 11 then some (0, 11 - 1) else none := rfl
  have b : Nat.blt t 11 = true := by rw [Nat.blt]; exact Nat.ble_eq_true_of_le ht
  rw [b] at e
  exact hm.2.1 77 t _ e
theorem m75_mem {I I' : sm_I} {L L' : sm_L} {R : sm_R} (hm : en_mem kl_tb klX (xLay, I, L, R)) (hb : kl_bl 75 76 77 78 79 I I') (hn : kl_nb I' 75) (hw : (I' 75 4).toInt ≤ 11) (hs : ∀ t : Nat, (t : Int) < (I' 75 4).toInt → 0 ≤ (I' 77 t).toInt ∧ (I' 77 t).toInt < (I' 75 4).toInt) (h2 : ∀ t : Nat, t < 11 → 0 ≤ (I' 77 t).toInt ∧ (I' 77 t).toInt ≤ 11 - 1) (hL : ∀ j, L' 114 j = L 114 j := by intro _; rfl) : en_mem kl_tb klX (xLay, I', L', R) := by
  have q := kl_nbA hn
  have q2 : (I' 75 5).toInt ≤ 11 * 11 := by
    rw [hn.2.2]; exact Int.mul_le_mul hw hw (by have := hn.1; omega) (by decide)
  refine ⟨hm.1, ?_, hm.2.2.1, hm.2.2.2.1, ⟨rfl, ?_⟩⟩
  · intro p j r hr
    show r.1 ≤ (I' p j).toInt ∧ (I' p j).toInt ≤ r.2
    by_cases e1 : p = 76
    · subst e1; rw [kl_full (a := 76) (n := 7381) (fun _ => rfl) j r hr]; exact en_crange
    by_cases e3 : p = 78
    · subst e3; rw [kl_full (a := 78) (n := 11) (fun _ => rfl) j r hr]; exact en_crange
    by_cases e4 : p = 79
    · subst e4; rw [kl_full (a := 79) (n := 11) (fun _ => rfl) j r hr]; exact en_crange
    by_cases e2 : p = 77
    · subst e2
      have e : en_int kl_tb 77 j = bif Nat.blt j 11 then some (0, 11 - 1) else none := rfl
      cases b : Nat.blt j 11 with
      | true =>
        rw [e, b] at hr
        have : r = (0, 11 - 1) := (Option.some.inj hr).symm
        rw [this]
        exact h2 j (Nat.le_of_ble_eq_true b)
      | false => rw [e, b] at hr; cases hr
    by_cases e5 : p = 75 ∧ (j = 4 ∨ j = 5)
    · obtain ⟨e5, e6⟩ := e5
      subst e5
      rcases e6 with e6 | e6
      · subst e6
        have e : en_int kl_tb 75 4 = some (1, 11) := by decide +kernel
        rw [e] at hr
        rw [← Option.some.inj hr]
        exact ⟨hn.1, hw⟩
      · subst e6
        have e : en_int kl_tb 75 5 = some (1, 11 * 11) := by decide +kernel
        rw [e] at hr
        rw [← Option.some.inj hr]
        exact ⟨q.1, q2⟩
    rw [hb p j e1 e2 e3 e4 e5]
    exact hm.2.1 p j r hr
  · have own : kl_net I' 75 77 := ⟨hn.2.2, hs⟩
    have oth : ∀ p q : Nat, p ≠ 75 → (p ≠ 76 ∧ p ≠ 77 ∧ p ≠ 78 ∧ p ≠ 79) → (q ≠ 76 ∧ q ≠ 77 ∧ q ≠ 78 ∧ q ≠ 79 ∧ q ≠ 75) → kl_net I p q → kl_net I' p q := fun p q h0 h1 h2 h => kl_net_cg (hb p 4 h1.1 h1.2.1 h1.2.2.1 h1.2.2.2 (fun e => h0 e.1)) (hb p 5 h1.1 h1.2.1 h1.2.2.1 h1.2.2.2 (fun e => h0 e.1)) (fun i => hb q i h2.1 h2.2.1 h2.2.2.1 h2.2.2.2.1 (fun e => h2.2.2.2.2 e.1)) h
    exact ⟨own, oth 83 85 (by decide) (by decide) (by decide) hm.2.2.2.2.2.2.1, oth 91 93 (by decide) (by decide) (by decide) hm.2.2.2.2.2.2.2.1, pk_cg hL hm.2.2.2.2.2.2.2.2⟩
theorem klh_0 {Sc : sm_C} : en_hold kl_tb klX sm_P Sc klc_0 := by
  intro d hd vs w hv hm _
  obtain ⟨lay, I, L, R⟩ := w
  obtain ⟨vs1, rfl, hv1⟩ := kl_vr (q := 75) rfl hv
  obtain ⟨x1, vs2, rfl, b1, hv2⟩ := kl_vi hv1
  obtain ⟨x2, vs3, rfl, b2, hv3⟩ := kl_vi hv2
  obtain ⟨x3, vs4, rfl, b3, hv4⟩ := kl_vi hv3
  obtain ⟨x4, vs5, rfl, b4, hv5⟩ := kl_vi hv4
  obtain rfl := kl_v0 hv5
  obtain rfl : lay = xLay := hm.2.2.2.2.1
  have e : kR 75 R = R := m75_R hm
  obtain ⟨d, rfl⟩ : ∃ d', d = d' + 1 := ⟨d - 1, by have : 2 ≤ d := hd; omega⟩
  show sm_wp sm_P Sc (d + 1) 256 0 _ [] (xLay, I, L, R) (0, 0) _
  rw [← e]
  refine n75_tighten (m75_nb hm) (m75_w hm).2 (m75_X hm) b1.2 (fun r I' hr o => ?_)
  rw [e]
  refine ⟨Or.inl ⟨rfl, ?_⟩, kl_mem_only hm o (kl_full (n := 7381) (fun _ => rfl)) (by decide), kl_fr_only o⟩
  rcases hr with hr | hr <;> subst hr <;> decide
theorem klh_2 {Sc : sm_C} : en_hold kl_tb klX sm_P Sc klc_2 := by
  intro d hd vs w hv hm _
  obtain ⟨lay, I, L, R⟩ := w
  obtain ⟨vs1, rfl, hv1⟩ := kl_vr (q := 75) rfl hv
  obtain ⟨x1, vs2, rfl, b1, hv2⟩ := kl_vi hv1
  obtain rfl := kl_v0 hv2
  obtain rfl : lay = xLay := hm.2.2.2.2.1
  have e : kR 75 R = R := m75_R hm
  obtain ⟨d, rfl⟩ : ∃ d', d = d' + 1 := ⟨d - 1, by have : 2 ≤ d := hd; omega⟩
  show sm_wp sm_P Sc (d + 1) 248 0 _ [] (xLay, I, L, R) (0, 0) _
  rw [← e]
  refine n75_copyUp (m75_nb hm) b1.2 (fun I' o => ?_)
  rw [e]
  exact ⟨rfl, kl_mem_only hm o (kl_full (n := 7381) (fun _ => rfl)) (by decide), kl_fr_only o⟩
theorem klh_20 {Sc : sm_C} : en_hold kl_tb klX sm_P Sc klc_20 := by
  intro d hd vs w hv hm _
  obtain ⟨lay, I, L, R⟩ := w
  obtain ⟨vs1, rfl, hv1⟩ := kl_vr (q := 75) rfl hv
  obtain ⟨x1, vs2, rfl, b1, hv2⟩ := kl_vi hv1
  obtain ⟨x2, vs3, rfl, b2, hv3⟩ := kl_vi hv2
  obtain ⟨x3, vs4, rfl, b3, hv4⟩ := kl_vi hv3
  obtain rfl := kl_v0 hv4
  obtain rfl : lay = xLay := hm.2.2.2.2.1
  have e : kR 75 R = R := m75_R hm
  obtain ⟨d, rfl⟩ : ∃ d', d = d' + 1 := ⟨d - 1, by have : 2 ≤ d := hd; omega⟩
  show sm_wp sm_P Sc (d + 1) 255 0 _ [] (xLay, I, L, R) (0, 0) _
  rw [← e]
  refine n75_reach (m75_nb hm) b1.2 (fun r => ?_)
  rw [e]
  exact ⟨Or.inl ⟨rfl, en_crange⟩, hm, en_fr_rf⟩
theorem klh_86 {Sc : sm_C} : en_hold kl_tb klX sm_P Sc klc_86 := by
  intro d hd vs w hv hm _
  obtain ⟨lay, I, L, R⟩ := w
  obtain ⟨vs1, rfl, hv1⟩ := kl_vr (q := 75) rfl hv
  obtain ⟨x1, vs2, rfl, b1, hv2⟩ := kl_vi hv1
  obtain rfl := kl_v0 hv2
  obtain rfl : lay = xLay := hm.2.2.2.2.1
  have e : kR 75 R = R := m75_R hm
  show sm_wp sm_P Sc d 247 0 _ [] (xLay, I, L, R) (0, 0) _
  rw [← e]
  refine n75_blank (m75_S hm) ?_ (fun I' hb hn hw hs h2 => ?_)
  · rw [e]; exact ⟨rfl, hm, en_fr_rf⟩
  · rw [e]; exact ⟨rfl, m75_mem hm hb hn hw hs h2, kl_fr_bl hb⟩
/-! the net 83 -/
theorem m83_R {w : sm_W} (hm : en_mem kl_tb klX w) : kR 83 w.2.2.2 = w.2.2.2 := kR_eq (fun j hj => by
  have : j = 0 ∨ j = 1 ∨ j = 2 ∨ j = 3 := by omega
  rcases this with e | e | e | e <;> subst e
  · exact kl_ref hm (by decide +kernel)
  · exact kl_ref hm (by decide +kernel)
  · exact kl_ref hm (by decide +kernel)
  · exact kl_ref hm (by decide +kernel))
theorem m83_X {w : sm_W} (hm : en_mem kl_tb klX w) : kl_net w.2.1 83 85 := hm.2.2.2.2.2.2.1
theorem m83_w {w : sm_W} (hm : en_mem kl_tb klX w) : 1 ≤ (w.2.1 83 4).toInt ∧ (w.2.1 83 4).toInt ≤ 11 := hm.2.1 83 4 (1, 11) (by decide +kernel)
theorem m83_nb {w : sm_W} (hm : en_mem kl_tb klX w) : kl_nb w.2.1 83 := by
  have a := m83_w hm
  exact ⟨a.1, by omega, (m83_X hm).1⟩
theorem m83_S {w : sm_W} (hm : en_mem kl_tb klX w) (t : Nat) (ht : t < 11) : 0 ≤ (w.2.1 85 t).toInt ∧ (w.2.1 85 t).toInt ≤ 11 - 1 := by
  have e : en_int kl_tb 85 t = bif Nat.blt t 11 then some (0, 11 - 1) else none := rfl
  have b : Nat.blt t 11 = true := by rw [Nat.blt]; exact Nat.ble_eq_true_of_le ht
  rw [b] at e
  exact hm.2.1 85 t _ e
theorem m83_mem {I I' : sm_I} {L L' : sm_L} {R : sm_R} (hm : en_mem kl_tb klX (xLay, I, L, R)) (hb : kl_bl 83 84 85 86 87 I I') (hn : kl_nb I' 83) (hw : (I' 83 4).toInt ≤ 11) (hs : ∀ t : Nat, (t : Int) < (I' 83 4).toInt → 0 ≤ (I' 85 t).toInt ∧ (I' 85 t).toInt < (I' 83 4).toInt) (h2 : ∀ t : Nat, t < 11 → 0 ≤ (I' 85 t).toInt ∧ (I' 85 t).toInt ≤ 11 - 1) (hL : ∀ j, L' 114 j = L 114 j := by intro _; rfl) : en_mem kl_tb klX (xLay, I', L', R) := by
  have q := kl_nbA hn
  have q2 : (I' 83 5).toInt ≤ 11 * 11 := by
    rw [hn.2.2]; exact Int.mul_le_mul hw hw (by have := hn.1; omega) (by decide)
  refine ⟨hm.1, ?_, hm.2.2.1, hm.2.2.2.1, ⟨rfl, ?_⟩⟩
  · intro p j r hr
    show r.1 ≤ (I' p j).toInt ∧ (I' p j).toInt ≤ r.2
    by_cases e1 : p = 84
    · subst e1; rw [kl_full (a := 84) (n := 6776) (fun _ => rfl) j r hr]; exact en_crange
    by_cases e3 : p = 86
    · subst e3; rw [kl_full (a := 86) (n := 11) (fun _ => rfl) j r hr]; exact en_crange
    by_cases e4 : p = 87
    · subst e4; rw [kl_full (a := 87) (n := 11) (fun _ => rfl) j r hr]; exact en_crange
    by_cases e2 : p = 85
    · subst e2
      have e : en_int kl_tb 85 j = bif Nat.blt j 11 then some (0, 11 - 1) else none := rfl
      cases b : Nat.blt j 11 with
      | true =>
        rw [e, b] at hr
        have : r = (0, 11 - 1) := (Option.some.inj hr).symm
        rw [this]
        exact h2 j (Nat.le_of_ble_eq_true b)
      | false => rw [e, b] at hr; cases hr
    by_cases e5 : p = 83 ∧ (j = 4 ∨ j = 5)
    · obtain ⟨e5, e6⟩ := e5
      subst e5
      rcases e6 with e6 | e6
      · subst e6
        have e : en_int kl_tb 83 4 = some (1, 11) := by decide +kernel
        rw [e] at hr
        rw [← Option.some.inj hr]
        exact ⟨hn.1, hw⟩
      · subst e6
        have e : en_int kl_tb 83 5 = some (1, 11 * 11) := by decide +kernel
        rw [e] at hr
        rw [← Option.some.inj hr]
        exact ⟨q.1, q2⟩
    rw [hb p j e1 e2 e3 e4 e5]
    exact hm.2.1 p j r hr
  · have own : kl_net I' 83 85 := ⟨hn.2.2, hs⟩
    have oth : ∀ p q : Nat, p ≠ 83 → (p ≠ 84 ∧ p ≠ 85 ∧ p ≠ 86 ∧ p ≠ 87) → (q ≠ 84 ∧ q ≠ 85 ∧ q ≠ 86 ∧ q ≠ 87 ∧ q ≠ 83) → kl_net I p q → kl_net I' p q := fun p q h0 h1 h2 h => kl_net_cg (hb p 4 h1.1 h1.2.1 h1.2.2.1 h1.2.2.2 (fun e => h0 e.1)) (hb p 5 h1.1 h1.2.1 h1.2.2.1 h1.2.2.2 (fun e => h0 e.1)) (fun i => hb q i h2.1 h2.2.1 h2.2.2.1 h2.2.2.2.1 (fun e => h2.2.2.2.2 e.1)) h
    exact ⟨oth 75 77 (by decide) (by decide) (by decide) hm.2.2.2.2.2.1, own, oth 91 93 (by decide) (by decide) (by decide) hm.2.2.2.2.2.2.2.1, pk_cg hL hm.2.2.2.2.2.2.2.2⟩
theorem klh_90 {Sc : sm_C} : en_hold kl_tb klX sm_P Sc klc_90 := by
  intro d hd vs w hv hm _
  obtain ⟨lay, I, L, R⟩ := w
  obtain ⟨vs1, rfl, hv1⟩ := kl_vr (q := 83) rfl hv
  obtain ⟨x1, vs2, rfl, b1, hv2⟩ := kl_vi hv1
  obtain ⟨x2, vs3, rfl, b2, hv3⟩ := kl_vi hv2
  obtain ⟨x3, vs4, rfl, b3, hv4⟩ := kl_vi hv3
  obtain ⟨x4, vs5, rfl, b4, hv5⟩ := kl_vi hv4
  obtain rfl := kl_v0 hv5
  obtain rfl : lay = xLay := hm.2.2.2.2.1
  have e : kR 83 R = R := m83_R hm
  obtain ⟨d, rfl⟩ : ∃ d', d = d' + 1 := ⟨d - 1, by have : 2 ≤ d := hd; omega⟩
  show sm_wp sm_P Sc (d + 1) 256 0 _ [] (xLay, I, L, R) (0, 0) _
  rw [← e]
  refine n83_tighten (m83_nb hm) (m83_w hm).2 (m83_X hm) b1.2 (fun r I' hr o => ?_)
  rw [e]
  refine ⟨Or.inl ⟨rfl, ?_⟩, kl_mem_only hm o (kl_full (n := 6776) (fun _ => rfl)) (by decide), kl_fr_only o⟩
  rcases hr with hr | hr <;> subst hr <;> decide
theorem klh_105 {Sc : sm_C} : en_hold kl_tb klX sm_P Sc klc_105 := by
  intro d hd vs w hv hm _
  obtain ⟨lay, I, L, R⟩ := w
  obtain ⟨vs1, rfl, hv1⟩ := kl_vr (q := 83) rfl hv
  obtain ⟨x1, vs2, rfl, b1, hv2⟩ := kl_vi hv1
  obtain rfl := kl_v0 hv2
  obtain rfl : lay = xLay := hm.2.2.2.2.1
  have e : kR 83 R = R := m83_R hm
  obtain ⟨d, rfl⟩ : ∃ d', d = d' + 1 := ⟨d - 1, by have : 2 ≤ d := hd; omega⟩
  show sm_wp sm_P Sc (d + 1) 248 0 _ [] (xLay, I, L, R) (0, 0) _
  rw [← e]
  refine n83_copyUp (m83_nb hm) b1.2 (fun I' o => ?_)
  rw [e]
  exact ⟨rfl, kl_mem_only hm o (kl_full (n := 6776) (fun _ => rfl)) (by decide), kl_fr_only o⟩
theorem klh_113 {Sc : sm_C} : en_hold kl_tb klX sm_P Sc klc_113 := by
  intro d hd vs w hv hm _
  obtain ⟨lay, I, L, R⟩ := w
  obtain ⟨vs1, rfl, hv1⟩ := kl_vr (q := 83) rfl hv
  obtain ⟨x1, vs2, rfl, b1, hv2⟩ := kl_vi hv1
  obtain ⟨x2, vs3, rfl, b2, hv3⟩ := kl_vi hv2
  obtain ⟨x3, vs4, rfl, b3, hv4⟩ := kl_vi hv3
  obtain rfl := kl_v0 hv4
  obtain rfl : lay = xLay := hm.2.2.2.2.1
  have e : kR 83 R = R := m83_R hm
  obtain ⟨d, rfl⟩ : ∃ d', d = d' + 1 := ⟨d - 1, by have : 2 ≤ d := hd; omega⟩
  show sm_wp sm_P Sc (d + 1) 255 0 _ [] (xLay, I, L, R) (0, 0) _
  rw [← e]
  refine n83_reach (m83_nb hm) b1.2 (fun r => ?_)
  rw [e]
  exact ⟨Or.inl ⟨rfl, en_crange⟩, hm, en_fr_rf⟩
theorem klh_92 {Sc : sm_C} : en_hold kl_tb klX sm_P Sc klc_92 := by
  intro d hd vs w hv hm _
  obtain ⟨lay, I, L, R⟩ := w
  obtain ⟨vs1, rfl, hv1⟩ := kl_vr (q := 83) rfl hv
  obtain ⟨x1, vs2, rfl, b1, hv2⟩ := kl_vi hv1
  obtain rfl := kl_v0 hv2
  obtain rfl : lay = xLay := hm.2.2.2.2.1
  have e : kR 83 R = R := m83_R hm
  show sm_wp sm_P Sc d 247 0 _ [] (xLay, I, L, R) (0, 0) _
  rw [← e]
  refine n83_blank (m83_S hm) ?_ (fun I' hb hn hw hs h2 => ?_)
  · rw [e]; exact ⟨rfl, hm, en_fr_rf⟩
  · rw [e]; exact ⟨rfl, m83_mem hm hb hn hw hs h2, kl_fr_bl hb⟩
theorem klh_93 {Sc : sm_C} : en_hold kl_tb klX sm_P Sc klc_93 := by
  intro d hd vs w hv hm _
  obtain ⟨lay, I, L, R⟩ := w
  obtain ⟨vs1, rfl, hv1⟩ := kl_vr (q := 83) rfl hv
  obtain ⟨x1, vs2, rfl, b1, hv2⟩ := kl_vi hv1
  obtain ⟨x2, vs3, rfl, b2, hv3⟩ := kl_vi hv2
  obtain ⟨x3, vs4, rfl, b3, hv4⟩ := kl_vi hv3
  obtain ⟨x4, vs5, rfl, b4, hv5⟩ := kl_vi hv4
  obtain rfl := kl_v0 hv5
  obtain rfl : lay = xLay := hm.2.2.2.2.1
  have e : kR 83 R = R := m83_R hm
  obtain ⟨d, rfl⟩ : ∃ d', d = d' + 1 := ⟨d - 1, by have : 1 ≤ d := hd; omega⟩
  show sm_wp sm_P Sc (d + 1) 254 0 _ [] (xLay, I, L, R) (0, 0) _
  rw [← e]
  refine n83_loose (m83_w hm).2 (fun I' hb h4 h5 hO hS => ?_)
  rw [e]
  have w2 : (I 83 4).toInt ≤ 11 := (m83_w hm).2
  refine ⟨rfl, m83_mem hm hb ?_ ?_ ?_ ?_, ⟨rfl, fun p j h => ⟨?_, rfl⟩⟩⟩
  · unfold kl_nb; rw [h4, h5]; exact m83_nb hm
  · rw [h4]; exact w2
  · intro t ht
    rw [h4] at ht ⊢
    rcases hS t with q | q
    · rw [q]; exact (m83_X hm).2 t ht
    · exact q
  · intro t ht
    rcases hS t with q | q
    · rw [q]; exact m83_S hm t ht
    · omega
  · show I' p j = I p j
    rw [hO p (fun e => ?_) (fun e => ?_) (fun e => ?_)]
    · subst e; simp [en_wok, klc_93] at h
    · subst e; simp [en_wok, klc_93] at h
    · subst e; simp [en_wok, klc_93] at h
/-! the net 91 -/
theorem m91_R {w : sm_W} (hm : en_mem kl_tb klX w) : kR 91 w.2.2.2 = w.2.2.2 := kR_eq (fun j hj => by
  have : j = 0 ∨ j = 1 ∨ j = 2 ∨ j = 3 := by omega
  rcases this with e | e | e | e <;> subst e
  · exact kl_ref hm (by decide +kernel)
  · exact kl_ref hm (by decide +kernel)
  · exact kl_ref hm (by decide +kernel)
  · exact kl_ref hm (by decide +kernel))
theorem m91_X {w : sm_W} (hm : en_mem kl_tb klX w) : kl_net w.2.1 91 93 := hm.2.2.2.2.2.2.2.1
theorem m91_w {w : sm_W} (hm : en_mem kl_tb klX w) : 1 ≤ (w.2.1 91 4).toInt ∧ (w.2.1 91 4).toInt ≤ 12 := hm.2.1 91 4 (1, 12) (by decide +kernel)
theorem m91_nb {w : sm_W} (hm : en_mem kl_tb klX w) : kl_nb w.2.1 91 := by
  have a := m91_w hm
  exact ⟨a.1, by omega, (m91_X hm).1⟩
theorem m91_S {w : sm_W} (hm : en_mem kl_tb klX w) (t : Nat) (ht : t < 12) : 0 ≤ (w.2.1 93 t).toInt ∧ (w.2.1 93 t).toInt ≤ 12 - 1 := by
  have e : en_int kl_tb 93 t = bif Nat.blt t 12 then some (0, 12 - 1) else none := rfl
  have b : Nat.blt t 12 = true := by rw [Nat.blt]; exact Nat.ble_eq_true_of_le ht
  rw [b] at e
  exact hm.2.1 93 t _ e
theorem m91_mem {I I' : sm_I} {L L' : sm_L} {R : sm_R} (hm : en_mem kl_tb klX (xLay, I, L, R)) (hb : kl_bl 91 92 93 94 95 I I') (hn : kl_nb I' 91) (hw : (I' 91 4).toInt ≤ 12) (hs : ∀ t : Nat, (t : Int) < (I' 91 4).toInt → 0 ≤ (I' 93 t).toInt ∧ (I' 93 t).toInt < (I' 91 4).toInt) (h2 : ∀ t : Nat, t < 12 → 0 ≤ (I' 93 t).toInt ∧ (I' 93 t).toInt ≤ 12 - 1) (hL : ∀ j, L' 114 j = L 114 j := by intro _; rfl) : en_mem kl_tb klX (xLay, I', L', R) := by
  have q := kl_nbA hn
  have q2 : (I' 91 5).toInt ≤ 12 * 12 := by
    rw [hn.2.2]; exact Int.mul_le_mul hw hw (by have := hn.1; omega) (by decide)
  refine ⟨hm.1, ?_, hm.2.2.1, hm.2.2.2.1, ⟨rfl, ?_⟩⟩
  · intro p j r hr
    show r.1 ≤ (I' p j).toInt ∧ (I' p j).toInt ≤ r.2
    by_cases e1 : p = 92
    · subst e1; rw [kl_full (a := 92) (n := 9504) (fun _ => rfl) j r hr]; exact en_crange
    by_cases e3 : p = 94
    · subst e3; rw [kl_full (a := 94) (n := 12) (fun _ => rfl) j r hr]; exact en_crange
    by_cases e4 : p = 95
    · subst e4; rw [kl_full (a := 95) (n := 12) (fun _ => rfl) j r hr]; exact en_crange
    by_cases e2 : p = 93
    · subst e2
      have e : en_int kl_tb 93 j = bif Nat.blt j 12 then some (0, 12 - 1) else none := rfl
      cases b : Nat.blt j 12 with
      | true =>
        rw [e, b] at hr
        have : r = (0, 12 - 1) := (Option.some.inj hr).symm
        rw [this]
        exact h2 j (Nat.le_of_ble_eq_true b)
      | false => rw [e, b] at hr; cases hr
    by_cases e5 : p = 91 ∧ (j = 4 ∨ j = 5)
    · obtain ⟨e5, e6⟩ := e5
      subst e5
      rcases e6 with e6 | e6
      · subst e6
        have e : en_int kl_tb 91 4 = some (1, 12) := by decide +kernel
        rw [e] at hr
        rw [← Option.some.inj hr]
        exact ⟨hn.1, hw⟩
      · subst e6
        have e : en_int kl_tb 91 5 = some (1, 12 * 12) := by decide +kernel
        rw [e] at hr
        rw [← Option.some.inj hr]
        exact ⟨q.1, q2⟩
    rw [hb p j e1 e2 e3 e4 e5]
    exact hm.2.1 p j r hr
  · have own : kl_net I' 91 93 := ⟨hn.2.2, hs⟩
    have oth : ∀ p q : Nat, p ≠ 91 → (p ≠ 92 ∧ p ≠ 93 ∧ p ≠ 94 ∧ p ≠ 95) → (q ≠ 92 ∧ q ≠ 93 ∧ q ≠ 94 ∧ q ≠ 95 ∧ q ≠ 91) → kl_net I p q → kl_net I' p q := fun p q h0 h1 h2 h => kl_net_cg (hb p 4 h1.1 h1.2.1 h1.2.2.1 h1.2.2.2 (fun e => h0 e.1)) (hb p 5 h1.1 h1.2.1 h1.2.2.1 h1.2.2.2 (fun e => h0 e.1)) (fun i => hb q i h2.1 h2.2.1 h2.2.2.1 h2.2.2.2.1 (fun e => h2.2.2.2.2 e.1)) h
    exact ⟨oth 75 77 (by decide) (by decide) (by decide) hm.2.2.2.2.2.1, oth 83 85 (by decide) (by decide) (by decide) hm.2.2.2.2.2.2.1, own, pk_cg hL hm.2.2.2.2.2.2.2.2⟩
theorem klh_97 {Sc : sm_C} : en_hold kl_tb klX sm_P Sc klc_97 := by
  intro d hd vs w hv hm _
  obtain ⟨lay, I, L, R⟩ := w
  obtain ⟨vs1, rfl, hv1⟩ := kl_vr (q := 91) rfl hv
  obtain ⟨x1, vs2, rfl, b1, hv2⟩ := kl_vi hv1
  obtain ⟨x2, vs3, rfl, b2, hv3⟩ := kl_vi hv2
  obtain ⟨x3, vs4, rfl, b3, hv4⟩ := kl_vi hv3
  obtain ⟨x4, vs5, rfl, b4, hv5⟩ := kl_vi hv4
  obtain rfl := kl_v0 hv5
  obtain rfl : lay = xLay := hm.2.2.2.2.1
  have e : kR 91 R = R := m91_R hm
  obtain ⟨d, rfl⟩ : ∃ d', d = d' + 1 := ⟨d - 1, by have : 2 ≤ d := hd; omega⟩
  show sm_wp sm_P Sc (d + 1) 256 0 _ [] (xLay, I, L, R) (0, 0) _
  rw [← e]
  refine n91_tighten (m91_nb hm) (m91_w hm).2 (m91_X hm) b1.2 (fun r I' hr o => ?_)
  rw [e]
  refine ⟨Or.inl ⟨rfl, ?_⟩, kl_mem_only hm o (kl_full (n := 9504) (fun _ => rfl)) (by decide), kl_fr_only o⟩
  rcases hr with hr | hr <;> subst hr <;> decide
theorem klh_120 {Sc : sm_C} : en_hold kl_tb klX sm_P Sc klc_120 := by
  intro d hd vs w hv hm _
  obtain ⟨lay, I, L, R⟩ := w
  obtain ⟨vs1, rfl, hv1⟩ := kl_vr (q := 91) rfl hv
  obtain ⟨x1, vs2, rfl, b1, hv2⟩ := kl_vi hv1
  obtain rfl := kl_v0 hv2
  obtain rfl : lay = xLay := hm.2.2.2.2.1
  have e : kR 91 R = R := m91_R hm
  obtain ⟨d, rfl⟩ : ∃ d', d = d' + 1 := ⟨d - 1, by have : 2 ≤ d := hd; omega⟩
  show sm_wp sm_P Sc (d + 1) 248 0 _ [] (xLay, I, L, R) (0, 0) _
  rw [← e]
  refine n91_copyUp (m91_nb hm) b1.2 (fun I' o => ?_)
  rw [e]
  exact ⟨rfl, kl_mem_only hm o (kl_full (n := 9504) (fun _ => rfl)) (by decide), kl_fr_only o⟩
theorem klh_117 {Sc : sm_C} : en_hold kl_tb klX sm_P Sc klc_117 := by
  intro d hd vs w hv hm _
  obtain ⟨lay, I, L, R⟩ := w
  obtain ⟨vs1, rfl, hv1⟩ := kl_vr (q := 91) rfl hv
  obtain ⟨x1, vs2, rfl, b1, hv2⟩ := kl_vi hv1
  obtain ⟨x2, vs3, rfl, b2, hv3⟩ := kl_vi hv2
  obtain ⟨x3, vs4, rfl, b3, hv4⟩ := kl_vi hv3
  obtain rfl := kl_v0 hv4
  obtain rfl : lay = xLay := hm.2.2.2.2.1
  have e : kR 91 R = R := m91_R hm
  obtain ⟨d, rfl⟩ : ∃ d', d = d' + 1 := ⟨d - 1, by have : 2 ≤ d := hd; omega⟩
  show sm_wp sm_P Sc (d + 1) 255 0 _ [] (xLay, I, L, R) (0, 0) _
  rw [← e]
  refine n91_reach (m91_nb hm) b1.2 (fun r => ?_)
  rw [e]
  exact ⟨Or.inl ⟨rfl, en_crange⟩, hm, en_fr_rf⟩
theorem klh_99 {Sc : sm_C} : en_hold kl_tb klX sm_P Sc klc_99 := by
  intro d hd vs w hv hm _
  obtain ⟨lay, I, L, R⟩ := w
  obtain ⟨vs1, rfl, hv1⟩ := kl_vr (q := 91) rfl hv
  obtain ⟨x1, vs2, rfl, b1, hv2⟩ := kl_vi hv1
  obtain rfl := kl_v0 hv2
  obtain rfl : lay = xLay := hm.2.2.2.2.1
  have e : kR 91 R = R := m91_R hm
  show sm_wp sm_P Sc d 247 0 _ [] (xLay, I, L, R) (0, 0) _
  rw [← e]
  refine n91_blank (m91_S hm) ?_ (fun I' hb hn hw hs h2 => ?_)
  · rw [e]; exact ⟨rfl, hm, en_fr_rf⟩
  · rw [e]; exact ⟨rfl, m91_mem hm hb hn hw hs h2, kl_fr_bl hb⟩
theorem klh_211 {Sc : sm_C} : en_hold kl_tb klX sm_P Sc klc_211 := by
  intro d hd vs w hv hm _
  obtain ⟨lay, I, L, R⟩ := w
  obtain ⟨vs1, rfl, hv1⟩ := kl_vr (q := 0) rfl hv
  obtain ⟨x1, vs2, rfl, b1, hv2⟩ := kl_vi hv1
  obtain rfl := kl_v0 hv2
  obtain rfl : lay = xLay := hm.2.2.2.2.1
  have b : 0 ≤ (I 0 10).toInt ∧ (I 0 10).toInt ≤ 2000 := hm.2.1 0 10 (0, 2000) (by decide +kernel)
  show sm_wp sm_P Sc d 30 0 _ [] (xLay, I, L, R) (0, 0) _
  have no : en_pr klc_211.2.2.2.1 (some (.int (-1 : Int32))) ∧ en_mem kl_tb klX (xLay, I, L, R) ∧ en_fr klc_211.2.2.2.2.1 (xLay, I, L, R) (xLay, I, L, R) := ⟨Or.inl ⟨rfl, by decide, by decide⟩, hm, en_fr_rf⟩
  refine k0_back_0 ⟨fun _ => no, fun h1 => ⟨fun h2 I1 e1 => ?_, fun _ => no⟩⟩
  have h1 := kl_nlt0 h1
  have h2 := kl_le.mp h2
  have s : (I 0 10 - x1).toInt = (I 0 10).toInt - x1.toInt := by
    rw [Int32.toInt_sub]; exact en_bmod (by omega) (by omega) (Or.inl rfl)
  have g : I1 0 10 = I 0 10 - x1 := by rw [e1]; simp [sm_up]
  refine ⟨Or.inl ⟨rfl, ?_, ?_⟩, ?_, ⟨rfl, fun p j h => ⟨?_, rfl⟩⟩⟩
  · show (-1 : Int) ≤ (I1 0 10).toInt
    rw [g]; omega
  · show (I1 0 10).toInt ≤ 2000
    rw [g]; omega
  · have X := klX_ok.1 xLay (I, L, R) 0 10 (I 0 10 - x1) (by decide +kernel) hm.2.2.2.2
    rw [e1]
    refine ⟨hm.1, ?_, hm.2.2.1, hm.2.2.2.1, X⟩
    intro p j q hq
    show q.1 ≤ (sm_up I 0 10 (I 0 10 - x1) p j).toInt ∧ (sm_up I 0 10 (I 0 10 - x1) p j).toInt ≤ q.2
    by_cases c : p = 0 ∧ j = 10
    · obtain ⟨c1, c2⟩ := c
      subst c1; subst c2
      have e : en_int kl_tb 0 10 = some (0, 2000) := by decide +kernel
      rw [e] at hq
      rw [en_up_eq, ← Option.some.inj hq]
      show (0 : Int) ≤ (I 0 10 - x1).toInt ∧ (I 0 10 - x1).toInt ≤ 2000
      omega
    · rw [en_up_ne _ _ _ _ c]; exact hm.2.1 p j q hq
  · show I1 p j = I p j
    rw [e1]
    refine en_up_ne _ _ _ _ (fun c => ?_)
    obtain ⟨c1, c2⟩ := c
    subst c1; subst c2
    simp [en_wok, klc_211] at h
