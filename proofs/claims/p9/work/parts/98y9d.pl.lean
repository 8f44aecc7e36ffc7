/-! THE LAW: levelOf of the class (wip/pe/mkp4.py) -/
theorem igm12 {S : sm_C} {d : Nat} {I : sm_I} {L : sm_L} {R : sm_R} {Φ : sm_Z → Prop} (hI : lw_J I L R) (hq : R 0 9 = some 12) (h : ∀ (J : sm_I) (L' : sm_L), XG 12 I R J L' (kG12_74 R) → J 0 12 ≠ 0 → en_mem kl_tb2 klY (xLay, J, L', kG12_74 R) → Φ (some (.int (if (KF 12 I).2.2.2.2.1 = true then 0 else 1)), (xLay, J, L', kG12_74 R))) : sm_wp sm_P S (d + 6) 56 0 [.ref 0] [] (xLay, I, L, kF12_74 R) (0, 0) Φ := by
  have m := hI.1.1
  obtain ⟨q, hq', g1, g2, g3⟩ := hI.2.1
  have e : q = 12 := Option.some.inj (g1.symm.trans hq)
  subst e
  have eF : kF12_74 R = R := kF12_74_eq (w := (xLay, I, L, R)) m g1
  have A := klk_205 (Sc := S) (d + 6) (show 6 ≤ d + 6 by omega) [.ref 0] (xLay, I, L, R) ⟨⟨rfl, rfl⟩, trivial⟩ (ky_up m hI.2.1) ml_pf0
  have B := ig12_J (S := S) (d := d) (L := L) (Φ := fun z => ∃ (J : sm_I) (L' : sm_L), z = (some (.int (if (KF 12 I).2.2.2.2.1 = true then 0 else 1)), (xLay, J, L', kG12_74 R)) ∧ XG 12 I R J L' (kG12_74 R)) hI hq (fun J L' x => ⟨J, L', rfl, x⟩)
  have C := ig_12_74 (Sc := S) (d := d) (Φ := fun z => z.2.2.1 0 12 ≠ 0) m g1 g2 g3 (fun J L' R' _ _ _ _ _ _ a7 => by
    rcases a7 with ⟨b1, b2, -, -⟩ | ⟨-, -, -, b4, -, -⟩
    · subst b2; exact b1
    · show J 0 12 ≠ 0
      rw [b4]; decide)
  rw [eF] at B ⊢
  refine sm_wp_mono (sm_wp_and (sm_wp_and A B) C) (fun z q => ?_)
  obtain ⟨⟨⟨-, q2, -⟩, J, L', ez, x⟩, c⟩ := q
  subst ez
  exact h J L' x c q2
theorem lvl12 {S : sm_C} {d : Nat} {I : sm_I} {L : sm_L} {R : sm_R} {Φ : sm_Z → Prop} {x : Int32} (hI : lw_J I L R) (hq : R 0 9 = some 12) (h0 : x.toInt < 0 → Φ (some (.int (-1)), (xLay, I, L, kF12_74 R))) (h1 : ∀ (r : Int32) (J : sm_I) (L' : sm_L) (R' : sm_R), 0 ≤ x.toInt → XG 12 I R J L' R' → kG12_74 R' = R' → J 0 12 ≠ 0 → en_mem kl_tb2 klY (xLay, J, L', R') → (((KF 12 I).2.2.2.2.1 = true ∧ r = -3) ∨ ((KF 12 I).2.2.2.2.1 = false ∧ (((KF 12 I).2.2.2.1 ≤ x.toInt ∧ r = -1) ∨ (x.toInt < (KF 12 I).2.2.2.1 ∧ r.toInt = (kys 12 I).length)))) → Φ (some (.int r), (xLay, J, L', R'))) : sm_wp sm_P S (d + 6 + 1) 68 0 [.ref 0, .int x] [] (xLay, I, L, kF12_74 R) (0, 0) Φ := by
  refine pf12_X11_levelOf_0 ⟨fun c => igm12 hI hq (fun J L' xg c12 mm => ⟨_, J, L', R, rfl, fun u => h1 _ J L' _ ?_ xg (kG12_74_eq (w := (xLay, J, L', kG12_74 R)) (ky_dn mm) rfl rfl) c12 mm (Or.inl ⟨?_, rfl⟩), fun u => ⟨fun c2 => ?_, fun c2 => h1 _ J L' _ ?_ xg (kG12_74_eq (w := (xLay, J, L', kG12_74 R)) (ky_dn mm) rfl rfl) c12 mm (Or.inr ⟨?_, Or.inl ⟨?_, rfl⟩⟩)⟩⟩), fun c => h0 ?_⟩
  · have := Int32.le_iff_toInt_le.mp c; rw [kl_0] at this; exact this
  · cases v : (KF 12 I).2.2.2.2.1 with
    | true => rfl
    | false => rw [v] at u; exact absurd u (by decide)
  · have c0 : 0 ≤ x.toInt := by have := Int32.le_iff_toInt_le.mp c; rw [kl_0] at this; exact this
    have v : (KF 12 I).2.2.2.2.1 = false := by
      cases v : (KF 12 I).2.2.2.2.1 with
      | true => rw [if_pos v] at u; exact absurd rfl u
      | false => rfl
    have cf := Int32.lt_iff_toInt_lt.mp c2
    rw [xg.2.2.2.2.1.2.1] at cf
    have u31 := Int32.toInt_lt x
    refine sm_wp_mono (klk_19 (Sc := S) (d + 6) (show 5 ≤ d + 6 by omega) [.ref 74, .ref 45, .int x] (xLay, J, L', kG12_74 R) ⟨⟨rfl, rfl⟩, ⟨rfl, rfl⟩, ⟨rfl, c0, by show x.toInt ≤ 2147483647; omega⟩, trivial⟩ mm ml_pf0) (fun z q => ?_)
    obtain ⟨o, lay, J2, L2, R2⟩ := z
    obtain ⟨q1, q2, q3⟩ := q
    obtain ⟨r, er⟩ := lw_pr q1
    have er : o = some (.int r) := er
    subst er
    obtain rfl : lay = xLay := (ky_dn q2).2.2.2.2.1
    have nw : ∀ a b, a ≠ 76 → a ≠ 81 → ¬ (a = 74 ∧ b = 6) → en_wok klc_19.2.2.2.2.1 a b = false := fun a b n1 n2 n3 => by
      cases w : en_wok klc_19.2.2.2.2.1 a b with
      | false => rfl
      | true =>
        obtain ⟨q, g1, g2⟩ := List.any_eq_true.mp w
        obtain ⟨g2, g3⟩ := Bool.and_eq_true_iff.mp g2
        have e := Nat.eq_of_beq_eq_true g2
        rcases List.mem_cons.mp g1 with e1 | g1
        · subst e1
          refine absurd ⟨e.symm, ?_⟩ n3
          have g4 : 6 = b := by simpa using g3
          exact g4.symm
        · rcases List.mem_cons.mp g1 with e1 | g1
          · subst e1; exact absurd e.symm n1
          · rw [List.mem_singleton.mp g1] at e; exact absurd e.symm n2
    have fr : ∀ a b, a ≠ 76 → a ≠ 81 → ¬ (a = 74 ∧ b = 6) → J2 a b = J a b ∧ R2 a b = kG12_74 R a b := fun a b n1 n2 n3 => q3.2 a b (nw a b n1 n2 n3)
    have r9 : R2 0 9 = some 12 := (fr 0 9 (by decide) (by decide) (by decide)).2
    have c12' : J2 0 12 ≠ 0 := by rw [(fr 0 12 (by decide) (by decide) (by decide)).1]; exact c12
    obtain ⟨qt, -, k1, -, k3⟩ := ky_gk q2
    have eq : qt = 12 := Option.some.inj (k1.symm.trans r9)
    subst eq
    rcases k3 with k3 | ⟨k3, k4⟩
    · exact absurd k3 c12'
    have eG : kG12_74 R2 = R2 := kG12_74_eq (w := (xLay, J2, L2, R2)) (ky_dn q2) r9 k3
    have t : ∀ p j, (12 ≤ p ∧ p < 12 + 25) ∨ p = 37 ∨ (41 ≤ p ∧ p ≤ 44) → J2 p j = I p j := fun p j q => by
      rw [(fr p j (by omega) (by omega) (by omega)).1]
      exact xg.2.2.1 p j (by unfold lkC; omega)
    rw [kys_cg t, KF_cg (by decide) t] at k4
    refine ⟨r, J2, L2, R2, by rw [eG], ?_⟩
    rw [eG]
    exact h1 _ J2 L2 R2 c0 ⟨r9.trans hq.symm, (fr 2 6 (by decide) (by decide) (by decide)).2.trans xg.2.1, fun p j q => (fr p j (by unfold lkC at q; omega) (by unfold lkC at q; omega) (by unfold lkC at q; omega)).1.trans (xg.2.2.1 p j q), k4⟩ eG c12' q2 (Or.inr ⟨v, Or.inr ⟨cf, k4.1.1⟩⟩)
  · have := Int32.le_iff_toInt_le.mp c; rw [kl_0] at this; exact this
  · cases v : (KF 12 I).2.2.2.2.1 with
    | true => rw [if_pos v] at u; exact absurd rfl u
    | false => rfl
  · rw [← xg.2.2.2.2.1.2.1]
    rcases Int.lt_or_le x.toInt (J 74 14).toInt with w | w
    · exact absurd (Int32.lt_iff_toInt_lt.mpr w) c2
    · exact w
  · rcases Int.lt_or_le x.toInt 0 with w | w
    · exact w
    · exact absurd (Int32.le_iff_toInt_le.mpr (by rw [kl_0]; exact w)) c
theorem igm49 {S : sm_C} {d : Nat} {I : sm_I} {L : sm_L} {R : sm_R} {Φ : sm_Z → Prop} (hI : lw_J I L R) (hq : R 0 9 = some 49) (h : ∀ (J : sm_I) (L' : sm_L), XG 49 I R J L' (kG49_74 R) → J 0 12 ≠ 0 → en_mem kl_tb2 klY (xLay, J, L', kG49_74 R) → Φ (some (.int (if (KF 49 I).2.2.2.2.1 = true then 0 else 1)), (xLay, J, L', kG49_74 R))) : sm_wp sm_P S (d + 6) 56 0 [.ref 0] [] (xLay, I, L, kF49_74 R) (0, 0) Φ := by
  have m := hI.1.1
  obtain ⟨q, hq', g1, g2, g3⟩ := hI.2.1
  have e : q = 49 := Option.some.inj (g1.symm.trans hq)
  subst e
  have eF : kF49_74 R = R := kF49_74_eq (w := (xLay, I, L, R)) m g1
  have A := klk_205 (Sc := S) (d + 6) (show 6 ≤ d + 6 by omega) [.ref 0] (xLay, I, L, R) ⟨⟨rfl, rfl⟩, trivial⟩ (ky_up m hI.2.1) ml_pf0
  have B := ig49_J (S := S) (d := d) (L := L) (Φ := fun z => ∃ (J : sm_I) (L' : sm_L), z = (some (.int (if (KF 49 I).2.2.2.2.1 = true then 0 else 1)), (xLay, J, L', kG49_74 R)) ∧ XG 49 I R J L' (kG49_74 R)) hI hq (fun J L' x => ⟨J, L', rfl, x⟩)
  have C := ig_49_74 (Sc := S) (d := d) (Φ := fun z => z.2.2.1 0 12 ≠ 0) m g1 g2 g3 (fun J L' R' _ _ _ _ _ _ a7 => by
    rcases a7 with ⟨b1, b2, -, -⟩ | ⟨-, -, -, b4, -, -⟩
    · subst b2; exact b1
    · show J 0 12 ≠ 0
      rw [b4]; decide)
  rw [eF] at B ⊢
  refine sm_wp_mono (sm_wp_and (sm_wp_and A B) C) (fun z q => ?_)
  obtain ⟨⟨⟨-, q2, -⟩, J, L', ez, x⟩, c⟩ := q
  subst ez
  exact h J L' x c q2
theorem lvl49 {S : sm_C} {d : Nat} {I : sm_I} {L : sm_L} {R : sm_R} {Φ : sm_Z → Prop} {x : Int32} (hI : lw_J I L R) (hq : R 0 9 = some 49) (h0 : x.toInt < 0 → Φ (some (.int (-1)), (xLay, I, L, kF49_74 R))) (h1 : ∀ (r : Int32) (J : sm_I) (L' : sm_L) (R' : sm_R), 0 ≤ x.toInt → XG 49 I R J L' R' → kG49_74 R' = R' → J 0 12 ≠ 0 → en_mem kl_tb2 klY (xLay, J, L', R') → (((KF 49 I).2.2.2.2.1 = true ∧ r = -3) ∨ ((KF 49 I).2.2.2.2.1 = false ∧ (((KF 49 I).2.2.2.1 ≤ x.toInt ∧ r = -1) ∨ (x.toInt < (KF 49 I).2.2.2.1 ∧ r.toInt = (kys 49 I).length)))) → Φ (some (.int r), (xLay, J, L', R'))) : sm_wp sm_P S (d + 6 + 1) 68 0 [.ref 0, .int x] [] (xLay, I, L, kF49_74 R) (0, 0) Φ := by
  refine pf49_X11_levelOf_0 ⟨fun c => igm49 hI hq (fun J L' xg c12 mm => ⟨_, J, L', R, rfl, fun u => h1 _ J L' _ ?_ xg (kG49_74_eq (w := (xLay, J, L', kG49_74 R)) (ky_dn mm) rfl rfl) c12 mm (Or.inl ⟨?_, rfl⟩), fun u => ⟨fun c2 => ?_, fun c2 => h1 _ J L' _ ?_ xg (kG49_74_eq (w := (xLay, J, L', kG49_74 R)) (ky_dn mm) rfl rfl) c12 mm (Or.inr ⟨?_, Or.inl ⟨?_, rfl⟩⟩)⟩⟩), fun c => h0 ?_⟩
  · have := Int32.le_iff_toInt_le.mp c; rw [kl_0] at this; exact this
  · cases v : (KF 49 I).2.2.2.2.1 with
    | true => rfl
    | false => rw [v] at u; exact absurd u (by decide)
  · have c0 : 0 ≤ x.toInt := by have := Int32.le_iff_toInt_le.mp c; rw [kl_0] at this; exact this
    have v : (KF 49 I).2.2.2.2.1 = false := by
      cases v : (KF 49 I).2.2.2.2.1 with
      | true => rw [if_pos v] at u; exact absurd rfl u
      | false => rfl
    have cf := Int32.lt_iff_toInt_lt.mp c2
    rw [xg.2.2.2.2.1.2.1] at cf
    have u31 := Int32.toInt_lt x
    refine sm_wp_mono (klk_19 (Sc := S) (d + 6) (show 5 ≤ d + 6 by omega) [.ref 74, .ref 45, .int x] (xLay, J, L', kG49_74 R) ⟨⟨rfl, rfl⟩, ⟨rfl, rfl⟩, ⟨rfl, c0, by show x.toInt ≤ 2147483647; omega⟩, trivial⟩ mm ml_pf0) (fun z q => ?_)
    obtain ⟨o, lay, J2, L2, R2⟩ := z
    obtain ⟨q1, q2, q3⟩ := q
    obtain ⟨r, er⟩ := lw_pr q1
    have er : o = some (.int r) := er
    subst er
    obtain rfl : lay = xLay := (ky_dn q2).2.2.2.2.1
    have nw : ∀ a b, a ≠ 76 → a ≠ 81 → ¬ (a = 74 ∧ b = 6) → en_wok klc_19.2.2.2.2.1 a b = false := fun a b n1 n2 n3 => by
      cases w : en_wok klc_19.2.2.2.2.1 a b with
      | false => rfl
      | true =>
        obtain ⟨q, g1, g2⟩ := List.any_eq_true.mp w
        obtain ⟨g2, g3⟩ := Bool.and_eq_true_iff.mp g2
        have e := Nat.eq_of_beq_eq_true g2
        rcases List.mem_cons.mp g1 with e1 | g1
        · subst e1
          refine absurd ⟨e.symm, ?_⟩ n3
          have g4 : 6 = b := by simpa using g3
          exact g4.symm
        · rcases List.mem_cons.mp g1 with e1 | g1
          · subst e1; exact absurd e.symm n1
          · rw [List.mem_singleton.mp g1] at e; exact absurd e.symm n2
    have fr : ∀ a b, a ≠ 76 → a ≠ 81 → ¬ (a = 74 ∧ b = 6) → J2 a b = J a b ∧ R2 a b = kG49_74 R a b := fun a b n1 n2 n3 => q3.2 a b (nw a b n1 n2 n3)
    have r9 : R2 0 9 = some 49 := (fr 0 9 (by decide) (by decide) (by decide)).2
    have c12' : J2 0 12 ≠ 0 := by rw [(fr 0 12 (by decide) (by decide) (by decide)).1]; exact c12
    obtain ⟨qt, -, k1, -, k3⟩ := ky_gk q2
    have eq : qt = 49 := Option.some.inj (k1.symm.trans r9)
    subst eq
    rcases k3 with k3 | ⟨k3, k4⟩
    · exact absurd k3 c12'
    have eG : kG49_74 R2 = R2 := kG49_74_eq (w := (xLay, J2, L2, R2)) (ky_dn q2) r9 k3
    have t : ∀ p j, (49 ≤ p ∧ p < 49 + 25) ∨ p = 37 ∨ (41 ≤ p ∧ p ≤ 44) → J2 p j = I p j := fun p j q => by
      rw [(fr p j (by omega) (by omega) (by omega)).1]
      exact xg.2.2.1 p j (by unfold lkC; omega)
    rw [kys_cg t, KF_cg (by decide) t] at k4
    refine ⟨r, J2, L2, R2, by rw [eG], ?_⟩
    rw [eG]
    exact h1 _ J2 L2 R2 c0 ⟨r9.trans hq.symm, (fr 2 6 (by decide) (by decide) (by decide)).2.trans xg.2.1, fun p j q => (fr p j (by unfold lkC at q; omega) (by unfold lkC at q; omega) (by unfold lkC at q; omega)).1.trans (xg.2.2.1 p j q), k4⟩ eG c12' q2 (Or.inr ⟨v, Or.inr ⟨cf, k4.1.1⟩⟩)
  · have := Int32.le_iff_toInt_le.mp c; rw [kl_0] at this; exact this
  · cases v : (KF 49 I).2.2.2.2.1 with
    | true => rw [if_pos v] at u; exact absurd rfl u
    | false => rfl
  · rw [← xg.2.2.2.2.1.2.1]
    rcases Int.lt_or_le x.toInt (J 74 14).toInt with w | w
    · exact absurd (Int32.lt_iff_toInt_lt.mpr w) c2
    · exact w
  · rcases Int.lt_or_le x.toInt 0 with w | w
    · exact w
    · exact absurd (Int32.le_iff_toInt_le.mpr (by rw [kl_0]; exact w)) c
