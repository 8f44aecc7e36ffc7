/-! isGoneThrough by contract, with what was gone through (wip/pe/mkY.py) -/
theorem kF12_74_r : ∀ t, t ∈ kF12_74l → (t.1 = 0 ∧ t.2.1 = 9 ∧ t.2.2 = 12) ∨ en_refs kl_tb t.1 t.2.1 = [t.2.2] := by decide +kernel
theorem kF12_74_eq {w : sm_W} (hm : en_mem kl_tb klX w) (h : w.2.2.2 0 9 = some 12) : kF12_74 w.2.2.2 = w.2.2.2 := by
  funext x j
  unfold kF12_74
  split
  · next t ht =>
    have mem := List.mem_of_find?_eq_some ht
    have pr := List.find?_some ht
    obtain ⟨p1, p2⟩ := Bool.and_eq_true_iff.mp pr
    have e1 : t.1 = x := Nat.eq_of_beq_eq_true p1
    have e2 : t.2.1 = j := Nat.eq_of_beq_eq_true p2
    rcases kF12_74_r t mem with ⟨q1, q2, q3⟩ | q
    · rw [← e1, ← e2, q1, q2, q3]; exact h.symm
    · obtain ⟨a, g1, g2⟩ := hm.2.2.1 t.1 t.2.1 (by rw [q]; exact List.cons_ne_nil _ _)
      rw [q] at g1
      rw [← e1, ← e2, g2, List.mem_singleton.mp g1]
  · rfl
theorem ig_12_74 {Sc : sm_C} {d : Nat} {I : sm_I} {L : sm_L} {R : sm_R} {Φ : sm_Z → Prop} (m : en_mem kl_tb klX (xLay, I, L, R)) (g1 : R 0 9 = some 12) (g2 : kW 12 I) (g3 : GC 12 I L R) (h : ∀ (J : sm_I) (L' : sm_L) (R' : sm_R), R' 0 9 = some 12 → kW 12 J → R' 74 4 = some 12 → kall 12 (kys 12 J) (KF 12 J) J L' → KF 12 J = KF 12 I → kys 12 J = kys 12 I → ((I 0 12 ≠ 0 ∧ J = I ∧ L' = L ∧ R' = R) ∨ (I 0 12 = 0 ∧ g12_74_ifr I J ∧ g12_74_lfr L L' ∧ J 0 12 = 1 ∧ R' = kG12_74 R ∧ g12_74_l0 ((I 12 2).toNatClampNeg + 1) J)) → Φ (some (.int (if (KF 12 I).2.2.2.2.1 = true then 0 else 1)), (xLay, J, L', R'))) : sm_wp sm_P Sc (d + 6) 56 0 [.ref 0] [] (xLay, I, L, R) (0, 0) Φ := by
  have s1 : I 74 1 = 0 := en_ofI (by
    have := m.2.1 74 1 (0, 0) (by decide +kernel)
    have a : (0 : Int) ≤ (I 74 1).toInt := this.1
    have b : (I 74 1).toInt ≤ 0 := this.2
    rw [kl_0]; omega)
  have eF : kF12_74 R = R := kF12_74_eq (w := (xLay, I, L, R)) m g1
  have g := g12_74_ig (S := Sc) (d := d) (I := I) (L := L) (R := R) (Φ := Φ) g2 s1 (fun e0 => by
    rcases g3 with e | ⟨-, k⟩
    · exact absurd e e0
    · exact k.2.1.2.2) (fun e0 => by
    rw [eF]
    rcases g3 with e | ⟨r4, k⟩
    · exact absurd e e0
    · exact h I L R g1 g2 r4 k rfl rfl (Or.inl ⟨e0, rfl, rfl, rfl⟩)) (fun e0 J L' fr lf j12 ka l0 => by
    have t : ∀ p j, (12 ≤ p ∧ p < 12 + 25) ∨ p = 37 ∨ (41 ≤ p ∧ p ≤ 44) → J p j = I p j := fun p j q => fr p j (by omega) (by omega) (by omega) (by omega) (by omega)
    refine h J L' (kG12_74 R) rfl (kW_cg (by decide) t g2) rfl ?_ (KF_cg (by decide) t) (kys_cg t) (Or.inr ⟨e0, fr, lf, j12, rfl, l0⟩)
    rw [kys_cg t, KF_cg (by decide) t]
    exact ka)
  rw [eF] at g
  exact g
theorem kF49_74_r : ∀ t, t ∈ kF49_74l → (t.1 = 0 ∧ t.2.1 = 9 ∧ t.2.2 = 49) ∨ en_refs kl_tb t.1 t.2.1 = [t.2.2] := by decide +kernel
theorem kF49_74_eq {w : sm_W} (hm : en_mem kl_tb klX w) (h : w.2.2.2 0 9 = some 49) : kF49_74 w.2.2.2 = w.2.2.2 := by
  funext x j
  unfold kF49_74
  split
  · next t ht =>
    have mem := List.mem_of_find?_eq_some ht
    have pr := List.find?_some ht
    obtain ⟨p1, p2⟩ := Bool.and_eq_true_iff.mp pr
    have e1 : t.1 = x := Nat.eq_of_beq_eq_true p1
    have e2 : t.2.1 = j := Nat.eq_of_beq_eq_true p2
    rcases kF49_74_r t mem with ⟨q1, q2, q3⟩ | q
    · rw [← e1, ← e2, q1, q2, q3]; exact h.symm
    · obtain ⟨a, g1, g2⟩ := hm.2.2.1 t.1 t.2.1 (by rw [q]; exact List.cons_ne_nil _ _)
      rw [q] at g1
      rw [← e1, ← e2, g2, List.mem_singleton.mp g1]
  · rfl
theorem ig_49_74 {Sc : sm_C} {d : Nat} {I : sm_I} {L : sm_L} {R : sm_R} {Φ : sm_Z → Prop} (m : en_mem kl_tb klX (xLay, I, L, R)) (g1 : R 0 9 = some 49) (g2 : kW 49 I) (g3 : GC 49 I L R) (h : ∀ (J : sm_I) (L' : sm_L) (R' : sm_R), R' 0 9 = some 49 → kW 49 J → R' 74 4 = some 49 → kall 49 (kys 49 J) (KF 49 J) J L' → KF 49 J = KF 49 I → kys 49 J = kys 49 I → ((I 0 12 ≠ 0 ∧ J = I ∧ L' = L ∧ R' = R) ∨ (I 0 12 = 0 ∧ g49_74_ifr I J ∧ g49_74_lfr L L' ∧ J 0 12 = 1 ∧ R' = kG49_74 R ∧ g49_74_l0 ((I 49 2).toNatClampNeg + 1) J)) → Φ (some (.int (if (KF 49 I).2.2.2.2.1 = true then 0 else 1)), (xLay, J, L', R'))) : sm_wp sm_P Sc (d + 6) 56 0 [.ref 0] [] (xLay, I, L, R) (0, 0) Φ := by
  have s1 : I 74 1 = 0 := en_ofI (by
    have := m.2.1 74 1 (0, 0) (by decide +kernel)
    have a : (0 : Int) ≤ (I 74 1).toInt := this.1
    have b : (I 74 1).toInt ≤ 0 := this.2
    rw [kl_0]; omega)
  have eF : kF49_74 R = R := kF49_74_eq (w := (xLay, I, L, R)) m g1
  have g := g49_74_ig (S := Sc) (d := d) (I := I) (L := L) (R := R) (Φ := Φ) g2 s1 (fun e0 => by
    rcases g3 with e | ⟨-, k⟩
    · exact absurd e e0
    · exact k.2.1.2.2) (fun e0 => by
    rw [eF]
    rcases g3 with e | ⟨r4, k⟩
    · exact absurd e e0
    · exact h I L R g1 g2 r4 k rfl rfl (Or.inl ⟨e0, rfl, rfl, rfl⟩)) (fun e0 J L' fr lf j12 ka l0 => by
    have t : ∀ p j, (49 ≤ p ∧ p < 49 + 25) ∨ p = 37 ∨ (41 ≤ p ∧ p ≤ 44) → J p j = I p j := fun p j q => fr p j (by omega) (by omega) (by omega) (by omega) (by omega)
    refine h J L' (kG49_74 R) rfl (kW_cg (by decide) t g2) rfl ?_ (KF_cg (by decide) t) (kys_cg t) (Or.inr ⟨e0, fr, lf, j12, rfl, l0⟩)
    rw [kys_cg t, KF_cg (by decide) t]
    exact ka)
  rw [eF] at g
  exact g
theorem klk_205 {Sc : sm_C} : en_hold kl_tb2 klY sm_P Sc klc_205 := by
  intro d hd vs w hv hm hp
  have m := ky_dn hm
  have hv0 := hv
  obtain ⟨qt, hq, g1, g2, g3⟩ := ky_gk hm
  obtain ⟨lay, I, L, R⟩ := w
  obtain ⟨vs1, rfl, hv1⟩ := kl_vr (q := 0) rfl hv
  obtain rfl := kl_v0 hv1
  obtain rfl : lay = xLay := m.2.2.2.2.1
  have hd6 : 6 ≤ d := hd
  obtain ⟨d, rfl⟩ : ∃ d', d = d' + 6 := ⟨d - 6, by omega⟩
  have A : sm_wp sm_P Sc (d + 6) 56 0 [.ref 0] [] (xLay, I, L, R) (0, 0) (fun z => GK z.2.2.1 z.2.2.2.1 z.2.2.2.2) := by
    rcases hq with e | e <;> subst e
    · exact ig_12_74 m g1 g2 g3 (fun J L' R' a1 a2 a3 a4 _ _ _ => ⟨12, Or.inl rfl, a1, a2, Or.inr ⟨a3, a4⟩⟩)
    · exact ig_49_74 m g1 g2 g3 (fun J L' R' a1 a2 a3 a4 _ _ _ => ⟨49, Or.inr rfl, a1, a2, Or.inr ⟨a3, a4⟩⟩)
  exact sm_wp_mono (sm_wp_and (klh_205 (d + 6) hd _ _ hv0 m hp) A) (fun z q => ⟨q.1.1, ky_up q.1.2.1 q.2, q.1.2.2⟩)
