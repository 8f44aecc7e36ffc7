/-! the reference's walks and meets behind a text, with what the invariant keeps -/
section
variable {S : sm_C} {d : Nat} {Φ : sm_Z → Prop} {I : sm_I} {L : sm_L} {R : sm_R}
/-- the live side is in order -/
def cdM (I : sm_I) : Prop := ∀ l : Nat, (I 107 18).toInt = l → l ≤ 1 ∧ WB 1440 (fun i => (I 121 (36 * l + i)).toInt) ∧ ∀ i : Nat, (i : Int) < (I 122 l).toInt → I 123 (10 * l + i) ≠ -1 → 0 ≤ (I 124 (10 * l + i)).toInt ∧ (I 124 (10 * l + i)).toInt ≤ 5
theorem cdM_cg {I J : sm_I} (h : ∀ p j, (118 ≤ p ∧ p ≤ 136) ∨ (p = 107 ∧ j = 18) → J p j = I p j) (k : cdM I) : cdM J := fun l hl => by
  rw [h 107 18 (by omega)] at hl
  obtain ⟨k1, k2, k3⟩ := k l hl
  refine ⟨k1, ?_, fun i hi hk => ?_⟩
  · have e : (fun i => (J 121 (36 * l + i)).toInt) = fun i => (I 121 (36 * l + i)).toInt := funext (fun i => by rw [h 121 _ (by omega)])
    rw [e]; exact k2
  · rw [h 122 l (by omega)] at hi
    rw [h 123 _ (by omega)] at hk
    rw [h 124 _ (by omega)]; exact k3 i hi hk
def mlst (l : Nat) (I : sm_I) : List (Nat × Nat) := mall (mcM l I) (I 122 l).toNatClampNeg (I 122 l).toNatClampNeg
def wkM (I0 J : sm_I) : Prop := ∀ l : Nat, (I0 107 18).toInt = l → ∀ i, i < 36 → (J 139 i).toInt = Ft 6 (fun i => (I0 121 (36 * l + i)).toInt) i
def mvsM (l : Nat) (I0 J : sm_I) : Prop := (J 107 46).toInt = (((mlst l I0).length : Nat) : Int) ∧ ∀ j, j < (mlst l I0).length → J 140 j = Int32.ofNat ((mlst l I0).getD j (0, 0)).1 ∧ J 141 j = Int32.ofNat ((mlst l I0).getD j (0, 0)).2 ∧ J 142 j = J 139 (6 * (I0 124 (10 * l + ((mlst l I0).getD j (0, 0)).1)).toNatClampNeg + (I0 124 (10 * l + ((mlst l I0).getD j (0, 0)).2)).toNatClampNeg)
theorem mlst_cg {l : Nat} {I J : sm_I} (h : ∀ p j, 118 ≤ p → p ≤ 136 → J p j = I p j) : mlst l J = mlst l I := by
  unfold mlst mcM
  have e3 : (fun a => J 123 (10 * l + a)) = fun a => I 123 (10 * l + a) := funext (fun a => h 123 _ (by decide) (by decide))
  have e4 : (fun a => J 124 (10 * l + a)) = fun a => I 124 (10 * l + a) := funext (fun a => h 124 _ (by decide) (by decide))
  rw [e3, e4, h 122 l (by decide) (by decide)]
theorem live_l (hm : en_mem ml_tb mlX (xLay, I, L, R)) : ∃ l : Nat, (I 107 18).toInt = l ∧ l ≤ 1 := by
  obtain ⟨b0, l1, ln, lc⟩ := ml_live hm
  have b0 : 0 ≤ (I 107 18).toInt := b0
  have l1 : (I 107 18).toInt ≤ 1 := l1
  exact ⟨(I 107 18).toInt.toNat, by omega, by omega⟩
theorem y_w1 (hm : en_mem ml_tb mlX (xLay, I, L, R)) (h : ∀ (J : sm_I) (L' : sm_L) (R' : sm_R), en_mem ml_tb mlX (xLay, J, L', R') → (∀ p j, p ≠ 139 → J p j = I p j) → (cdM I → wkM I J) → Φ (none, (xLay, J, L', kM R'))) : sm_wp sm_P S d 210 0 [.ref 107] [] (xLay, I, L, kM R) (0, 0) Φ := by
  have A := ml_cv (S := S) (d := d) (c := mlc_64) (vs := [.ref 107]) (C := fun I2 L2 R2 => en_mem ml_tb mlX (xLay, I2, L2, R2) ∧ en_fr mlc_64.2.2.2.2.1 (xLay, I, L, R) (xLay, I2, L2, R2)) mlh_64 (Nat.zero_le _) ⟨⟨rfl, rfl⟩, trivial⟩ hm ml_pf0 rfl (fun I2 L2 R2 m2 f2 => ⟨m2, f2⟩)
  have rn : ∀ {p j : Nat}, p ≠ 139 → en_wok mlc_64.2.2.2.2.1 p j = false := fun {p j} h => by
    cases c : en_wok mlc_64.2.2.2.2.1 p j with
    | false => rfl
    | true =>
      exfalso
      obtain ⟨q, g1, g2⟩ := List.any_eq_true.mp c
      have e : q.1 = p := Nat.eq_of_beq_eq_true (Bool.and_eq_true_iff.mp g2).1
      have e3 : q = (139, []) := List.mem_singleton.mp g1
      rw [e3] at e
      exact h e.symm
  by_cases c : cdM I
  · obtain ⟨l, hl, l1⟩ := live_l hm
    obtain ⟨k1, k2, -⟩ := c l hl
    have B : sm_wp sm_P S d 210 0 [.ref 107] [] (xLay, I, L, kM R) (0, 0) (fun z => ∀ i, i < 36 → (z.2.2.1 139 i).toInt = Ft 6 (fun i => (I 121 (36 * l + i)).toInt) i) := y_walks hl l1 k2 (fun J gJ _ => gJ)
    refine sm_wp_mono (sm_wp_and A B) (fun z hz => ?_)
    obtain ⟨⟨I2, L2, R2, ez, m2, f2⟩, g⟩ := hz
    subst ez
    refine h I2 L2 R2 m2 (fun p j hp => (f2.2 p j (rn hp)).1) (fun _ l' hl' => ?_)
    have : l' = l := by omega
    subst this
    exact g
  · refine sm_wp_mono A (fun z hz => ?_)
    obtain ⟨I2, L2, R2, ez, m2, f2⟩ := hz
    subst ez
    exact h I2 L2 R2 m2 (fun p j hp => (f2.2 p j (rn hp)).1) (fun q => absurd q c)
theorem y_w2 (hm : en_mem ml_tb mlX (xLay, I, L, R)) (h : ∀ J : sm_I, en_mem ml_tb mlX (xLay, J, L, R) → ml_mf I J → (cdM I → ∀ l : Nat, (I 107 18).toInt = l → mvsM l I J) → Φ (none, (xLay, J, L, kM R))) : sm_wp sm_P S d 161 0 [.ref 107] [] (xLay, I, L, kM R) (0, 0) Φ := by
  have A : sm_wp sm_P S d 161 0 [.ref 107] [] (xLay, I, L, kM R) (0, 0) (fun z => ∃ J : sm_I, z = (none, (xLay, J, L, kM R)) ∧ en_mem ml_tb mlX (xLay, J, L, R) ∧ ml_mf I J) := mx_meets hm (fun J m f => ⟨J, rfl, m, f⟩)
  by_cases c : cdM I
  · obtain ⟨l, hl, l1⟩ := live_l hm
    obtain ⟨k1, k2, k3⟩ := c l hl
    have b := (ml_cs l1 hm).2.2.1
    have n := kl_nat b.1
    have B : sm_wp sm_P S d 161 0 [.ref 107] [] (xLay, I, L, kM R) (0, 0) (fun z => mvM l I z.2.2.1 (mlst l I)) := y_meets (T := (I 122 l).toNatClampNeg) hl l1 (by omega) (by omega) (fun i hi => k3 i (by omega)) (fun J gJ => gJ)
    refine sm_wp_mono (sm_wp_and A B) (fun z hz => ?_)
    obtain ⟨⟨J, ez, m, f⟩, g⟩ := hz
    subst ez
    refine h J m f (fun _ l' hl' => ?_)
    have : l' = l := by omega
    subst this
    obtain ⟨g1, g2, g3⟩ := g
    refine ⟨g1, fun j hj => ?_⟩
    obtain ⟨r1, r2, r3⟩ := g2 j hj
    have o9 : J 139 = I 139 := funext (fun j => f 139 j (by omega))
    exact ⟨r1, r2, by rw [o9]; exact r3⟩
  · refine sm_wp_mono A (fun z hz => ?_)
    obtain ⟨J, ez, m, f⟩ := hz
    subst ez
    exact h J m f (fun q => absurd q c)
end
