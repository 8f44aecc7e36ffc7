/-! searches: its contract -/
theorem mlh_16 {Sc : sm_C} : en_hold ml_tb mlX sm_P Sc mlc_16 := by
  intro d hd vs w hv hm _
  obtain ⟨vs1, rfl, hv1⟩ := kl_vr (q := 107) rfl hv
  obtain ⟨x1, vs2, rfl, b1, hv2⟩ := kl_vi hv1
  obtain rfl := kl_v0 hv2
  have hd : 7 ≤ d := hd
  obtain ⟨d, rfl⟩ : ∃ d', d = d' + 1 := ⟨d - 1, by omega⟩
  refine ml_top hm (fun I L R hw hm => ?_)
  have fin : ∀ (r : Int32) (I2 : sm_I) (L2 : sm_L) (R2 : sm_R), 0 ≤ r.toInt → r.toInt ≤ 1000 → en_mem ml_tb mlX (xLay, I2, L2, R2) → en_fr ml_SV (xLay, I, L, R) (xLay, I2, L2, R2) → ∃ (o : Option Value) (I3 : sm_I) (L3 : sm_L) (R3 : sm_R), ((some (.int r) : Option Value), ((xLay, I2, L2, kM R2) : sm_W)) = (o, (xLay, I3, L3, kM R3)) ∧ en_pr mlc_16.2.2.2.1 o ∧ en_mem ml_tb mlX (xLay, I3, L3, R3) ∧ en_fr mlc_16.2.2.2.2.1 (xLay, I, L, R) (xLay, I3, L3, R3) := fun r I2 L2 R2 a b m f => ⟨_, I2, L2, R2, rfl, Or.inl ⟨rfl, a, b⟩, m, f⟩
  refine u_X12_searches_0 (fun I1 e1 => ?_)
  have m1 : en_mem ml_tb mlX (xLay, I1, L, R) := by
    rw [e1]
    exact ml_wf (ml_wf hm (by decide +kernel) (q := (0, 1001)) (by decide +kernel) (by decide)) (by decide +kernel) (q := (0, 1)) (by decide +kernel) (by decide)
  have f1 : en_fr ml_SV (xLay, I, L, R) (xLay, I1, L, R) := by rw [e1]; exact ml_fr (ml_fr en_fr_rf (by decide +kernel)) (by decide +kernel)
  refine ⟨fun _ => fin _ _ _ _ (by decide) (by decide) m1 f1, fun a => ⟨kl_in (by decide) (by decide), fun I2 e2 => ?_⟩⟩
  have bi : 0 ≤ (I1 107 59).toInt ∧ (I1 107 59).toInt ≤ 70 := m1.2.1 107 59 (0, 70) (by decide +kernel)
  have a1 : (I1 107 59).toInt ≠ 0 := fun c => a (en_ofI (by rw [c]; decide))
  have m2 : en_mem ml_tb mlX (xLay, I2, L, R) := by
    rw [e2]
    exact ml_we2 m1 rfl (n := 70) (q := (0, 4)) rfl (by decide)
  have o2 : ∀ p j, p ≠ 150 → I2 p j = I1 p j := fun p j h => by rw [e2, en_up_ne _ _ _ _ (fun c => h c.1)]
  have t2 : I2 107 63 = 0 := by rw [o2 _ _ (by decide), e1, en_up_ne _ _ _ _ (by omega), en_up_eq]
  have i2 : I2 107 59 = I1 107 59 := o2 _ _ (by decide)
  refine mx_search3 (by omega) b1 fin 2002 I2 L R 0 0 m2 (by rw [e2]; exact ml_fr f1 rfl) (by decide) (by rw [i2, kl_0]; omega) (by decide) (by rw [t2]; decide) (by rw [t2]; decide) (fun j hj => ?_) (by rw [t2, kl_0]; omega)
  have hj0 : j = 0 := by rw [kl_0] at hj; omega
  have z : I2 150 j = 0 := by rw [hj0, e2]; exact en_up_eq _ _ _ _
  have bo : 0 ≤ (I2 148 j).toInt ∧ (I2 148 j).toInt ≤ 69 := ml_row m2 (p := 148) (n := 70) (q := (0, 69)) (fun _ => rfl) _ (by omega)
  rw [z, kl_0]
  exact ml_ch0 m2 bo.1 bo.2 (m2.2.2.2.2.2.1 _ (by omega))
