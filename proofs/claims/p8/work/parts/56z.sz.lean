/-! THE START, exact: what both constructors leave where later calls look -/
def sz_rows : List (Nat × Nat × Int) := [(38, 10, -1), (39, 55, -1), (118, 2, 0), (119, 2, 0), (122, 2, 0), (125, 2, 0), (134, 2, 0), (136, 2, 0), (137, 10, 0), (138, 10, -1), (160, 60, -1)]
def sz_flds : List (Nat × Nat × Int) := [(0, 10, 0), (0, 11, -1), (0, 12, 0), (0, 13, 0), (49, 0, 0), (49, 1, 0), (49, 2, 0), (49, 3, 0), (49, 4, 0), (49, 5, 0), (49, 6, 0), (37, 0, 0), (37, 1, 0), (98, 8, 0), (98, 9, 0), (103, 5, 0), (107, 2, 0), (107, 17, -1), (107, 18, 0), (107, 46, 0), (107, 54, 0), (107, 70, 0), (107, 79, 0), (107, 80, 0)]
def sz_refs : List (Nat × Nat × Nat) := [(0, 9, 49), (2, 6, 12)]
noncomputable def sz_ok (M : ab_M) : Bool := (sz_rows.all (fun q => ak_up (ak_iv q.2.2 q.2.2) (ab_tg M.2 q.1).2.2 q.2.1) && sz_flds.all (fun q => ak_iv q.2.2 q.2.2 (ab_tg (ab_tg M.2 q.1).2.2 (2 * q.2.1)))) && sz_refs.all (fun q => ak_rf (Int.ofNat q.2.2) (ab_tg (ab_tg M.2 q.1).2.2 (2 * q.2.1 + 1)))
def sz (w : sm_W) : Prop := (∀ q, q ∈ sz_rows → ∀ j, j < q.2.1 → (w.2.1 q.1 j).toInt = q.2.2) ∧ (∀ q, q ∈ sz_flds → (w.2.1 q.1 q.2.1).toInt = q.2.2) ∧ ∀ q, q ∈ sz_refs → w.2.2.2 q.1 q.2.1 = some q.2.2
theorem sz_l1 : ∀ q, q ∈ sz_rows → q.1 < 166 ∧ (xLay.getD q.1 (0, 0)).1 ≠ 0 ∧ (xLay.getD q.1 (0, 0)).1 ≠ 4 ∧ q.2.1 ≤ (xLay.getD q.1 (0, 0)).2 := by decide +kernel
theorem sz_l2 : ∀ q, q ∈ sz_flds → q.1 < 166 ∧ (xLay.getD q.1 (0, 0)).1 = 0 ∧ q.2.1 < 128 := by decide +kernel
theorem sz_l3 : ∀ q, q ∈ sz_refs → q.1 < 166 ∧ (xLay.getD q.1 (0, 0)).1 = 0 ∧ q.2.1 < 128 := by decide +kernel
theorem sz_len : xLay.length = 166 := by decide +kernel
theorem sz_at {k : Nat} (h : k < 166) : xLay[k]? = some (xLay.getD k (0, 0)) := by
  rw [List.getD_eq_getElem?_getD]
  cases e : xLay[k]? with
  | none =>
    have := List.getElem?_eq_none_iff.mp e
    rw [sz_len] at this
    omega
  | some c => rfl
theorem sz_of {xs : Nat → Int32} {M : ab_M} {w : sm_W} (hr : ab_rm xs M w) (hM : M.1 = 166) (ly : ∀ k c, xLay[k]? = some c → (ab_tg M.2 k).1 = c.1 ∧ (ab_tg M.2 k).2.1 = c.2) (h : sz_ok M = true) : sz w := by
  obtain ⟨h, h3⟩ := Bool.and_eq_true_iff.mp h
  obtain ⟨h1, h2⟩ := Bool.and_eq_true_iff.mp h
  refine ⟨fun q hq j hj => ?_, fun q hq => ?_, fun q hq => ?_⟩
  · obtain ⟨l1, l2, l3, l4⟩ := sz_l1 q hq
    obtain ⟨y1, y2⟩ := ly q.1 _ (sz_at l1)
    have u := ak_up_ok _ (List.all_eq_true.mp h1 q hq) j hj
    have g := (hr.2.2 q.1 (by omega)).2 j (by unfold ab_bd; rw [if_neg (by rw [y1]; exact l2), y2]; omega)
    have ev : ab_val w q.1 (ab_tg M.2 q.1).1 j = .int (w.2.1 q.1 j) := by
      unfold ab_val
      rw [if_neg (by rw [y1]; exact l2), if_neg (by rw [y1]; exact l3)]
    rw [ev] at g
    obtain ⟨x, ex, x1, x2⟩ := ak_iv_ok u g
    cases ex
    omega
  · obtain ⟨l1, l2, l3⟩ := sz_l2 q hq
    obtain ⟨y1, y2⟩ := ly q.1 _ (sz_at l1)
    exact ak_fd hr (by omega) (by rw [y1]; exact l2) l3 (List.all_eq_true.mp h2 q hq)
  · obtain ⟨l1, l2, l3⟩ := sz_l3 q hq
    obtain ⟨y1, y2⟩ := ly q.1 _ (sz_at l1)
    have y0 : (ab_tg M.2 q.1).1 = 0 := by rw [y1]; exact l2
    have u := List.all_eq_true.mp h3 q hq
    have g := (hr.2.2 q.1 (by omega)).2 (2 * q.2.1 + 1) (by unfold ab_bd; rw [if_pos y0]; omega)
    have ev : ab_val w q.1 (ab_tg M.2 q.1).1 (2 * q.2.1 + 1) = sm_rv (w.2.2.2 q.1 q.2.1) := by
      unfold ab_val
      rw [if_pos y0, if_pos (by omega), show (2 * q.2.1 + 1) / 2 = q.2.1 by omega]
    rw [ev] at g
    obtain ⟨p, e1, e2⟩ := ak_rf_ok u g
    rw [e1]
    exact congrArg some (Int.ofNat.inj e2).symm
