/-! both invariants at the start -/
theorem ak_new {xs : Nat → Int32} {M : ab_M} {w : sm_W} {n ci : Nat} {c : ab_M → Bool} (hr : ab_rm xs M w) (hn : M.1 = n) (h : ab_newc M 0 ci ak_T0 c = true) : ∃ M', ab_rm xs M' (w.1 ++ [(0, ci)], sm_row w.2.1 n (fun _ => 0), w.2.2.1, sm_row w.2.2.2 n (fun _ => none)) ∧ c M' = true := by
  have hlen : w.1.length = n := by rw [← hn]; exact hr.1
  subst hlen
  obtain ⟨M', g1, g2, g3⟩ := ab_newc_ok (m' := (sm_row w.2.1 w.1.length (fun _ => 0), w.2.2.1, sm_row w.2.2.2 w.1.length (fun _ => none))) hr (by
    intro j hj
    rw [hn]
    unfold ak_T0
    simp only [ab_val]
    rw [if_pos trivial, ab_row_eq, ab_row_eq, ab_tg_branch]
    by_cases e : j % 2 = 1
    · rw [if_pos e, if_neg (by omega)]
      exact rfl
    · rw [if_neg e, if_pos (by omega)]
      exact ab_gi0 _) (by
    intro p kd j hp
    have hp : p ≠ w.1.length := by omega
    simp only [ab_val]
    rw [ab_row_p _ _ _ hp, ab_row_p _ _ _ hp, ab_row_p _ _ _ hp]) h
  exact ⟨M', g1, g3⟩
theorem ak_fin_ok {xs : Nat → Int32} {M : ab_M} {w : sm_W} (hr : ab_rm xs M w) (h : ak_fin M = true) : en_mem kl_tb klX w ∧ en_mem ml_tb mlX w ∧ w.2.1 0 10 = 0 ∧ w.2.1 107 2 = 0 ∧ w.2.1 0 11 = -1 ∧ w.2.1 107 17 = -1 ∧ sz w := by
  obtain ⟨h, hz⟩ := Bool.and_eq_true_iff.mp h
  obtain ⟨h, hk⟩ := Bool.and_eq_true_iff.mp h
  obtain ⟨h1, h2⟩ := Bool.and_eq_true_iff.mp h
  obtain ⟨h3, h4⟩ := Bool.and_eq_true_iff.mp h1
  obtain ⟨h5, h6⟩ := Bool.and_eq_true_iff.mp h2
  obtain ⟨h7, h8⟩ := Bool.and_eq_true_iff.mp h5
  have hM : M.1 = 166 := Nat.eq_of_beq_eq_true h3
  have ly : ∀ k c, xLay[k]? = some c → (ab_tg M.2 k).1 = c.1 ∧ (ab_tg M.2 k).2.1 = c.2 := fun k c hc => by
    have := ak_ly_ok xLay 0 h4 k c hc
    rw [Nat.zero_add] at this
    exact this
  have lay : w.1 = xLay := ak_lay hr (by rw [hM]; rfl) h4
  have X := List.all_eq_true.mp h6
  have iz : ∀ {x : Int32}, x.toInt = 0 → x = 0 := fun e => en_ofI (by rw [e]; decide)
  have f75_4 : (w.2.1 75 4).toInt = 1 := ak_fd hr (by omega) (ly 75 _ rfl).1 (by decide) (X _ (List.mem_cons_self))
  have f75_5 : (w.2.1 75 5).toInt = 1 := ak_fd hr (by omega) (ly 75 _ rfl).1 (by decide) (X _ (List.mem_cons_of_mem _ (List.mem_cons_self)))
  have f83_4 : (w.2.1 83 4).toInt = 1 := ak_fd hr (by omega) (ly 83 _ rfl).1 (by decide) (X _ (List.mem_cons_of_mem _ (List.mem_cons_of_mem _ (List.mem_cons_self))))
  have f83_5 : (w.2.1 83 5).toInt = 1 := ak_fd hr (by omega) (ly 83 _ rfl).1 (by decide) (X _ (List.mem_cons_of_mem _ (List.mem_cons_of_mem _ (List.mem_cons_of_mem _ (List.mem_cons_self)))))
  have f91_4 : (w.2.1 91 4).toInt = 1 := ak_fd hr (by omega) (ly 91 _ rfl).1 (by decide) (X _ (List.mem_cons_of_mem _ (List.mem_cons_of_mem _ (List.mem_cons_of_mem _ (List.mem_cons_of_mem _ (List.mem_cons_self))))))
  have f91_5 : (w.2.1 91 5).toInt = 1 := ak_fd hr (by omega) (ly 91 _ rfl).1 (by decide) (X _ (List.mem_cons_of_mem _ (List.mem_cons_of_mem _ (List.mem_cons_of_mem _ (List.mem_cons_of_mem _ (List.mem_cons_of_mem _ (List.mem_cons_self)))))))
  have f0_10 : (w.2.1 0 10).toInt = 0 := ak_fd hr (by omega) (ly 0 _ rfl).1 (by decide) (X _ (List.mem_cons_of_mem _ (List.mem_cons_of_mem _ (List.mem_cons_of_mem _ (List.mem_cons_of_mem _ (List.mem_cons_of_mem _ (List.mem_cons_of_mem _ (List.mem_cons_self))))))))
  have f107_2 : (w.2.1 107 2).toInt = 0 := ak_fd hr (by omega) (ly 107 _ rfl).1 (by decide) (X _ (List.mem_cons_of_mem _ (List.mem_cons_of_mem _ (List.mem_cons_of_mem _ (List.mem_cons_of_mem _ (List.mem_cons_of_mem _ (List.mem_cons_of_mem _ (List.mem_cons_of_mem _ (List.mem_cons_self)))))))))
  have f107_18 : (w.2.1 107 18).toInt = 0 := ak_fd hr (by omega) (ly 107 _ rfl).1 (by decide) (X _ (List.mem_cons_of_mem _ (List.mem_cons_of_mem _ (List.mem_cons_of_mem _ (List.mem_cons_of_mem _ (List.mem_cons_of_mem _ (List.mem_cons_of_mem _ (List.mem_cons_of_mem _ (List.mem_cons_of_mem _ (List.mem_cons_self))))))))))
  have f0_11 : (w.2.1 0 11).toInt = -1 := ak_fd hr (by omega) (ly 0 _ rfl).1 (by decide) (X _ (List.mem_cons_of_mem _ (List.mem_cons_of_mem _ (List.mem_cons_of_mem _ (List.mem_cons_of_mem _ (List.mem_cons_of_mem _ (List.mem_cons_of_mem _ (List.mem_cons_of_mem _ (List.mem_cons_of_mem _ (List.mem_cons_of_mem _ (List.mem_cons_of_mem _ (List.mem_cons_of_mem _ (List.mem_cons_of_mem _ (List.mem_cons_of_mem _ (List.mem_cons_of_mem _ (List.mem_cons_of_mem _ (List.mem_cons_of_mem _ (List.mem_cons_of_mem _ (List.mem_cons_of_mem _ (List.mem_cons_of_mem _ (List.mem_cons_of_mem _ (List.mem_cons_of_mem _ (List.mem_cons_of_mem _ (List.mem_cons_self))))))))))))))))))))))))
  have f107_17 : (w.2.1 107 17).toInt = -1 := ak_fd hr (by omega) (ly 107 _ rfl).1 (by decide) (X _ (List.mem_cons_of_mem _ (List.mem_cons_of_mem _ (List.mem_cons_of_mem _ (List.mem_cons_of_mem _ (List.mem_cons_of_mem _ (List.mem_cons_of_mem _ (List.mem_cons_of_mem _ (List.mem_cons_of_mem _ (List.mem_cons_of_mem _ (List.mem_cons_of_mem _ (List.mem_cons_of_mem _ (List.mem_cons_of_mem _ (List.mem_cons_of_mem _ (List.mem_cons_of_mem _ (List.mem_cons_of_mem _ (List.mem_cons_of_mem _ (List.mem_cons_of_mem _ (List.mem_cons_of_mem _ (List.mem_cons_of_mem _ (List.mem_cons_of_mem _ (List.mem_cons_of_mem _ (List.mem_cons_of_mem _ (List.mem_cons_of_mem _ (List.mem_cons_self)))))))))))))))))))))))))
  have im : ∀ {x : Int32}, x.toInt = -1 → x = -1 := fun e => en_ofI (by rw [e]; decide)
  have r77 : ∀ j, j < 11 → (0 : Int) ≤ (w.2.1 77 j).toInt ∧ (w.2.1 77 j).toInt ≤ 0 := fun j hj => ak_el hr (by omega) (ly 77 _ rfl).1 (by rw [(ly 77 _ rfl).2]; exact hj) (ak_all_ok _ (X _ (List.mem_cons_of_mem _ (List.mem_cons_of_mem _ (List.mem_cons_of_mem _ (List.mem_cons_of_mem _ (List.mem_cons_of_mem _ (List.mem_cons_of_mem _ (List.mem_cons_of_mem _ (List.mem_cons_of_mem _ (List.mem_cons_of_mem _ (List.mem_cons_self))))))))))) j)
  have r85 : ∀ j, j < 11 → (0 : Int) ≤ (w.2.1 85 j).toInt ∧ (w.2.1 85 j).toInt ≤ 0 := fun j hj => ak_el hr (by omega) (ly 85 _ rfl).1 (by rw [(ly 85 _ rfl).2]; exact hj) (ak_all_ok _ (X _ (List.mem_cons_of_mem _ (List.mem_cons_of_mem _ (List.mem_cons_of_mem _ (List.mem_cons_of_mem _ (List.mem_cons_of_mem _ (List.mem_cons_of_mem _ (List.mem_cons_of_mem _ (List.mem_cons_of_mem _ (List.mem_cons_of_mem _ (List.mem_cons_of_mem _ (List.mem_cons_self)))))))))))) j)
  have r93 : ∀ j, j < 12 → (0 : Int) ≤ (w.2.1 93 j).toInt ∧ (w.2.1 93 j).toInt ≤ 0 := fun j hj => ak_el hr (by omega) (ly 93 _ rfl).1 (by rw [(ly 93 _ rfl).2]; exact hj) (ak_all_ok _ (X _ (List.mem_cons_of_mem _ (List.mem_cons_of_mem _ (List.mem_cons_of_mem _ (List.mem_cons_of_mem _ (List.mem_cons_of_mem _ (List.mem_cons_of_mem _ (List.mem_cons_of_mem _ (List.mem_cons_of_mem _ (List.mem_cons_of_mem _ (List.mem_cons_of_mem _ (List.mem_cons_of_mem _ (List.mem_cons_self))))))))))))) j)
  have r122 : ∀ j, j < 2 → (0 : Int) ≤ (w.2.1 122 j).toInt ∧ (w.2.1 122 j).toInt ≤ 0 := fun j hj => ak_el hr (by omega) (ly 122 _ rfl).1 (by rw [(ly 122 _ rfl).2]; exact hj) (ak_all_ok _ (X _ (List.mem_cons_of_mem _ (List.mem_cons_of_mem _ (List.mem_cons_of_mem _ (List.mem_cons_of_mem _ (List.mem_cons_of_mem _ (List.mem_cons_of_mem _ (List.mem_cons_of_mem _ (List.mem_cons_of_mem _ (List.mem_cons_of_mem _ (List.mem_cons_of_mem _ (List.mem_cons_of_mem _ (List.mem_cons_of_mem _ (List.mem_cons_self)))))))))))))) j)
  have r125 : ∀ j, j < 2 → (0 : Int) ≤ (w.2.1 125 j).toInt ∧ (w.2.1 125 j).toInt ≤ 0 := fun j hj => ak_el hr (by omega) (ly 125 _ rfl).1 (by rw [(ly 125 _ rfl).2]; exact hj) (ak_all_ok _ (X _ (List.mem_cons_of_mem _ (List.mem_cons_of_mem _ (List.mem_cons_of_mem _ (List.mem_cons_of_mem _ (List.mem_cons_of_mem _ (List.mem_cons_of_mem _ (List.mem_cons_of_mem _ (List.mem_cons_of_mem _ (List.mem_cons_of_mem _ (List.mem_cons_of_mem _ (List.mem_cons_of_mem _ (List.mem_cons_of_mem _ (List.mem_cons_of_mem _ (List.mem_cons_self))))))))))))))) j)
  have r148 : ∀ j, j < 70 → (0 : Int) ≤ (w.2.1 148 j).toInt ∧ (w.2.1 148 j).toInt ≤ 54 := fun j hj => ak_el hr (by omega) (ly 148 _ rfl).1 (by rw [(ly 148 _ rfl).2]; exact hj) (ak_all_ok _ (X _ (List.mem_cons_of_mem _ (List.mem_cons_of_mem _ (List.mem_cons_of_mem _ (List.mem_cons_of_mem _ (List.mem_cons_of_mem _ (List.mem_cons_of_mem _ (List.mem_cons_of_mem _ (List.mem_cons_of_mem _ (List.mem_cons_of_mem _ (List.mem_cons_of_mem _ (List.mem_cons_of_mem _ (List.mem_cons_of_mem _ (List.mem_cons_of_mem _ (List.mem_cons_of_mem _ (List.mem_cons_self)))))))))))))))) j)
  have r117 : ∀ j, j < 50 → (0 : Int) ≤ (w.2.1 117 j).toInt ∧ (w.2.1 117 j).toInt ≤ 3 := fun j hj => ak_el hr (by omega) (ly 117 _ rfl).1 (by rw [(ly 117 _ rfl).2]; exact hj) (ak_all_ok _ (X _ (List.mem_cons_of_mem _ (List.mem_cons_of_mem _ (List.mem_cons_of_mem _ (List.mem_cons_of_mem _ (List.mem_cons_of_mem _ (List.mem_cons_of_mem _ (List.mem_cons_of_mem _ (List.mem_cons_of_mem _ (List.mem_cons_of_mem _ (List.mem_cons_of_mem _ (List.mem_cons_of_mem _ (List.mem_cons_of_mem _ (List.mem_cons_of_mem _ (List.mem_cons_of_mem _ (List.mem_cons_of_mem _ (List.mem_cons_self))))))))))))))))) j)
  have p0 : (w.2.1 165 0).toInt = 1 := by
    have := ak_el (p := 165) (j := 0) hr (by omega) (ly 165 _ rfl).1 (by rw [(ly 165 _ rfl).2]; decide) (X _ (List.mem_cons_of_mem _ (List.mem_cons_of_mem _ (List.mem_cons_of_mem _ (List.mem_cons_of_mem _ (List.mem_cons_of_mem _ (List.mem_cons_of_mem _ (List.mem_cons_of_mem _ (List.mem_cons_of_mem _ (List.mem_cons_of_mem _ (List.mem_cons_of_mem _ (List.mem_cons_of_mem _ (List.mem_cons_of_mem _ (List.mem_cons_of_mem _ (List.mem_cons_of_mem _ (List.mem_cons_of_mem _ (List.mem_cons_of_mem _ (List.mem_cons_self))))))))))))))))))
    omega
  have p1 : (w.2.1 165 1).toInt = 3 := by
    have := ak_el (p := 165) (j := 1) hr (by omega) (ly 165 _ rfl).1 (by rw [(ly 165 _ rfl).2]; decide) (X _ (List.mem_cons_of_mem _ (List.mem_cons_of_mem _ (List.mem_cons_of_mem _ (List.mem_cons_of_mem _ (List.mem_cons_of_mem _ (List.mem_cons_of_mem _ (List.mem_cons_of_mem _ (List.mem_cons_of_mem _ (List.mem_cons_of_mem _ (List.mem_cons_of_mem _ (List.mem_cons_of_mem _ (List.mem_cons_of_mem _ (List.mem_cons_of_mem _ (List.mem_cons_of_mem _ (List.mem_cons_of_mem _ (List.mem_cons_of_mem _ (List.mem_cons_of_mem _ (List.mem_cons_self)))))))))))))))))))
    omega
  have p2 : (w.2.1 165 2).toInt = 9 := by
    have := ak_el (p := 165) (j := 2) hr (by omega) (ly 165 _ rfl).1 (by rw [(ly 165 _ rfl).2]; decide) (X _ (List.mem_cons_of_mem _ (List.mem_cons_of_mem _ (List.mem_cons_of_mem _ (List.mem_cons_of_mem _ (List.mem_cons_of_mem _ (List.mem_cons_of_mem _ (List.mem_cons_of_mem _ (List.mem_cons_of_mem _ (List.mem_cons_of_mem _ (List.mem_cons_of_mem _ (List.mem_cons_of_mem _ (List.mem_cons_of_mem _ (List.mem_cons_of_mem _ (List.mem_cons_of_mem _ (List.mem_cons_of_mem _ (List.mem_cons_of_mem _ (List.mem_cons_of_mem _ (List.mem_cons_of_mem _ (List.mem_cons_self))))))))))))))))))))
    omega
  have p3 : (w.2.1 165 3).toInt = 27 := by
    have := ak_el (p := 165) (j := 3) hr (by omega) (ly 165 _ rfl).1 (by rw [(ly 165 _ rfl).2]; decide) (X _ (List.mem_cons_of_mem _ (List.mem_cons_of_mem _ (List.mem_cons_of_mem _ (List.mem_cons_of_mem _ (List.mem_cons_of_mem _ (List.mem_cons_of_mem _ (List.mem_cons_of_mem _ (List.mem_cons_of_mem _ (List.mem_cons_of_mem _ (List.mem_cons_of_mem _ (List.mem_cons_of_mem _ (List.mem_cons_of_mem _ (List.mem_cons_of_mem _ (List.mem_cons_of_mem _ (List.mem_cons_of_mem _ (List.mem_cons_of_mem _ (List.mem_cons_of_mem _ (List.mem_cons_of_mem _ (List.mem_cons_of_mem _ (List.mem_cons_self)))))))))))))))))))))
    omega
  have p4 : (w.2.1 165 4).toInt = 81 := by
    have := ak_el (p := 165) (j := 4) hr (by omega) (ly 165 _ rfl).1 (by rw [(ly 165 _ rfl).2]; decide) (X _ (List.mem_cons_of_mem _ (List.mem_cons_of_mem _ (List.mem_cons_of_mem _ (List.mem_cons_of_mem _ (List.mem_cons_of_mem _ (List.mem_cons_of_mem _ (List.mem_cons_of_mem _ (List.mem_cons_of_mem _ (List.mem_cons_of_mem _ (List.mem_cons_of_mem _ (List.mem_cons_of_mem _ (List.mem_cons_of_mem _ (List.mem_cons_of_mem _ (List.mem_cons_of_mem _ (List.mem_cons_of_mem _ (List.mem_cons_of_mem _ (List.mem_cons_of_mem _ (List.mem_cons_of_mem _ (List.mem_cons_of_mem _ (List.mem_cons_of_mem _ (List.mem_cons_self))))))))))))))))))))))
    omega
  have p5 : (w.2.1 165 5).toInt = 243 := by
    have := ak_el (p := 165) (j := 5) hr (by omega) (ly 165 _ rfl).1 (by rw [(ly 165 _ rfl).2]; decide) (X _ (List.mem_cons_of_mem _ (List.mem_cons_of_mem _ (List.mem_cons_of_mem _ (List.mem_cons_of_mem _ (List.mem_cons_of_mem _ (List.mem_cons_of_mem _ (List.mem_cons_of_mem _ (List.mem_cons_of_mem _ (List.mem_cons_of_mem _ (List.mem_cons_of_mem _ (List.mem_cons_of_mem _ (List.mem_cons_of_mem _ (List.mem_cons_of_mem _ (List.mem_cons_of_mem _ (List.mem_cons_of_mem _ (List.mem_cons_of_mem _ (List.mem_cons_of_mem _ (List.mem_cons_of_mem _ (List.mem_cons_of_mem _ (List.mem_cons_of_mem _ (List.mem_cons_of_mem _ (List.mem_cons_self)))))))))))))))))))))))
    omega
  have net : ∀ p q : Nat, (w.2.1 p 4).toInt = 1 → (w.2.1 p 5).toInt = 1 → ((0 : Int) ≤ (w.2.1 q 0).toInt ∧ (w.2.1 q 0).toInt ≤ 0) → kl_net w.2.1 p q := fun p q a b c => ⟨by rw [a, b]; rfl, fun i hi => by
    rw [a] at hi ⊢
    have : i = 0 := by omega
    subst this
    omega⟩
  have key : pk_ok w.2.2.1 := fun j hj => by
    have a := ak_kk_ok _ 0 hk j hj
    rw [Nat.zero_add] at a
    obtain ⟨a1, a2⟩ := Bool.and_eq_true_iff.mp a
    have kd : (ab_tg M.2 114).1 = 4 := (ly 114 _ rfl).1
    have g := (hr.2.2 114 (by omega)).2 j (by unfold ab_bd; rw [if_neg (by omega), (ly 114 _ rfl).2]; exact hj)
    unfold ab_val at g
    rw [if_neg (by omega), if_pos kd] at g
    have e : (ab_tg (ab_tg M.2 114).2.2 j).1 = 4 := Nat.eq_of_beq_eq_true a1
    have e2 := en_eq_iff.mp a2
    have g : ((ab_tg (ab_tg M.2 114).2.2 j).1 = 4 ∧ (w.2.2.1 114 j).toInt = (ab_tg (ab_tg M.2 114).2.2 j).2) ∨ (ab_tg (ab_tg M.2 114).2.2 j).1 = 5 := g
    apply Int64.toInt_inj.mp
    rw [pk_keyI_eq j hj, ← e2]
    omega
  refine ⟨ak_mem hr (by rw [hM]; decide) h7 ⟨lay, net 75 77 f75_4 f75_5 (r77 0 (by decide)), net 83 85 f83_4 f83_5 (r85 0 (by decide)), net 91 93 f91_4 f91_5 (r93 0 (by decide)), key⟩, ak_mem hr (by rw [hM]; decide) h8 ⟨lay, fun j hj => Or.inl (r148 j hj).2, fun l hl => ?_, ?_, fun j hj => ?_, key⟩, iz f0_10, iz f107_2, im f0_11, im f107_17, sz_of hr hM ly hz⟩
  · rw [f107_18] at hl
    have hl : l = 0 := by omega
    subst hl
    refine ⟨fun i hi => ?_, fun s c i hs => ?_⟩
    · have := r122 0 (by decide)
      omega
    · have := r125 0 (by decide)
      omega
  · exact ⟨en_ofI (by rw [p0]; decide), en_ofI (by rw [p1]; decide), en_ofI (by rw [p2]; decide), en_ofI (by rw [p3]; decide), en_ofI (by rw [p4]; decide), en_ofI (by rw [p5]; decide)⟩
  · have := r117 j hj
    exact ⟨fun _ => by omega, fun _ => by omega⟩
theorem lw_start {L : Nat} {ys : Nat → Int32} {Φ : sm_Z → Prop} (h : ∀ w : sm_W, en_mem kl_tb klX w → en_mem ml_tb mlX w → w.2.1 0 10 = 0 → w.2.1 107 2 = 0 → w.2.1 0 11 = -1 → w.2.1 107 17 = -1 → sz w → sm_wp sm_P (L, ys) 60 307 1 [.ref 1004, .ref 0, .ref 107, .int 0] [] w (166, 118202) Φ) : sm_wp sm_P (L, ys) 60 307 0 [.ref 1004] [] sm_w0 (0, 0) Φ := by
  have r0 : ab_rm (fun _ => 0) ak_M0 sm_w0 := ⟨rfl, by decide, fun p hp => absurd hp (Nat.not_lt_zero p)⟩
  have sat : ab_sat (fun _ => (0 : Int32)) [] := fun k => ab_crange
  have RUN : ∀ n, ab_rok (fun _ => (0 : Int32)) sm_P (L, ys) (ab_run 0 sm_P ak_acc n) := ab_run_ok (fun j hj => absurd hj (Nat.not_lt_zero j)) (by decide) ak_acc_ok
  obtain ⟨M1, g1, g2⟩ := ak_new r0 (n := 0) rfl ak_run
  have w1 := RUN 1000000 59 54 0 [(2, .ofNat 0)] [] M1 [] (0, 0) ak_k1 [.ref 0] [] _ (fun z => z.1 = none ∧ z.2.1 = xL1 ∧ sm_wp sm_P (L, ys) 59 142 0 [.ref 107] [] (z.2.1 ++ [(0, 12)], sm_row z.2.2.1 107 (fun _ => 0), z.2.2.2.1, sm_row z.2.2.2.2 107 (fun _ => none)) (0, 0) (fun z => z.1 = none ∧ en_mem kl_tb klX z.2 ∧ en_mem ml_tb mlX z.2 ∧ z.2.2.1 0 10 = 0 ∧ z.2.2.1 107 2 = 0 ∧ z.2.2.1 0 11 = -1 ∧ z.2.2.1 107 17 = -1 ∧ sz z.2)) g2 ⟨⟨rfl, rfl⟩, trivial⟩ trivial g1 sat (by
    intro r r' M w E hk hor hr hE
    unfold ak_k1 at hk
    cases r with
    | some a => cases hk
    | none =>
      cases r' with
      | some v => exact hor.elim
      | none =>
        obtain ⟨k1, k2⟩ := Bool.and_eq_true_iff.mp hk
        obtain ⟨k3, k4⟩ := Bool.and_eq_true_iff.mp k1
        have hM : M.1 = 107 := Nat.eq_of_beq_eq_true k3
        obtain ⟨M2, q1, q2⟩ := ak_new hr hM k2
        refine ⟨rfl, ak_lay hr (by rw [hM]; rfl) k4, ?_⟩
        refine RUN 1000000 59 142 0 [(2, .ofNat 107)] [] M2 E (0, 0) ak_k2 [.ref 107] [] _ _ q2 ⟨⟨rfl, rfl⟩, trivial⟩ trivial q1 hE ?_
        intro r r' M w E hk hor hr hE
        unfold ak_k2 at hk
        cases r with
        | some a => cases hk
        | none =>
          cases r' with
          | some v => exact hor.elim
          | none => exact ⟨rfl, ak_fin_ok hr hk⟩)
  refine sm_wp_step (sm_wp_mono w1 (fun z hz => ?_))
  obtain ⟨o, lay, I2, L2, R2⟩ := z
  obtain ⟨e1, e2, hw⟩ := hz
  have e1 : o = none := e1
  have e2 : lay = xL1 := e2
  subst e1
  subst e2
  refine (sm_wp_mono hw (fun z hz => ?_) : sm_wp _ _ _ _ _ _ _ _ _ _)
  obtain ⟨o, w3⟩ := z
  obtain ⟨e1, c1, c2, c3, c4, c5, c6, c7⟩ := hz
  have e1 : o = none := e1
  subst e1
  exact h w3 c1 c2 c3 c4 c5 c6 c7
