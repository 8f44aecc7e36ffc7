/-! the class's read, exact -/
def RDp (b : Nat → Int32) (n : Nat) (a0 : sg) (r : Int32) (J : sm_I) : Prop := ini a0 ∧ (∀ f j, SY (tk_K b n) 501 0 0 gc0 = some (f, j) → r = f ∧ (J 0 11).toInt = tk_at b n j) ∧ (SY (tk_K b n) 501 0 0 gc0 = none → (∀ f j, (ME (tk_K b n) (fun i => tk_vl b n (tk_at b n i)) 501 0 0 a0).1 = some (f, j) → r = f ∧ (J 0 11).toInt = tk_at b n j) ∧ ((ME (tk_K b n) (fun i => tk_vl b n (tk_at b n i)) 501 0 0 a0).1 = none → r = 0 ∧ J 0 11 = -1))
theorem RDp_of {b : Nat → Int32} {n : Nat} {a0 : sg} {r : Int32} {J1 J : sm_I} (h : RDk b n a0 r J1) (h0 : r = 0 → J 0 11 = -1) (h1 : r ≠ 0 → J 0 11 = J1 2 11) : RDp b n a0 r J := by
  refine ⟨h.1, fun f j q => ?_, fun q => ⟨fun f j q2 => ?_, fun q2 => ?_⟩⟩
  · obtain ⟨e1, e2, e3⟩ := h.2.1 f j q
    exact ⟨e1, by rw [h1 (by rw [e1]; exact e2)]; exact e3⟩
  · obtain ⟨e1, e2, e3⟩ := (h.2.2 q).1 f j q2
    exact ⟨e1, by rw [h1 (by rw [e1]; exact e2)]; exact e3⟩
  · have e := (h.2.2 q).2 q2
    exact ⟨e, h0 e⟩
theorem kp_rt {S : sm_C} {d : Nat} {Φ : sm_Z → Prop} {I : sm_I} {L : sm_L} {R : sm_R} {x2 : Int32} {n : Nat} (hn : n ≤ 2000) (h2 : x2.toInt = n) (hm : en_mem kl_tb klX (xLay, I, L, R)) (h : ∀ (r : Int32) (J : sm_I) (L' : sm_L) (R' : sm_R) (a0 : sg), RDk (I 1) n a0 r J → Φ (some (.int r), (xLay, J, L', R'))) : sm_wp sm_P S (d + 6) 276 0 [.ref 2, .ref 1, .int x2] [] (xLay, I, L, R) (0, 0) Φ := by
  obtain ⟨r, h1, h3⟩ := hm.2.2.1 2 6 (by decide +kernel)
  have h3 : R 2 6 = some r := h3
  rw [show en_refs kl_tb 2 6 = [12, 49] from by decide +kernel] at h1
  rcases List.mem_cons.mp h1 with e | e
  · subst e
    have e : kQ12 R = R := kQ12_eq (w := (xLay, I, L, R)) hm h3
    have g := k12_readTape (S := S) (d := d) (Φ := Φ) (I := I) (L := L) (R := R) hn h2 (by rw [e]; exact hm) (fun r J L' R' a0 q => h r J L' (kQ12 R') a0 q)
    rw [e] at g
    exact g
  · have e := List.mem_singleton.mp e
    subst e
    have e : kQ49 R = R := kQ49_eq (w := (xLay, I, L, R)) hm h3
    have g := k49_readTape (S := S) (d := d) (Φ := Φ) (I := I) (L := L) (R := R) hn h2 (by rw [e]; exact hm) (fun r J L' R' a0 q => h r J L' (kQ49 R') a0 q)
    rw [e] at g
    exact g
theorem kp_read {S : sm_C} {d : Nat} {Φ : sm_Z → Prop} {I : sm_I} {L : sm_L} {R : sm_R} {n : Nat} (hn : (I 0 10).toInt = n) (hm : en_mem kl_tb klX (xLay, I, L, R)) (h : ∀ (r : Int32) (I' : sm_I) (L' : sm_L) (R' : sm_R) (a0 : sg), en_mem kl_tb klX (xLay, I', L', R') → en_fr kx_RW (xLay, I, L, R) (xLay, I', L', R') → I' 0 10 = 0 → RDp (I 1) n a0 r I' → Φ (some (.int r), (xLay, I', L', R'))) : sm_wp sm_P S (d + 13) 80 0 [.ref 0] [] (xLay, I, L, R) (0, 0) Φ := by
  obtain ⟨q, -, e⟩ := kO_of hm
  have e : kO q R = R := e
  have b := kx_len hm
  have hd : 12 ≤ d + 12 := by omega
  have goal : sm_wp sm_P S (d + 12 + 1) 80 0 [.ref 0] [] (xLay, I, L, kO q R) (0, 0) Φ := by
    refine o_X11_read_0 ?_
    rw [e]
    have A := kx_ci (S := S) (d := d + 12) (c := klc_198) (vs := [.ref 2, .ref 1, .int (I 0 10)]) (C := fun _ I1 L1 R1 q1 => en_mem kl_tb klX (xLay, I1, L1, R1) ∧ (q1 = 12 ∨ q1 = 49) ∧ kO q1 R1 = R1 ∧ en_fr klc_198.2.2.2.2.1 (xLay, I, L, R) (xLay, I1, L1, R1)) klh_198 (Nat.le_trans (by decide) hd) ⟨⟨rfl, rfl⟩, ⟨rfl, rfl⟩, ⟨rfl, b.1, b.2⟩, trivial⟩ hm ml_pf0 rfl (fun r5 I1 L1 R1 q1 m1 hq1 e1 f1 => ⟨m1, hq1, e1, f1⟩)
    have B : sm_wp sm_P S (d + 12) 276 0 [.ref 2, .ref 1, .int (I 0 10)] [] (xLay, I, L, R) (0, 0) (fun z => ∃ (r : Int32) (J : sm_I) (L' : sm_L) (R' : sm_R) (a0 : sg), z = (some (.int r), (xLay, J, L', R')) ∧ RDk (I 1) n a0 r J) := kp_rt (d := d + 6) (by omega) hn hm (fun r J L' R' a0 q => ⟨r, J, L', R', a0, rfl, q⟩)
    refine sm_wp_mono (sm_wp_and A B) (fun z hz => ?_)
    obtain ⟨⟨r5, I1, L1, R1, q1, ez, m1, hq1, e1, f1⟩, r5', I1', L1', R1', a0, ez', hR⟩ := hz
    rw [ez] at ez'
    have er : r5 = r5' := Value.int.inj (Option.some.inj (congrArg Prod.fst ez'))
    have eI : I1 = I1' := congrArg (fun z : sm_Z => z.2.2.1) ez'
    rw [← er, ← eI] at hR
    clear ez' er eI
    refine ⟨r5, I1, L1, R1, q1, ez, ?_⟩
    have f1' : en_fr kx_RW (xLay, I, L, R) (xLay, I1, L1, R1) := ml_frw f1 (by decide +kernel)
    have fp : ∀ (x : Int32) (J : sm_I), (-1 ≤ x.toInt ∧ x.toInt ≤ 2000) → J = sm_up (sm_up I1 0 10 (0 : Int32)) 0 11 x → en_mem kl_tb klX (xLay, J, L1, R1) ∧ en_fr kx_RW (xLay, I, L, R) (xLay, J, L1, R1) ∧ J 0 10 = 0 ∧ J 0 11 = x := by
      intro x J hx eJ
      refine ⟨?_, ?_, ?_, ?_⟩
      · rw [eJ]
        refine kx_wr (kx_10 m1 (by decide)) (by decide +kernel) (fun q hq => ?_)
        rw [show en_int kl_tb 0 11 = some (-1, 2000) from by decide +kernel] at hq
        rw [← Option.some.inj hq]
        exact hx
      · rw [eJ]
        exact ml_fr (ml_fr f1' (by decide +kernel)) (by decide +kernel)
      · rw [eJ, en_up_ne _ _ _ _ (by omega), en_up_eq]
      · rw [eJ, en_up_eq]
    have on : ∀ J : sm_I, RDp (I 1) n a0 r5 J → en_mem kl_tb klX (xLay, J, L1, R1) → en_fr kx_RW (xLay, I, L, R) (xLay, J, L1, R1) → J 0 10 = 0 → sm_wp sm_P S (d + 12) 269 0 [.ref 2, .ref q1] [] (xLay, J, L1, kO q1 R1) (0, 0) (fun z => ∃ (r12 : Nat) (I8 : sm_I) (L9 : sm_L) (R10 : sm_R) (w11 : Nat), z = (some (.ref r12), (xLay, I8, L9, (kO w11 R10))) ∧ sm_wp sm_P S (d + 12) 245 0 [.ref 37] [] (xLay, I8, L9, (sm_up (kO w11 R10) 0 9 (some r12))) (0, 0) (fun z => ∃ (I13 : sm_I) (L14 : sm_L) (R15 : sm_R) (w16 : Nat), z = (none, (xLay, I13, L14, (kO w16 R15))) ∧ sm_wp sm_P S (d + 12) 86 0 [.ref 0] [] (xLay, I13, L14, (kO w16 R15)) (0, 0) (fun z => ∃ (I18 : sm_I) (L19 : sm_L) (R20 : sm_R) (w21 : Nat), z = (none, (xLay, I18, L19, (kO w21 R20))) ∧ Φ (some (.int r5), (xLay, I18, L19, (kO w21 R20)))))) := by
      intro J hJ mJ fJ zJ
      rw [e1]
      have k : ∀ (r : Nat) (I8 : sm_I) (L9 : sm_L) (R10 : sm_R) (w11 : Nat), (r = 12 ∨ r = 49) → en_mem kl_tb klX (xLay, I8, L9, R10) → kO w11 R10 = R10 → en_fr [(2, [6])] (xLay, J, L1, R1) (xLay, I8, L9, R10) → sm_wp sm_P S (d + 12) 245 0 [.ref 37] [] (xLay, I8, L9, (sm_up (kO w11 R10) 0 9 (some r))) (0, 0) (fun z => ∃ (I13 : sm_I) (L14 : sm_L) (R15 : sm_R) (w16 : Nat), z = (none, (xLay, I13, L14, (kO w16 R15))) ∧ sm_wp sm_P S (d + 12) 86 0 [.ref 0] [] (xLay, I13, L14, (kO w16 R15)) (0, 0) (fun z => ∃ (I18 : sm_I) (L19 : sm_L) (R20 : sm_R) (w21 : Nat), z = (none, (xLay, I18, L19, (kO w21 R20))) ∧ Φ (some (.int r5), (xLay, I18, L19, (kO w21 R20))))) := by
        intro r I8 L9 R10 w11 hr m8 e8 f8
        rw [e8]
        have f8' : en_fr kx_RW (xLay, I, L, R) (xLay, I8, L9, sm_up R10 0 9 (some r)) := kx_frR (ml_frt fJ f8 (by decide +kernel)) (by decide +kernel)
        refine kx_cv (c := klc_141) klh_141 (Nat.le_trans (by decide) hd) ⟨⟨rfl, rfl⟩, trivial⟩ (kx_told m8 hr) ml_pf0 rfl (fun I13 L14 R15 w16 m13 e13 f13 => ?_)
        rw [e13]
        have f13' := ml_frt f8' f13 (by decide +kernel)
        refine kx_cv (c := klc_222) klh_222 (Nat.le_trans (by decide) hd) ⟨⟨rfl, rfl⟩, trivial⟩ m13 ml_pf0 rfl (fun I18 L19 R20 w21 m18 e18 f18 => ?_)
        rw [e18]
        have z11 : I18 0 11 = J 0 11 := by rw [ml_g f18 (by decide), ml_g f13 (by decide), ml_g f8 (by decide)]
        refine h r5 I18 L19 R20 a0 m18 (ml_frt f13' f18 (by decide +kernel)) ?_ ?_
        · rw [ml_g f18 (by decide), ml_g f13 (by decide), ml_g f8 (by decide), zJ]
        · unfold RDp
          rw [z11]
          exact hJ
      rcases hq1 with c | c
      · subst c
        exact kx_cr (c := klc_161) klh_161 (Nat.zero_le _) ⟨⟨rfl, rfl⟩, ⟨rfl, rfl⟩, trivial⟩ mJ ml_pf0 rfl k
      · subst c
        exact kx_cr (c := klc_162) klh_162 (Nat.zero_le _) ⟨⟨rfl, rfl⟩, ⟨rfl, rfl⟩, trivial⟩ mJ ml_pf0 rfl k
    have bp : -1 ≤ (I1 2 11).toInt ∧ (I1 2 11).toInt ≤ 2000 := m1.2.1 2 11 (-1, 2000) (by decide +kernel)
    refine ⟨fun a I27 e27 => ?_, fun a n6 e6 I7 e7 => ?_⟩
    · obtain ⟨mJ, fJ, zJ, pJ⟩ := fp (-1) I27 (by decide) e27
      have D := RDp_of hR (J := I27) (fun _ => pJ) (fun q => absurd a q)
      refine ⟨fun _ => on I27 D mJ fJ zJ, fun _ => ?_⟩
      rw [e1]
      exact h r5 I27 L1 R1 a0 mJ fJ zJ D
    · rw [en_up_ne _ _ _ _ (by omega)] at e6
      obtain ⟨mJ, fJ, zJ, pJ⟩ := fp n6 I7 (by rw [e6]; exact bp) e7
      have D := RDp_of hR (J := I7) (fun q => absurd q a) (fun _ => by rw [pJ, e6])
      refine ⟨fun _ => on I7 D mJ fJ zJ, fun _ => ?_⟩
      rw [e1]
      exact h r5 I7 L1 R1 a0 mJ fJ zJ D
  rw [e] at goal
  exact goal
