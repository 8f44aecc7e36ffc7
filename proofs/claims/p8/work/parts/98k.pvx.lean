/-! the class's read, exact -/
def RDp (b : Nat → Int32) (n : Nat) (a0 : sg) (r : Int32) (J : sm_I) : Prop := ini a0 ∧ (∀ f j, SY (tk_K b n) 501 0 0 gc0 = some (f, j) → r = f ∧ f ≠ 0 ∧ (J 0 11).toInt = tk_at b n j) ∧ (SY (tk_K b n) 501 0 0 gc0 = none → (∀ f j, (ME (tk_K b n) (fun i => tk_vl b n (tk_at b n i)) 501 0 0 a0).1 = some (f, j) → r = f ∧ f ≠ 0 ∧ (J 0 11).toInt = tk_at b n j) ∧ ((ME (tk_K b n) (fun i => tk_vl b n (tk_at b n i)) 501 0 0 a0).1 = none → r = 0 ∧ J 0 11 = -1))
theorem RDp_of {b : Nat → Int32} {n : Nat} {a0 : sg} {r : Int32} {J1 J : sm_I} (h : RDk b n a0 r J1) (h0 : r = 0 → J 0 11 = -1) (h1 : r ≠ 0 → J 0 11 = J1 2 11) : RDp b n a0 r J := by
  refine ⟨h.1, fun f j q => ?_, fun q => ⟨fun f j q2 => ?_, fun q2 => ?_⟩⟩
  · obtain ⟨e1, e2, e3⟩ := h.2.1 f j q
    exact ⟨e1, e2, by rw [h1 (by rw [e1]; exact e2)]; exact e3⟩
  · obtain ⟨e1, e2, e3⟩ := (h.2.2 q).1 f j q2
    exact ⟨e1, e2, by rw [h1 (by rw [e1]; exact e2)]; exact e3⟩
  · have e := (h.2.2 q).2 q2
    exact ⟨e, h0 e⟩
theorem lw_nt {W : en_W} {p j : Nat} (h : W.all (fun q => Nat.blt q.1 12 || (Nat.beq q.1 37 || (Nat.ble 34 q.1 && (Nat.blt q.1 49 || Nat.ble 71 q.1)))) = true) (hp : (12 ≤ p ∧ p < 34) ∨ (49 ≤ p ∧ p < 71)) : en_wok W p j = false := by
  cases c : en_wok W p j with
  | false => rfl
  | true =>
    exfalso
    obtain ⟨q, g1, g2⟩ := List.any_eq_true.mp c
    have e : q.1 = p := Nat.eq_of_beq_eq_true (Bool.and_eq_true_iff.mp g2).1
    have l := List.all_eq_true.mp h q g1
    rw [e] at l
    rcases Bool.or_eq_true_iff.mp l with l | l
    · have l : p < 12 := Nat.le_of_ble_eq_true l
      omega
    rcases Bool.or_eq_true_iff.mp l with l | l
    · have l := Nat.eq_of_beq_eq_true l
      omega
    obtain ⟨l1, l2⟩ := Bool.and_eq_true_iff.mp l
    have l1 := Nat.le_of_ble_eq_true l1
    rcases Bool.or_eq_true_iff.mp l2 with l | l
    · have l : p < 49 := Nat.le_of_ble_eq_true l
      omega
    · have l := Nat.le_of_ble_eq_true l
      omega
theorem kp_rt {S : sm_C} {d : Nat} {Φ : sm_Z → Prop} {I : sm_I} {L : sm_L} {R : sm_R} {x2 : Int32} {n qi : Nat} (hn : n ≤ 2000) (h2 : x2.toInt = n) (hm : en_mem kl_tb klX (xLay, I, L, R)) (hi : qi = 12 ∨ qi = 49) (h3 : R 2 6 = some qi) (h : ∀ (r : Int32) (J : sm_I) (L' : sm_L) (R' : sm_R) (a0 : sg), RDk (I 1) n a0 r J → RDt qi (I 1) n a0 I J → Φ (some (.int r), (xLay, J, L', R'))) : sm_wp sm_P S (d + 6) 276 0 [.ref 2, .ref 1, .int x2] [] (xLay, I, L, R) (0, 0) Φ := by
  rcases hi with e | e
  · subst e
    have e : kQ12 R = R := kQ12_eq (w := (xLay, I, L, R)) hm h3
    have g := k12_readTape (S := S) (d := d) (Φ := Φ) (I := I) (L := L) (R := R) hn h2 (by rw [e]; exact hm) (fun r J L' R' a0 q q' => h r J L' (kQ12 R') a0 q q')
    rw [e] at g
    exact g
  · subst e
    have e : kQ49 R = R := kQ49_eq (w := (xLay, I, L, R)) hm h3
    have g := k49_readTape (S := S) (d := d) (Φ := Φ) (I := I) (L := L) (R := R) hn h2 (by rw [e]; exact hm) (fun r J L' R' a0 q q' => h r J L' (kQ49 R') a0 q q')
    rw [e] at g
    exact g
theorem kp_c12 {S : sm_C} {d q : Nat} {Φ : sm_Z → Prop} {I : sm_I} {L : sm_L} {R : sm_R} (h : Φ (some (.ref 12), (xLay, I, L, sm_up (kQ12 R) 2 6 (some q)))) : sm_wp sm_P S d 269 0 [.ref 2, .ref q] [] (xLay, I, L, kQ12 R) (0, 0) Φ := sm_wp_step h
theorem kp_c49 {S : sm_C} {d q : Nat} {Φ : sm_Z → Prop} {I : sm_I} {L : sm_L} {R : sm_R} (h : Φ (some (.ref 49), (xLay, I, L, sm_up (kQ49 R) 2 6 (some q)))) : sm_wp sm_P S d 269 0 [.ref 2, .ref q] [] (xLay, I, L, kQ49 R) (0, 0) Φ := sm_wp_step h
theorem kp_change {S : sm_C} {d q qi : Nat} {Φ : sm_Z → Prop} {I : sm_I} {L : sm_L} {R : sm_R} (hm : en_mem kl_tb klX (xLay, I, L, R)) (hi : qi = 12 ∨ qi = 49) (h3 : R 2 6 = some qi) (h : Φ (some (.ref qi), (xLay, I, L, sm_up R 2 6 (some q)))) : sm_wp sm_P S d 269 0 [.ref 2, .ref q] [] (xLay, I, L, R) (0, 0) Φ := by
  rcases hi with e | e
  · subst e
    have e : kQ12 R = R := kQ12_eq (w := (xLay, I, L, R)) hm h3
    have g := kp_c12 (S := S) (d := d) (q := q) (Φ := Φ) (I := I) (L := L) (R := R) (by rw [e]; exact h)
    rw [e] at g
    exact g
  · subst e
    have e : kQ49 R = R := kQ49_eq (w := (xLay, I, L, R)) hm h3
    have g := kp_c49 (S := S) (d := d) (q := q) (Φ := Φ) (I := I) (L := L) (R := R) (by rw [e]; exact h)
    rw [e] at g
    exact g
/-- what read does to what is told: qt is live, qi is read into -/
def RTp (qt qi : Nat) (b : Nat → Int32) (n : Nat) (a0 : sg) (I : sm_I) (r : Int32) (I' : sm_I) (R' : sm_R) : Prop := (r ≠ 0 → R' 0 9 = some qt ∧ R' 2 6 = some qi ∧ ∀ c j, 12 ≤ c → c < 49 → I' (c + (qt - 12)) j = I (c + (qt - 12)) j) ∧ (r = 0 → R' 0 9 = some qi ∧ R' 2 6 = some qt ∧ (∀ c j, 12 ≤ c → c < 34 → c ≠ 13 → ¬ (c = 12 ∧ j = 5) → I' (c + (qi - 12)) j = (ME (tk_K b n) (fun i => tk_vl b n (tk_at b n i)) 501 0 0 a0).2.1 c j) ∧ (wn (ME (tk_K b n) (fun i => tk_vl b n (tk_at b n i)) 501 0 0 a0).2 ∧ wt (ME (tk_K b n) (fun i => tk_vl b n (tk_at b n i)) 501 0 0 a0).2) ∧ wmQ qi (ME (tk_K b n) (fun i => tk_vl b n (tk_at b n i)) 501 0 0 a0).2 I')
theorem lw_nt2 {W : en_W} {p j : Nat} (h : W.all (fun q => Nat.blt q.1 12 || (Nat.ble 37 q.1 && (Nat.blt q.1 49 || Nat.ble 74 q.1))) = true) (hp : (12 ≤ p ∧ p < 37) ∨ (49 ≤ p ∧ p < 74)) : en_wok W p j = false := by
  cases c : en_wok W p j with
  | false => rfl
  | true =>
    exfalso
    obtain ⟨q, g1, g2⟩ := List.any_eq_true.mp c
    have e : q.1 = p := Nat.eq_of_beq_eq_true (Bool.and_eq_true_iff.mp g2).1
    have l := List.all_eq_true.mp h q g1
    rw [e] at l
    rcases Bool.or_eq_true_iff.mp l with l | l
    · have l : p < 12 := Nat.le_of_ble_eq_true l
      omega
    obtain ⟨l1, l2⟩ := Bool.and_eq_true_iff.mp l
    have l1 := Nat.le_of_ble_eq_true l1
    rcases Bool.or_eq_true_iff.mp l2 with l | l
    · have l : p < 49 := Nat.le_of_ble_eq_true l
      omega
    · have l := Nat.le_of_ble_eq_true l
      omega
theorem wmQ_cg {Q : Nat} {a : sg} {I J : sm_I} (h : ∀ p j, (p = Q ∧ j = 5) ∨ p = Q + 1 ∨ (Q + 22 ≤ p ∧ p ≤ Q + 24) → J p j = I p j) (k : wmQ Q a I) : wmQ Q a J := by
  refine ⟨fun i hi => ?_, fun bp => ?_⟩
  · rw [h (Q + 1) i (by omega)]; exact k.1 i hi
  · obtain ⟨k1, k2⟩ := k.2 bp
    refine ⟨by rw [h Q 5 (by omega)]; exact k1, fun j hj => ?_⟩
    rw [h (Q + 22) j (by omega), h (Q + 23) j (by omega), h (Q + 24) j (by omega), h (Q + 1) _ (by omega)]
    exact k2 j hj
/-- what read does to what is DOUBTED, SET, PICKED, MORE, and to what is known of it -/
def HKp (I : sm_I) (r : Int32) (I' : sm_I) : Prop := (r ≠ 0 → ∀ p j, ((37 ≤ p ∧ p < 49) ∨ 74 ≤ p ∨ (p = 0 ∧ (j = 12 ∨ j = 13))) → I' p j = I p j) ∧ (r = 0 → hcK I' ∧ I' 0 12 = 0 ∧ I' 0 13 = 0 ∧ I' 98 8 = 0 ∧ I' 98 9 = 0 ∧ I' 103 5 = 0)
theorem hk_nt {W : en_W} {p j : Nat} (h : W.all (fun q => (Nat.blt q.1 74 && (Nat.blt q.1 37 || Nat.ble 49 q.1)) && !(Nat.beq q.1 0)) = true) (hp : (37 ≤ p ∧ p < 49) ∨ 74 ≤ p ∨ (p = 0 ∧ (j = 12 ∨ j = 13))) : en_wok W p j = false := by
  cases c : en_wok W p j with
  | false => rfl
  | true =>
    exfalso
    obtain ⟨q, g1, g2⟩ := List.any_eq_true.mp c
    have e : q.1 = p := Nat.eq_of_beq_eq_true (Bool.and_eq_true_iff.mp g2).1
    have l := List.all_eq_true.mp h q g1
    rw [e] at l
    obtain ⟨l, l0⟩ := Bool.and_eq_true_iff.mp l
    obtain ⟨l1, l2⟩ := Bool.and_eq_true_iff.mp l
    have l1 : p < 74 := Nat.le_of_ble_eq_true l1
    rcases hp with hp | hp | hp
    · rcases Bool.or_eq_true_iff.mp l2 with l | l
      · have l : p < 37 := Nat.le_of_ble_eq_true l
        omega
      · have l : 49 ≤ p := Nat.le_of_ble_eq_true l
        omega
    · omega
    · rw [hp.1] at l0
      cases l0
theorem stI_fl {I : sm_I} : stI I 0 12 = 0 ∧ stI I 0 13 = 0 ∧ stI I 98 8 = 0 ∧ stI I 98 9 = 0 ∧ stI I 103 5 = 0 := ⟨rfl, rfl, rfl, rfl, rfl⟩
theorem stI_hc {I : sm_I} (h : hcK I) : hcK (stI I) := ⟨by rw [stI_ne (by omega)]; exact h.1, by rw [stI_ne (by omega)]; exact h.2.1, fun j hj => by rw [stI_ne (by omega)]; exact h.2.2.1 j hj, fun j hj => by rw [stI_ne (by omega)]; exact h.2.2.2 j hj⟩
theorem RDk_0 {b : Nat → Int32} {n : Nat} {a0 : sg} {J : sm_I} (h : RDk b n a0 0 J) : SY (tk_K b n) 501 0 0 gc0 = none ∧ (ME (tk_K b n) (fun i => tk_vl b n (tk_at b n i)) 501 0 0 a0).1 = none := by
  have h1 : SY (tk_K b n) 501 0 0 gc0 = none := by
    cases e : SY (tk_K b n) 501 0 0 gc0 with
    | none => rfl
    | some x =>
      obtain ⟨q1, q2, -⟩ := h.2.1 x.1 x.2 e
      exact absurd q1.symm q2
  refine ⟨h1, ?_⟩
  cases e : (ME (tk_K b n) (fun i => tk_vl b n (tk_at b n i)) 501 0 0 a0).1 with
  | none => rfl
  | some x =>
    obtain ⟨q1, q2, -⟩ := (h.2.2 h1).1 x.1 x.2 e
    exact absurd q1.symm q2
theorem kp_read {S : sm_C} {d : Nat} {Φ : sm_Z → Prop} {I : sm_I} {L : sm_L} {R : sm_R} {n qt qi : Nat} (hn : (I 0 10).toInt = n) (hm : en_mem kl_tb klX (xLay, I, L, R)) (hq : (qt = 12 ∧ qi = 49) ∨ (qt = 49 ∧ qi = 12)) (h09 : R 0 9 = some qt) (h26 : R 2 6 = some qi) (h : ∀ (r : Int32) (I' : sm_I) (L' : sm_L) (R' : sm_R) (a0 : sg), en_mem kl_tb klX (xLay, I', L', R') → en_fr kx_RW (xLay, I, L, R) (xLay, I', L', R') → I' 0 10 = 0 → RDp (I 1) n a0 r I' → RTp qt qi (I 1) n a0 I r I' R' → HKp I r I' → Φ (some (.int r), (xLay, I', L', R'))) : sm_wp sm_P S (d + 13) 80 0 [.ref 0] [] (xLay, I, L, R) (0, 0) Φ := by
  obtain ⟨q, -, e⟩ := kO_of hm
  have e : kO q R = R := e
  have b := kx_len hm
  have hd : 12 ≤ d + 12 := by omega
  have goal : sm_wp sm_P S (d + 12 + 1) 80 0 [.ref 0] [] (xLay, I, L, kO q R) (0, 0) Φ := by
    refine o_X11_read_0 ?_
    rw [e]
    have A := kx_ci (S := S) (d := d + 12) (c := klc_198) (vs := [.ref 2, .ref 1, .int (I 0 10)]) (C := fun _ I1 L1 R1 q1 => en_mem kl_tb klX (xLay, I1, L1, R1) ∧ (q1 = 12 ∨ q1 = 49) ∧ kO q1 R1 = R1 ∧ en_fr klc_198.2.2.2.2.1 (xLay, I, L, R) (xLay, I1, L1, R1)) klh_198 (Nat.le_trans (by decide) hd) ⟨⟨rfl, rfl⟩, ⟨rfl, rfl⟩, ⟨rfl, b.1, b.2⟩, trivial⟩ hm ml_pf0 rfl (fun r5 I1 L1 R1 q1 m1 hq1 e1 f1 => ⟨m1, hq1, e1, f1⟩)
    have B : sm_wp sm_P S (d + 12) 276 0 [.ref 2, .ref 1, .int (I 0 10)] [] (xLay, I, L, R) (0, 0) (fun z => ∃ (r : Int32) (J : sm_I) (L' : sm_L) (R' : sm_R) (a0 : sg), z = (some (.int r), (xLay, J, L', R')) ∧ RDk (I 1) n a0 r J ∧ RDt qi (I 1) n a0 I J) := kp_rt (d := d + 6) (by omega) hn hm (by omega) h26 (fun r J L' R' a0 q q' => ⟨r, J, L', R', a0, rfl, q, q'⟩)
    refine sm_wp_mono (sm_wp_and A B) (fun z hz => ?_)
    obtain ⟨⟨r5, I1, L1, R1, q1, ez, m1, hq1, e1, f1⟩, r5', I1', L1', R1', a0, ez', hR, hT⟩ := hz
    rw [ez] at ez'
    have er : r5 = r5' := Value.int.inj (Option.some.inj (congrArg Prod.fst ez'))
    have eI : I1 = I1' := congrArg (fun z : sm_Z => z.2.2.1) ez'
    rw [← er, ← eI] at hR
    rw [← eI] at hT
    have g09 : R1 0 9 = some qt := (f1.2 0 9 (by decide +kernel)).2.trans h09
    have g26 : R1 2 6 = some qi := (f1.2 2 6 (by decide +kernel)).2.trans h26
    have eq1 : q1 = qt := by
      have : kO q1 R1 0 9 = some q1 := rfl
      rw [e1, g09] at this
      exact (Option.some.inj this).symm
    have live : ∀ c j, 12 ≤ c → c < 49 → I1 (c + (qt - 12)) j = I (c + (qt - 12)) j := fun c j p1 p2 => hT.1 (c + (qt - 12)) j (by omega) (by omega)
    clear ez' er eI
    refine ⟨r5, I1, L1, R1, q1, ez, ?_⟩
    have f1' : en_fr kx_RW (xLay, I, L, R) (xLay, I1, L1, R1) := ml_frw f1 (by decide +kernel)
    have fp : ∀ (x : Int32) (J : sm_I), (-1 ≤ x.toInt ∧ x.toInt ≤ 2000) → J = sm_up (sm_up I1 0 10 (0 : Int32)) 0 11 x → en_mem kl_tb klX (xLay, J, L1, R1) ∧ en_fr kx_RW (xLay, I, L, R) (xLay, J, L1, R1) ∧ J 0 10 = 0 ∧ J 0 11 = x ∧ ∀ c j, 12 ≤ c → J c j = I1 c j := by
      intro x J hx eJ
      refine ⟨?_, ?_, ?_, ?_, fun c j hc => ?_⟩
      · rw [eJ]
        refine kx_wr (kx_10 m1 (by decide)) (by decide +kernel) (fun q hq => ?_)
        rw [show en_int kl_tb 0 11 = some (-1, 2000) from by decide +kernel] at hq
        rw [← Option.some.inj hq]
        exact hx
      · rw [eJ]
        exact ml_fr (ml_fr f1' (by decide +kernel)) (by decide +kernel)
      · rw [eJ, en_up_ne _ _ _ _ (by omega), en_up_eq]
      · rw [eJ, en_up_eq]
      · rw [eJ, en_up_ne _ _ _ _ (by omega), en_up_ne _ _ _ _ (by omega)]
    have on : ∀ J : sm_I, r5 = 0 → (∀ c j, 12 ≤ c → J c j = I1 c j) → RDp (I 1) n a0 r5 J → en_mem kl_tb klX (xLay, J, L1, R1) → en_fr kx_RW (xLay, I, L, R) (xLay, J, L1, R1) → J 0 10 = 0 → sm_wp sm_P S (d + 12) 269 0 [.ref 2, .ref q1] [] (xLay, J, L1, kO q1 R1) (0, 0) (fun z => ∃ (r12 : Nat) (I8 : sm_I) (L9 : sm_L) (R10 : sm_R) (w11 : Nat), z = (some (.ref r12), (xLay, I8, L9, (kO w11 R10))) ∧ sm_wp sm_P S (d + 12) 245 0 [.ref 37] [] (xLay, I8, L9, (sm_up (kO w11 R10) 0 9 (some r12))) (0, 0) (fun z => ∃ (I13 : sm_I) (L14 : sm_L) (R15 : sm_R) (w16 : Nat), z = (none, (xLay, I13, L14, (kO w16 R15))) ∧ sm_wp sm_P S (d + 12) 86 0 [.ref 0] [] (xLay, I13, L14, (kO w16 R15)) (0, 0) (fun z => ∃ (I18 : sm_I) (L19 : sm_L) (R20 : sm_R) (w21 : Nat), z = (none, (xLay, I18, L19, (kO w21 R20))) ∧ Φ (some (.int r5), (xLay, I18, L19, (kO w21 R20)))))) := by
      intro J r0 oJ hJ mJ fJ zJ
      rw [e1]
      have k : ∀ (r : Nat) (I8 : sm_I) (L9 : sm_L) (R10 : sm_R) (w11 : Nat), r = qi → (∀ c j, 12 ≤ c → I8 c j = I1 c j) → R10 2 6 = some qt → (r = 12 ∨ r = 49) → en_mem kl_tb klX (xLay, I8, L9, R10) → kO w11 R10 = R10 → en_fr [(2, [6])] (xLay, J, L1, R1) (xLay, I8, L9, R10) → sm_wp sm_P S (d + 12) 245 0 [.ref 37] [] (xLay, I8, L9, (sm_up (kO w11 R10) 0 9 (some r))) (0, 0) (fun z => ∃ (I13 : sm_I) (L14 : sm_L) (R15 : sm_R) (w16 : Nat), z = (none, (xLay, I13, L14, (kO w16 R15))) ∧ sm_wp sm_P S (d + 12) 86 0 [.ref 0] [] (xLay, I13, L14, (kO w16 R15)) (0, 0) (fun z => ∃ (I18 : sm_I) (L19 : sm_L) (R20 : sm_R) (w21 : Nat), z = (none, (xLay, I18, L19, (kO w21 R20))) ∧ Φ (some (.int r5), (xLay, I18, L19, (kO w21 R20))))) := by
        intro r I8 L9 R10 w11 rq o8 g8 hr m8 e8 f8
        rw [e8]
        have f8' : en_fr kx_RW (xLay, I, L, R) (xLay, I8, L9, sm_up R10 0 9 (some r)) := kx_frR (ml_frt fJ f8 (by decide +kernel)) (by decide +kernel)
        have m8' := kx_told m8 hr
        have ep : kP r (sm_up R10 0 9 (some r)) = sm_up R10 0 9 (some r) := kP_eq (w := (xLay, I8, L9, sm_up R10 0 9 (some r))) m8' (show sm_up R10 0 9 (some r) 0 9 = some r from en_up_eq _ _ _ _)
        have A := kx_cv (S := S) (d := d + 12) (c := klc_141) (vs := [.ref 37]) (C := fun I13 L14 R15 w16 => en_mem kl_tb klX (xLay, I13, L14, R15) ∧ kO w16 R15 = R15 ∧ en_fr klc_141.2.2.2.2.1 (xLay, I8, L9, sm_up R10 0 9 (some r)) (xLay, I13, L14, R15)) klh_141 (Nat.le_trans (by decide) hd) ⟨⟨rfl, rfl⟩, trivial⟩ m8' ml_pf0 rfl (fun I13 L14 R15 w16 m13 e13 f13 => ⟨m13, e13, f13⟩)
        have B : sm_wp sm_P S (d + 11 + 1) 245 0 [.ref 37] [] (xLay, I8, L9, sm_up R10 0 9 (some r)) (0, 0) (fun z => hcK z.2.2.1) := by
          rw [← ep]
          exact kp_hclear (fun J hJ _ => hJ)
        refine sm_wp_mono (sm_wp_and A B) (fun z hz => ?_)
        obtain ⟨⟨I13, L14, R15, w16, ez, m13, e13, f13⟩, hc13⟩ := hz
        have hc13 : hcK I13 := by rw [ez] at hc13; exact hc13
        refine ⟨I13, L14, R15, w16, ez, ?_⟩
        rw [e13]
        have f13' := ml_frt f8' f13 (by decide +kernel)
        have w9 : R15 0 9 = some r := by
          have y2 : R15 0 9 = sm_up R10 0 9 (some r) 0 9 := (f13.2 0 9 (by decide +kernel)).2
          rw [y2, en_up_eq]
        have ep2 : kP r R15 = R15 := kP_eq (w := (xLay, I13, L14, R15)) m13 w9
        have A2 := kx_cv (S := S) (d := d + 12) (c := klc_222) (vs := [.ref 0]) (C := fun I18 L19 R20 w21 => en_mem kl_tb klX (xLay, I18, L19, R20) ∧ kO w21 R20 = R20 ∧ en_fr klc_222.2.2.2.2.1 (xLay, I13, L14, R15) (xLay, I18, L19, R20)) klh_222 (Nat.le_trans (by decide) hd) ⟨⟨rfl, rfl⟩, trivial⟩ m13 ml_pf0 rfl (fun I18 L19 R20 w21 m18 e18 f18 => ⟨m18, e18, f18⟩)
        have B2 : sm_wp sm_P S (d + 12) 86 0 [.ref 0] [] (xLay, I13, L14, R15) (0, 0) (fun z => z.2.2.1 = stI I13) := by
          rw [← ep2]
          exact kp_stale rfl
        refine sm_wp_mono (sm_wp_and A2 B2) (fun z hz => ?_)
        obtain ⟨⟨I18, L19, R20, w21, ez2, m18, e18, f18⟩, st18⟩ := hz
        have st18 : I18 = stI I13 := by rw [ez2] at st18; exact st18
        refine ⟨I18, L19, R20, w21, ez2, ?_⟩
        rw [e18]
        have z11 : I18 0 11 = J 0 11 := by rw [ml_g f18 (by decide), ml_g f13 (by decide), ml_g f8 (by decide)]
        refine h r5 I18 L19 R20 a0 m18 (ml_frt f13' f18 (by decide +kernel)) ?_ ?_ ?_ ⟨fun q => absurd r0 q, fun _ => by rw [st18]; exact ⟨stI_hc hc13, stI_fl⟩⟩
        · rw [ml_g f18 (by decide), ml_g f13 (by decide), ml_g f8 (by decide), zJ]
        · unfold RDp
          rw [z11]
          exact hJ
        · refine ⟨fun q => absurd r0 q, fun _ => ⟨?_, ?_, fun c j p1 p2 p3 p4 => ?_, ?_, ?_⟩⟩
          · have y1 : R20 0 9 = R15 0 9 := (f18.2 0 9 (by decide +kernel)).2
            have y2 : R15 0 9 = sm_up R10 0 9 (some r) 0 9 := (f13.2 0 9 (by decide +kernel)).2
            rw [y1, y2, en_up_eq, rq]
          · have y1 : R20 2 6 = R15 2 6 := (f18.2 2 6 (by decide +kernel)).2
            have y2 : R15 2 6 = sm_up R10 0 9 (some r) 2 6 := (f13.2 2 6 (by decide +kernel)).2
            rw [y1, y2, en_up_ne _ _ _ _ (by omega), g8]
          · have y1 : I18 (c + (qi - 12)) j = I13 (c + (qi - 12)) j := (f18.2 _ j (lw_nt (by decide +kernel) (by omega))).1
            have y2 : I13 (c + (qi - 12)) j = I8 (c + (qi - 12)) j := (f13.2 _ j (lw_nt (by decide +kernel) (by omega))).1
            rw [r0] at hR
            obtain ⟨s1, s2⟩ := RDk_0 hR
            rw [y1, y2, o8 _ j (by omega)]
            exact (hT.2 s1 s2).1 c j p1 p2 p3 p4
          · rw [r0] at hR
            obtain ⟨s1, s2⟩ := RDk_0 hR
            exact (hT.2 s1 s2).2.1
          · rw [r0] at hR
            obtain ⟨s1, s2⟩ := RDk_0 hR
            refine wmQ_cg (I := I1) (fun p j q => ?_) (hT.2 s1 s2).2.2
            have y1 : I18 p j = I13 p j := (f18.2 p j (lw_nt2 (by decide +kernel) (by omega))).1
            have y2 : I13 p j = I8 p j := (f13.2 p j (lw_nt2 (by decide +kernel) (by omega))).1
            rw [y1, y2, o8 p j (by omega)]
      rw [eq1]
      have C1 := kp_change (S := S) (d := d + 12) (q := qt) (qi := qi) (Φ := fun z => z = (some (.ref qi), (xLay, J, L1, sm_up R1 2 6 (some qt)))) mJ (by omega) g26 rfl
      have C2 : sm_wp sm_P S (d + 12) 269 0 [.ref 2, .ref qt] [] (xLay, J, L1, R1) (0, 0) (fun z => ∃ (r12 : Nat) (I8 : sm_I) (L9 : sm_L) (R10 : sm_R) (w11 : Nat), z = (some (.ref r12), (xLay, I8, L9, (kO w11 R10))) ∧ (r12 = 12 ∨ r12 = 49) ∧ en_mem kl_tb klX (xLay, I8, L9, R10) ∧ kO w11 R10 = R10 ∧ en_fr [(2, [6])] (xLay, J, L1, R1) (xLay, I8, L9, R10)) := by
        rcases hq with c | c
        · rw [c.1]
          exact kx_cr (c := klc_161) klh_161 (Nat.zero_le _) ⟨⟨rfl, rfl⟩, ⟨rfl, rfl⟩, trivial⟩ mJ ml_pf0 rfl (fun r I8 L9 R10 w11 a b c d => ⟨a, b, c, d⟩)
        · rw [c.1]
          exact kx_cr (c := klc_162) klh_162 (Nat.zero_le _) ⟨⟨rfl, rfl⟩, ⟨rfl, rfl⟩, trivial⟩ mJ ml_pf0 rfl (fun r I8 L9 R10 w11 a b c d => ⟨a, b, c, d⟩)
      refine sm_wp_mono (sm_wp_and C1 C2) (fun z hz => ?_)
      obtain ⟨ez1, r12, I8, L9, R10, w11, ez2, hr, m8, e8, f8⟩ := hz
      have ez3 := ez1.symm.trans ez2
      have v1 : qi = r12 := Value.ref.inj (Option.some.inj (congrArg Prod.fst ez3))
      have v2 : J = I8 := congrArg (fun z : sm_Z => z.2.2.1) ez3
      have v3 : sm_up R1 2 6 (some qt) = kO w11 R10 := congrArg (fun z : sm_Z => z.2.2.2.2) ez3
      refine ⟨r12, I8, L9, R10, w11, ez2, k r12 I8 L9 R10 w11 v1.symm (fun c j p => by rw [← v2]; exact oJ c j p) ?_ hr m8 e8 f8⟩
      rw [e8] at v3
      rw [← v3, en_up_eq]
    have bp : -1 ≤ (I1 2 11).toInt ∧ (I1 2 11).toInt ≤ 2000 := m1.2.1 2 11 (-1, 2000) (by decide +kernel)
    refine ⟨fun a I27 e27 => ?_, fun a n6 e6 I7 e7 => ?_⟩
    · obtain ⟨mJ, fJ, zJ, pJ, oJ⟩ := fp (-1) I27 (by decide) e27
      have D := RDp_of hR (J := I27) (fun _ => pJ) (fun q => absurd a q)
      exact ⟨fun q => on I27 q oJ D mJ fJ zJ, fun q => absurd a q⟩
    · rw [en_up_ne _ _ _ _ (by omega)] at e6
      obtain ⟨mJ, fJ, zJ, pJ, oJ⟩ := fp n6 I7 (by rw [e6]; exact bp) e7
      have D := RDp_of hR (J := I7) (fun q => absurd q a) (fun _ => by rw [pJ, e6])
      refine ⟨fun q => absurd q a, fun _ => ?_⟩
      rw [e1]
      exact h r5 I7 L1 R1 a0 mJ fJ zJ D ⟨fun _ => ⟨g09, g26, fun c j p1 p2 => by rw [oJ _ j (by omega)]; exact live c j p1 p2⟩, fun q => absurd q a⟩ ⟨fun _ p j hp => by
        rw [e7, en_up_ne _ _ _ _ (by omega), en_up_ne _ _ _ _ (by omega)]
        exact (f1.2 p j (hk_nt (by decide +kernel) hp)).1, fun q => absurd q a⟩
  rw [e] at goal
  exact goal
