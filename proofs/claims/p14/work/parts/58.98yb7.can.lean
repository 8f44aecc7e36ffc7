/-! THE LAW: pairs out of all WAYS' levels: can (wip/pe/mkp7.py) -/
section
variable {S : sm_C} {I : sm_I} {L : sm_L} {R : sm_R} {r : Int32}
def XcanK (y t : Int32) (I : sm_I) (_ : sm_L) (R : sm_R) (r : Int32) (I1 : sm_I) (_ : sm_L) (R1 : sm_R) : Prop := ∃ qt, R 0 9 = some qt ∧ XF I R I1 R1 ∧ (¬ (0 ≤ y.toInt ∧ y.toInt < (I qt 2).toInt) ∨ ¬ (0 ≤ t.toInt ∧ t.toInt ≤ 1440) → r = -1) ∧ (0 ≤ y.toInt → y.toInt < (I qt 2).toInt → 0 ≤ t.toInt → t.toInt ≤ 1440 → ((KF qt I).2.2.2.2.1 = true → r = -3) ∧ ((KF qt I).2.2.2.2.1 = false → r = cng (kv qt I 0 (y.toNatClampNeg + 1) 0) (kv qt I 1 (y.toNatClampNeg + 1) 0) t (KF qt I).2.2.2.1 0 0))
theorem cnK12 {Φ : sm_Z → Prop} {y t : Int32} (hk : kW 12 I) (g1 : R 0 9 = some 12) (s : (KF 12 I).2.2.2.2.1 = false) (a : 0 ≤ y.toInt) (b : y.toInt < (I 12 2).toInt) : ∀ (n w : Nat) (x3 x4 O : Int32) (J : sm_I) (L' : sm_L) (R' : sm_R), XV12 I R J L' R' → en_mem kl_tb2 klY (xLay, J, L', R') → x4.toInt = w → w + n = (KF 12 I).2.2.2.1 → x3 = O → (∀ (J : sm_I) (L' : sm_L) (R' : sm_R), XV12 I R J L' R' → Φ (some (.int (cng (kv 12 I 0 (y.toNatClampNeg + 1) 0) (kv 12 I 1 (y.toNatClampNeg + 1) 0) t n w O)), (xLay, J, L', R'))) → sm_wp sm_P S (51 + 6 + 1 + 1) 34 6 [.ref 0, .int y, .int t, .int x3, .int x4] [] (xLay, J, L', R') (0, 0) Φ := by
  have f1 : (KF 12 I).2.2.2.1 ≤ 1000 := GT_wf.2.2.2.2.1.1
  have ny := kl_nat a
  have n2 := kl_nat hk.1.1
  have bb := hk.1.2
  intro n
  induction n with
  | zero =>
    intro w x3 x4 O J L' R' xv mj h4 hw hO h
    have a14 := xv.2.2.2.1.2.1.2.1
    rw [← kFx12 xv]
    refine ph12_X11_can_6 (d := 51 + 6 + 1) ⟨fun _ => ?_, fun c => ?_⟩
    · rw [kFx12 xv, hO]; exact h J L' R' xv
    · have c := kl_nle c
      rw [a14] at c
      omega
  | succ n ih =>
    intro w x3 x4 O J L' R' xv mj h4 hw hO h
    have a14 := xv.2.2.2.1.2.1.2.1
    have s4 := ml_in1 (x := x4) (by omega)
    rw [← kFx12 xv]
    refine ph12_X11_can_6 (d := 51 + 6 + 1) ⟨fun c => ?_, fun _ => ?_⟩
    · have c := kl_le.mp c
      rw [a14] at c
      omega
    rw [kFx12 xv]
    refine lvm12 (d := 51) g1 xv mj ⟨by omega, s, by omega⟩ (fun r K L2 R2 xk mk er T => ⟨r, K, L2, R2, by rw [kFx12 xk], ?_⟩)
    rw [kFx12 xk]
    obtain ⟨b1, b2, b3, b4⟩ := rdX12 hk xk
    have T1 : ttop (kn 12 I) (cl (kB0 12 I) (kC0 12 I) (kwy 12 I x4.toNatClampNeg) (kys 12 I).length) (g12_74_T K (kn 12 I) (kys 12 I).length) := T
    have T2 := T1
    rw [tk_nat h4] at T2
    have go : ∀ x : Int32, x = cs_ (kv 12 I 0 (y.toNatClampNeg + 1) 0 w) (kv 12 I 1 (y.toNatClampNeg + 1) 0 w) t O → sm_wp sm_P S (51 + 6 + 1 + 1) 34 6 [.ref 0, .int y, .int t, .int x, .int (x4 + (1 : Int32))] [] (xLay, K, L2, R2) (0, 0) Φ := fun x ex => ih (w + 1) x _ _ K L2 R2 xk mk (by omega) (by omega) ex h
    refine mnX12 (d := 55) xk.2.2.2.2.2.1 b1 b2 b3 er (i := y.toNatClampNeg + 1) (by rw [ml_in1 (by omega)]; omega) (by rw [b4]; omega) T1 (fun r2 hr => ⟨r2, K, L2, R2, by rw [kFx12 xk], ?_⟩)
    have ev : r2 = kv 12 I 0 (y.toNatClampNeg + 1) 0 w := kv_at (fun c => Iff.rfl) T2 (by rw [b4]; omega) (by omega) hr
    rw [kFx12 xk]
    refine ⟨fun c => go _ ?_, fun c => mnX12 (d := 55) xk.2.2.2.2.2.1 b1 b2 b3 er (i := y.toNatClampNeg + 1) (by rw [ml_in1 (by omega)]; omega) (by rw [b4]; omega) T1 (fun r3 hr3 => ⟨r3, K, L2, R2, by rw [kFx12 xk], ?_⟩)⟩
    · unfold cs_
      rw [← hO, ← ev, if_pos c]
    have ev3 : r3 = kv 12 I 1 (y.toNatClampNeg + 1) 0 w := kv_at (fun c => Iff.rfl) T2 (by rw [b4]; omega) (by omega) hr3
    rw [kFx12 xk]
    refine ⟨fun c3 => go _ ?_, fun c3 => go _ ?_⟩
    · unfold cs_
      rw [← hO, ← ev, ← ev3, if_neg c, if_pos c3]
    · unfold cs_
      rw [← hO, ← ev, ← ev3, if_neg c, if_neg c3]
theorem isM12 {d : Nat} {Φ : sm_Z → Prop} (eP : kP 12 R = R) {x : Int32} (h0 : ¬ (0 ≤ x.toInt ∧ x.toInt ≤ 1440) → Φ (some (.int 0), (xLay, I, L, R))) (h1 : 0 ≤ x.toInt → x.toInt ≤ 1440 → Φ (some (.int 1), (xLay, I, L, R))) : sm_wp sm_P S d 58 0 [.int x] [] (xLay, I, L, R) (0, 0) Φ := by
  rw [← eP] at h0 h1 ⊢
  exact kp_isMin h0 h1
theorem cnK49 {Φ : sm_Z → Prop} {y t : Int32} (hk : kW 49 I) (g1 : R 0 9 = some 49) (s : (KF 49 I).2.2.2.2.1 = false) (a : 0 ≤ y.toInt) (b : y.toInt < (I 49 2).toInt) : ∀ (n w : Nat) (x3 x4 O : Int32) (J : sm_I) (L' : sm_L) (R' : sm_R), XV49 I R J L' R' → en_mem kl_tb2 klY (xLay, J, L', R') → x4.toInt = w → w + n = (KF 49 I).2.2.2.1 → x3 = O → (∀ (J : sm_I) (L' : sm_L) (R' : sm_R), XV49 I R J L' R' → Φ (some (.int (cng (kv 49 I 0 (y.toNatClampNeg + 1) 0) (kv 49 I 1 (y.toNatClampNeg + 1) 0) t n w O)), (xLay, J, L', R'))) → sm_wp sm_P S (51 + 6 + 1 + 1) 34 6 [.ref 0, .int y, .int t, .int x3, .int x4] [] (xLay, J, L', R') (0, 0) Φ := by
  have f1 : (KF 49 I).2.2.2.1 ≤ 1000 := GT_wf.2.2.2.2.1.1
  have ny := kl_nat a
  have n2 := kl_nat hk.1.1
  have bb := hk.1.2
  intro n
  induction n with
  | zero =>
    intro w x3 x4 O J L' R' xv mj h4 hw hO h
    have a14 := xv.2.2.2.1.2.1.2.1
    rw [← kFx49 xv]
    refine ph49_X11_can_6 (d := 51 + 6 + 1) ⟨fun _ => ?_, fun c => ?_⟩
    · rw [kFx49 xv, hO]; exact h J L' R' xv
    · have c := kl_nle c
      rw [a14] at c
      omega
  | succ n ih =>
    intro w x3 x4 O J L' R' xv mj h4 hw hO h
    have a14 := xv.2.2.2.1.2.1.2.1
    have s4 := ml_in1 (x := x4) (by omega)
    rw [← kFx49 xv]
    refine ph49_X11_can_6 (d := 51 + 6 + 1) ⟨fun c => ?_, fun _ => ?_⟩
    · have c := kl_le.mp c
      rw [a14] at c
      omega
    rw [kFx49 xv]
    refine lvm49 (d := 51) g1 xv mj ⟨by omega, s, by omega⟩ (fun r K L2 R2 xk mk er T => ⟨r, K, L2, R2, by rw [kFx49 xk], ?_⟩)
    rw [kFx49 xk]
    obtain ⟨b1, b2, b3, b4⟩ := rdX49 hk xk
    have T1 : ttop (kn 49 I) (cl (kB0 49 I) (kC0 49 I) (kwy 49 I x4.toNatClampNeg) (kys 49 I).length) (g49_74_T K (kn 49 I) (kys 49 I).length) := T
    have T2 := T1
    rw [tk_nat h4] at T2
    have go : ∀ x : Int32, x = cs_ (kv 49 I 0 (y.toNatClampNeg + 1) 0 w) (kv 49 I 1 (y.toNatClampNeg + 1) 0 w) t O → sm_wp sm_P S (51 + 6 + 1 + 1) 34 6 [.ref 0, .int y, .int t, .int x, .int (x4 + (1 : Int32))] [] (xLay, K, L2, R2) (0, 0) Φ := fun x ex => ih (w + 1) x _ _ K L2 R2 xk mk (by omega) (by omega) ex h
    refine mnX49 (d := 55) xk.2.2.2.2.2.1 b1 b2 b3 er (i := y.toNatClampNeg + 1) (by rw [ml_in1 (by omega)]; omega) (by rw [b4]; omega) T1 (fun r2 hr => ⟨r2, K, L2, R2, by rw [kFx49 xk], ?_⟩)
    have ev : r2 = kv 49 I 0 (y.toNatClampNeg + 1) 0 w := kv_at (fun c => Iff.rfl) T2 (by rw [b4]; omega) (by omega) hr
    rw [kFx49 xk]
    refine ⟨fun c => go _ ?_, fun c => mnX49 (d := 55) xk.2.2.2.2.2.1 b1 b2 b3 er (i := y.toNatClampNeg + 1) (by rw [ml_in1 (by omega)]; omega) (by rw [b4]; omega) T1 (fun r3 hr3 => ⟨r3, K, L2, R2, by rw [kFx49 xk], ?_⟩)⟩
    · unfold cs_
      rw [← hO, ← ev, if_pos c]
    have ev3 : r3 = kv 49 I 1 (y.toNatClampNeg + 1) 0 w := kv_at (fun c => Iff.rfl) T2 (by rw [b4]; omega) (by omega) hr3
    rw [kFx49 xk]
    refine ⟨fun c3 => go _ ?_, fun c3 => go _ ?_⟩
    · unfold cs_
      rw [← hO, ← ev, ← ev3, if_neg c, if_pos c3]
    · unfold cs_
      rw [← hO, ← ev, ← ev3, if_neg c, if_neg c3]
theorem isM49 {d : Nat} {Φ : sm_Z → Prop} (eP : kP 49 R = R) {x : Int32} (h0 : ¬ (0 ≤ x.toInt ∧ x.toInt ≤ 1440) → Φ (some (.int 0), (xLay, I, L, R))) (h1 : 0 ≤ x.toInt → x.toInt ≤ 1440 → Φ (some (.int 1), (xLay, I, L, R))) : sm_wp sm_P S d 58 0 [.int x] [] (xLay, I, L, R) (0, 0) Φ := by
  rw [← eP] at h0 h1 ⊢
  exact kp_isMin h0 h1
theorem bk_can {y t : Int32} (hI : lw_J I L R) : sm_wp sm_P S (58 + 1) 34 0 [.ref 0, .int y, .int t] [] (xLay, I, L, R) (0, 0) (fun z => ∃ (r : Int32) (I2 : sm_I) (L2 : sm_L) (R2 : sm_R), z = (some (.int r), (xLay, I2, L2, R2)) ∧ XcanK y t I L R r I2 L2 R2) := by
  have m := hI.1.1
  obtain ⟨qt, hq, g1, hk, -⟩ := hI.2.1
  have eP : kP qt R = R := kP_eq (w := (xLay, I, L, R)) m g1
  rcases hq with e | e <;> subst e
  · have eF : kF12_74 R = R := kF12_74_eq (w := (xLay, I, L, R)) m g1
    have xf : XF I R I (kF12_74 R) := ⟨by rw [eF], by rw [eF], fun _ _ _ => rfl⟩
    have g := ph12_X11_can_0 (S := S) (d := 52 + 6) (I := I) (L := L) (R := R) (x1 := y) (x2 := t) (Φ := fun z => ∃ (r : Int32) (I2 : sm_I) (L2 : sm_L) (R2 : sm_R), z = (some (.int r), (xLay, I2, L2, R2)) ∧ XcanK y t I L R r I2 L2 R2) (inT_at (Or.inl rfl) (by rw [eF]; exact eP) (fun n => ⟨_, I, L, R, rfl, fun _ => ⟨_, I, L, _, rfl, 12, g1, xf, fun _ => rfl, fun a b => absurd ⟨a, b⟩ n⟩, fun n => absurd rfl n⟩) (fun a b => ⟨_, I, L, R, rfl, fun n => absurd n (by decide), fun _ => isM12 (by rw [eF]; exact eP) (fun n => ⟨_, I, L, R, rfl, fun _ => ⟨_, I, L, _, rfl, 12, g1, xf, fun _ => rfl, fun _ _ a2 b2 => absurd ⟨a2, b2⟩ n⟩, fun n => absurd rfl n⟩) (fun a2 b2 => ⟨_, I, L, R, rfl, fun n => absurd n (by decide), fun _ => igv12 hI g1 (fun J L' R' xv mj => ⟨_, J, L', R', by rw [kFx12 xv], fun u => ⟨_, J, L', _, rfl, 12, g1, by rw [kFx12 xv]; exact ⟨xv.1, xv.2.1, xv.2.2.1⟩, fun n => n.elim (fun n => absurd ⟨a, b⟩ n) (fun n => absurd ⟨a2, b2⟩ n), fun _ _ _ _ => ⟨fun _ => rfl, fun q => ?_⟩⟩, fun u => ?_⟩)⟩)⟩))
    · rw [eF] at g
      exact g
    · rw [if_neg (by rw [q]; decide)] at u
      exact absurd u (by decide)
    · have s : (KF 12 I).2.2.2.2.1 = false := by
        cases v : (KF 12 I).2.2.2.2.1 with
        | true => rw [if_pos v] at u; exact absurd rfl u
        | false => rfl
      rw [kFx12 xv]
      exact cnK12 hk g1 s a b (KF 12 I).2.2.2.1 0 0 0 0 J L' R' xv mj kl_0 (by omega) rfl (fun J L' R' xj => ⟨_, J, L', R', rfl, 12, g1, ⟨xj.1, xj.2.1, xj.2.2.1⟩, fun n => n.elim (fun n => absurd ⟨a, b⟩ n) (fun n => absurd ⟨a2, b2⟩ n), fun _ _ _ _ => ⟨fun q => by rw [s] at q; exact absurd q (by decide), fun _ => rfl⟩⟩)
  · have eF : kF49_74 R = R := kF49_74_eq (w := (xLay, I, L, R)) m g1
    have xf : XF I R I (kF49_74 R) := ⟨by rw [eF], by rw [eF], fun _ _ _ => rfl⟩
    have g := ph49_X11_can_0 (S := S) (d := 52 + 6) (I := I) (L := L) (R := R) (x1 := y) (x2 := t) (Φ := fun z => ∃ (r : Int32) (I2 : sm_I) (L2 : sm_L) (R2 : sm_R), z = (some (.int r), (xLay, I2, L2, R2)) ∧ XcanK y t I L R r I2 L2 R2) (inT_at (Or.inr rfl) (by rw [eF]; exact eP) (fun n => ⟨_, I, L, R, rfl, fun _ => ⟨_, I, L, _, rfl, 49, g1, xf, fun _ => rfl, fun a b => absurd ⟨a, b⟩ n⟩, fun n => absurd rfl n⟩) (fun a b => ⟨_, I, L, R, rfl, fun n => absurd n (by decide), fun _ => isM49 (by rw [eF]; exact eP) (fun n => ⟨_, I, L, R, rfl, fun _ => ⟨_, I, L, _, rfl, 49, g1, xf, fun _ => rfl, fun _ _ a2 b2 => absurd ⟨a2, b2⟩ n⟩, fun n => absurd rfl n⟩) (fun a2 b2 => ⟨_, I, L, R, rfl, fun n => absurd n (by decide), fun _ => igv49 hI g1 (fun J L' R' xv mj => ⟨_, J, L', R', by rw [kFx49 xv], fun u => ⟨_, J, L', _, rfl, 49, g1, by rw [kFx49 xv]; exact ⟨xv.1, xv.2.1, xv.2.2.1⟩, fun n => n.elim (fun n => absurd ⟨a, b⟩ n) (fun n => absurd ⟨a2, b2⟩ n), fun _ _ _ _ => ⟨fun _ => rfl, fun q => ?_⟩⟩, fun u => ?_⟩)⟩)⟩))
    · rw [eF] at g
      exact g
    · rw [if_neg (by rw [q]; decide)] at u
      exact absurd u (by decide)
    · have s : (KF 49 I).2.2.2.2.1 = false := by
        cases v : (KF 49 I).2.2.2.2.1 with
        | true => rw [if_pos v] at u; exact absurd rfl u
        | false => rfl
      rw [kFx49 xv]
      exact cnK49 hk g1 s a b (KF 49 I).2.2.2.1 0 0 0 0 J L' R' xv mj kl_0 (by omega) rfl (fun J L' R' xj => ⟨_, J, L', R', rfl, 49, g1, ⟨xj.1, xj.2.1, xj.2.2.1⟩, fun n => n.elim (fun n => absurd ⟨a, b⟩ n) (fun n => absurd ⟨a2, b2⟩ n), fun _ _ _ _ => ⟨fun q => by rw [s] at q; exact absurd q (by decide), fun _ => rfl⟩⟩)
theorem cnM {Φ : sm_Z → Prop} {I0 : sm_I} {L0 : sm_L} {R0 : sm_R} {y t : Int32} (hJ : lw_J I0 L0 R0) (o : ∀ p j, 107 ≤ p → I p j = I0 p j ∧ R p j = R0 p j) {qt qi l : Nat} (hrf : rfE qt qi l I0 R0) (b69 : 0 ≤ (I 107 69).toInt ∧ (I 107 69).toInt ≤ 1441) (s : (KF qt I0).2.2.2.2.1 = false) (a : 0 ≤ y.toInt) (b : y.toInt < (I0 qt 2).toInt) (b2 : 0 ≤ (I0 qt 2).toInt ∧ (I0 qt 2).toInt ≤ 10) : ∀ (n w : Nat) (x3 x4 O : Int32) (J : sm_I), gofr I J → gor (rxs I l) (KF qt I0) J → x4.toInt = w → w + n = (KF qt I0).2.2.2.1 → x3 = O → (∀ J : sm_I, gofr I J → Φ (some (.int (cng (kv qt I0 0 (y.toNatClampNeg + 1) 0) (kv qt I0 1 (y.toNatClampNeg + 1) 0) t n w O)), (xLay, J, L, kM R))) → sm_wp sm_P S (49 + 8 + 1 + 1) 109 6 [.ref 107, .int y, .int t, .int x3, .int x4] [] (xLay, J, L, kM R) (0, 0) Φ := by
  have f1 : (KF qt I0).2.2.2.1 ≤ 1000 := GT_wf.2.2.2.2.1.1
  have ny := kl_nat a
  have n2 := kl_nat b2.1
  have e2 : kn qt I0 = (I0 qt 2).toNatClampNeg + 1 := rfl
  intro n
  induction n with
  | zero =>
    intro w x3 x4 O J f k h4 hw hO h
    refine pj_X12_can_6 (d := 49 + 8 + 1) ⟨fun _ => by rw [hO]; exact h J f, fun c => ?_⟩
    have c := kl_nle c
    rw [k.2.2.1] at c
    omega
  | succ n ih =>
    intro w x3 x4 O J f k h4 hw hO h
    have s4 := ml_in1 (x := x4) (by omega)
    refine pj_X12_can_6 (d := 49 + 8 + 1) ⟨fun c => ?_, fun _ => rx_lyN (d := 52) hJ o hrf f b69 k s h4 (by omega) (fun J2 f2 k2 T => ⟨_, J2, L, rfl, fun q => absurd q (by decide), fun _ => ?_⟩)⟩
    · have c := kl_le.mp c
      rw [k.2.2.1] at c
      omega
    obtain ⟨C, hC, T⟩ := T
    have go : ∀ x : Int32, x = cs_ (kv qt I0 0 (y.toNatClampNeg + 1) 0 w) (kv qt I0 1 (y.toNatClampNeg + 1) 0 w) t O → sm_wp sm_P S (49 + 8 + 1 + 1) 109 6 [.ref 107, .int y, .int t, .int x, .int (x4 + (1 : Int32))] [] (xLay, J2, L, kM R) (0, 0) Φ := fun x ex => ih (w + 1) x _ _ J2 f2 k2 (by omega) (by omega) ex h
    refine rx_gn (n := kn qt I0) (i := y.toNatClampNeg + 1) (j := 0) (by rw [ml_in1 (by omega)]; omega) kl_0 (by rw [e2]; omega) (by rw [e2]; omega) (by rw [e2]; omega) T (fun r2 hr => ⟨r2, J2, L, rfl, ?_⟩)
    have ev : r2 = kv qt I0 0 (y.toNatClampNeg + 1) 0 w := kv_at hC T (by rw [e2]; omega) (by rw [e2]; omega) hr
    refine ⟨fun c => go _ ?_, fun c => rx_gn (n := kn qt I0) (i := y.toNatClampNeg + 1) (j := 0) (by rw [ml_in1 (by omega)]; omega) kl_0 (by rw [e2]; omega) (by rw [e2]; omega) (by rw [e2]; omega) T (fun r3 hr3 => ⟨r3, J2, L, rfl, ?_⟩)⟩
    · unfold cs_
      rw [← hO, ← ev, if_pos c]
    have ev3 : r3 = kv qt I0 1 (y.toNatClampNeg + 1) 0 w := kv_at hC T (by rw [e2]; omega) (by rw [e2]; omega) hr3
    refine ⟨fun c3 => go _ ?_, fun c3 => go _ ?_⟩
    · unfold cs_
      rw [← hO, ← ev, ← ev3, if_neg c, if_pos c3]
    · unfold cs_
      rw [← hO, ← ev, ← ev3, if_neg c, if_neg c3]
theorem bm_can {y t : Int32} (hI : MJ (XcanK y t) r I L R) : sm_wp sm_P S (58 + 1) 109 0 [.ref 107, .int y, .int t] [] (xLay, I, L, R) (0, 0) (fun z => ∃ (r' : Int32) (I2 : sm_I) (L2 : sm_L) (R2 : sm_R), z = (some (.int r'), (xLay, I2, L2, R2)) ∧ r = r' ∧ ((∀ p j, p < 107 → I2 p j = I p j ∧ R2 p j = R p j) → LJ I2 R2)) := by
  obtain ⟨I0, L0, R0, hJ, mk, o, q, e09, xf, X0, X1⟩ := hI
  have mm : en_mem ml_tb mlX (xLay, I, L, R) := lw_mk (lw_pk (ky_dn mk)) hJ.1.2.1 o
  have e : kM R = R := ml_R mm
  obtain ⟨-, n0, tp, hd, qt, qi, l, hrf, htd⟩ := hJ.1
  have eq : q = qt := Option.some.inj (e09.symm.trans hrf.2.2.1)
  subst eq
  have hq : q = 12 ∨ q = 49 := by have := hrf.1; omega
  obtain ⟨c0, c1, c2, c3, c4, -⟩ := q_cnt hq htd
  have c5 : I0 q 5 = I0 107 46 := htd.2.2.1
  have hl : (I 107 18).toInt = l := by rw [(o 107 18 (by omega)).1]; exact hrf.2.2.2.2
  have l1 := hrf.2.1
  have hb := (ml_cs l1 mm).2.2.2.1
  have b46 : 0 ≤ (I 107 46).toInt ∧ (I 107 46).toInt ≤ 45 := mm.2.1 107 46 (0, 45) (by decide +kernel)
  have e3 : (I0 q 3).toInt = (I 125 l).toInt := by rw [c3, (o 125 l (by omega)).1]
  have e5 : (I0 q 5).toInt = (I 107 46).toInt := by rw [c5, (o 107 46 (by omega)).1]
  have hb0 : 0 ≤ (I0 125 l).toInt ∧ (I0 125 l).toInt ≤ 10 := by rw [← (o 125 l (by omega)).1]; exact hb
  have b460 : 0 ≤ (I0 107 46).toInt ∧ (I0 107 46).toInt ≤ 45 := by rw [← (o 107 46 (by omega)).1]; exact b46
  obtain ⟨il, ia⟩ := it_at hJ.1 hrf
  have xi : rxs I l = rxs I0 l := rx_it o l
  have f1 : (KF q I0).2.2.2.1 ≤ 1000 := GT_wf.2.2.2.2.1.1
  have lj : ∀ {I2 : sm_I} {R2 : sm_R}, (∀ p j, lkM p j → I2 p j = I p j) → (∀ p j, p < 107 → I2 p j = I p j ∧ R2 p j = R p j) → LJ I2 R2 := fun g f => LJ_f hJ o xf g f
  have st : ∀ p j, lkM p j → I p j = I p j := fun _ _ _ => rfl
  have b69 : 0 ≤ (I 107 69).toInt ∧ (I 107 69).toInt ≤ 1441 := mm.2.1 107 69 (0, 1441) (by decide +kernel)
  have hbT := (ml_cs l1 mm).2.2.1
  have e2 : (I0 q 2).toInt = (I 122 l).toInt := by rw [c2, (o 122 l (by omega)).1]
  have e122 : I 122 l = I0 122 l := (o 122 l (by omega)).1
  have g := pj_X12_can_0 (S := S) (d := 50 + 8) (I := I) (L := L) (R := R) (x1 := y) (x2 := t) (Φ := fun z => ∃ (r' : Int32) (I2 : sm_I) (L2 : sm_L) (R2 : sm_R), z = (some (.int r'), (xLay, I2, L2, R2)) ∧ r = r' ∧ ((∀ p j, p < 107 → I2 p j = I p j ∧ R2 p j = R p j) → LJ I2 R2)) (yp_inT (d := 49 + 8) hl l1 hbT (fun n => ⟨_, I, L, rfl, fun _ => ⟨_, I, L, _, rfl, X0 (Or.inl (fun w => n ⟨w.1, by omega⟩)), lj st⟩, fun n => absurd rfl n⟩) (fun a b => ⟨_, I, L, rfl, fun n => absurd n (by decide), fun _ => yp_isMin (d := 49 + 8) (fun n => ⟨_, I, L, rfl, fun _ => ⟨_, I, L, _, rfl, X0 (Or.inr n), lj st⟩, fun n => absurd rfl n⟩) (fun a2 b2 => ⟨_, I, L, rfl, fun n => absurd n (by decide), fun _ => rx_Jm hJ mk o hrf (fun J f k mj => ⟨J, L, rfl, fun u => ?_, fun u => ⟨_, J, L, _, rfl, ?_, lj (gofr_lk f)⟩⟩)⟩)⟩))
  · rw [e] at g
    exact g
  · have s : (KF q I0).2.2.2.2.1 = false := by
      cases v : (KF q I0).2.2.2.2.1 with
      | false => rfl
      | true => rw [k.1, if_pos v] at u; exact absurd u (by decide)
    exact cnM hJ o hrf b69 s a (by omega) (by omega) (KF q I0).2.2.2.1 0 0 0 0 J f k kl_0 (by omega) rfl (fun J2 f2 => ⟨_, J2, L, _, rfl, (X1 a (by omega) a2 b2).2 s, lj (gofr_lk f2)⟩)
  · refine (X1 a (by omega) a2 b2).1 ?_
    cases v : (KF q I0).2.2.2.2.1 with
    | true => rfl
    | false => rw [k.1, if_neg (by rw [v]; decide)] at u; exact absurd rfl u
end
