section
/-! THE LAW: pairs out of what was gone through: tried (wip/pe/mkp2.py) -/
theorem KF12_bd {I : sm_I} (hk : kW 12 I) (i : Nat) (hi : i < (KF 12 I).2.2.1) (h1 : i < 1000) : ((KF 12 I).2.2.2.2.2.1 i).1 < (kys 12 I).length ∧ (kys 12 I).getD ((KF 12 I).2.2.2.2.2.1 i).1 0 < 145 ∧ ((KF 12 I).2.2.2.2.2.1 i).2.1 < 4 := by
  have w := GT_wf (n := (I 12 2).toNatClampNeg + 1) (m := (kys 12 I).length) (B := kbaC 12 (kst I) id) (cc := fun i c => kcv 12 74 (kst I) id ((kys 12 I).getD i 0) c) (nc := fun j => kcd 12 (kst I) ((kys 12 I).getD j 0)) (tf := false)
  have t : ((KF 12 I).2.2.2.2.2.1 i).1 < (kys 12 I).length ∧ ((KF 12 I).2.2.2.2.2.1 i).2.1 < kcd 12 (kst I) ((kys 12 I).getD ((KF 12 I).2.2.2.2.2.1 i).1 0) := w.2.2.2.1 i hi h1
  obtain ⟨t1, t2⟩ := t
  have y := kitL_in t1
  rcases g12_74_c4 (hk.2.2.2.2.2.2 _ y) with ⟨a, b⟩ | ⟨a, b, c⟩
  · exact ⟨t1, Nat.lt_of_lt_of_le a (by decide), Nat.lt_of_lt_of_le t2 b⟩
  · exact ⟨t1, b, Nat.lt_of_lt_of_le t2 (Nat.le_trans c (by decide))⟩
theorem KF49_bd {I : sm_I} (hk : kW 49 I) (i : Nat) (hi : i < (KF 49 I).2.2.1) (h1 : i < 1000) : ((KF 49 I).2.2.2.2.2.1 i).1 < (kys 49 I).length ∧ (kys 49 I).getD ((KF 49 I).2.2.2.2.2.1 i).1 0 < 145 ∧ ((KF 49 I).2.2.2.2.2.1 i).2.1 < 4 := by
  have w := GT_wf (n := (I 49 2).toNatClampNeg + 1) (m := (kys 49 I).length) (B := kbaC 49 (kst I) id) (cc := fun i c => kcv 49 74 (kst I) id ((kys 49 I).getD i 0) c) (nc := fun j => kcd 49 (kst I) ((kys 49 I).getD j 0)) (tf := false)
  have t : ((KF 49 I).2.2.2.2.2.1 i).1 < (kys 49 I).length ∧ ((KF 49 I).2.2.2.2.2.1 i).2.1 < kcd 49 (kst I) ((kys 49 I).getD ((KF 49 I).2.2.2.2.2.1 i).1 0) := w.2.2.2.1 i hi h1
  obtain ⟨t1, t2⟩ := t
  have y := kitL_in t1
  rcases g49_74_c4 (hk.2.2.2.2.2.2 _ y) with ⟨a, b⟩ | ⟨a, b, c⟩
  · exact ⟨t1, Nat.lt_of_lt_of_le a (by decide), Nat.lt_of_lt_of_le t2 b⟩
  · exact ⟨t1, b, Nat.lt_of_lt_of_le t2 (Nat.le_trans c (by decide))⟩
theorem pj_X12_toldItem_0 {S : sm_C} {d : Nat} {Φ : sm_Z → Prop} {I : sm_I} {L : sm_L} {R : sm_R} {x0 : Int32} (h : (((10 : Int32) ≤ x0 → Φ (some (.int (x0 + (90 : Int32))), (xLay, I, L, (kM R)))) ∧ (¬ (10 : Int32) ≤ x0 → Φ (some (.int x0), (xLay, I, L, (kM R)))))) : sm_wp sm_P S d 205 0 [.int x0] [] (xLay, I, L, (kM R)) (0, 0) Φ := sm_wp_step (⟨fun q1 => ((h).1 q1), fun q1 => ((h).2 q1)⟩)
section
variable {S : sm_C} {I : sm_I} {L : sm_L} {R : sm_R} {r : Int32}
theorem rx_Jk {d : Nat} {Φ : sm_Z → Prop} {I0 : sm_I} {L0 : sm_L} {R0 : sm_R} (hJ : lw_J I0 L0 R0) (mk : en_mem kl_tb2 klY (xLay, I, L, R)) (o : ∀ p j, 107 ≤ p → I p j = I0 p j ∧ R p j = R0 p j) {qt qi l : Nat} (hrf : rfE qt qi l I0 R0) (h : ∀ J, gofr I J → gor (rxs I l) (KF qt I0) J → Φ (none, (xLay, J, L, kM R))) : sm_wp sm_P S (d + 6) 135 0 [.ref 107] [] (xLay, I, L, kM R) (0, 0) Φ := by
  have mm : en_mem ml_tb mlX (xLay, I, L, R) := lw_mk (lw_pk (ky_dn mk)) hJ.1.2.1 o
  have e : kM R = R := ml_R mm
  rw [e] at h ⊢
  exact rx_J (X := XwaysK) hJ mk o hrf h
theorem it_at (hI : lw_I I L R) {qt qi l : Nat} (hrf : rfE qt qi l I R) : (kys qt I).length = (rxs I l).length ∧ ∀ k, k < (rxs I l).length → (kys qt I).getD k 0 = cdm ((rxs I l).getD k 0) := by
  obtain ⟨-, mm, -, hd, q, qi', l', hrf', htd⟩ := hI
  have e : q = qt := Option.some.inj (hrf'.2.2.1.symm.trans hrf.2.2.1)
  have e2 : l' = l := by have := hrf'.2.2.2.2; have := hrf.2.2.2.2; omega
  subst e
  subst e2
  have c := q_cnt (by have := hrf.1; omega) htd
  exact items_eq hd.1 c.2.2.2.1 htd.2.2.1 (ml_cs hrf.2.1 mm).2.2.2.1
theorem rx_it {I0 : sm_I} {R0 : sm_R} (o : ∀ p j, 107 ≤ p → I p j = I0 p j ∧ R p j = R0 p j) (l : Nat) : rxs I l = rxs I0 l := rxs_cg (fun p j q => (o p j (by omega)).1)
def tin (x : Int32) (F : ss) : Prop := 0 ≤ x.toInt ∧ x.toInt < 1000 ∧ x.toInt < F.2.2.1
def XtriedK (x y : Int32) (I : sm_I) (_ : sm_L) (R : sm_R) (r : Int32) (I1 : sm_I) (L1 : sm_L) (R1 : sm_R) : Prop := ∃ qt, R 0 9 = some qt ∧ XG qt I R I1 L1 R1 ∧ (¬ tin x (KF qt I) → r = -1) ∧ (tin x (KF qt I) → (y.toInt = 0 → r = Int32.ofNat ((kys qt I).getD ((KF qt I).2.2.2.2.2.1 x.toNatClampNeg).1 0)) ∧ (y.toInt = 1 → r = Int32.ofNat ((KF qt I).2.2.2.2.2.1 x.toNatClampNeg).2.1) ∧ (y.toInt = 2 → r = if ((KF qt I).2.2.2.2.2.1 x.toNatClampNeg).2.2 = true then 1 else 0) ∧ (y.toInt ≠ 0 → y.toInt ≠ 1 → y.toInt ≠ 2 → r = -1)) ∧ (tin x (KF qt I) → ((KF qt I).2.2.2.2.2.1 x.toNatClampNeg).1 < (kys qt I).length)
theorem bk_tried {x y : Int32} (hI : lw_J I L R) : sm_wp sm_P S (58 + 1) 88 0 [.ref 0, .int x, .int y] [] (xLay, I, L, R) (0, 0) (fun z => ∃ (r : Int32) (I2 : sm_I) (L2 : sm_L) (R2 : sm_R), z = (some (.int r), (xLay, I2, L2, R2)) ∧ XtriedK x y I L R r I2 L2 R2) := by
  have m := hI.1.1
  obtain ⟨qt, hq, g1, hk, -⟩ := hI.2.1
  have h1000 : (1000 : Int32).toInt = 1000 := by decide
  have mn : ∀ t : Int32, x < (if (1000 : Int32) < t then (1000 : Int32) else t) ↔ x.toInt < 1000 ∧ x.toInt < t.toInt := fun t => by
    by_cases c : (1000 : Int32) < t
    · have c' := Int32.lt_iff_toInt_lt.mp c
      rw [h1000] at c'
      rw [if_pos c, Int32.lt_iff_toInt_lt, h1000]
      omega
    · have c' : ¬ (1000 : Int) < t.toInt := fun q => c (Int32.lt_iff_toInt_lt.mpr (by rw [h1000]; exact q))
      rw [if_neg c, Int32.lt_iff_toInt_lt]
      omega
  rcases hq with e | e <;> subst e
  · have g := pf12_X11_tried_0 (S := S) (d := 52 + 6) (I := I) (L := L) (R := R) (x1 := x) (x2 := y) (Φ := fun z => ∃ (r : Int32) (I2 : sm_I) (L2 : sm_L) (R2 : sm_R), z = (some (.int r), (xLay, I2, L2, R2)) ∧ XtriedK x y I L R r I2 L2 R2) (ig12_J hI g1 (fun J L' xg => ⟨_, J, L', R, rfl, fun c => ⟨_, J, L', _, rfl, 12, g1, xg, fun _ => rfl, fun a => ?_, fun a => ?_⟩, fun c => ⟨fun c2 => ?_, fun c2 => ⟨_, J, L', _, rfl, 12, g1, xg, fun _ => rfl, fun a => ?_, fun a => ?_⟩⟩⟩))
    · rw [kF12_74_eq (w := (xLay, I, L, R)) m g1] at g
      exact g
    · exact absurd a.1 (by have := Int32.lt_iff_toInt_lt.mp c; rw [kl_0] at this; omega)
    · exact absurd a.1 (by have := Int32.lt_iff_toInt_lt.mp c; rw [kl_0] at this; omega)
    · have c0 : 0 ≤ x.toInt := by
        rcases Int.lt_or_le x.toInt 0 with u | u
        · exact absurd (Int32.lt_iff_toInt_lt.mpr (by rw [kl_0]; exact u)) c
        · exact u
      obtain ⟨c3, c4⟩ := (mn _).mp c2
      have a13 := xg.2.2.2.2.1.1
      rw [a13] at c4
      have n := kl_nat c0
      have tn : tin x (KF 12 I) := ⟨c0, c3, c4⟩
      obtain ⟨b1, b2, b3⟩ := KF12_bd hk x.toNatClampNeg (by omega) (by omega)
      have v := xg.2.2.2.2.2.1 x.toNatClampNeg (by omega) (by omega)
      obtain ⟨p1, p2, p3⟩ := pkT_d _ b2 _ b3 ((KF 12 I).2.2.2.2.2.1 x.toNatClampNeg).2.2
      refine pg12_74_X1_tryOf_0 (d := 57) (pg12_74v46_X11_valueAt_0 ⟨fun a => absurd a c, fun _ => ⟨fun a => ?_, fun _ => ⟨kl_in c0 c3, _, J, L', rfl, fun y0 => ⟨_, J, L', R, rfl, _, J, L', _, rfl, 12, g1, xg, fun q => absurd tn q, fun _ => ⟨fun _ => ?_, fun q => ?_, fun q => ?_, fun q => ?_⟩, fun _ => b1⟩, fun y0 => ⟨fun y1 => ⟨_, J, L', R, rfl, _, J, L', _, rfl, 12, g1, xg, fun q => absurd tn q, fun _ => ⟨fun q => absurd q y0, fun _ => ?_, fun q => ?_, fun _ q => absurd y1 q⟩, fun _ => b1⟩, fun y1 => ⟨fun y2 => ⟨_, J, L', R, rfl, _, J, L', _, rfl, 12, g1, xg, fun q => absurd tn q, fun _ => ⟨fun q => absurd q y0, fun q => absurd q y1, fun _ => ?_, fun _ _ q => absurd y2 q⟩, fun _ => b1⟩, fun y2 => ⟨_, J, L', R, rfl, _, J, L', _, rfl, 12, g1, xg, fun q => absurd tn q, fun _ => ⟨fun q => absurd q y0, fun q => absurd q y1, fun q => absurd q y2, fun _ _ _ => rfl⟩, fun _ => b1⟩⟩⟩⟩⟩⟩)
      · have a' := Int32.le_iff_toInt_le.mp a
        rw [Int32.toInt_ofNat_of_lt (by decide)] at a'
        omega
      · rw [v]; exact p1
      · rw [y0] at q; exact absurd q (by decide)
      · rw [y0] at q; exact absurd q (by decide)
      · exact absurd y0 q
      · rw [v]; exact p2
      · rw [y1] at q; exact absurd q (by decide)
      · rw [v]; exact p3
    · exact absurd ((mn _).mpr ⟨a.2.1, by rw [xg.2.2.2.2.1.1]; exact a.2.2⟩) c2
    · exact absurd ((mn _).mpr ⟨a.2.1, by rw [xg.2.2.2.2.1.1]; exact a.2.2⟩) c2
  · have g := pf49_X11_tried_0 (S := S) (d := 52 + 6) (I := I) (L := L) (R := R) (x1 := x) (x2 := y) (Φ := fun z => ∃ (r : Int32) (I2 : sm_I) (L2 : sm_L) (R2 : sm_R), z = (some (.int r), (xLay, I2, L2, R2)) ∧ XtriedK x y I L R r I2 L2 R2) (ig49_J hI g1 (fun J L' xg => ⟨_, J, L', R, rfl, fun c => ⟨_, J, L', _, rfl, 49, g1, xg, fun _ => rfl, fun a => ?_, fun a => ?_⟩, fun c => ⟨fun c2 => ?_, fun c2 => ⟨_, J, L', _, rfl, 49, g1, xg, fun _ => rfl, fun a => ?_, fun a => ?_⟩⟩⟩))
    · rw [kF49_74_eq (w := (xLay, I, L, R)) m g1] at g
      exact g
    · exact absurd a.1 (by have := Int32.lt_iff_toInt_lt.mp c; rw [kl_0] at this; omega)
    · exact absurd a.1 (by have := Int32.lt_iff_toInt_lt.mp c; rw [kl_0] at this; omega)
    · have c0 : 0 ≤ x.toInt := by
        rcases Int.lt_or_le x.toInt 0 with u | u
        · exact absurd (Int32.lt_iff_toInt_lt.mpr (by rw [kl_0]; exact u)) c
        · exact u
      obtain ⟨c3, c4⟩ := (mn _).mp c2
      have a13 := xg.2.2.2.2.1.1
      rw [a13] at c4
      have n := kl_nat c0
      have tn : tin x (KF 49 I) := ⟨c0, c3, c4⟩
      obtain ⟨b1, b2, b3⟩ := KF49_bd hk x.toNatClampNeg (by omega) (by omega)
      have v := xg.2.2.2.2.2.1 x.toNatClampNeg (by omega) (by omega)
      obtain ⟨p1, p2, p3⟩ := pkT_d _ b2 _ b3 ((KF 49 I).2.2.2.2.2.1 x.toNatClampNeg).2.2
      refine pg49_74_X1_tryOf_0 (d := 57) (pg49_74v46_X11_valueAt_0 ⟨fun a => absurd a c, fun _ => ⟨fun a => ?_, fun _ => ⟨kl_in c0 c3, _, J, L', rfl, fun y0 => ⟨_, J, L', R, rfl, _, J, L', _, rfl, 49, g1, xg, fun q => absurd tn q, fun _ => ⟨fun _ => ?_, fun q => ?_, fun q => ?_, fun q => ?_⟩, fun _ => b1⟩, fun y0 => ⟨fun y1 => ⟨_, J, L', R, rfl, _, J, L', _, rfl, 49, g1, xg, fun q => absurd tn q, fun _ => ⟨fun q => absurd q y0, fun _ => ?_, fun q => ?_, fun _ q => absurd y1 q⟩, fun _ => b1⟩, fun y1 => ⟨fun y2 => ⟨_, J, L', R, rfl, _, J, L', _, rfl, 49, g1, xg, fun q => absurd tn q, fun _ => ⟨fun q => absurd q y0, fun q => absurd q y1, fun _ => ?_, fun _ _ q => absurd y2 q⟩, fun _ => b1⟩, fun y2 => ⟨_, J, L', R, rfl, _, J, L', _, rfl, 49, g1, xg, fun q => absurd tn q, fun _ => ⟨fun q => absurd q y0, fun q => absurd q y1, fun q => absurd q y2, fun _ _ _ => rfl⟩, fun _ => b1⟩⟩⟩⟩⟩⟩)
      · have a' := Int32.le_iff_toInt_le.mp a
        rw [Int32.toInt_ofNat_of_lt (by decide)] at a'
        omega
      · rw [v]; exact p1
      · rw [y0] at q; exact absurd q (by decide)
      · rw [y0] at q; exact absurd q (by decide)
      · exact absurd y0 q
      · rw [v]; exact p2
      · rw [y1] at q; exact absurd q (by decide)
      · rw [v]; exact p3
    · exact absurd ((mn _).mpr ⟨a.2.1, by rw [xg.2.2.2.2.1.1]; exact a.2.2⟩) c2
    · exact absurd ((mn _).mpr ⟨a.2.1, by rw [xg.2.2.2.2.1.1]; exact a.2.2⟩) c2
theorem bm_tried {x y : Int32} (hI : MJ (XtriedK x y) r I L R) : sm_wp sm_P S (58 + 1) 206 0 [.ref 107, .int x, .int y] [] (xLay, I, L, R) (0, 0) (fun z => ∃ (r' : Int32) (I2 : sm_I) (L2 : sm_L) (R2 : sm_R), z = (some (.int r'), (xLay, I2, L2, R2)) ∧ r = r' ∧ ((∀ p j, p < 107 → I2 p j = I p j ∧ R2 p j = R p j) → LJ I2 R2)) := by
  obtain ⟨I0, L0, R0, hJ, mk, o, q, e09, xg, X1, X2, X3⟩ := hI
  have mm : en_mem ml_tb mlX (xLay, I, L, R) := lw_mk (lw_pk (ky_dn mk)) hJ.1.2.1 o
  have e : kM R = R := ml_R mm
  obtain ⟨-, -, -, -, qt, qi, l, hrf, -⟩ := hJ.1
  have eq : q = qt := Option.some.inj (e09.symm.trans hrf.2.2.1)
  subst eq
  obtain ⟨il, ia⟩ := it_at hJ.1 hrf
  have h1000 : (1000 : Int32).toInt = 1000 := by decide
  have h2 : (2 : Int32).toInt = 2 := by decide
  have h1 : (1 : Int32).toInt = 1 := by decide
  have no : ¬ tin x (KF q I0) → r = -1 := X1
  have g := pj_X12_tried_0 (S := S) (d := 52 + 6) (I := I) (L := L) (R := R) (x1 := x) (x2 := y) (Φ := fun z => ∃ (r' : Int32) (I2 : sm_I) (L2 : sm_L) (R2 : sm_R), z = (some (.int r'), (xLay, I2, L2, R2)) ∧ r = r' ∧ ((∀ p j, p < 107 → I2 p j = I p j ∧ R2 p j = R p j) → LJ I2 R2)) (by
    refine ⟨fun c => ⟨_, I, L, _, rfl, X1 (fun a => ?_), LJ_g hJ o xg (fun _ _ _ => rfl)⟩, fun c => yp_in (fun n => ⟨_, I, L, rfl, fun _ => ⟨_, I, L, _, rfl, ?_, LJ_g hJ o xg (fun _ _ _ => rfl)⟩, fun n => absurd rfl n⟩) (fun a b => ⟨_, I, L, rfl, fun n => absurd n (by decide), fun _ => rx_Jk hJ mk o hrf (fun J f k => ⟨J, L, rfl, fun t => ⟨_, J, L, _, rfl, X1 (fun a => ?_), LJ_g hJ o xg (gofr_lk f)⟩, fun t => ⟨fun t2 => ?_, fun t2 => ⟨_, J, L, _, rfl, X1 (fun a => ?_), LJ_g hJ o xg (gofr_lk f)⟩⟩⟩)⟩)⟩
    · have := Int32.lt_iff_toInt_lt.mp c
      rw [kl_0] at this
      have := a.1
      omega
    · rw [kl_0, h2] at n
      by_cases tn : tin x (KF q I0)
      · exact (X2 tn).2.2.2 (fun w => n (by omega)) (fun w => n (by omega)) (fun w => n (by omega))
      · exact X1 tn
    · have t' := Int32.le_iff_toInt_le.mp t
      rw [k.2.1] at t'
      have := a.2.2
      omega
    · have c0 : 0 ≤ x.toInt := by
        rcases Int.lt_or_le x.toInt 0 with u | u
        · exact absurd (Int32.lt_iff_toInt_lt.mpr (by rw [kl_0]; exact u)) c
        · exact u
      have c3 := Int32.lt_iff_toInt_lt.mp t2
      rw [h1000] at c3
      have c4 : x.toInt < (KF q I0).2.2.1 := by
        rcases Int.lt_or_le x.toInt (KF q I0).2.2.1 with u | u
        · exact u
        · exact absurd (Int32.le_iff_toInt_le.mpr (by rw [k.2.1]; exact u)) t
      have n := kl_nat c0
      have tn : tin x (KF q I0) := ⟨c0, c3, c4⟩
      have vp : vp_in x 1000 := kl_in c0 c3
      obtain ⟨x0, x1, x2, -⟩ := X2 tn
      have b1 := X3 tn
      obtain ⟨s1, s2, s3⟩ := k.2.2.2.1 x.toNatClampNeg (by omega) (by omega)
      rw [rx_it o l] at s1
      rw [kl_0] at a
      rw [h2] at b
      refine ⟨fun y0 => ⟨vp, ?_⟩, fun y0 => ⟨fun y1 => ⟨vp, _, J, L, _, rfl, ?_, LJ_g hJ o xg (gofr_lk f)⟩, fun y1 => ⟨vp, fun z => ⟨_, J, L, _, rfl, ?_, LJ_g hJ o xg (gofr_lk f)⟩, fun z => ⟨_, J, L, _, rfl, ?_, LJ_g hJ o xg (gofr_lk f)⟩⟩⟩⟩
      · rw [il] at b1
        have w := ia _ b1
        have xin := itL_in b1
        have bb := (ml_cs hrf.2.1 (lw_mk (lw_pk (ky_dn mk)) hJ.1.2.1 o)).2.2.2.1
        have b46 : 0 ≤ (I0 107 46).toInt ∧ (I0 107 46).toInt ≤ 45 := hJ.1.2.1.2.1 107 46 (0, 45) (by decide +kernel)
        have n46 := kl_nat b46.1
        have bI := (ml_cs hrf.2.1 hJ.1.2.1).2.2.2.1
        have n3 := kl_nat bI.1
        have x60 : (rxs I0 l).getD ((KF q I0).2.2.2.2.2.1 x.toNatClampNeg).1 0 < 60 := by
          rcases xin with u | u
          · exact Nat.lt_of_lt_of_le u (by omega)
          · exact Nat.lt_of_lt_of_le u.2 (by omega)
        have r0 := x0 (by rw [y0, kl_0])
        rw [w] at r0
        rw [s1]
        have tI : (Int32.ofNat ((rxs I0 l).getD ((KF q I0).2.2.2.2.2.1 x.toNatClampNeg).1 0)).toInt = ((rxs I0 l).getD ((KF q I0).2.2.2.2.2.1 x.toNatClampNeg).1 0 : Nat) := Int32.toInt_ofNat_of_lt (by omega)
        generalize hA : (rxs I0 l).getD ((KF q I0).2.2.2.2.2.1 x.toNatClampNeg).1 0 = A at *
        have h90 : (Int32.ofNat A + (90 : Int32)).toInt = (A : Int) + 90 := (ml_ad (b := 90) rfl (by decide) (by omega) (by omega)).trans (by rw [tI])
        refine pj_X12_toldItem_0 ⟨fun c10 => ⟨_, J, L, rfl, _, J, L, _, rfl, ?_, LJ_g hJ o xg (gofr_lk f)⟩, fun c10 => ⟨_, J, L, rfl, _, J, L, _, rfl, ?_, LJ_g hJ o xg (gofr_lk f)⟩⟩
        · have c10' := Int32.le_iff_toInt_le.mp c10
          rw [tI, (by decide : (10 : Int32).toInt = 10)] at c10'
          rw [r0]
          unfold cdm
          rw [if_neg (by omega)]
          exact Int32.toInt_inj.mp (by rw [h90, Int32.toInt_ofNat_of_lt (by omega)]; rfl)
        · rw [r0]
          unfold cdm
          rw [if_pos]
          rcases Nat.lt_or_ge A 10 with u | u
          · exact u
          · exact absurd (Int32.le_iff_toInt_le.mpr (by rw [tI, (by decide : (10 : Int32).toInt = 10)]; omega)) c10
      · rw [s2]; exact x1 (by rw [y1, h1])
      · have y2 : y.toInt = 2 := by
          have u0 : y.toInt ≠ 0 := fun w => y0 (en_ofI (by rw [w, kl_0]))
          have u1 : y.toInt ≠ 1 := fun w => y1 (en_ofI (by rw [w, h1]))
          omega
        rw [s3] at z
        rw [x2 y2]
        by_cases c : ((KF q I0).2.2.2.2.2.1 x.toNatClampNeg).2.2 = true
        · rw [if_pos c] at z; exact absurd z (by decide)
        · rw [if_neg c]
      · have y2 : y.toInt = 2 := by
          have u0 : y.toInt ≠ 0 := fun w => y0 (en_ofI (by rw [w, kl_0]))
          have u1 : y.toInt ≠ 1 := fun w => y1 (en_ofI (by rw [w, h1]))
          omega
        rw [s3] at z
        rw [x2 y2]
        by_cases c : ((KF q I0).2.2.2.2.2.1 x.toNatClampNeg).2.2 = true
        · rw [if_pos c]
        · rw [if_neg c] at z; exact absurd rfl z
    · have t2' : ¬ x.toInt < 1000 := fun w => t2 (Int32.lt_iff_toInt_lt.mpr (by rw [h1000]; exact w))
      exact t2' a.2.1)
  rw [e] at g
  exact g
end
end
section
/-! THE LAW: pairs out of what was gone through: count (wip/pe/mkp3.py) -/
section
variable {S : sm_C} {I : sm_I} {L : sm_L} {R : sm_R} {r : Int32}
end
end
section
/-! THE LAW: levelOf of the class, with its levels (wip/pe/mkl2.py) -/
end
section
/-! THE LAW: choices of a WAY: helps (wip/pe/mkp5.py) -/
section
variable {S : sm_C} {I : sm_I} {L : sm_L} {R : sm_R} {r : Int32}
end
end
section
/-! THE LAW: pairs out of what was gone through: choice (wip/pe/mkp5.py) -/
section
variable {S : sm_C} {I : sm_I} {L : sm_L} {R : sm_R} {r : Int32}
end
end
section
/-! THE LAW: pairs out of what was gone through: goes (wip/pe/mkp5.py) -/
section
variable {S : sm_C} {I : sm_I} {L : sm_L} {R : sm_R} {r : Int32}
end
end
section
/-! THE LAW: pairs out of what was gone through: forced (wip/pe/mkp5.py) -/
section
variable {S : sm_C} {I : sm_I} {L : sm_L} {R : sm_R} {r : Int32}
end
end
section
/-! THE LAW: at the start nothing is gone through -/
theorem lw_s1 {I : sm_I} {L : sm_L} {R : sm_R} (h : lw_I I L R) (z : sz (xLay, I, L, R)) : lw_J I L R := by
  have iz : ∀ {x : Int32}, x.toInt = 0 → x = 0 := fun e => en_ofI (by rw [e]; decide)
  have r : ∀ p n v, (p, n, v) ∈ sz_rows → ∀ j, j < n → (I p j).toInt = v := fun p n v h j hj => z.1 (p, n, v) h j hj
  have f : ∀ p j v, (p, j, v) ∈ sz_flds → (I p j).toInt = v := fun p j v h => z.2.1 (p, j, v) h
  refine ⟨h, GG_of h (fun qt qi l hrf => ⟨Or.inl (iz (f 0 12 0 (by decide))), Or.inl (iz (f 107 70 0 (by decide))), fun s c i h1 _ _ => ?_, fun k hk => ?_, fun q hq => ?_, fun k hk => ?_⟩)⟩
  · rw [r 125 2 0 (by decide) l (by have := hrf.2.1; omega)] at h1; omega
  · rw [r 134 2 0 (by decide) l (by have := hrf.2.1; omega)] at hk; omega
  · rw [r 136 2 0 (by decide) l (by have := hrf.2.1; omega)] at hq; omega
  · rw [f 107 54 0 (by decide)] at hk; omega
theorem klw_211 {Sc : sm_C} : ∀ (d : Nat), klc_211.2.2.2.2.2 ≤ d → ∀ (vs : List Value) (w : sm_W), en_pvs klc_211.2.1 vs → en_mem kl_tb klX w → sm_wp sm_P Sc d klc_211.1 0 vs [] w (0, 0) (fun z => z.2.2.2.1 = w.2.2.1) := by
  intro d hd vs w hv hm
  obtain ⟨lay, I, L, R⟩ := w
  obtain ⟨vs1, rfl, hv1⟩ := kl_vr (q := 0) rfl hv
  obtain ⟨x1, vs2, rfl, b1, hv2⟩ := kl_vi hv1
  obtain rfl := kl_v0 hv2
  obtain rfl : lay = xLay := hm.2.2.2.2.1
  show sm_wp sm_P Sc d 30 0 _ [] (xLay, I, L, R) (0, 0) _
  exact k0_back_0 ⟨fun _ => rfl, fun _ => ⟨fun _ _ _ => rfl, fun _ => rfl⟩⟩
theorem klk_211 {Sc : sm_C} : en_hold kl_tb2 klY sm_P Sc klc_211 := by
  intro d hd vs w hv hm hp
  have m := ky_dn hm
  have A := klh_211 (Sc := Sc) d hd vs w hv m hp
  have B := klw_211 (Sc := Sc) d hd vs w hv m
  refine sm_wp_mono (sm_wp_and A B) (fun z q => ?_)
  obtain ⟨⟨q1, q2, q3⟩, q4⟩ := q
  have nw : ∀ a b, ¬ (a = 0 ∧ b ≠ 9 ∧ b ≠ 12) → en_wok klc_211.2.2.2.2.1 a b = false := fun a b c => by
    by_cases e : a = 0
    · subst e
      rcases (by omega : b = 9 ∨ b = 12) with e | e <;> subst e <;> decide
    · cases u : en_wok klc_211.2.2.2.2.1 a b with
      | false => rfl
      | true =>
        obtain ⟨q, g1, g2⟩ := List.any_eq_true.mp u
        have g3 : q = (0, [10]) := List.mem_singleton.mp g1
        subst g3
        exact absurd (Nat.eq_of_beq_eq_true (Bool.and_eq_true_iff.mp g2).1).symm e
  exact ⟨q1, ky_up q2 (GK_cg (fun a b k => (q3.2 a b (nw a b (by omega))).1) (fun j => by rw [q4]) (q3.2 0 9 (nw 0 9 (by decide))).2 (q3.2 74 4 (nw 74 4 (by decide))).2 (ky_gk hm)), q3⟩
end
