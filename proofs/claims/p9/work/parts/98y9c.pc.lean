/-! THE LAW: pairs out of what was gone through: count (wip/pe/mkp3.py) -/
theorem kFG12_l : ∀ t, t ∈ kF12_74l → kG12_74l.find? (fun s => Nat.beq s.1 t.1 && Nat.beq s.2.1 t.2.1) = some t := by decide +kernel
theorem kFG12 (R : sm_R) : kF12_74 (kG12_74 R) = kG12_74 R := by
  funext x j
  unfold kF12_74
  split
  · next t ht =>
    have mem := List.mem_of_find?_eq_some ht
    have pr := List.find?_some ht
    obtain ⟨p1, p2⟩ := Bool.and_eq_true_iff.mp pr
    have e1 : t.1 = x := Nat.eq_of_beq_eq_true p1
    have e2 : t.2.1 = j := Nat.eq_of_beq_eq_true p2
    rw [← e1, ← e2]
    unfold kG12_74
    rw [kFG12_l t mem]
  · rfl
theorem kFG49_l : ∀ t, t ∈ kF49_74l → kG49_74l.find? (fun s => Nat.beq s.1 t.1 && Nat.beq s.2.1 t.2.1) = some t := by decide +kernel
theorem kFG49 (R : sm_R) : kF49_74 (kG49_74 R) = kG49_74 R := by
  funext x j
  unfold kF49_74
  split
  · next t ht =>
    have mem := List.mem_of_find?_eq_some ht
    have pr := List.find?_some ht
    obtain ⟨p1, p2⟩ := Bool.and_eq_true_iff.mp pr
    have e1 : t.1 = x := Nat.eq_of_beq_eq_true p1
    have e2 : t.2.1 = j := Nat.eq_of_beq_eq_true p2
    rw [← e1, ← e2]
    unfold kG49_74
    rw [kFG49_l t mem]
  · rfl
section
variable {S : sm_C} {I : sm_I} {L : sm_L} {R : sm_R} {r : Int32}
def XF (I : sm_I) (R : sm_R) (J : sm_I) (R' : sm_R) : Prop := R' 0 9 = R 0 9 ∧ R' 2 6 = R 2 6 ∧ ∀ p j, lkC p j → J p j = I p j
theorem LJ_f {I0 : sm_I} {R0 : sm_R} {L0 : sm_L} (hJ : lw_J I0 L0 R0) (o : ∀ p j, 107 ≤ p → I p j = I0 p j ∧ R p j = R0 p j) (x : XF I0 R0 I R) {I2 : sm_I} {R2 : sm_R} (g : ∀ p j, lkM p j → I2 p j = I p j) (f : ∀ p j, p < 107 → I2 p j = I p j ∧ R2 p j = R p j) : LJ I2 R2 := by
  obtain ⟨x1, x2, x3⟩ := x
  refine LJ_cg (I := I0) (R := R0) (fun p j q => ?_) ((f 0 9 (by omega)).2.trans x1) ((f 2 6 (by omega)).2.trans x2) hJ.1.2.2
  rcases q with q | q
  · rw [(f p j (by unfold lkC at q; omega)).1]; exact x3 p j q
  · rw [g p j q]; exact (o p j (by unfold lkM at q; omega)).1
theorem inS_at {d q : Nat} {Φ : sm_Z → Prop} (hq : q = 12 ∨ q = 49) (eP : kP q R = R) {x : Int32} (h0 : ¬ (0 ≤ x.toInt ∧ x.toInt < (I q 3).toInt) → Φ (some (.int 0), (xLay, I, L, R))) (h1 : 0 ≤ x.toInt → x.toInt < (I q 3).toInt → Φ (some (.int 1), (xLay, I, L, R))) : sm_wp sm_P S d 62 0 [.ref 0, .int x] [] (xLay, I, L, R) (0, 0) Φ := by
  rw [← eP] at h0 h1 ⊢
  exact kp_inS hq h0 h1
def cok (x : Int32) : Prop := 0 ≤ x.toInt ∧ x.toInt ≤ 7
def XcountK (x : Int32) (I : sm_I) (_ : sm_L) (R : sm_R) (r : Int32) (I1 : sm_I) (_ : sm_L) (R1 : sm_R) : Prop := ∃ qt, R 0 9 = some qt ∧ XF I R I1 R1 ∧ (∀ k : Nat, k < 6 → x.toInt = k → r = I qt k) ∧ (x.toInt = 6 → r.toInt = (KF qt I).2.2.1) ∧ (x.toInt = 7 → r = I 0 10) ∧ (∀ s : Nat, x.toInt = 10 + s → (s : Int) < (I qt 3).toInt → r = I (qt + 10) s) ∧ (¬ cok x → ¬ (10 ≤ x.toInt ∧ x.toInt < 10 + (I qt 3).toInt) → r = -1)
theorem bk_count {x : Int32} (hI : lw_J I L R) : sm_wp sm_P S (58 + 1) 38 0 [.ref 0, .int x] [] (xLay, I, L, R) (0, 0) (fun z => ∃ (r : Int32) (I2 : sm_I) (L2 : sm_L) (R2 : sm_R), z = (some (.int r), (xLay, I2, L2, R2)) ∧ XcountK x I L R r I2 L2 R2) := by
  have m := hI.1.1
  obtain ⟨qt, hq, g1, -⟩ := hI.2.1
  have eP : kP qt R = R := kP_eq (w := (xLay, I, L, R)) m g1
  have b3 : (I qt 3).toInt ≤ 10 := by
    rcases hq with e | e <;> subst e
    · exact (m.2.1 12 3 (0, 10) (by decide +kernel)).2
    · exact (m.2.1 49 3 (0, 10) (by decide +kernel)).2
  have ten : (10 : Int32).toInt = 10 := by decide
  have s10 : 10 ≤ x.toInt → (x - (10 : Int32)).toInt = x.toInt - 10 := fun h => by
    have u := Int32.toInt_lt x
    rw [Int32.toInt_sub, ten]; exact en_bmod (by omega) (by omega) (Or.inl rfl)
  -- the kinds 0 to 7 and no kind
  have K : ∀ (J : sm_I) (R' : sm_R) (k : Nat), XF I R J R' → k < 6 → x.toInt = k → ∀ v, v = I qt k → XcountK x I L R v J L R' := fun J R' k xf hk e v hv => ⟨qt, g1, xf, fun k' _ e' => by rw [hv, show k' = k by omega], fun e' => by omega, fun e' => by omega, fun s e' _ => by omega, fun n _ => absurd (⟨by omega, by omega⟩ : cok x) n⟩
  have N : ∀ (J : sm_I) (L' : sm_L) (R' : sm_R), XF I R J R' → ¬ cok x → ¬ (10 ≤ x.toInt ∧ x.toInt < 10 + (I qt 3).toInt) → XcountK x I L R (-1) J L' R' := fun J L' R' xf c n => ⟨qt, g1, xf, fun k hk e => absurd (⟨by omega, by omega⟩ : cok x) c, fun e => absurd (⟨by omega, by omega⟩ : cok x) c, fun e => absurd (⟨by omega, by omega⟩ : cok x) c, fun s e h => absurd ⟨by omega, by omega⟩ n, fun _ _ => rfl⟩
  rcases hq with e | e <;> subst e
  · have eF : kF12_74 R = R := kF12_74_eq (w := (xLay, I, L, R)) m g1
    have xf : XF I R I (kF12_74 R) := ⟨by rw [eF], by rw [eF], fun _ _ _ => rfl⟩
    have g := ph12_X11_count_0 (S := S) (d := 52 + 6) (I := I) (L := L) (R := R) (x1 := x) (Φ := fun z => ∃ (r : Int32) (I2 : sm_I) (L2 : sm_L) (R2 : sm_R), z = (some (.int r), (xLay, I2, L2, R2)) ∧ XcountK x I L R r I2 L2 R2) ⟨fun c => ⟨_, I, L, _, rfl, K I _ 0 xf (by decide) c _ rfl⟩, fun n0 => ⟨fun c => ⟨_, I, L, _, rfl, K I _ 1 xf (by decide) c _ rfl⟩, fun n1 => ⟨fun c => ⟨_, I, L, _, rfl, K I _ 2 xf (by decide) c _ rfl⟩, fun n2 => ⟨fun c => ⟨_, I, L, _, rfl, K I _ 3 xf (by decide) c _ rfl⟩, fun n3 => ⟨fun c => ⟨_, I, L, _, rfl, K I _ 4 xf (by decide) c _ rfl⟩, fun n4 => ⟨fun c => ⟨_, I, L, _, rfl, K I _ 5 xf (by decide) c _ rfl⟩, fun n5 => ⟨fun c => ig12_J hI g1 (fun J L' xg => ⟨_, J, L', kG12_74 R, by rw [kFG12], _, J, L', _, rfl, 12, g1, by rw [kFG12]; exact ⟨xg.1, xg.2.1, xg.2.2.1⟩, fun k hk e => by omega, fun _ => xg.2.2.2.2.1.1, fun e => by omega, fun s e _ => by omega, fun n _ => absurd (⟨by omega, by omega⟩ : cok x) n⟩), fun n6 => ⟨fun c => ⟨_, I, L, _, rfl, 12, g1, xf, fun k hk e => by omega, fun e => by omega, fun _ => rfl, fun s e _ => by omega, fun n _ => absurd (⟨by omega, by omega⟩ : cok x) n⟩, fun n7 => ⟨fun c => ⟨_, I, L, _, rfl, N _ _ _ xf (fun q => ?_) (fun q => ?_)⟩, fun c => ?_⟩⟩⟩⟩⟩⟩⟩⟩⟩
    · rw [eF] at g
      exact g
    · have := q.1
      have := q.2
      omega
    · have := Int32.lt_iff_toInt_lt.mp c
      rw [ten] at this
      omega
    · have c' : 10 ≤ x.toInt := by
        rcases Int.lt_or_le x.toInt 10 with u | u
        · exact absurd (Int32.lt_iff_toInt_lt.mpr (by rw [ten]; exact u)) c
        · exact u
      have s := s10 c'
      have nc : ¬ cok x := fun q => by have := q.2; omega
      refine inS_at (Or.inl rfl) (by rw [eF]; exact eP) (fun n => ⟨_, I, L, R, rfl, fun _ => ⟨_, I, L, _, rfl, N _ _ _ xf nc (fun q => n (by omega))⟩, fun n => absurd rfl n⟩) (fun a b => ⟨_, I, L, R, rfl, fun n => absurd n (by decide), fun _ => ⟨kl_in a (by omega), _, I, L, _, rfl, 12, g1, xf, fun k hk e => by omega, fun e => by omega, fun e => by omega, fun t e _ => ?_, fun _ n => absurd ⟨c', by omega⟩ n⟩⟩)
      have n := kl_nat a
      rw [show (x - (10 : Int32)).toNatClampNeg = t by omega]
  · have eF : kF49_74 R = R := kF49_74_eq (w := (xLay, I, L, R)) m g1
    have xf : XF I R I (kF49_74 R) := ⟨by rw [eF], by rw [eF], fun _ _ _ => rfl⟩
    have g := ph49_X11_count_0 (S := S) (d := 52 + 6) (I := I) (L := L) (R := R) (x1 := x) (Φ := fun z => ∃ (r : Int32) (I2 : sm_I) (L2 : sm_L) (R2 : sm_R), z = (some (.int r), (xLay, I2, L2, R2)) ∧ XcountK x I L R r I2 L2 R2) ⟨fun c => ⟨_, I, L, _, rfl, K I _ 0 xf (by decide) c _ rfl⟩, fun n0 => ⟨fun c => ⟨_, I, L, _, rfl, K I _ 1 xf (by decide) c _ rfl⟩, fun n1 => ⟨fun c => ⟨_, I, L, _, rfl, K I _ 2 xf (by decide) c _ rfl⟩, fun n2 => ⟨fun c => ⟨_, I, L, _, rfl, K I _ 3 xf (by decide) c _ rfl⟩, fun n3 => ⟨fun c => ⟨_, I, L, _, rfl, K I _ 4 xf (by decide) c _ rfl⟩, fun n4 => ⟨fun c => ⟨_, I, L, _, rfl, K I _ 5 xf (by decide) c _ rfl⟩, fun n5 => ⟨fun c => ig49_J hI g1 (fun J L' xg => ⟨_, J, L', kG49_74 R, by rw [kFG49], _, J, L', _, rfl, 49, g1, by rw [kFG49]; exact ⟨xg.1, xg.2.1, xg.2.2.1⟩, fun k hk e => by omega, fun _ => xg.2.2.2.2.1.1, fun e => by omega, fun s e _ => by omega, fun n _ => absurd (⟨by omega, by omega⟩ : cok x) n⟩), fun n6 => ⟨fun c => ⟨_, I, L, _, rfl, 49, g1, xf, fun k hk e => by omega, fun e => by omega, fun _ => rfl, fun s e _ => by omega, fun n _ => absurd (⟨by omega, by omega⟩ : cok x) n⟩, fun n7 => ⟨fun c => ⟨_, I, L, _, rfl, N _ _ _ xf (fun q => ?_) (fun q => ?_)⟩, fun c => ?_⟩⟩⟩⟩⟩⟩⟩⟩⟩
    · rw [eF] at g
      exact g
    · have := q.1
      have := q.2
      omega
    · have := Int32.lt_iff_toInt_lt.mp c
      rw [ten] at this
      omega
    · have c' : 10 ≤ x.toInt := by
        rcases Int.lt_or_le x.toInt 10 with u | u
        · exact absurd (Int32.lt_iff_toInt_lt.mpr (by rw [ten]; exact u)) c
        · exact u
      have s := s10 c'
      have nc : ¬ cok x := fun q => by have := q.2; omega
      refine inS_at (Or.inr rfl) (by rw [eF]; exact eP) (fun n => ⟨_, I, L, R, rfl, fun _ => ⟨_, I, L, _, rfl, N _ _ _ xf nc (fun q => n (by omega))⟩, fun n => absurd rfl n⟩) (fun a b => ⟨_, I, L, R, rfl, fun n => absurd n (by decide), fun _ => ⟨kl_in a (by omega), _, I, L, _, rfl, 49, g1, xf, fun k hk e => by omega, fun e => by omega, fun e => by omega, fun t e _ => ?_, fun _ n => absurd ⟨c', by omega⟩ n⟩⟩)
      have n := kl_nat a
      rw [show (x - (10 : Int32)).toNatClampNeg = t by omega]
theorem bm_count {x : Int32} (hI : MJ (XcountK x) r I L R) : sm_wp sm_P S (58 + 1) 118 0 [.ref 107, .int x] [] (xLay, I, L, R) (0, 0) (fun z => ∃ (r' : Int32) (I2 : sm_I) (L2 : sm_L) (R2 : sm_R), z = (some (.int r'), (xLay, I2, L2, R2)) ∧ r = r' ∧ ((∀ p j, p < 107 → I2 p j = I p j ∧ R2 p j = R p j) → LJ I2 R2)) := by
  obtain ⟨I0, L0, R0, hJ, mk, o, q, e09, xf, X1, X6, X7, XS, XN⟩ := hI
  have mm : en_mem ml_tb mlX (xLay, I, L, R) := lw_mk (lw_pk (ky_dn mk)) hJ.1.2.1 o
  have e : kM R = R := ml_R mm
  obtain ⟨-, n0, tp, -, qt, qi, l, hrf, htd⟩ := hJ.1
  have eq : q = qt := Option.some.inj (e09.symm.trans hrf.2.2.1)
  subst eq
  have hq : q = 12 ∨ q = 49 := by have := hrf.1; omega
  obtain ⟨c0, c1, c2, c3, c4, -⟩ := q_cnt hq htd
  have c5 : I0 q 5 = I0 107 46 := htd.2.2.1
  have rw_ := (rwE_of hq hrf.2.1 n0 htd).1
  have hl : (I 107 18).toInt = l := by rw [(o 107 18 (by omega)).1]; exact hrf.2.2.2.2
  have l1 := hrf.2.1
  have nl : (I 107 18).toNatClampNeg = l := by have := kl_nat (i := I 107 18) (by omega); omega
  have vl : vp_in (I 107 18) 2 := kl_in (by omega) (by omega)
  have hb := (ml_cs l1 mm).2.2.2.1
  have ten : (10 : Int32).toInt = 10 := by decide
  have e3 : (I0 q 3).toInt = (I 125 l).toInt := by rw [c3, (o 125 l (by omega)).1]
  have E : ∀ p, 107 ≤ p → I p (I 107 18).toNatClampNeg = I0 p l := fun p hp => by rw [nl]; exact (o p l hp).1
  have lj : ∀ {I2 : sm_I} {R2 : sm_R}, (∀ p j, lkM p j → I2 p j = I p j) → (∀ p j, p < 107 → I2 p j = I p j ∧ R2 p j = R p j) → LJ I2 R2 := fun g f => LJ_f hJ o xf g f
  have st : ∀ p j, lkM p j → I p j = I p j := fun _ _ _ => rfl
  have sub : (x - (10 : Int32)).toInt = x.toInt - 10 ∨ (x.toInt < 0 ∧ 100 ≤ (x - (10 : Int32)).toInt) := by
    have u := Int32.toInt_lt x
    have v := Int32.le_toInt x
    rcases Int.lt_or_le (x.toInt - 10) (-2147483648) with w | w
    · right
      have t : (x - (10 : Int32)).toInt = x.toInt - 10 + 4294967296 := by
        rw [Int32.toInt_sub, ten]; exact en_bmod (by omega) (by omega) (Or.inr (Or.inl rfl))
      exact ⟨by omega, by omega⟩
    · left
      rw [Int32.toInt_sub, ten]; exact en_bmod (by omega) (by omega) (Or.inl rfl)
  have g := pj_X12_count_0 (S := S) (d := 52 + 6) (I := I) (L := L) (R := R) (x1 := x) (Φ := fun z => ∃ (r' : Int32) (I2 : sm_I) (L2 : sm_L) (R2 : sm_R), z = (some (.int r'), (xLay, I2, L2, R2)) ∧ r = r' ∧ ((∀ p j, p < 107 → I2 p j = I p j ∧ R2 p j = R p j) → LJ I2 R2)) (by
    refine ⟨fun c => ⟨vl, _, I, L, _, rfl, (X1 0 (by decide) c).trans (c0.trans (E 118 (by decide)).symm), lj st⟩, fun n0 => ⟨fun c => ⟨vl, _, I, L, _, rfl, (X1 1 (by decide) c).trans (c1.trans (E 119 (by decide)).symm), lj st⟩, fun n1 => ⟨fun c => ⟨vl, _, I, L, _, rfl, (X1 2 (by decide) c).trans (c2.trans (E 122 (by decide)).symm), lj st⟩, fun n2 => ⟨fun c => ⟨vl, _, I, L, _, rfl, (X1 3 (by decide) c).trans (c3.trans (E 125 (by decide)).symm), lj st⟩, fun n3 => ⟨fun c => ⟨vl, _, I, L, _, rfl, (X1 4 (by decide) c).trans (c4.trans (E 136 (by decide)).symm), lj st⟩, fun n4 => ⟨fun c => ⟨_, I, L, _, rfl, (X1 5 (by decide) c).trans (c5.trans (o 107 46 (by decide)).1.symm), lj st⟩, fun n5 => ⟨fun c => rx_Jk hJ mk o hrf (fun J f k => ⟨J, L, rfl, _, J, L, _, rfl, Int32.toInt_inj.mp ((X6 c).trans k.2.1.symm), lj (gofr_lk f)⟩), fun n6 => ⟨fun c => ⟨_, I, L, _, rfl, (X7 c).trans (tp.1.trans (o 107 2 (by decide)).1.symm), lj st⟩, fun n7 => yp_inS hl l1 hb (fun n => ⟨_, I, L, rfl, fun _ => ⟨_, I, L, _, rfl, XN (fun w => ?_) (fun w => n ?_), lj st⟩, fun n => absurd rfl n⟩) (fun a b => ⟨_, I, L, rfl, fun n => absurd n (by decide), fun _ n4 en4 => ?_⟩)⟩⟩⟩⟩⟩⟩⟩⟩
    · obtain ⟨w1, w2⟩ := w
      omega
    · omega
    · have ss : (x - (10 : Int32)).toInt = x.toInt - 10 := by omega
      have na := kl_nat a
      have l10 : ((10 : Int32) * (I 107 18)).toInt = 10 * (l : Int) := by
        rw [Int32.toInt_mul, ten, hl]; exact en_bmod (by omega) (by omega) (Or.inl rfl)
      have t1 : (((10 : Int32) * (I 107 18)) + x).toInt = 10 * (l : Int) + x.toInt := ml_ad l10 rfl (by omega) (by omega)
      have t2 : n4.toInt = 10 * (l : Int) + (x.toInt - 10) := by
        rw [en4, Int32.toInt_sub, t1, ten]
        exact (en_bmod (by omega) (by omega) (Or.inl rfl)).trans (by omega)
      have n4n := kl_nat (i := n4) (by omega)
      have nn : n4.toNatClampNeg = 10 * l + (x - (10 : Int32)).toNatClampNeg := by omega
      refine ⟨kl_in (by omega) (by omega), _, I, L, _, rfl, ?_, lj st⟩
      rw [nn, (o 128 _ (by decide)).1, ← (rw_ (x - (10 : Int32)).toNatClampNeg (by rw [← (o 125 l (by omega)).1]; omega)).1]
      exact XS _ (by omega) (by omega))
  rw [e] at g
  exact g
end
