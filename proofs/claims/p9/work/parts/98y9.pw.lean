/-! THE LAW: pairs out of what was gone through: ways (wip/pe/mkp1.py) -/
def XG (qt : Nat) (I : sm_I) (R : sm_R) (J : sm_I) (L' : sm_L) (R' : sm_R) : Prop := R' 0 9 = R 0 9 ∧ R' 2 6 = R 2 6 ∧ (∀ p j, lkC p j → J p j = I p j) ∧ kall qt (kys qt I) (KF qt I) J L'
theorem ig12_J {S : sm_C} {d : Nat} {I : sm_I} {L : sm_L} {R : sm_R} {Φ : sm_Z → Prop} (hI : lw_J I L R) (hq : R 0 9 = some 12) (h : ∀ (J : sm_I) (L' : sm_L), XG 12 I R J L' (kG12_74 R) → Φ (some (.int (if (KF 12 I).2.2.2.2.1 = true then 0 else 1)), (xLay, J, L', kG12_74 R))) : sm_wp sm_P S (d + 6) 56 0 [.ref 0] [] (xLay, I, L, kF12_74 R) (0, 0) Φ := by
  have m := hI.1.1
  obtain ⟨q, hq', g1, g2, g3⟩ := hI.2.1
  have e : q = 12 := Option.some.inj (g1.symm.trans hq)
  subst e
  rw [kF12_74_eq (w := (xLay, I, L, R)) m g1]
  refine ig_12_74 m g1 g2 g3 (fun J L' R' a1 a2 a3 a4 a5 a6 a7 => ?_)
  have c26 : kG12_74 R 2 6 = R 2 6 := rfl
  have c09 : kG12_74 R 0 9 = some 12 := rfl
  rcases a7 with ⟨b1, b2, b3, b4⟩ | ⟨b1, b2, b3, b4, b5, b6⟩
  · subst b2
    subst b3
    subst b4
    have eG : kG12_74 R' = R' := kG12_74_eq (w := (xLay, J, L', R')) m g1 a3
    have k := h J L' ⟨c09.trans hq.symm, c26, fun _ _ _ => rfl, a4⟩
    rw [eG] at k
    exact k
  · rw [b5]
    refine h J L' ⟨c09.trans hq.symm, c26, fun p j q => b2 p j ?_ ?_ ?_ ?_ ?_, ?_⟩
    · unfold lkC at q; omega
    · unfold lkC at q; omega
    · unfold lkC at q; omega
    · unfold lkC at q; omega
    · unfold lkC at q; omega
    · rw [a5, a6] at a4; exact a4
theorem ig49_J {S : sm_C} {d : Nat} {I : sm_I} {L : sm_L} {R : sm_R} {Φ : sm_Z → Prop} (hI : lw_J I L R) (hq : R 0 9 = some 49) (h : ∀ (J : sm_I) (L' : sm_L), XG 49 I R J L' (kG49_74 R) → Φ (some (.int (if (KF 49 I).2.2.2.2.1 = true then 0 else 1)), (xLay, J, L', kG49_74 R))) : sm_wp sm_P S (d + 6) 56 0 [.ref 0] [] (xLay, I, L, kF49_74 R) (0, 0) Φ := by
  have m := hI.1.1
  obtain ⟨q, hq', g1, g2, g3⟩ := hI.2.1
  have e : q = 49 := Option.some.inj (g1.symm.trans hq)
  subst e
  rw [kF49_74_eq (w := (xLay, I, L, R)) m g1]
  refine ig_49_74 m g1 g2 g3 (fun J L' R' a1 a2 a3 a4 a5 a6 a7 => ?_)
  have c26 : kG49_74 R 2 6 = R 2 6 := rfl
  have c09 : kG49_74 R 0 9 = some 49 := rfl
  rcases a7 with ⟨b1, b2, b3, b4⟩ | ⟨b1, b2, b3, b4, b5, b6⟩
  · subst b2
    subst b3
    subst b4
    have eG : kG49_74 R' = R' := kG49_74_eq (w := (xLay, J, L', R')) m g1 a3
    have k := h J L' ⟨c09.trans hq.symm, c26, fun _ _ _ => rfl, a4⟩
    rw [eG] at k
    exact k
  · rw [b5]
    refine h J L' ⟨c09.trans hq.symm, c26, fun p j q => b2 p j ?_ ?_ ?_ ?_ ?_, ?_⟩
    · unfold lkC at q; omega
    · unfold lkC at q; omega
    · unfold lkC at q; omega
    · unfold lkC at q; omega
    · unfold lkC at q; omega
    · rw [a5, a6] at a4; exact a4
section
variable {S : sm_C} {I : sm_I} {L : sm_L} {R : sm_R} {r : Int32}
/-- the reference's going through, behind the class's -/
theorem rx_J {X : sm_I → sm_L → sm_R → Int32 → sm_I → sm_L → sm_R → Prop} {d : Nat} {Φ : sm_Z → Prop} {I0 : sm_I} {L0 : sm_L} {R0 : sm_R} (hJ : lw_J I0 L0 R0) (mk : en_mem kl_tb2 klY (xLay, I, L, R)) (o : ∀ p j, 107 ≤ p → I p j = I0 p j ∧ R p j = R0 p j) {qt qi l : Nat} (hrf : rfE qt qi l I0 R0) (h : ∀ J, gofr I J → gor (rxs I l) (KF qt I0) J → Φ (none, (xLay, J, L, R))) : sm_wp sm_P S (d + 6) 135 0 [.ref 107] [] (xLay, I, L, R) (0, 0) Φ := by
  have mm : en_mem ml_tb mlX (xLay, I, L, R) := lw_mk (lw_pk (ky_dn mk)) hJ.1.2.1 o
  have e : kM R = R := ml_R mm
  obtain ⟨l', w, go⟩ : GM I := GM_cg (fun p j q => (o p j (by omega)).1) hJ.2.2.1
  have hl := hrf.2.2.2.2
  have e18 : I 107 18 = I0 107 18 := (o 107 18 (by omega)).1
  have hl' := w.1.1
  rw [e18] at hl'
  have el : l' = l := by omega
  subst el
  have b69 : 0 ≤ (I 107 69).toInt ∧ (I 107 69).toInt ≤ 1441 := mm.2.1 107 69 (0, 1441) (by decide +kernel)
  have eF : RF I l' = KF qt I0 := by
    rw [RF_at hJ.1 hrf]
    exact RF_cg (I := I0) (by rw [← (o 125 l' (by omega)).1]; exact w.2.2.2.2.2.2.1) (by rw [← (o 107 46 (by omega)).1]; exact w.2.2.2.2.2.2.2.1) (fun p j q => (o p j (by omega)).1)
  have g := rx_goes (S := S) (d := d) (L := L) (R := R) (Φ := Φ) w b69.1 (by omega) (fun n => go.resolve_left n) (fun J f _ _ k => by rw [e]; rw [eF] at k; exact h J f k)
  rw [e] at g
  exact g
/-- what stays the same then -/
theorem LJ_g {I0 : sm_I} {R0 : sm_R} {L0 : sm_L} (hJ : lw_J I0 L0 R0) (o : ∀ p j, 107 ≤ p → I p j = I0 p j ∧ R p j = R0 p j) {qt : Nat} {L1 : sm_L} (x : XG qt I0 R0 I L1 R) {I2 : sm_I} {R2 : sm_R} (g : ∀ p j, lkM p j → I2 p j = I p j) (f : ∀ p j, p < 107 → I2 p j = I p j ∧ R2 p j = R p j) : LJ I2 R2 := by
  obtain ⟨x1, x2, x3, -⟩ := x
  refine LJ_cg (I := I0) (R := R0) (fun p j q => ?_) ((f 0 9 (by omega)).2.trans x1) ((f 2 6 (by omega)).2.trans x2) hJ.1.2.2
  rcases q with q | q
  · rw [(f p j (by unfold lkC at q; omega)).1]; exact x3 p j q
  · rw [g p j q]; exact (o p j (by unfold lkM at q; omega)).1
theorem gofr_lk {J : sm_I} (h : gofr I J) : ∀ p j, lkM p j → J p j = I p j := fun p j q => h p j (by unfold lkM at q; omega)
def XwaysK (I : sm_I) (_ : sm_L) (R : sm_R) (r : Int32) (I1 : sm_I) (L1 : sm_L) (R1 : sm_R) : Prop := ∃ qt, R 0 9 = some qt ∧ XG qt I R I1 L1 R1 ∧ ((KF qt I).2.2.2.2.1 = true → r = -3) ∧ ((KF qt I).2.2.2.2.1 = false → r.toInt = (KF qt I).2.2.2.1)
theorem bk_ways (hI : lw_J I L R) : sm_wp sm_P S (58 + 1) 91 0 [.ref 0] [] (xLay, I, L, R) (0, 0) (fun z => ∃ (r : Int32) (I2 : sm_I) (L2 : sm_L) (R2 : sm_R), z = (some (.int r), (xLay, I2, L2, R2)) ∧ XwaysK I L R r I2 L2 R2) := by
  have m := hI.1.1
  obtain ⟨qt, hq, g1, -⟩ := hI.2.1
  rcases hq with e | e <;> subst e
  · have g := pf12_X11_ways_0 (S := S) (d := 52 + 6) (I := I) (L := L) (R := R) (Φ := fun z => ∃ (r : Int32) (I2 : sm_I) (L2 : sm_L) (R2 : sm_R), z = (some (.int r), (xLay, I2, L2, R2)) ∧ XwaysK I L R r I2 L2 R2) (ig12_J hI g1 (fun J L' x => ⟨_, J, L', R, rfl, fun c => ⟨_, J, L', _, rfl, 12, g1, x, fun _ => rfl, fun u => ?_⟩, fun c => ⟨_, J, L', _, rfl, 12, g1, x, fun u => ?_, fun u => x.2.2.2.2.1.2.1⟩⟩))
    · rw [kF12_74_eq (w := (xLay, I, L, R)) m g1] at g
      exact g
    · rw [u] at c; exact absurd c (by decide)
    · rw [if_pos u] at c; exact absurd rfl c
  · have g := pf49_X11_ways_0 (S := S) (d := 52 + 6) (I := I) (L := L) (R := R) (Φ := fun z => ∃ (r : Int32) (I2 : sm_I) (L2 : sm_L) (R2 : sm_R), z = (some (.int r), (xLay, I2, L2, R2)) ∧ XwaysK I L R r I2 L2 R2) (ig49_J hI g1 (fun J L' x => ⟨_, J, L', R, rfl, fun c => ⟨_, J, L', _, rfl, 49, g1, x, fun _ => rfl, fun u => ?_⟩, fun c => ⟨_, J, L', _, rfl, 49, g1, x, fun u => ?_, fun u => x.2.2.2.2.1.2.1⟩⟩))
    · rw [kF49_74_eq (w := (xLay, I, L, R)) m g1] at g
      exact g
    · rw [u] at c; exact absurd c (by decide)
    · rw [if_pos u] at c; exact absurd rfl c
theorem bm_ways (hI : MJ XwaysK r I L R) : sm_wp sm_P S (58 + 1) 211 0 [.ref 107] [] (xLay, I, L, R) (0, 0) (fun z => ∃ (r' : Int32) (I2 : sm_I) (L2 : sm_L) (R2 : sm_R), z = (some (.int r'), (xLay, I2, L2, R2)) ∧ r = r' ∧ ((∀ p j, p < 107 → I2 p j = I p j ∧ R2 p j = R p j) → LJ I2 R2)) := by
  obtain ⟨I0, L0, R0, hJ, mk, o, q, e09, x, X1, X2⟩ := hI
  have mm : en_mem ml_tb mlX (xLay, I, L, R) := lw_mk (lw_pk (ky_dn mk)) hJ.1.2.1 o
  have e : kM R = R := ml_R mm
  obtain ⟨-, -, -, -, qt, qi, l, hrf, -⟩ := hJ.1
  have eq : q = qt := Option.some.inj (e09.symm.trans hrf.2.2.1)
  subst eq
  have g := pj_X12_ways_0 (S := S) (d := 52 + 6) (I := I) (L := L) (R := R) (Φ := fun z => ∃ (r' : Int32) (I2 : sm_I) (L2 : sm_L) (R2 : sm_R), z = (some (.int r'), (xLay, I2, L2, R2)) ∧ r = r' ∧ ((∀ p j, p < 107 → I2 p j = I p j ∧ R2 p j = R p j) → LJ I2 R2)) (by
    rw [e]
    refine rx_J (X := XwaysK) hJ mk o hrf (fun J f k => ⟨J, L, rfl, fun c => ⟨_, J, L, _, rfl, ?_, fun h => LJ_g hJ o x (gofr_lk f) h⟩, fun c => ⟨_, J, L, _, rfl, ?_, fun h => LJ_g hJ o x (gofr_lk f) h⟩⟩)
    · cases u : (KF q I0).2.2.2.2.1 with
      | false => exact Int32.toInt_inj.mp ((X2 u).trans k.2.2.1.symm)
      | true => rw [k.1, if_pos u] at c; exact absurd c (by decide)
    · cases u : (KF q I0).2.2.2.2.1 with
      | false => rw [k.1, if_neg (by rw [u]; decide)] at c; exact absurd rfl c
      | true => exact X1 u)
  rw [e] at g
  exact g
end
