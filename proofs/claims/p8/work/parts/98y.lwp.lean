/-! THE LAW: what its invariant says, and what each call keeps of it -/
def lkC (p j : Nat) : Prop := (p = 0 ∧ (j = 10 ∨ j = 11)) ∨ p = 1 ∨ (12 ≤ p ∧ p < 40) ∨ (41 ≤ p ∧ p ≤ 44) ∨ (49 ≤ p ∧ p < 74)
def lkM (p j : Nat) : Prop := (p = 107 ∧ (j = 2 ∨ j = 17 ∨ j = 18 ∨ j = 46 ∨ j = 54)) ∨ p = 108 ∨ (118 ≤ p ∧ p ≤ 142) ∨ (144 ≤ p ∧ p ≤ 147) ∨ p = 160
/-- walks and moves are the same -/
def wkr (x y : Int32) : Prop := (x = -2 ∧ y = -1) ∨ (0 ≤ y.toInt ∧ y.toInt ≤ 100000 ∧ x = y)
def wmE (qt l : Nat) (I : sm_I) : Prop := (∀ x y : Nat, (x : Int) < (I 119 l).toInt → (y : Int) < (I 119 l).toInt → wkr (I (qt + 1) (6 * x + y)) (I 139 (6 * x + y))) ∧ I qt 5 = I 107 46 ∧ ∀ j : Nat, (j : Int) < (I 107 46).toInt → I (qt + 22) j = I 140 j ∧ I (qt + 23) j = I 141 j ∧ wkr (I (qt + 24) j) (I 142 j) ∧ 0 ≤ (I 140 j).toInt ∧ (I 140 j).toInt < (I 141 j).toInt ∧ (I 141 j).toInt < (I 122 l).toInt
/-- what is told is the same -/
def tdE (qt l : Nat) (I : sm_I) : Prop := (∃ a : sg, (∀ c j, 12 ≤ c → c < 34 → c ≠ 13 → ¬ (c = 12 ∧ j = 5) → I (c + (qt - 12)) j = a.1 c j) ∧ TDw l a I) ∧ wmE qt l I
/-- what is DOUBTED, SET, MORE is the same -/
def hdE (I : sm_I) : Prop := (∀ k, k < 10 → (I 37 0).toBitVec.getLsbD k = !decide (I 137 k = 0)) ∧ (∀ k, k < 10 → I 38 k = I 138 k) ∧ I 37 1 = I 107 54 ∧ (∀ i : Nat, i < 6 → (i : Int) < (I 37 1).toInt → I 41 i = I 144 i ∧ I 42 i = I 145 i ∧ I 43 i = I 146 i ∧ I 44 i = I 147 i) ∧ ∀ k, k < 55 → I 39 k = I 160 k
def tpE (I : sm_I) : Prop := I 0 10 = I 107 2 ∧ (∀ j : Nat, (j : Int) < (I 0 10).toInt → I 1 j = I 108 j) ∧ I 0 11 = I 107 17
def rfE (qt qi l : Nat) (I : sm_I) (R : sm_R) : Prop := ((qt = 12 ∧ qi = 49) ∨ (qt = 49 ∧ qi = 12)) ∧ l ≤ 1 ∧ R 0 9 = some qt ∧ R 2 6 = some qi ∧ (I 107 18).toInt = l
def LJ (I : sm_I) (R : sm_R) : Prop := tpE I ∧ hdE I ∧ ∃ qt qi l : Nat, rfE qt qi l I R ∧ tdE qt l I
theorem tpE_cg {I I' : sm_I} (h : ∀ p j, (p = 0 ∧ (j = 10 ∨ j = 11)) ∨ p = 1 ∨ (p = 107 ∧ (j = 2 ∨ j = 17)) ∨ p = 108 → I' p j = I p j) (k : tpE I) : tpE I' := by
  obtain ⟨k1, k2, k3⟩ := k
  refine ⟨by rw [h 0 10 (by omega), h 107 2 (by omega)]; exact k1, fun j hj => ?_, by rw [h 0 11 (by omega), h 107 17 (by omega)]; exact k3⟩
  rw [h 0 10 (by omega)] at hj
  rw [h 1 j (by omega), h 108 j (by omega)]
  exact k2 j hj
theorem hdE_cg {I I' : sm_I} (h : ∀ p j, (p = 37 ∨ p = 38 ∨ p = 39 ∨ (41 ≤ p ∧ p ≤ 44)) ∨ (p = 107 ∧ j = 54) ∨ p = 137 ∨ p = 138 ∨ (144 ≤ p ∧ p ≤ 147) ∨ p = 160 → I' p j = I p j) (k : hdE I) : hdE I' := by
  obtain ⟨k1, k2, k3, k4, k5⟩ := k
  refine ⟨fun k hk => by rw [h 37 0 (by omega), h 137 k (by omega)]; exact k1 k hk, fun k hk => by rw [h 38 k (by omega), h 138 k (by omega)]; exact k2 k hk, by rw [h 37 1 (by omega), h 107 54 (by omega)]; exact k3, fun i hi hj => ?_, fun k hk => by rw [h 39 k (by omega), h 160 k (by omega)]; exact k5 k hk⟩
  rw [h 37 1 (by omega)] at hj
  rw [h 41 i (by omega), h 42 i (by omega), h 43 i (by omega), h 44 i (by omega), h 144 i (by omega), h 145 i (by omega), h 146 i (by omega), h 147 i (by omega)]
  exact k4 i hi hj
theorem wmE_cg {qt l : Nat} {I I' : sm_I} (h : ∀ p j, p = qt + 1 ∨ (p = qt ∧ j = 5) ∨ (qt + 22 ≤ p ∧ p ≤ qt + 24) ∨ ((p = 119 ∨ p = 122) ∧ j = l) ∨ (139 ≤ p ∧ p ≤ 142) ∨ (p = 107 ∧ j = 46) → I' p j = I p j) (k : wmE qt l I) : wmE qt l I' := by
  obtain ⟨k1, k2, k3⟩ := k
  refine ⟨fun x y hx hy => ?_, by rw [h qt 5 (by omega), h 107 46 (by omega)]; exact k2, fun j hj => ?_⟩
  · rw [h 119 l (by omega)] at hx hy
    rw [h (qt + 1) _ (by omega), h 139 _ (by omega)]; exact k1 x y hx hy
  · rw [h 107 46 (by omega)] at hj
    rw [h (qt + 22) j (by omega), h (qt + 23) j (by omega), h (qt + 24) j (by omega), h 140 j (by omega), h 141 j (by omega), h 142 j (by omega), h 122 l (by omega)]
    exact k3 j hj
theorem tdE_cg {qt l : Nat} {I I' : sm_I} (hq : qt = 12 ∨ qt = 49) (h : ∀ p j, (12 ≤ p ∧ p < 37) ∨ (49 ≤ p ∧ p < 74) ∨ (118 ≤ p ∧ p ≤ 136) ∨ (139 ≤ p ∧ p ≤ 142) ∨ (p = 107 ∧ j = 46) → I' p j = I p j) (k : tdE qt l I) : tdE qt l I' := by
  obtain ⟨⟨a, k1, k2⟩, k3⟩ := k
  exact ⟨⟨a, fun c j p1 p2 p3 p4 => by rw [h _ j (by omega)]; exact k1 c j p1 p2 p3 p4, TDw_cg (fun p j p1 p2 => h p j (by omega)) k2⟩, wmE_cg (fun p j q => h p j (by omega)) k3⟩
theorem LJ_cg {I I' : sm_I} {R R' : sm_R} (h : ∀ p j, lkC p j ∨ lkM p j → I' p j = I p j) (r1 : R' 0 9 = R 0 9) (r2 : R' 2 6 = R 2 6) (k : LJ I R) : LJ I' R' := by
  obtain ⟨k1, k2, qt, qi, l, ⟨e1, e2, e3, e4, e5⟩, k3⟩ := k
  refine ⟨tpE_cg (fun p j q => h p j (by unfold lkC lkM; omega)) k1, hdE_cg (fun p j q => h p j (by unfold lkC lkM; omega)) k2, qt, qi, l, ⟨e1, e2, r1.trans e3, r2.trans e4, by rw [h 107 18 (by unfold lkC lkM; omega)]; exact e5⟩, tdE_cg (by omega) (fun p j q => h p j (by unfold lkC lkM; omega)) k3⟩
def lw_I (I : sm_I) (L : sm_L) (R : sm_R) : Prop := en_mem kl_tb klX (xLay, I, L, R) ∧ en_mem ml_tb mlX (xLay, I, L, R) ∧ LJ I R
theorem kp_place {S : sm_C} {d : Nat} {Φ : sm_Z → Prop} {I : sm_I} {L : sm_L} {R : sm_R} (h : Φ (some (.int (I 0 11)), (xLay, I, L, R))) : sm_wp sm_P S d 73 0 [.ref 0] [] (xLay, I, L, R) (0, 0) Φ := sm_wp_step h
theorem mp_place {S : sm_C} {d : Nat} {Φ : sm_Z → Prop} {I : sm_I} {L : sm_L} {R : sm_R} (h : Φ (some (.int (I 107 17)), (xLay, I, L, R))) : sm_wp sm_P S d 174 0 [.ref 107] [] (xLay, I, L, R) (0, 0) Φ := sm_wp_step h
theorem lw_ml0 : ∀ p, p < 107 → (en_tg ml_tb.2.1 p).2.2 = [] := by decide +kernel
theorem lw_cell {tb : en_Tb} {p : Nat} {d : en_D} (h : en_cell tb p = some d) : p < tb.1 ∧ d = en_tg tb.2.1 p := by
  unfold en_cell at h
  cases c : Nat.blt p tb.1 with
  | false => rw [c] at h; cases h
  | true => rw [c] at h; exact ⟨Nat.le_of_ble_eq_true c, (Option.some.inj h).symm⟩
theorem lw_int0 {p j : Nat} {q : Int × Int} (h : en_int ml_tb p j = some q) : 107 ≤ p := by
  rcases Nat.lt_or_ge p 107 with c | c
  · exfalso
    unfold en_int at h
    split at h
    · next d hd =>
      have e := (lw_cell hd).2
      have z := lw_ml0 p c
      rw [← e] at z
      rw [z] at h
      cases k : Nat.beq d.1 0 with
      | true => rw [k] at h; cases h
      | false =>
        rw [k] at h
        have h : (bif Nat.blt j d.2.1 then en_fiv none else none) = some q := h
        cases k2 : Nat.blt j d.2.1 with
        | true => rw [k2] at h; cases h
        | false => rw [k2] at h; cases h
    · cases h
  · exact c
theorem lw_ref0 {p j : Nat} (h : en_refs ml_tb p j ≠ []) : 107 ≤ p := by
  rcases Nat.lt_or_ge p 107 with c | c
  · exfalso
    unfold en_refs at h
    split at h
    · next d hd =>
      have e := (lw_cell hd).2
      have z := lw_ml0 p c
      rw [← e] at z
      rw [z] at h
      cases k : Nat.beq d.1 0 with
      | true => rw [k] at h; exact h rfl
      | false => rw [k] at h; exact h rfl
    · exact h rfl
  · exact c
theorem lw_mk {I I' : sm_I} {L L' : sm_L} {R R' : sm_R} (pk : pk_ok L') (hm : en_mem ml_tb mlX (xLay, I, L, R)) (o : ∀ p j, 107 ≤ p → I' p j = I p j ∧ R' p j = R p j) : en_mem ml_tb mlX (xLay, I', L', R') := by
  have X : mlX (xLay, I', L, R) := ml_cg (o 107 18 (by omega)).1 (fun p hp j => (o p j (by omega)).1) hm.2.2.2.2
  refine ⟨hm.1, fun p j q hq => ?_, fun p j hq => ?_, hm.2.2.2.1, X.1, X.2.1, X.2.2.1, X.2.2.2.1, X.2.2.2.2.1, pk⟩
  · show q.1 ≤ (I' p j).toInt ∧ (I' p j).toInt ≤ q.2
    rw [(o p j (lw_int0 hq)).1]; exact hm.2.1 p j q hq
  · obtain ⟨r, h1, h2⟩ := hm.2.2.1 p j hq
    exact ⟨r, h1, by show R' p j = some r; rw [(o p j (lw_ref0 hq)).2]; exact h2⟩
theorem lw_kk {I I' : sm_I} {L L' : sm_L} {R R' : sm_R} (pk : pk_ok L') (hm : en_mem kl_tb klX (xLay, I, L, R)) (o : ∀ p j, p < 107 → I' p j = I p j ∧ R' p j = R p j) : en_mem kl_tb klX (xLay, I', L', R') := by
  have low : ∀ {p : Nat} {d : en_D}, en_cell kl_tb p = some d → p < 107 := fun h => (lw_cell h).1
  refine ⟨hm.1, fun p j q hq => ?_, fun p j hq => ?_, hm.2.2.2.1, ?_⟩
  · have hp : p < 107 := by
      unfold en_int at hq
      split at hq
      · next d hd => exact low hd
      · cases hq
    show q.1 ≤ (I' p j).toInt ∧ (I' p j).toInt ≤ q.2
    rw [(o p j hp).1]; exact hm.2.1 p j q hq
  · have hp : p < 107 := by
      unfold en_refs at hq
      split at hq
      · next d hd => exact low hd
      · exact absurd rfl hq
    obtain ⟨r, h1, h2⟩ := hm.2.2.1 p j hq
    exact ⟨r, h1, by show R' p j = some r; rw [(o p j hp).2]; exact h2⟩
  · have X := hm.2.2.2.2
    exact ⟨rfl, kl_net_cg (I := I) (o 75 4 (by decide)).1 (o 75 5 (by decide)).1 (fun i => (o 77 i (by decide)).1) X.2.1, kl_net_cg (I := I) (o 83 4 (by decide)).1 (o 83 5 (by decide)).1 (fun i => (o 85 i (by decide)).1) X.2.2.1, kl_net_cg (I := I) (o 91 4 (by decide)).1 (o 91 5 (by decide)).1 (fun i => (o 93 i (by decide)).1) X.2.2.2.1, pk⟩
theorem lw_lo {W : en_W} (h : W.all (fun q => Nat.blt q.1 107) = true) {p j : Nat} (hp : 107 ≤ p) : en_wok W p j = false := by
  cases c : en_wok W p j with
  | false => rfl
  | true =>
    obtain ⟨q, g1, g2⟩ := List.any_eq_true.mp c
    have e : q.1 = p := Nat.eq_of_beq_eq_true (Bool.and_eq_true_iff.mp g2).1
    have l : q.1 < 107 := Nat.le_of_ble_eq_true (List.all_eq_true.mp h q g1)
    omega
theorem lw_hi {W : en_W} (h : W.all (fun q => Nat.ble 107 q.1) = true) {p j : Nat} (hp : p < 107) : en_wok W p j = false := by
  cases c : en_wok W p j with
  | false => rfl
  | true =>
    obtain ⟨q, g1, g2⟩ := List.any_eq_true.mp c
    have e : q.1 = p := Nat.eq_of_beq_eq_true (Bool.and_eq_true_iff.mp g2).1
    have l : 107 ≤ q.1 := Nat.le_of_ble_eq_true (List.all_eq_true.mp h q g1)
    omega
theorem lw_no {W : en_W} {p j : Nat} (h : W.all (fun q => !(Nat.beq q.1 p)) = true) : en_wok W p j = false := by
  cases c : en_wok W p j with
  | false => rfl
  | true =>
    obtain ⟨q, g1, g2⟩ := List.any_eq_true.mp c
    have e : Nat.beq q.1 p = true := (Bool.and_eq_true_iff.mp g2).1
    have l := List.all_eq_true.mp h q g1
    rw [e] at l
    cases l
theorem lw_pk {I : sm_I} {L : sm_L} {R : sm_R} (h : en_mem kl_tb klX (xLay, I, L, R)) : pk_ok L := h.2.2.2.2.2.2.2.2
theorem lw_pm {I : sm_I} {L : sm_L} {R : sm_R} (h : en_mem ml_tb mlX (xLay, I, L, R)) : pk_ok L := h.2.2.2.2.2.2.2.2.2
theorem lw_pr {lo hi : Int} {o : Option Value} (h : en_pr (0, lo, hi) o) : ∃ r : Int32, o = some (.int r) := by
  cases o with
  | none => have q1 : (0 : Nat) = 9 := h; omega
  | some v =>
    rcases h with q1 | ⟨q1, -⟩
    · cases v with
      | int r => exact ⟨r, rfl⟩
      | long _ => have q1 : (0 : Nat) = 5 := q1; omega
      | null => have q1 : (0 : Nat) = 1 := q1; omega
      | ref p => have q1 : (0 : Nat) = 2 := q1.1; omega
      | float _ => exact q1.elim
      | double _ => exact q1.elim
      | retAddr _ => exact q1.elim
    · have q1 : (0 : Nat) = 3 := q1
      omega
/-- rows that the invariant looks at -/
def lw_rc (p : Nat) : Bool := Nat.beq p 1 || ((Nat.ble 12 p && Nat.blt p 40) || ((Nat.ble 41 p && Nat.ble p 44) || (Nat.ble 49 p && Nat.blt p 74)))
def lw_rm (p : Nat) : Bool := Nat.beq p 108 || ((Nat.ble 118 p && Nat.ble p 142) || ((Nat.ble 144 p && Nat.ble p 147) || Nat.beq p 160))
theorem lw_nr {W : en_W} {f : Nat → Bool} {p j : Nat} (h : W.all (fun q => !(f q.1)) = true) (hp : f p = true) : en_wok W p j = false := by
  cases c : en_wok W p j with
  | false => rfl
  | true =>
    obtain ⟨q, g1, g2⟩ := List.any_eq_true.mp c
    have e : q.1 = p := Nat.eq_of_beq_eq_true (Bool.and_eq_true_iff.mp g2).1
    have l := List.all_eq_true.mp h q g1
    rw [e, hp] at l
    cases l
theorem lw_rc_of {p : Nat} (h : p = 1 ∨ (12 ≤ p ∧ p < 40) ∨ (41 ≤ p ∧ p ≤ 44) ∨ (49 ≤ p ∧ p < 74)) : lw_rc p = true := by
  have d : ∀ p, p < 74 → (p = 1 ∨ (12 ≤ p ∧ p < 40) ∨ (41 ≤ p ∧ p ≤ 44) ∨ (49 ≤ p ∧ p < 74)) → lw_rc p = true := by decide +kernel
  exact d p (by omega) h
theorem lw_rm_of {p : Nat} (h : p = 108 ∨ (118 ≤ p ∧ p ≤ 142) ∨ (144 ≤ p ∧ p ≤ 147) ∨ p = 160) : lw_rm p = true := by
  have d : ∀ p, p < 161 → (p = 108 ∨ (118 ≤ p ∧ p ≤ 142) ∨ (144 ≤ p ∧ p ≤ 147) ∨ p = 160) → lw_rm p = true := by decide +kernel
  exact d p (by omega) h
def lw_ck (c : en_Ct) : Bool := ((Nat.ble c.2.2.2.2.2 59 && c.2.2.1.isEmpty) && c.2.2.2.2.1.all (fun q => Nat.blt q.1 107)) && ((c.2.2.2.2.1.all (fun q => !(lw_rc q.1)) && (!(en_wok c.2.2.2.2.1 0 10) && !(en_wok c.2.2.2.2.1 0 11))) && (!(en_wok c.2.2.2.2.1 0 9) && !(en_wok c.2.2.2.2.1 2 6)))
def lw_cm (c : en_Ct) : Bool := ((Nat.ble c.2.2.2.2.2 59 && c.2.2.1.isEmpty) && c.2.2.2.2.1.all (fun q => Nat.ble 107 q.1)) && (c.2.2.2.2.1.all (fun q => !(lw_rm q.1)) && ((!(en_wok c.2.2.2.2.1 107 2) && !(en_wok c.2.2.2.2.1 107 17)) && (!(en_wok c.2.2.2.2.1 107 18) && (!(en_wok c.2.2.2.2.1 107 46) && !(en_wok c.2.2.2.2.1 107 54)))))
/-- a call by contract alone -/
theorem lw_k {S : sm_C} {c : en_Ct} {vs : List Value} {I : sm_I} {L : sm_L} {R : sm_R} {lo hi : Int} {C : Int32 → sm_I → sm_L → sm_R → Prop} (h : en_hold kl_tb klX sm_P S c) (hc : lw_ck c = true) (hr : c.2.2.2.1 = (0, lo, hi)) (hv : en_pvs c.2.1 vs) (hI : lw_I I L R) (k : ∀ (r : Int32) (I' : sm_I) (L' : sm_L) (R' : sm_R), lw_I I' L' R' → C r I' L' R') : sm_wp sm_P S 59 c.1 0 vs [] (xLay, I, L, R) (0, 0) (fun z => ∃ (r : Int32) (I2 : sm_I) (L2 : sm_L) (R2 : sm_R), z = (some (.int r), (xLay, I2, L2, R2)) ∧ C r I2 L2 R2) := by
  obtain ⟨h1, h2⟩ := Bool.and_eq_true_iff.mp hc
  obtain ⟨h1, h5⟩ := Bool.and_eq_true_iff.mp h1
  obtain ⟨h3, h4⟩ := Bool.and_eq_true_iff.mp h1
  obtain ⟨h6, h7⟩ := Bool.and_eq_true_iff.mp h2
  obtain ⟨h6, h8⟩ := Bool.and_eq_true_iff.mp h6
  obtain ⟨h8, h9⟩ := Bool.and_eq_true_iff.mp h8
  obtain ⟨h7, h10⟩ := Bool.and_eq_true_iff.mp h7
  have hp : c.2.2.1 = [] := List.isEmpty_iff.mp h4
  refine sm_wp_mono (h 59 (Nat.le_of_ble_eq_true h3) vs _ hv hI.1 (by rw [hp]; exact ml_pf0)) (fun z q => ?_)
  obtain ⟨o, lay, I2, L2, R2⟩ := z
  obtain ⟨q1, q2, q3⟩ := q
  obtain rfl : lay = xLay := q2.2.2.2.2.1
  rw [hr] at q1
  obtain ⟨r, er⟩ := lw_pr q1
  have er : o = some (.int r) := er
  subst er
  refine ⟨r, I2, L2, R2, rfl, k r I2 L2 R2 ⟨q2, lw_mk (lw_pk q2) hI.2.1 (fun p j hp => q3.2 p j (lw_lo h5 hp)), LJ_cg (fun p j hp => ?_) (q3.2 0 9 (by simpa using h7)).2 (q3.2 2 6 (by simpa using h10)).2 hI.2.2⟩⟩
  rcases hp with (⟨e, e2 | e2⟩ | hp) | hp
  · rw [e, e2]; exact (q3.2 0 10 (by simpa using h8)).1
  · rw [e, e2]; exact (q3.2 0 11 (by simpa using h9)).1
  · exact (q3.2 p j (lw_nr h6 (lw_rc_of hp))).1
  · exact (q3.2 p j (lw_lo h5 (by unfold lkM at hp; omega))).1
theorem lw_m {S : sm_C} {c : en_Ct} {vs : List Value} {I : sm_I} {L : sm_L} {R : sm_R} {lo hi : Int} {C : Int32 → sm_I → sm_L → sm_R → Prop} (h : en_hold ml_tb mlX sm_P S c) (hc : lw_cm c = true) (hr : c.2.2.2.1 = (0, lo, hi)) (hv : en_pvs c.2.1 vs) (hI : lw_I I L R) (k : ∀ (r : Int32) (I' : sm_I) (L' : sm_L) (R' : sm_R), lw_I I' L' R' → C r I' L' R') : sm_wp sm_P S 59 c.1 0 vs [] (xLay, I, L, R) (0, 0) (fun z => ∃ (r : Int32) (I2 : sm_I) (L2 : sm_L) (R2 : sm_R), z = (some (.int r), (xLay, I2, L2, R2)) ∧ C r I2 L2 R2) := by
  obtain ⟨h1, h2⟩ := Bool.and_eq_true_iff.mp hc
  obtain ⟨h1, h5⟩ := Bool.and_eq_true_iff.mp h1
  obtain ⟨h3, h4⟩ := Bool.and_eq_true_iff.mp h1
  obtain ⟨h6, h7⟩ := Bool.and_eq_true_iff.mp h2
  obtain ⟨h7, h9⟩ := Bool.and_eq_true_iff.mp h7
  obtain ⟨h7, h8⟩ := Bool.and_eq_true_iff.mp h7
  obtain ⟨h9, h10⟩ := Bool.and_eq_true_iff.mp h9
  obtain ⟨h11, h10⟩ := Bool.and_eq_true_iff.mp h10
  have hp : c.2.2.1 = [] := List.isEmpty_iff.mp h4
  refine sm_wp_mono (h 59 (Nat.le_of_ble_eq_true h3) vs _ hv hI.2.1 (by rw [hp]; exact ml_pf0)) (fun z q => ?_)
  obtain ⟨o, lay, I2, L2, R2⟩ := z
  obtain ⟨q1, q2, q3⟩ := q
  obtain rfl : lay = xLay := q2.2.2.2.2.1
  rw [hr] at q1
  obtain ⟨r, er⟩ := lw_pr q1
  have er : o = some (.int r) := er
  subst er
  refine ⟨r, I2, L2, R2, rfl, k r I2 L2 R2 ⟨lw_kk (lw_pm q2) hI.1 (fun p j hp => q3.2 p j (lw_hi h5 hp)), q2, LJ_cg (fun p j hp => ?_) (q3.2 0 9 (lw_hi h5 (by decide))).2 (q3.2 2 6 (lw_hi h5 (by decide))).2 hI.2.2⟩⟩
  rcases hp with hp | ⟨e, e2 | e2 | e2 | e2 | e2⟩ | hp
  · exact (q3.2 p j (lw_hi h5 (by unfold lkC at hp; omega))).1
  · rw [e, e2]; exact (q3.2 107 2 (by simpa using h7)).1
  · rw [e, e2]; exact (q3.2 107 17 (by simpa using h8)).1
  · rw [e, e2]; exact (q3.2 107 18 (by simpa using h9)).1
  · rw [e, e2]; exact (q3.2 107 46 (by simpa using h11)).1
  · rw [e, e2]; exact (q3.2 107 54 (by simpa using h10)).1
  · exact (q3.2 p j (lw_nr h6 (lw_rm_of hp))).1
/-- between the class's call and the reference's -/
def MD (X : sm_I → sm_L → sm_R → Int32 → sm_I → sm_L → sm_R → Prop) (r : Int32) (I1 : sm_I) (L1 : sm_L) (R1 : sm_R) : Prop := ∃ (I : sm_I) (L : sm_L) (R : sm_R), lw_I I L R ∧ en_mem kl_tb klX (xLay, I1, L1, R1) ∧ (∀ p j, 107 ≤ p → I1 p j = I p j ∧ R1 p j = R p j) ∧ X I L R r I1 L1 R1
theorem MD_m {X : sm_I → sm_L → sm_R → Int32 → sm_I → sm_L → sm_R → Prop} {I I1 : sm_I} {L L1 : sm_L} {R R1 : sm_R} (h : lw_I I L R) (m : en_mem kl_tb klX (xLay, I1, L1, R1)) (o : ∀ p j, 107 ≤ p → I1 p j = I p j ∧ R1 p j = R p j) : en_mem ml_tb mlX (xLay, I1, L1, R1) := lw_mk (lw_pk m) h.2.1 o
def lw_cK (c : en_Ct) : Bool := (Nat.ble c.2.2.2.2.2 59 && c.2.2.1.isEmpty) && c.2.2.2.2.1.all (fun q => Nat.blt q.1 107)
def lw_cM (c : en_Ct) : Bool := (Nat.ble c.2.2.2.2.2 59 && c.2.2.1.isEmpty) && c.2.2.2.2.1.all (fun q => Nat.ble 107 q.1)
/-- a call of the class whose answer and state are known -/
theorem lw_xk {S : sm_C} {c : en_Ct} {vs : List Value} {I : sm_I} {L : sm_L} {R : sm_R} {lo hi : Int} {C : Int32 → sm_I → sm_L → sm_R → Prop} {X : sm_I → sm_L → sm_R → Int32 → sm_I → sm_L → sm_R → Prop} (h : en_hold kl_tb klX sm_P S c) (hc : lw_cK c = true) (hr : c.2.2.2.1 = (0, lo, hi)) (hv : en_pvs c.2.1 vs) (hI : lw_I I L R) (B : sm_wp sm_P S 59 c.1 0 vs [] (xLay, I, L, R) (0, 0) (fun z => ∃ (r : Int32) (I2 : sm_I) (L2 : sm_L) (R2 : sm_R), z = (some (.int r), (xLay, I2, L2, R2)) ∧ X I L R r I2 L2 R2)) (k : ∀ (r : Int32) (I' : sm_I) (L' : sm_L) (R' : sm_R), MD X r I' L' R' → C r I' L' R') : sm_wp sm_P S 59 c.1 0 vs [] (xLay, I, L, R) (0, 0) (fun z => ∃ (r : Int32) (I2 : sm_I) (L2 : sm_L) (R2 : sm_R), z = (some (.int r), (xLay, I2, L2, R2)) ∧ C r I2 L2 R2) := by
  obtain ⟨h1, h5⟩ := Bool.and_eq_true_iff.mp hc
  obtain ⟨h3, h4⟩ := Bool.and_eq_true_iff.mp h1
  have hp : c.2.2.1 = [] := List.isEmpty_iff.mp h4
  refine sm_wp_mono (sm_wp_and (h 59 (Nat.le_of_ble_eq_true h3) vs _ hv hI.1 (by rw [hp]; exact ml_pf0)) B) (fun z q => ?_)
  obtain ⟨⟨-, q2, q3⟩, r, I2, L2, R2, ez, x⟩ := q
  subst ez
  exact ⟨r, I2, L2, R2, rfl, k r I2 L2 R2 ⟨I, L, R, hI, q2, fun p j hp => q3.2 p j (lw_lo h5 hp), x⟩⟩
/-- the reference's call behind it -/
theorem lw_xm {S : sm_C} {c : en_Ct} {vs : List Value} {I : sm_I} {L : sm_L} {R : sm_R} {r : Int32} {lo hi : Int} {C : Int32 → sm_I → sm_L → sm_R → Prop} {X : sm_I → sm_L → sm_R → Int32 → sm_I → sm_L → sm_R → Prop} (h : en_hold ml_tb mlX sm_P S c) (hc : lw_cM c = true) (hr : c.2.2.2.1 = (0, lo, hi)) (hv : en_pvs c.2.1 vs) (hI : MD X r I L R) (B : sm_wp sm_P S 59 c.1 0 vs [] (xLay, I, L, R) (0, 0) (fun z => ∃ (r' : Int32) (I2 : sm_I) (L2 : sm_L) (R2 : sm_R), z = (some (.int r'), (xLay, I2, L2, R2)) ∧ r = r' ∧ ((∀ p j, p < 107 → I2 p j = I p j ∧ R2 p j = R p j) → LJ I2 R2))) (k : ∀ (r' : Int32) (I' : sm_I) (L' : sm_L) (R' : sm_R), r = r' → lw_I I' L' R' → C r' I' L' R') : sm_wp sm_P S 59 c.1 0 vs [] (xLay, I, L, R) (0, 0) (fun z => ∃ (r : Int32) (I2 : sm_I) (L2 : sm_L) (R2 : sm_R), z = (some (.int r), (xLay, I2, L2, R2)) ∧ C r I2 L2 R2) := by
  obtain ⟨h1, h5⟩ := Bool.and_eq_true_iff.mp hc
  obtain ⟨h3, h4⟩ := Bool.and_eq_true_iff.mp h1
  have hp : c.2.2.1 = [] := List.isEmpty_iff.mp h4
  obtain ⟨I0, L0, R0, hI0, mk, o, -⟩ := hI
  have mm : en_mem ml_tb mlX (xLay, I, L, R) := lw_mk (lw_pk mk) hI0.2.1 o
  refine sm_wp_mono (sm_wp_and (h 59 (Nat.le_of_ble_eq_true h3) vs _ hv mm (by rw [hp]; exact ml_pf0)) B) (fun z q => ?_)
  obtain ⟨⟨-, q2, q3⟩, r', I2, L2, R2, ez, er, x⟩ := q
  subst ez
  have f : ∀ p j, p < 107 → I2 p j = I p j ∧ R2 p j = R p j := fun p j hp => q3.2 p j (lw_hi h5 hp)
  exact ⟨r', I2, L2, R2, rfl, k r' I2 L2 R2 er ⟨lw_kk (lw_pm q2) mk f, q2, x f⟩⟩
