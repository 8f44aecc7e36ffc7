/-! THE LAW: both invariants, equal tapes and equal places are kept by every call; place answers alike -/
def lw_I (I : sm_I) (L : sm_L) (R : sm_R) : Prop := en_mem kl_tb klX (xLay, I, L, R) ∧ en_mem ml_tb mlX (xLay, I, L, R) ∧ I 0 10 = I 107 2 ∧ (∀ j : Nat, (j : Int) < (I 0 10).toInt → I 1 j = I 108 j) ∧ I 0 11 = I 107 17
theorem kp_place {S : sm_C} {d : Nat} {Φ : sm_Z → Prop} {I : sm_I} {L : sm_L} {R : sm_R} (h : Φ (some (.int (I 0 11)), (xLay, I, L, R))) : sm_wp sm_P S d 73 0 [.ref 0] [] (xLay, I, L, R) (0, 0) Φ := sm_wp_step h
theorem mp_place {S : sm_C} {d : Nat} {Φ : sm_Z → Prop} {I : sm_I} {L : sm_L} {R : sm_R} (h : Φ (some (.int (I 107 17)), (xLay, I, L, R))) : sm_wp sm_P S d 174 0 [.ref 107] [] (xLay, I, L, R) (0, 0) Φ := sm_wp_step h
theorem lw_ml0 : ∀ p, p < 107 → (en_tg ml_tb.2.1 p).2.2 = [] := by decide +kernel
theorem lw_cell {tb : en_Tb} {p : Nat} {d : en_D} (h : en_cell tb p = some d) : p < tb.1 ∧ d = en_tg tb.2.1 p := by
  unfold en_cell at h
  cases c : Nat.blt p tb.1 with
  | false => rw [c] at h; cases h
  | true => rw [c] at h; exact ⟨Nat.le_of_ble_eq_true c, (Option.some.inj h).symm⟩
theorem lw_int0 {p j : Nat} {q : Int × Int} (h : en_int ml_tb p j = some q) : 107 ≤ p := by
  rcases Nat.lt_or_ge p 107 with c | c
  · exfalso
    unfold en_int at h
    split at h
    · next d hd =>
      have e := (lw_cell hd).2
      have z := lw_ml0 p c
      rw [← e] at z
      rw [z] at h
      cases k : Nat.beq d.1 0 with
      | true => rw [k] at h; cases h
      | false =>
        rw [k] at h
        have h : (bif Nat.blt j d.2.1 then en_fiv none else none) = some q := h
        cases k2 : Nat.blt j d.2.1 with
        | true => rw [k2] at h; cases h
        | false => rw [k2] at h; cases h
    · cases h
  · exact c
theorem lw_ref0 {p j : Nat} (h : en_refs ml_tb p j ≠ []) : 107 ≤ p := by
  rcases Nat.lt_or_ge p 107 with c | c
  · exfalso
    unfold en_refs at h
    split at h
    · next d hd =>
      have e := (lw_cell hd).2
      have z := lw_ml0 p c
      rw [← e] at z
      rw [z] at h
      cases k : Nat.beq d.1 0 with
      | true => rw [k] at h; exact h rfl
      | false => rw [k] at h; exact h rfl
    · exact h rfl
  · exact c
theorem lw_mk {I I' : sm_I} {L L' : sm_L} {R R' : sm_R} (pk : pk_ok L') (hm : en_mem ml_tb mlX (xLay, I, L, R)) (o : ∀ p j, 107 ≤ p → I' p j = I p j ∧ R' p j = R p j) : en_mem ml_tb mlX (xLay, I', L', R') := by
  have X : mlX (xLay, I', L, R) := ml_cg (o 107 18 (by omega)).1 (fun p hp j => (o p j (by omega)).1) hm.2.2.2.2
  refine ⟨hm.1, fun p j q hq => ?_, fun p j hq => ?_, hm.2.2.2.1, X.1, X.2.1, X.2.2.1, X.2.2.2.1, X.2.2.2.2.1, pk⟩
  · show q.1 ≤ (I' p j).toInt ∧ (I' p j).toInt ≤ q.2
    rw [(o p j (lw_int0 hq)).1]; exact hm.2.1 p j q hq
  · obtain ⟨r, h1, h2⟩ := hm.2.2.1 p j hq
    exact ⟨r, h1, by show R' p j = some r; rw [(o p j (lw_ref0 hq)).2]; exact h2⟩
theorem lw_kk {I I' : sm_I} {L L' : sm_L} {R R' : sm_R} (pk : pk_ok L') (hm : en_mem kl_tb klX (xLay, I, L, R)) (o : ∀ p j, p < 107 → I' p j = I p j ∧ R' p j = R p j) : en_mem kl_tb klX (xLay, I', L', R') := by
  have low : ∀ {p : Nat} {d : en_D}, en_cell kl_tb p = some d → p < 107 := fun h => (lw_cell h).1
  refine ⟨hm.1, fun p j q hq => ?_, fun p j hq => ?_, hm.2.2.2.1, ?_⟩
  · have hp : p < 107 := by
      unfold en_int at hq
      split at hq
      · next d hd => exact low hd
      · cases hq
    show q.1 ≤ (I' p j).toInt ∧ (I' p j).toInt ≤ q.2
    rw [(o p j hp).1]; exact hm.2.1 p j q hq
  · have hp : p < 107 := by
      unfold en_refs at hq
      split at hq
      · next d hd => exact low hd
      · exact absurd rfl hq
    obtain ⟨r, h1, h2⟩ := hm.2.2.1 p j hq
    exact ⟨r, h1, by show R' p j = some r; rw [(o p j hp).2]; exact h2⟩
  · have X := hm.2.2.2.2
    exact ⟨rfl, kl_net_cg (I := I) (o 75 4 (by decide)).1 (o 75 5 (by decide)).1 (fun i => (o 77 i (by decide)).1) X.2.1, kl_net_cg (I := I) (o 83 4 (by decide)).1 (o 83 5 (by decide)).1 (fun i => (o 85 i (by decide)).1) X.2.2.1, kl_net_cg (I := I) (o 91 4 (by decide)).1 (o 91 5 (by decide)).1 (fun i => (o 93 i (by decide)).1) X.2.2.2.1, pk⟩
theorem lw_lo {W : en_W} (h : W.all (fun q => Nat.blt q.1 107) = true) {p j : Nat} (hp : 107 ≤ p) : en_wok W p j = false := by
  cases c : en_wok W p j with
  | false => rfl
  | true =>
    obtain ⟨q, g1, g2⟩ := List.any_eq_true.mp c
    have e : q.1 = p := Nat.eq_of_beq_eq_true (Bool.and_eq_true_iff.mp g2).1
    have l : q.1 < 107 := Nat.le_of_ble_eq_true (List.all_eq_true.mp h q g1)
    omega
theorem lw_hi {W : en_W} (h : W.all (fun q => Nat.ble 107 q.1) = true) {p j : Nat} (hp : p < 107) : en_wok W p j = false := by
  cases c : en_wok W p j with
  | false => rfl
  | true =>
    obtain ⟨q, g1, g2⟩ := List.any_eq_true.mp c
    have e : q.1 = p := Nat.eq_of_beq_eq_true (Bool.and_eq_true_iff.mp g2).1
    have l : 107 ≤ q.1 := Nat.le_of_ble_eq_true (List.all_eq_true.mp h q g1)
    omega
theorem lw_no {W : en_W} {p j : Nat} (h : W.all (fun q => !(Nat.beq q.1 p)) = true) : en_wok W p j = false := by
  cases c : en_wok W p j with
  | false => rfl
  | true =>
    obtain ⟨q, g1, g2⟩ := List.any_eq_true.mp c
    have e : Nat.beq q.1 p = true := (Bool.and_eq_true_iff.mp g2).1
    have l := List.all_eq_true.mp h q g1
    rw [e] at l
    cases l
theorem lw_pk {I : sm_I} {L : sm_L} {R : sm_R} (h : en_mem kl_tb klX (xLay, I, L, R)) : pk_ok L := h.2.2.2.2.2.2.2.2
theorem lw_pm {I : sm_I} {L : sm_L} {R : sm_R} (h : en_mem ml_tb mlX (xLay, I, L, R)) : pk_ok L := h.2.2.2.2.2.2.2.2.2
def lw_ck (c : en_Ct) : Bool := (Nat.ble c.2.2.2.2.2 59 && c.2.2.1.isEmpty) && (c.2.2.2.2.1.all (fun q => Nat.blt q.1 107) && ((!(en_wok c.2.2.2.2.1 0 10) && !(en_wok c.2.2.2.2.1 0 11)) && c.2.2.2.2.1.all (fun q => !(Nat.beq q.1 1))))
def lw_cm (c : en_Ct) : Bool := (Nat.ble c.2.2.2.2.2 59 && c.2.2.1.isEmpty) && (c.2.2.2.2.1.all (fun q => Nat.ble 107 q.1) && ((!(en_wok c.2.2.2.2.1 107 2) && !(en_wok c.2.2.2.2.1 107 17)) && c.2.2.2.2.1.all (fun q => !(Nat.beq q.1 108))))
theorem lw_pr {lo hi : Int} {o : Option Value} (h : en_pr (0, lo, hi) o) : ∃ r : Int32, o = some (.int r) := by
  cases o with
  | none => have q1 : (0 : Nat) = 9 := h; omega
  | some v =>
    rcases h with q1 | ⟨q1, -⟩
    · cases v with
      | int r => exact ⟨r, rfl⟩
      | long _ => have q1 : (0 : Nat) = 5 := q1; omega
      | null => have q1 : (0 : Nat) = 1 := q1; omega
      | ref p => have q1 : (0 : Nat) = 2 := q1.1; omega
      | float _ => exact q1.elim
      | double _ => exact q1.elim
      | retAddr _ => exact q1.elim
    · have q1 : (0 : Nat) = 3 := q1
      omega
theorem lw_k {S : sm_C} {c : en_Ct} {vs : List Value} {I : sm_I} {L : sm_L} {R : sm_R} {lo hi : Int} {C : Int32 → sm_I → sm_L → sm_R → Prop} (h : en_hold kl_tb klX sm_P S c) (hc : lw_ck c = true) (hr : c.2.2.2.1 = (0, lo, hi)) (hv : en_pvs c.2.1 vs) (hI : lw_I I L R) (k : ∀ (r : Int32) (I' : sm_I) (L' : sm_L) (R' : sm_R), lw_I I' L' R' → C r I' L' R') : sm_wp sm_P S 59 c.1 0 vs [] (xLay, I, L, R) (0, 0) (fun z => ∃ (r : Int32) (I2 : sm_I) (L2 : sm_L) (R2 : sm_R), z = (some (.int r), (xLay, I2, L2, R2)) ∧ C r I2 L2 R2) := by
  obtain ⟨h1, h2⟩ := Bool.and_eq_true_iff.mp hc
  obtain ⟨h3, h4⟩ := Bool.and_eq_true_iff.mp h1
  obtain ⟨h5, h67⟩ := Bool.and_eq_true_iff.mp h2
  obtain ⟨h68, h7⟩ := Bool.and_eq_true_iff.mp h67
  obtain ⟨h6, h8⟩ := Bool.and_eq_true_iff.mp h68
  have hp : c.2.2.1 = [] := List.isEmpty_iff.mp h4
  refine sm_wp_mono (h 59 (Nat.le_of_ble_eq_true h3) vs _ hv hI.1 (by rw [hp]; exact ml_pf0)) (fun z q => ?_)
  obtain ⟨o, lay, I2, L2, R2⟩ := z
  obtain ⟨q1, q2, q3⟩ := q
  obtain rfl : lay = xLay := q2.2.2.2.2.1
  rw [hr] at q1
  obtain ⟨r, er⟩ := lw_pr q1
  have er : o = some (.int r) := er
  subst er
  refine ⟨r, I2, L2, R2, rfl, k r I2 L2 R2 ⟨q2, lw_mk (lw_pk q2) hI.2.1 (fun p j hp => q3.2 p j (lw_lo h5 hp)), ?_, fun j hj => ?_, ?_⟩⟩
  · have a : I2 0 10 = I 0 10 := (q3.2 0 10 (by simpa using h6)).1
    have b : I2 107 2 = I 107 2 := (q3.2 107 2 (lw_lo h5 (Nat.le_refl _))).1
    rw [a, b]; exact hI.2.2.1
  · have a : I2 0 10 = I 0 10 := (q3.2 0 10 (by simpa using h6)).1
    have b : I2 1 j = I 1 j := (q3.2 1 j (lw_no h7)).1
    have c : I2 108 j = I 108 j := (q3.2 108 j (lw_lo h5 (by decide))).1
    rw [a] at hj
    rw [b, c]; exact hI.2.2.2.1 j hj
  · have a : I2 0 11 = I 0 11 := (q3.2 0 11 (by simpa using h8)).1
    have b : I2 107 17 = I 107 17 := (q3.2 107 17 (lw_lo h5 (Nat.le_refl _))).1
    rw [a, b]; exact hI.2.2.2.2
theorem lw_m {S : sm_C} {c : en_Ct} {vs : List Value} {I : sm_I} {L : sm_L} {R : sm_R} {lo hi : Int} {C : Int32 → sm_I → sm_L → sm_R → Prop} (h : en_hold ml_tb mlX sm_P S c) (hc : lw_cm c = true) (hr : c.2.2.2.1 = (0, lo, hi)) (hv : en_pvs c.2.1 vs) (hI : lw_I I L R) (k : ∀ (r : Int32) (I' : sm_I) (L' : sm_L) (R' : sm_R), lw_I I' L' R' → C r I' L' R') : sm_wp sm_P S 59 c.1 0 vs [] (xLay, I, L, R) (0, 0) (fun z => ∃ (r : Int32) (I2 : sm_I) (L2 : sm_L) (R2 : sm_R), z = (some (.int r), (xLay, I2, L2, R2)) ∧ C r I2 L2 R2) := by
  obtain ⟨h1, h2⟩ := Bool.and_eq_true_iff.mp hc
  obtain ⟨h3, h4⟩ := Bool.and_eq_true_iff.mp h1
  obtain ⟨h5, h67⟩ := Bool.and_eq_true_iff.mp h2
  obtain ⟨h68, h7⟩ := Bool.and_eq_true_iff.mp h67
  obtain ⟨h6, h8⟩ := Bool.and_eq_true_iff.mp h68
  have hp : c.2.2.1 = [] := List.isEmpty_iff.mp h4
  refine sm_wp_mono (h 59 (Nat.le_of_ble_eq_true h3) vs _ hv hI.2.1 (by rw [hp]; exact ml_pf0)) (fun z q => ?_)
  obtain ⟨o, lay, I2, L2, R2⟩ := z
  obtain ⟨q1, q2, q3⟩ := q
  obtain rfl : lay = xLay := q2.2.2.2.2.1
  rw [hr] at q1
  obtain ⟨r, er⟩ := lw_pr q1
  have er : o = some (.int r) := er
  subst er
  refine ⟨r, I2, L2, R2, rfl, k r I2 L2 R2 ⟨lw_kk (lw_pm q2) hI.1 (fun p j hp => q3.2 p j (lw_hi h5 hp)), q2, ?_, fun j hj => ?_, ?_⟩⟩
  · have a : I2 0 10 = I 0 10 := (q3.2 0 10 (lw_hi h5 (by decide))).1
    have b : I2 107 2 = I 107 2 := (q3.2 107 2 (by simpa using h6)).1
    rw [a, b]; exact hI.2.2.1
  · have a : I2 0 10 = I 0 10 := (q3.2 0 10 (lw_hi h5 (by decide))).1
    have b : I2 1 j = I 1 j := (q3.2 1 j (lw_hi h5 (by decide))).1
    have c : I2 108 j = I 108 j := (q3.2 108 j (lw_no h7)).1
    rw [a] at hj
    rw [b, c]; exact hI.2.2.2.1 j hj
  · have a : I2 0 11 = I 0 11 := (q3.2 0 11 (lw_hi h5 (by decide))).1
    have b : I2 107 17 = I 107 17 := (q3.2 107 17 (by simpa using h8)).1
    rw [a, b]; exact hI.2.2.2.2
/-- what the class has written leaves the reference as it was, and the other way round -/
theorem lw_kf {W : en_W} {I I' : sm_I} {L L' : sm_L} {R R' : sm_R} (pk : pk_ok L') (hm : en_mem ml_tb mlX (xLay, I, L, R)) (hW : W.all (fun q => Nat.blt q.1 107) = true) (f : en_fr W (xLay, I, L, R) (xLay, I', L', R')) : en_mem ml_tb mlX (xLay, I', L', R') ∧ I' 107 2 = I 107 2 := ⟨lw_mk pk hm (fun p j hp => f.2 p j (lw_lo hW hp)), (f.2 107 2 (lw_lo hW (Nat.le_refl _))).1⟩
theorem lw_mf {W : en_W} {I I' : sm_I} {L L' : sm_L} {R R' : sm_R} (pk : pk_ok L') (hm : en_mem kl_tb klX (xLay, I, L, R)) (hW : W.all (fun q => Nat.ble 107 q.1) = true) (f : en_fr W (xLay, I, L, R) (xLay, I', L', R')) : en_mem kl_tb klX (xLay, I', L', R') ∧ I' 0 10 = I 0 10 := ⟨lw_kk pk hm (fun p j hp => f.2 p j (lw_hi hW hp)), (f.2 0 10 (lw_hi hW (by decide))).1⟩
set_option maxRecDepth 100000 in
set_option maxHeartbeats 4000000 in
theorem lw_loop {S : sm_C} {Φ : sm_Z → Prop} (hS : S.1 ≤ 3072) (hd : ∀ w : sm_W, Φ (some (.int (1 : Int32)), w)) : ∀ (m : Nat) (I : sm_I) (L : sm_L) (R : sm_R) (x3 : Int32), lw_I I L R → 0 ≤ x3.toInt → x3.toInt ≤ 4000 → 4000 - x3.toInt < m → sm_wp sm_P S 60 307 1 [.ref 1004, .ref 0, .ref 107, .int x3] [] (xLay, I, L, R) (166, 118202) Φ := by
  intro m
  induction m with
  | zero => intro I L R x3 hL h0 h1 hM; omega
  | succ m ih =>
    intro I L R x3 hL h0 h1 hM
    refine l_L_law_1 ⟨fun _ => hd _, fun a => ?_⟩
    have a := kl_nlt a
    have cL : (Int32.ofNat S.1).toInt = (S.1 : Int) := Int32.toInt_ofNat_of_lt (by omega)
    have c6 : ((Int32.ofNat S.1) - (6 : Int32)).toInt = (S.1 : Int) - 6 := by
      rw [Int32.toInt_sub, cL, (by decide : (6 : Int32).toInt = 6)]; exact en_bmod (by omega) (by omega) (Or.inl rfl)
    rw [c6] at a
    clear c6 cL
    have ad : ∀ (k : Int32) (n : Int), k.toInt = n → 0 ≤ n → n ≤ 6 → (x3 + k).toInt = x3.toInt + n := fun k n e p q => ml_ad rfl e (by omega) (by omega)
    have vv : ∀ (k : Int32) (n : Int), k.toInt = n → 0 ≤ n → n ≤ 5 → vp_in (x3 + k) S.1 := fun k n e p q => by
      have s := ad k n e p (by omega)
      exact kl_in (by omega) (by omega)
    have v0 : vp_in x3 S.1 := kl_in h0 (by omega)
    have v1 := vv 1 1 (by decide) (by decide) (by decide)
    have v2 := vv 2 2 (by decide) (by decide) (by decide)
    have v3 := vv 3 3 (by decide) (by decide) (by decide)
    have v4 := vv 4 4 (by decide) (by decide) (by decide)
    have v5 := vv 5 5 (by decide) (by decide) (by decide)
    have nx : ∀ (I' : sm_I) (L' : sm_L) (R' : sm_R), lw_I I' L' R' → sm_wp sm_P S 60 307 1 [.ref 1004, .ref 0, .ref 107, .int (x3 + (6 : Int32))] [] (xLay, I', L', R') (166, 118202) Φ := fun I' L' R' h => by
      have s := ad 6 6 (by decide) (by decide) (by decide)
      exact ih I' L' R' _ h (by omega) (by omega) (by omega)
    have eT : I 0 10 = I 107 2 := hL.2.2.1
    have c0 : (vp_in (x3 + (1 : Int32)) S.1) ∧ (vp_in (x3 + (2 : Int32)) S.1) ∧ (vp_in (x3 + (3 : Int32)) S.1) ∧ (vp_in (x3 + (4 : Int32)) S.1) ∧ (vp_in (x3 + (5 : Int32)) S.1) ∧ ∀ n946 : Int32, n946 = (S.2 (x3 + (1 : Int32)).toNatClampNeg) → ∀ n947 : Int32, n947 = (S.2 (x3 + (2 : Int32)).toNatClampNeg) → ∀ n948 : Int32, n948 = (S.2 (x3 + (3 : Int32)).toNatClampNeg) → ∀ n949 : Int32, n949 = (S.2 (x3 + (4 : Int32)).toNatClampNeg) → ∀ n950 : Int32, n950 = (S.2 (x3 + (5 : Int32)).toNatClampNeg) → sm_wp sm_P S 59 42 0 [.ref 0, .int n946, .int n947, .int n948, .int n949, .int n950] [] (xLay, I, L, R) (0, 0) (fun z => ∃ (r954 : Int32) (I951 : sm_I) (L952 : sm_L) (R953 : sm_R), z = (some (.int r954), (xLay, I951, L952, R953)) ∧ (vp_in (x3 + (1 : Int32)) S.1) ∧ (vp_in (x3 + (2 : Int32)) S.1) ∧ (vp_in (x3 + (3 : Int32)) S.1) ∧ (vp_in (x3 + (4 : Int32)) S.1) ∧ (vp_in (x3 + (5 : Int32)) S.1) ∧ ∀ n956 : Int32, n956 = (S.2 (x3 + (1 : Int32)).toNatClampNeg) → ∀ n957 : Int32, n957 = (S.2 (x3 + (2 : Int32)).toNatClampNeg) → ∀ n958 : Int32, n958 = (S.2 (x3 + (3 : Int32)).toNatClampNeg) → ∀ n959 : Int32, n959 = (S.2 (x3 + (4 : Int32)).toNatClampNeg) → ∀ n960 : Int32, n960 = (S.2 (x3 + (5 : Int32)).toNatClampNeg) → sm_wp sm_P S 59 124 0 [.ref 107, .int n956, .int n957, .int n958, .int n959, .int n960] [] (xLay, I951, L952, R953) (0, 0) (fun z => ∃ (r964 : Int32) (I961 : sm_I) (L962 : sm_L) (R963 : sm_R), z = (some (.int r964), (xLay, I961, L962, R963)) ∧ sm_wp sm_P S 60 307 1 [.ref 1004, .ref 0, .ref 107, .int (x3 + (6 : Int32))] [] (xLay, I961, L962, R963) (166, 118202) Φ)) := by
      refine ⟨v1, v2, v3, v4, v5, fun a1 w1 a2 w2 a3 w3 a4 w4 a5 w5 => ?_⟩
      refine kp_feed hL.1 (fun c => ?_) (fun I1 c m1 t1 f1 g1 => ?_)
      · refine ⟨_, I, L, R, rfl, v1, v2, v3, v4, v5, fun b1 _ b2 _ b3 _ b4 _ b5 _ => ?_⟩
        refine mp_feed hL.2.1 (fun c' => ⟨_, I, L, R, rfl, nx I L R hL⟩) (fun J c' mJ tJ fJ gJ => ?_)
        exfalso
        rw [eT] at c
        omega
      · obtain ⟨mm, e2⟩ := lw_kf (lw_pk m1) hL.2.1 (by decide) f1
        refine ⟨_, I1, L, R, rfl, v1, v2, v3, v4, v5, fun b1 u1 b2 u2 b3 u3 b4 u4 b5 u5 => ?_⟩
        rw [show b1 = a1 from u1.trans w1.symm, show b2 = a2 from u2.trans w2.symm, show b3 = a3 from u3.trans w3.symm, show b4 = a4 from u4.trans w4.symm, show b5 = a5 from u5.trans w5.symm]
        refine mp_feed mm (fun c' => ?_) (fun J c' mJ tJ fJ gJ => ?_)
        · exfalso
          rw [e2, ← eT] at c'
          omega
        · obtain ⟨kk, e3⟩ := lw_mf (lw_pm mJ) m1 (by decide) fJ
          have eq : I1 0 10 = J 107 2 := en_ofI (by rw [t1, tJ, e2, eT])
          refine ⟨_, J, L, R, rfl, nx J L R ⟨kk, mJ, by rw [e3]; exact eq, fun j hj => ?_, ?_⟩⟩
          rotate_left
          · have q1 : J 0 11 = I1 0 11 := (fJ.2 0 11 rfl).1
            have q2 : I1 0 11 = I 0 11 := (f1.2 0 11 rfl).1
            have q3 : J 107 17 = I1 107 17 := (fJ.2 107 17 rfl).1
            have q4 : I1 107 17 = I 107 17 := (f1.2 107 17 rfl).1
            rw [q1, q2, q3, q4]; exact hL.2.2.2.2
          rw [e3, t1] at hj
          have r1 : J 1 j = I1 1 j := (fJ.2 1 j rfl).1
          have r2 : I1 108 = I 108 := funext (fun j => (f1.2 108 j rfl).1)
          rw [r1, g1 j, gJ j, e2, r2, ← eT]
          exact pt_f_eq (fun j hj => hL.2.2.2.1 j hj) j hj
    have c1 : (vp_in (x3 + (1 : Int32)) S.1) ∧ ∀ n931 : Int32, n931 = (S.2 (x3 + (1 : Int32)).toNatClampNeg) → sm_wp sm_P S 59 30 0 [.ref 0, .int n931] [] (xLay, I, L, R) (0, 0) (fun z => ∃ (r935 : Int32) (I932 : sm_I) (L933 : sm_L) (R934 : sm_R), z = (some (.int r935), (xLay, I932, L933, R934)) ∧ (vp_in (x3 + (1 : Int32)) S.1) ∧ ∀ n937 : Int32, n937 = (S.2 (x3 + (1 : Int32)).toNatClampNeg) → sm_wp sm_P S 59 99 0 [.ref 107, .int n937] [] (xLay, I932, L933, R934) (0, 0) (fun z => ∃ (r941 : Int32) (I938 : sm_I) (L939 : sm_L) (R940 : sm_R), z = (some (.int r941), (xLay, I938, L939, R940)) ∧ sm_wp sm_P S 60 307 1 [.ref 1004, .ref 0, .ref 107, .int (x3 + (6 : Int32))] [] (xLay, I938, L939, R940) (166, 118202) Φ)) := by
      refine ⟨v1, fun n e => kx_back hL.1 (fun c => ?_) (fun I1 p1 p2 e1 m1 => ?_)⟩
      · refine ⟨_, I, L, R, rfl, v1, fun n' e' => ?_⟩
        have en : n' = n := e'.trans e.symm
        rw [en]
        refine mx_back hL.2.1 (fun _ => ⟨_, I, L, R, rfl, nx I L R hL⟩) (fun J d1 d2 _ _ mJ => ?_)
        exfalso
        rw [eT] at c
        omega
      · have mm : en_mem ml_tb mlX (xLay, I1, L, R) := lw_mk (lw_pk m1) hL.2.1 (fun p j hp => ⟨by rw [e1, en_up_ne _ _ _ _ (by omega)], rfl⟩)
        have g2 : I1 107 2 = I 107 2 := by rw [e1, en_up_ne _ _ _ _ (by omega)]
        refine ⟨_, I1, L, R, rfl, v1, fun n' e' => ?_⟩
        have en : n' = n := e'.trans e.symm
        rw [en]
        refine mx_back mm (fun c' => ?_) (fun J d1 d2 eJ s1 mJ => ⟨_, J, L, R, rfl, nx J L R ⟨lw_kk (lw_pm mJ) m1 (fun p j hp => ⟨by rw [eJ, en_up_ne _ _ _ _ (by omega)], rfl⟩), mJ, ?_, fun j hj => ?_, ?_⟩⟩)
        · exfalso
          rw [g2, ← eT] at c'
          omega
        · rw [eJ, en_up_ne _ _ _ _ (by omega), en_up_eq, e1, en_up_eq, en_up_ne _ _ _ _ (by omega), eT]
        · have l : J 0 10 = I 0 10 - n := by rw [eJ, en_up_ne _ _ _ _ (by omega), e1, en_up_eq]
          rw [l, eT, ← g2, s1, g2, ← eT] at hj
          rw [eJ, en_up_ne _ _ _ _ (by omega), en_up_ne _ _ _ _ (by omega), e1, en_up_ne _ _ _ _ (by omega), en_up_ne _ _ _ _ (by omega)]
          exact hL.2.2.2.1 j (by omega)
        · rw [eJ, en_up_ne _ _ _ _ (by omega), en_up_ne _ _ _ _ (by omega), e1, en_up_ne _ _ _ _ (by omega), en_up_ne _ _ _ _ (by omega)]
          exact hL.2.2.2.2
    have c2 : sm_wp sm_P S 59 80 0 [.ref 0] [] (xLay, I, L, R) (0, 0) (fun z => ∃ (r921 : Int32) (I918 : sm_I) (L919 : sm_L) (R920 : sm_R), z = (some (.int r921), (xLay, I918, L919, R920)) ∧ sm_wp sm_P S 59 182 0 [.ref 107] [] (xLay, I918, L919, R920) (0, 0) (fun z => ∃ (r926 : Int32) (I923 : sm_I) (L924 : sm_L) (R925 : sm_R), z = (some (.int r926), (xLay, I923, L924, R925)) ∧ sm_wp sm_P S 60 307 1 [.ref 1004, .ref 0, .ref 107, .int (x3 + (6 : Int32))] [] (xLay, I923, L924, R925) (166, 118202) Φ)) := by
      have bl := kx_len hL.1
      obtain ⟨n, hn⟩ : ∃ n : Nat, (I 0 10).toInt = n := ⟨(I 0 10).toInt.toNat, by omega⟩
      refine kp_read (d := 46) hn hL.1 (fun r I1 L1 R1 a0 m1 f1 z1 D => ⟨r, I1, L1, R1, rfl, ?_⟩)
      obtain ⟨mm, e2⟩ := lw_kf (W := kx_RW) (lw_pk m1) hL.2.1 (by decide +kernel) f1
      have e : kM R1 = R1 := ml_R mm
      rw [← e]
      have A : sm_wp sm_P S (51 + 8) 182 0 [.ref 107] [] (xLay, I1, L1, kM R1) (0, 0) (fun z => ∃ (r : Int32) (J : sm_I) (L' : sm_L) (R' : sm_R), z = (some (.int r), (xLay, J, L', kM R')) ∧ en_mem ml_tb mlX (xLay, J, L', R') ∧ en_fr ml_RW (xLay, I1, L1, R1) (xLay, J, L', R') ∧ J 107 2 = 0) := mx_read mm (fun r' J L' R' _ _ mJ fJ zJ => ⟨r', J, L', R', rfl, mJ, fJ, zJ⟩)
      have B : sm_wp sm_P S (51 + 8) 182 0 [.ref 107] [] (xLay, I1, L1, kM R1) (0, 0) (fun z => ∃ (r : Int32) (J : sm_I) (L' : sm_L) (R' : sm_R), z = (some (.int r), (xLay, J, L', kM R')) ∧ RDx (tk_at (I 1) n) (SY (tk_K (I 1) n) 501 0 0 gc0) (ME (tk_K (I 1) n) (fun i => tk_vl (I 1) n (tk_at (I 1) n i)) 501 0 0 a0) r J) := y_read (b := I 1) (n := n) (a0 := a0) (by rw [e2, ← eT]; exact hn) mm (fun j hj => by
        have u : I1 108 j = I 108 j := (f1.2 108 j (lw_lo (W := kx_RW) (by decide +kernel) (by decide))).1
        rw [u]
        exact (hL.2.2.2.1 j (by omega)).symm) D.1 (fun r J L' R' q => ⟨r, J, L', R', rfl, q⟩)
      refine sm_wp_mono (sm_wp_and A B) (fun z hz => ?_)
      obtain ⟨⟨r', J, L', R', ez, mJ, fJ, zJ⟩, r'', J', L'', R'', ez', D'⟩ := hz
      rw [ez] at ez'
      have er : r' = r'' := Value.int.inj (Option.some.inj (congrArg Prod.fst ez'))
      have eI : J = J' := congrArg (fun z : sm_Z => z.2.2.1) ez'
      rw [← er, ← eI] at D'
      have eJ : kM R' = R' := ml_R mJ
      obtain ⟨kk, e3⟩ := lw_mf (W := ml_RW) (lw_pm mJ) m1 (by decide +kernel) fJ
      have e4 : J 0 11 = I1 0 11 := (fJ.2 0 11 (lw_hi (W := ml_RW) (by decide +kernel) (by decide))).1
      have eq : I1 0 11 = J 107 17 := by
        obtain ⟨-, D1, D2⟩ := D
        obtain ⟨D3, D4⟩ := D'
        cases s : SY (tk_K (I 1) n) 501 0 0 gc0 with
        | some x => exact en_ofI (by rw [(D1 x.1 x.2 s).2, (D3 x.1 x.2 s).2])
        | none =>
          obtain ⟨D1, D2⟩ := D2 s
          obtain ⟨D3, D4⟩ := D4 s
          cases s2 : (ME (tk_K (I 1) n) (fun i => tk_vl (I 1) n (tk_at (I 1) n i)) 501 0 0 a0).1 with
          | some x => exact en_ofI (by rw [(D1 x.1 x.2 s2).2, (D3 x.1 x.2 s2).2])
          | none => rw [(D2 s2).2, (D4 s2).2]
      refine ⟨r', J, L', R', by rw [ez, eJ], nx J L' R' ⟨kk, mJ, by rw [e3, z1, zJ], fun j hj => ?_, by rw [e4]; exact eq⟩⟩
      exfalso
      rw [e3, z1] at hj
      have hj : (j : Int) < 0 := hj
      omega
    have c3 : sm_wp sm_P S 59 73 0 [.ref 0] [] (xLay, I, L, R) (0, 0) (fun z => ∃ (r907 : Int32) (I904 : sm_I) (L905 : sm_L) (R906 : sm_R), z = (some (.int r907), (xLay, I904, L905, R906)) ∧ sm_wp sm_P S 59 174 0 [.ref 107] [] (xLay, I904, L905, R906) (0, 0) (fun z => ∃ (r912 : Int32) (I909 : sm_I) (L910 : sm_L) (R911 : sm_R), z = (some (.int r912), (xLay, I909, L910, R911)) ∧ ((r907 = r912 → sm_wp sm_P S 60 307 1 [.ref 1004, .ref 0, .ref 107, .int (x3 + (6 : Int32))] [] (xLay, I909, L910, R911) (166, 118202) Φ) ∧ (¬ r907 = r912 → Φ (some (.int (0 : Int32)), (xLay, I909, L910, R911)))))) := by
      refine kp_place ⟨_, I, L, R, rfl, mp_place ⟨_, I, L, R, rfl, fun _ => nx I L R hL, fun q => absurd hL.2.2.2.2 q⟩⟩
    exact ⟨v0, fun n1 _ => ⟨fun _ => c0, fun _ => ⟨fun _ => c1, fun _ => ⟨fun _ => c2, fun _ => ⟨fun _ => c3, fun _ => ⟨fun _ => ⟨v1, ⟨v2, ⟨fun _ => fun n858 _ => lw_k (c := klc_223) klh_223 (by decide +kernel) rfl ⟨⟨rfl, rfl⟩, ⟨rfl, en_crange.1, en_crange.2⟩, ⟨rfl, by decide, by decide⟩, trivial⟩ hL (fun r862 I859 L860 R861 h863 => ⟨v1, ⟨v2, ⟨fun _ => fun n864 _ => lw_m (c := mlc_30) mlh_30 (by decide +kernel) rfl ⟨⟨rfl, rfl⟩, ⟨rfl, en_crange.1, en_crange.2⟩, ⟨rfl, by decide, by decide⟩, trivial⟩ h863 (fun r868 I865 L866 R867 h869 => nx _ _ _ h869), fun _ => fun n871 _ => lw_m (c := mlc_30) mlh_30 (by decide +kernel) rfl ⟨⟨rfl, rfl⟩, ⟨rfl, en_crange.1, en_crange.2⟩, ⟨rfl, by decide, by decide⟩, trivial⟩ h863 (fun r875 I872 L873 R874 h876 => nx _ _ _ h876)⟩⟩⟩), fun _ => fun n880 _ => lw_k (c := klc_223) klh_223 (by decide +kernel) rfl ⟨⟨rfl, rfl⟩, ⟨rfl, en_crange.1, en_crange.2⟩, ⟨rfl, by decide, by decide⟩, trivial⟩ hL (fun r884 I881 L882 R883 h885 => ⟨v1, ⟨v2, ⟨fun _ => fun n886 _ => lw_m (c := mlc_30) mlh_30 (by decide +kernel) rfl ⟨⟨rfl, rfl⟩, ⟨rfl, en_crange.1, en_crange.2⟩, ⟨rfl, by decide, by decide⟩, trivial⟩ h885 (fun r890 I887 L888 R889 h891 => nx _ _ _ h891), fun _ => fun n893 _ => lw_m (c := mlc_30) mlh_30 (by decide +kernel) rfl ⟨⟨rfl, rfl⟩, ⟨rfl, en_crange.1, en_crange.2⟩, ⟨rfl, by decide, by decide⟩, trivial⟩ h885 (fun r897 I894 L895 R896 h898 => nx _ _ _ h898)⟩⟩⟩)⟩⟩⟩, fun _ => ⟨fun _ => ⟨v1, ⟨v2, fun n841 _ => fun n842 _ => lw_k (c := klc_279) klh_279 (by decide +kernel) rfl ⟨⟨rfl, rfl⟩, ⟨rfl, en_crange.1, en_crange.2⟩, ⟨rfl, en_crange.1, en_crange.2⟩, trivial⟩ hL (fun r846 I843 L844 R845 h847 => ⟨v1, ⟨v2, fun n848 _ => fun n849 _ => lw_m (c := mlc_74) mlh_74 (by decide +kernel) rfl ⟨⟨rfl, rfl⟩, ⟨rfl, en_crange.1, en_crange.2⟩, ⟨rfl, en_crange.1, en_crange.2⟩, trivial⟩ h847 (fun r853 I850 L851 R852 h854 => nx _ _ _ h854)⟩⟩)⟩⟩, fun _ => ⟨fun _ => ⟨v1, ⟨v2, fun n824 _ => fun n825 _ => lw_k (c := klc_263) klh_263 (by decide +kernel) rfl ⟨⟨rfl, rfl⟩, ⟨rfl, en_crange.1, en_crange.2⟩, ⟨rfl, en_crange.1, en_crange.2⟩, trivial⟩ hL (fun r829 I826 L827 R828 h830 => ⟨v1, ⟨v2, fun n831 _ => fun n832 _ => lw_m (c := mlc_55) mlh_55 (by decide +kernel) rfl ⟨⟨rfl, rfl⟩, ⟨rfl, en_crange.1, en_crange.2⟩, ⟨rfl, en_crange.1, en_crange.2⟩, trivial⟩ h830 (fun r836 I833 L834 R835 h837 => nx _ _ _ h837)⟩⟩)⟩⟩, fun _ => ⟨fun _ => lw_k (c := klc_280) klh_280 (by decide +kernel) rfl ⟨⟨rfl, rfl⟩, trivial⟩ hL (fun r814 I811 L812 R813 h815 => lw_m (c := mlc_75) mlh_75 (by decide +kernel) rfl ⟨⟨rfl, rfl⟩, trivial⟩ h815 (fun r819 I816 L817 R818 h820 => nx _ _ _ h820)), fun _ => ⟨fun _ => ⟨v1, ⟨v2, fun n794 _ => fun n795 _ => lw_k (c := klc_219) klh_219 (by decide +kernel) rfl ⟨⟨rfl, rfl⟩, ⟨rfl, en_crange.1, en_crange.2⟩, ⟨rfl, en_crange.1, en_crange.2⟩, trivial⟩ hL (fun r799 I796 L797 R798 h800 => ⟨v1, ⟨v2, fun n801 _ => fun n802 _ => lw_m (c := mlc_27) mlh_27 (by decide +kernel) rfl ⟨⟨rfl, rfl⟩, ⟨rfl, en_crange.1, en_crange.2⟩, ⟨rfl, en_crange.1, en_crange.2⟩, trivial⟩ h800 (fun r806 I803 L804 R805 h807 => nx _ _ _ h807)⟩⟩)⟩⟩, fun _ => ⟨fun _ => ⟨v1, ⟨v2, fun n777 _ => fun n778 _ => lw_k (c := klc_241) klh_241 (by decide +kernel) rfl ⟨⟨rfl, rfl⟩, ⟨rfl, en_crange.1, en_crange.2⟩, ⟨rfl, en_crange.1, en_crange.2⟩, trivial⟩ hL (fun r782 I779 L780 R781 h783 => ⟨v1, ⟨v2, fun n784 _ => fun n785 _ => lw_m (c := mlc_46) mlh_46 (by decide +kernel) rfl ⟨⟨rfl, rfl⟩, ⟨rfl, en_crange.1, en_crange.2⟩, ⟨rfl, en_crange.1, en_crange.2⟩, trivial⟩ h783 (fun r789 I786 L787 R788 h790 => nx _ _ _ h790)⟩⟩)⟩⟩, fun _ => ⟨fun _ => ⟨v1, ⟨v2, ⟨v3, ⟨fun _ => fun n725 _ => fun n726 _ => lw_k (c := klc_244) klh_244 (by decide +kernel) rfl ⟨⟨rfl, rfl⟩, ⟨rfl, en_crange.1, en_crange.2⟩, ⟨rfl, en_crange.1, en_crange.2⟩, ⟨rfl, by decide, by decide⟩, trivial⟩ hL (fun r730 I727 L728 R729 h731 => ⟨v1, ⟨v2, ⟨v3, ⟨fun _ => fun n732 _ => fun n733 _ => lw_m (c := mlc_48) mlh_48 (by decide +kernel) rfl ⟨⟨rfl, rfl⟩, ⟨rfl, en_crange.1, en_crange.2⟩, ⟨rfl, en_crange.1, en_crange.2⟩, ⟨rfl, by decide, by decide⟩, trivial⟩ h731 (fun r737 I734 L735 R736 h738 => nx _ _ _ h738), fun _ => fun n740 _ => fun n741 _ => lw_m (c := mlc_48) mlh_48 (by decide +kernel) rfl ⟨⟨rfl, rfl⟩, ⟨rfl, en_crange.1, en_crange.2⟩, ⟨rfl, en_crange.1, en_crange.2⟩, ⟨rfl, by decide, by decide⟩, trivial⟩ h731 (fun r745 I742 L743 R744 h746 => nx _ _ _ h746)⟩⟩⟩⟩), fun _ => fun n750 _ => fun n751 _ => lw_k (c := klc_244) klh_244 (by decide +kernel) rfl ⟨⟨rfl, rfl⟩, ⟨rfl, en_crange.1, en_crange.2⟩, ⟨rfl, en_crange.1, en_crange.2⟩, ⟨rfl, by decide, by decide⟩, trivial⟩ hL (fun r755 I752 L753 R754 h756 => ⟨v1, ⟨v2, ⟨v3, ⟨fun _ => fun n757 _ => fun n758 _ => lw_m (c := mlc_48) mlh_48 (by decide +kernel) rfl ⟨⟨rfl, rfl⟩, ⟨rfl, en_crange.1, en_crange.2⟩, ⟨rfl, en_crange.1, en_crange.2⟩, ⟨rfl, by decide, by decide⟩, trivial⟩ h756 (fun r762 I759 L760 R761 h763 => nx _ _ _ h763), fun _ => fun n765 _ => fun n766 _ => lw_m (c := mlc_48) mlh_48 (by decide +kernel) rfl ⟨⟨rfl, rfl⟩, ⟨rfl, en_crange.1, en_crange.2⟩, ⟨rfl, en_crange.1, en_crange.2⟩, ⟨rfl, by decide, by decide⟩, trivial⟩ h756 (fun r770 I767 L768 R769 h771 => nx _ _ _ h771)⟩⟩⟩⟩)⟩⟩⟩⟩, fun _ => ⟨fun _ => ⟨v1, ⟨v2, ⟨v3, ⟨v4, ⟨fun _ => fun n667 _ => fun n668 _ => fun n669 _ => lw_k (c := klc_237) klh_237 (by decide +kernel) rfl ⟨⟨rfl, rfl⟩, ⟨rfl, en_crange.1, en_crange.2⟩, ⟨rfl, en_crange.1, en_crange.2⟩, ⟨rfl, en_crange.1, en_crange.2⟩, ⟨rfl, by decide, by decide⟩, trivial⟩ hL (fun r673 I670 L671 R672 h674 => ⟨v1, ⟨v2, ⟨v3, ⟨v4, ⟨fun _ => fun n675 _ => fun n676 _ => fun n677 _ => lw_m (c := mlc_41) mlh_41 (by decide +kernel) rfl ⟨⟨rfl, rfl⟩, ⟨rfl, en_crange.1, en_crange.2⟩, ⟨rfl, en_crange.1, en_crange.2⟩, ⟨rfl, en_crange.1, en_crange.2⟩, ⟨rfl, by decide, by decide⟩, trivial⟩ h674 (fun r681 I678 L679 R680 h682 => nx _ _ _ h682), fun _ => fun n684 _ => fun n685 _ => fun n686 _ => lw_m (c := mlc_41) mlh_41 (by decide +kernel) rfl ⟨⟨rfl, rfl⟩, ⟨rfl, en_crange.1, en_crange.2⟩, ⟨rfl, en_crange.1, en_crange.2⟩, ⟨rfl, en_crange.1, en_crange.2⟩, ⟨rfl, by decide, by decide⟩, trivial⟩ h674 (fun r690 I687 L688 R689 h691 => nx _ _ _ h691)⟩⟩⟩⟩⟩), fun _ => fun n695 _ => fun n696 _ => fun n697 _ => lw_k (c := klc_237) klh_237 (by decide +kernel) rfl ⟨⟨rfl, rfl⟩, ⟨rfl, en_crange.1, en_crange.2⟩, ⟨rfl, en_crange.1, en_crange.2⟩, ⟨rfl, en_crange.1, en_crange.2⟩, ⟨rfl, by decide, by decide⟩, trivial⟩ hL (fun r701 I698 L699 R700 h702 => ⟨v1, ⟨v2, ⟨v3, ⟨v4, ⟨fun _ => fun n703 _ => fun n704 _ => fun n705 _ => lw_m (c := mlc_41) mlh_41 (by decide +kernel) rfl ⟨⟨rfl, rfl⟩, ⟨rfl, en_crange.1, en_crange.2⟩, ⟨rfl, en_crange.1, en_crange.2⟩, ⟨rfl, en_crange.1, en_crange.2⟩, ⟨rfl, by decide, by decide⟩, trivial⟩ h702 (fun r709 I706 L707 R708 h710 => nx _ _ _ h710), fun _ => fun n712 _ => fun n713 _ => fun n714 _ => lw_m (c := mlc_41) mlh_41 (by decide +kernel) rfl ⟨⟨rfl, rfl⟩, ⟨rfl, en_crange.1, en_crange.2⟩, ⟨rfl, en_crange.1, en_crange.2⟩, ⟨rfl, en_crange.1, en_crange.2⟩, ⟨rfl, by decide, by decide⟩, trivial⟩ h702 (fun r718 I715 L716 R717 h719 => nx _ _ _ h719)⟩⟩⟩⟩⟩)⟩⟩⟩⟩⟩, fun _ => ⟨fun _ => ⟨v1, ⟨v2, ⟨fun _ => fun n621 _ => lw_k (c := klc_228) klh_228 (by decide +kernel) rfl ⟨⟨rfl, rfl⟩, ⟨rfl, en_crange.1, en_crange.2⟩, ⟨rfl, by decide, by decide⟩, trivial⟩ hL (fun r625 I622 L623 R624 h626 => ⟨v1, ⟨v2, ⟨fun _ => fun n627 _ => lw_m (c := mlc_32) mlh_32 (by decide +kernel) rfl ⟨⟨rfl, rfl⟩, ⟨rfl, en_crange.1, en_crange.2⟩, ⟨rfl, by decide, by decide⟩, trivial⟩ h626 (fun r631 I628 L629 R630 h632 => nx _ _ _ h632), fun _ => fun n634 _ => lw_m (c := mlc_32) mlh_32 (by decide +kernel) rfl ⟨⟨rfl, rfl⟩, ⟨rfl, en_crange.1, en_crange.2⟩, ⟨rfl, by decide, by decide⟩, trivial⟩ h626 (fun r638 I635 L636 R637 h639 => nx _ _ _ h639)⟩⟩⟩), fun _ => fun n643 _ => lw_k (c := klc_228) klh_228 (by decide +kernel) rfl ⟨⟨rfl, rfl⟩, ⟨rfl, en_crange.1, en_crange.2⟩, ⟨rfl, by decide, by decide⟩, trivial⟩ hL (fun r647 I644 L645 R646 h648 => ⟨v1, ⟨v2, ⟨fun _ => fun n649 _ => lw_m (c := mlc_32) mlh_32 (by decide +kernel) rfl ⟨⟨rfl, rfl⟩, ⟨rfl, en_crange.1, en_crange.2⟩, ⟨rfl, by decide, by decide⟩, trivial⟩ h648 (fun r653 I650 L651 R652 h654 => nx _ _ _ h654), fun _ => fun n656 _ => lw_m (c := mlc_32) mlh_32 (by decide +kernel) rfl ⟨⟨rfl, rfl⟩, ⟨rfl, en_crange.1, en_crange.2⟩, ⟨rfl, by decide, by decide⟩, trivial⟩ h648 (fun r660 I657 L658 R659 h661 => nx _ _ _ h661)⟩⟩⟩)⟩⟩⟩, fun _ => ⟨fun _ => ⟨v1, ⟨v2, fun n604 _ => fun n605 _ => lw_k (c := klc_217) klh_217 (by decide +kernel) rfl ⟨⟨rfl, rfl⟩, ⟨rfl, en_crange.1, en_crange.2⟩, ⟨rfl, en_crange.1, en_crange.2⟩, trivial⟩ hL (fun r609 I606 L607 R608 h610 => ⟨v1, ⟨v2, fun n611 _ => fun n612 _ => lw_m (c := mlc_19) mlh_19 (by decide +kernel) rfl ⟨⟨rfl, rfl⟩, ⟨rfl, en_crange.1, en_crange.2⟩, ⟨rfl, en_crange.1, en_crange.2⟩, trivial⟩ h610 (fun r616 I613 L614 R615 h617 => nx _ _ _ h617)⟩⟩)⟩⟩, fun _ => ⟨fun _ => ⟨v1, fun n589 _ => lw_k (c := klc_236) klh_236 (by decide +kernel) rfl ⟨⟨rfl, rfl⟩, ⟨rfl, en_crange.1, en_crange.2⟩, trivial⟩ hL (fun r593 I590 L591 R592 h594 => ⟨v1, fun n595 _ => lw_m (c := mlc_40) mlh_40 (by decide +kernel) rfl ⟨⟨rfl, rfl⟩, ⟨rfl, en_crange.1, en_crange.2⟩, trivial⟩ h594 (fun r599 I596 L597 R598 h600 => nx _ _ _ h600)⟩)⟩, fun _ => ⟨fun _ => ⟨v1, ⟨v2, fun n572 _ => fun n573 _ => lw_k (c := klc_274) klh_274 (by decide +kernel) rfl ⟨⟨rfl, rfl⟩, ⟨rfl, en_crange.1, en_crange.2⟩, ⟨rfl, en_crange.1, en_crange.2⟩, trivial⟩ hL (fun r577 I574 L575 R576 h578 => ⟨v1, ⟨v2, fun n579 _ => fun n580 _ => lw_m (c := mlc_70) mlh_70 (by decide +kernel) rfl ⟨⟨rfl, rfl⟩, ⟨rfl, en_crange.1, en_crange.2⟩, ⟨rfl, en_crange.1, en_crange.2⟩, trivial⟩ h578 (fun r584 I581 L582 R583 h585 => nx _ _ _ h585)⟩⟩)⟩⟩, fun _ => ⟨fun _ => ⟨v1, fun n557 _ => lw_k (c := klc_212) klh_212 (by decide +kernel) rfl ⟨⟨rfl, rfl⟩, ⟨rfl, en_crange.1, en_crange.2⟩, trivial⟩ hL (fun r561 I558 L559 R560 h562 => ⟨v1, fun n563 _ => lw_m (c := mlc_0) mlh_0 (by decide +kernel) rfl ⟨⟨rfl, rfl⟩, ⟨rfl, en_crange.1, en_crange.2⟩, trivial⟩ h562 (fun r567 I564 L565 R566 h568 => nx _ _ _ h568)⟩)⟩, fun _ => ⟨fun _ => lw_k (c := klc_215) klh_215 (by decide +kernel) rfl ⟨⟨rfl, rfl⟩, trivial⟩ hL (fun r547 I544 L545 R546 h548 => lw_m (c := mlc_14) mlh_14 (by decide +kernel) rfl ⟨⟨rfl, rfl⟩, trivial⟩ h548 (fun r552 I549 L550 R551 h553 => nx _ _ _ h553)), fun _ => ⟨fun _ => lw_k (c := klc_270) klh_270 (by decide +kernel) rfl ⟨⟨rfl, rfl⟩, trivial⟩ hL (fun r534 I531 L532 R533 h535 => lw_m (c := mlc_63) mlh_63 (by decide +kernel) rfl ⟨⟨rfl, rfl⟩, trivial⟩ h535 (fun r539 I536 L537 R538 h540 => nx _ _ _ h540)), fun _ => ⟨fun _ => ⟨v1, fun n516 _ => lw_k (c := klc_269) klh_269 (by decide +kernel) rfl ⟨⟨rfl, rfl⟩, ⟨rfl, en_crange.1, en_crange.2⟩, trivial⟩ hL (fun r520 I517 L518 R519 h521 => ⟨v1, fun n522 _ => lw_m (c := mlc_62) mlh_62 (by decide +kernel) rfl ⟨⟨rfl, rfl⟩, ⟨rfl, en_crange.1, en_crange.2⟩, trivial⟩ h521 (fun r526 I523 L524 R525 h527 => nx _ _ _ h527)⟩)⟩, fun _ => ⟨fun _ => lw_k (c := klc_240) klh_240 (by decide +kernel) rfl ⟨⟨rfl, rfl⟩, trivial⟩ hL (fun r506 I503 L504 R505 h507 => lw_m (c := mlc_45) mlh_45 (by decide +kernel) rfl ⟨⟨rfl, rfl⟩, trivial⟩ h507 (fun r511 I508 L509 R510 h512 => nx _ _ _ h512)), fun _ => ⟨fun _ => ⟨v1, fun n488 _ => lw_k (c := klc_239) klh_239 (by decide +kernel) rfl ⟨⟨rfl, rfl⟩, ⟨rfl, en_crange.1, en_crange.2⟩, trivial⟩ hL (fun r492 I489 L490 R491 h493 => ⟨v1, fun n494 _ => lw_m (c := mlc_44) mlh_44 (by decide +kernel) rfl ⟨⟨rfl, rfl⟩, ⟨rfl, en_crange.1, en_crange.2⟩, trivial⟩ h493 (fun r498 I495 L496 R497 h499 => nx _ _ _ h499)⟩)⟩, fun _ => ⟨fun _ => lw_k (c := klc_218) klh_218 (by decide +kernel) rfl ⟨⟨rfl, rfl⟩, trivial⟩ hL (fun r478 I475 L476 R477 h479 => lw_m (c := mlc_25) mlh_25 (by decide +kernel) rfl ⟨⟨rfl, rfl⟩, trivial⟩ h479 (fun r483 I480 L481 R482 h484 => nx _ _ _ h484)), fun _ => ⟨fun _ => lw_k (c := klc_268) klh_268 (by decide +kernel) rfl ⟨⟨rfl, rfl⟩, trivial⟩ hL (fun r465 I462 L463 R464 h466 => lw_m (c := mlc_61) mlh_61 (by decide +kernel) rfl ⟨⟨rfl, rfl⟩, trivial⟩ h466 (fun r470 I467 L468 R469 h471 => nx _ _ _ h471)), fun _ => ⟨fun _ => ⟨v1, ⟨v2, fun n445 _ => fun n446 _ => lw_k (c := klc_265) klh_265 (by decide +kernel) rfl ⟨⟨rfl, rfl⟩, ⟨rfl, en_crange.1, en_crange.2⟩, ⟨rfl, en_crange.1, en_crange.2⟩, trivial⟩ hL (fun r450 I447 L448 R449 h451 => ⟨v1, ⟨v2, fun n452 _ => fun n453 _ => lw_m (c := mlc_57) mlh_57 (by decide +kernel) rfl ⟨⟨rfl, rfl⟩, ⟨rfl, en_crange.1, en_crange.2⟩, ⟨rfl, en_crange.1, en_crange.2⟩, trivial⟩ h451 (fun r457 I454 L455 R456 h458 => nx _ _ _ h458)⟩⟩)⟩⟩, fun _ => ⟨fun _ => lw_k (c := klc_277) klh_277 (by decide +kernel) rfl ⟨⟨rfl, rfl⟩, trivial⟩ hL (fun r435 I432 L433 R434 h436 => lw_m (c := mlc_66) mlh_66 (by decide +kernel) rfl ⟨⟨rfl, rfl⟩, trivial⟩ h436 (fun r440 I437 L438 R439 h441 => nx _ _ _ h441)), fun _ => ⟨fun _ => lw_k (c := klc_272) klh_272 (by decide +kernel) rfl ⟨⟨rfl, rfl⟩, trivial⟩ hL (fun r422 I419 L420 R421 h423 => lw_m (c := mlc_68) mlh_68 (by decide +kernel) rfl ⟨⟨rfl, rfl⟩, trivial⟩ h423 (fun r427 I424 L425 R426 h428 => nx _ _ _ h428)), fun _ => ⟨fun _ => ⟨v1, fun n404 _ => lw_k (c := klc_273) klh_273 (by decide +kernel) rfl ⟨⟨rfl, rfl⟩, ⟨rfl, en_crange.1, en_crange.2⟩, trivial⟩ hL (fun r408 I405 L406 R407 h409 => ⟨v1, fun n410 _ => lw_m (c := mlc_69) mlh_69 (by decide +kernel) rfl ⟨⟨rfl, rfl⟩, ⟨rfl, en_crange.1, en_crange.2⟩, trivial⟩ h409 (fun r414 I411 L412 R413 h415 => nx _ _ _ h415)⟩)⟩, fun _ => ⟨fun _ => ⟨v1, ⟨v2, ⟨v3, ⟨v4, fun n383 _ => fun n384 _ => fun n385 _ => fun n386 _ => lw_k (c := klc_220) klh_220 (by decide +kernel) rfl ⟨⟨rfl, rfl⟩, ⟨rfl, en_crange.1, en_crange.2⟩, ⟨rfl, en_crange.1, en_crange.2⟩, ⟨rfl, en_crange.1, en_crange.2⟩, ⟨rfl, en_crange.1, en_crange.2⟩, trivial⟩ hL (fun r390 I387 L388 R389 h391 => ⟨v1, ⟨v2, ⟨v3, ⟨v4, fun n392 _ => fun n393 _ => fun n394 _ => fun n395 _ => lw_m (c := mlc_28) mlh_28 (by decide +kernel) rfl ⟨⟨rfl, rfl⟩, ⟨rfl, en_crange.1, en_crange.2⟩, ⟨rfl, en_crange.1, en_crange.2⟩, ⟨rfl, en_crange.1, en_crange.2⟩, ⟨rfl, en_crange.1, en_crange.2⟩, trivial⟩ h391 (fun r399 I396 L397 R398 h400 => nx _ _ _ h400)⟩⟩⟩⟩)⟩⟩⟩⟩, fun _ => ⟨fun _ => ⟨v1, ⟨v2, ⟨v3, ⟨fun _ => fun n331 _ => fun n332 _ => lw_k (c := klc_214) klh_214 (by decide +kernel) rfl ⟨⟨rfl, rfl⟩, ⟨rfl, en_crange.1, en_crange.2⟩, ⟨rfl, en_crange.1, en_crange.2⟩, ⟨rfl, by decide, by decide⟩, trivial⟩ hL (fun r336 I333 L334 R335 h337 => ⟨v1, ⟨v2, ⟨v3, ⟨fun _ => fun n338 _ => fun n339 _ => lw_m (c := mlc_13) mlh_13 (by decide +kernel) rfl ⟨⟨rfl, rfl⟩, ⟨rfl, en_crange.1, en_crange.2⟩, ⟨rfl, en_crange.1, en_crange.2⟩, ⟨rfl, by decide, by decide⟩, trivial⟩ h337 (fun r343 I340 L341 R342 h344 => nx _ _ _ h344), fun _ => fun n346 _ => fun n347 _ => lw_m (c := mlc_13) mlh_13 (by decide +kernel) rfl ⟨⟨rfl, rfl⟩, ⟨rfl, en_crange.1, en_crange.2⟩, ⟨rfl, en_crange.1, en_crange.2⟩, ⟨rfl, by decide, by decide⟩, trivial⟩ h337 (fun r351 I348 L349 R350 h352 => nx _ _ _ h352)⟩⟩⟩⟩), fun _ => fun n356 _ => fun n357 _ => lw_k (c := klc_214) klh_214 (by decide +kernel) rfl ⟨⟨rfl, rfl⟩, ⟨rfl, en_crange.1, en_crange.2⟩, ⟨rfl, en_crange.1, en_crange.2⟩, ⟨rfl, by decide, by decide⟩, trivial⟩ hL (fun r361 I358 L359 R360 h362 => ⟨v1, ⟨v2, ⟨v3, ⟨fun _ => fun n363 _ => fun n364 _ => lw_m (c := mlc_13) mlh_13 (by decide +kernel) rfl ⟨⟨rfl, rfl⟩, ⟨rfl, en_crange.1, en_crange.2⟩, ⟨rfl, en_crange.1, en_crange.2⟩, ⟨rfl, by decide, by decide⟩, trivial⟩ h362 (fun r368 I365 L366 R367 h369 => nx _ _ _ h369), fun _ => fun n371 _ => fun n372 _ => lw_m (c := mlc_13) mlh_13 (by decide +kernel) rfl ⟨⟨rfl, rfl⟩, ⟨rfl, en_crange.1, en_crange.2⟩, ⟨rfl, en_crange.1, en_crange.2⟩, ⟨rfl, by decide, by decide⟩, trivial⟩ h362 (fun r376 I373 L374 R375 h377 => nx _ _ _ h377)⟩⟩⟩⟩)⟩⟩⟩⟩, fun _ => ⟨fun _ => ⟨v1, ⟨v2, ⟨fun _ => fun n285 _ => lw_k (c := klc_206) klh_206 (by decide +kernel) rfl ⟨⟨rfl, rfl⟩, ⟨rfl, en_crange.1, en_crange.2⟩, ⟨rfl, by decide, by decide⟩, trivial⟩ hL (fun r289 I286 L287 R288 h290 => ⟨v1, ⟨v2, ⟨fun _ => fun n291 _ => lw_m (c := mlc_77) mlh_77 (by decide +kernel) rfl ⟨⟨rfl, rfl⟩, ⟨rfl, en_crange.1, en_crange.2⟩, ⟨rfl, by decide, by decide⟩, trivial⟩ h290 (fun r295 I292 L293 R294 h296 => nx _ _ _ h296), fun _ => fun n298 _ => lw_m (c := mlc_77) mlh_77 (by decide +kernel) rfl ⟨⟨rfl, rfl⟩, ⟨rfl, en_crange.1, en_crange.2⟩, ⟨rfl, by decide, by decide⟩, trivial⟩ h290 (fun r302 I299 L300 R301 h303 => nx _ _ _ h303)⟩⟩⟩), fun _ => fun n307 _ => lw_k (c := klc_206) klh_206 (by decide +kernel) rfl ⟨⟨rfl, rfl⟩, ⟨rfl, en_crange.1, en_crange.2⟩, ⟨rfl, by decide, by decide⟩, trivial⟩ hL (fun r311 I308 L309 R310 h312 => ⟨v1, ⟨v2, ⟨fun _ => fun n313 _ => lw_m (c := mlc_77) mlh_77 (by decide +kernel) rfl ⟨⟨rfl, rfl⟩, ⟨rfl, en_crange.1, en_crange.2⟩, ⟨rfl, by decide, by decide⟩, trivial⟩ h312 (fun r317 I314 L315 R316 h318 => nx _ _ _ h318), fun _ => fun n320 _ => lw_m (c := mlc_77) mlh_77 (by decide +kernel) rfl ⟨⟨rfl, rfl⟩, ⟨rfl, en_crange.1, en_crange.2⟩, ⟨rfl, by decide, by decide⟩, trivial⟩ h312 (fun r324 I321 L322 R323 h325 => nx _ _ _ h325)⟩⟩⟩)⟩⟩⟩, fun _ => ⟨fun _ => lw_k (c := klc_264) klh_264 (by decide +kernel) rfl ⟨⟨rfl, rfl⟩, trivial⟩ hL (fun r275 I272 L273 R274 h276 => lw_m (c := mlc_56) mlh_56 (by decide +kernel) rfl ⟨⟨rfl, rfl⟩, trivial⟩ h276 (fun r280 I277 L278 R279 h281 => nx _ _ _ h281)), fun _ => ⟨fun _ => ⟨v1, ⟨v2, fun n255 _ => fun n256 _ => lw_k (c := klc_261) klh_261 (by decide +kernel) rfl ⟨⟨rfl, rfl⟩, ⟨rfl, en_crange.1, en_crange.2⟩, ⟨rfl, en_crange.1, en_crange.2⟩, trivial⟩ hL (fun r260 I257 L258 R259 h261 => ⟨v1, ⟨v2, fun n262 _ => fun n263 _ => lw_m (c := mlc_53) mlh_53 (by decide +kernel) rfl ⟨⟨rfl, rfl⟩, ⟨rfl, en_crange.1, en_crange.2⟩, ⟨rfl, en_crange.1, en_crange.2⟩, trivial⟩ h261 (fun r267 I264 L265 R266 h268 => nx _ _ _ h268)⟩⟩)⟩⟩, fun _ => ⟨fun _ => ⟨v1, fun n240 _ => lw_k (c := klc_267) klh_267 (by decide +kernel) rfl ⟨⟨rfl, rfl⟩, ⟨rfl, en_crange.1, en_crange.2⟩, trivial⟩ hL (fun r244 I241 L242 R243 h245 => ⟨v1, fun n246 _ => lw_m (c := mlc_60) mlh_60 (by decide +kernel) rfl ⟨⟨rfl, rfl⟩, ⟨rfl, en_crange.1, en_crange.2⟩, trivial⟩ h245 (fun r250 I247 L248 R249 h251 => nx _ _ _ h251)⟩)⟩, fun _ => ⟨fun _ => ⟨v1, fun n225 _ => lw_k (c := klc_235) klh_235 (by decide +kernel) rfl ⟨⟨rfl, rfl⟩, ⟨rfl, en_crange.1, en_crange.2⟩, trivial⟩ hL (fun r229 I226 L227 R228 h230 => ⟨v1, fun n231 _ => lw_m (c := mlc_39) mlh_39 (by decide +kernel) rfl ⟨⟨rfl, rfl⟩, ⟨rfl, en_crange.1, en_crange.2⟩, trivial⟩ h230 (fun r235 I232 L233 R234 h236 => nx _ _ _ h236)⟩)⟩, fun _ => ⟨fun _ => ⟨v1, ⟨v2, ⟨v3, ⟨v4, fun n204 _ => fun n205 _ => fun n206 _ => fun n207 _ => lw_k (c := klc_262) klh_262 (by decide +kernel) rfl ⟨⟨rfl, rfl⟩, ⟨rfl, en_crange.1, en_crange.2⟩, ⟨rfl, en_crange.1, en_crange.2⟩, ⟨rfl, en_crange.1, en_crange.2⟩, ⟨rfl, en_crange.1, en_crange.2⟩, trivial⟩ hL (fun r211 I208 L209 R210 h212 => ⟨v1, ⟨v2, ⟨v3, ⟨v4, fun n213 _ => fun n214 _ => fun n215 _ => fun n216 _ => lw_m (c := mlc_54) mlh_54 (by decide +kernel) rfl ⟨⟨rfl, rfl⟩, ⟨rfl, en_crange.1, en_crange.2⟩, ⟨rfl, en_crange.1, en_crange.2⟩, ⟨rfl, en_crange.1, en_crange.2⟩, ⟨rfl, en_crange.1, en_crange.2⟩, trivial⟩ h212 (fun r220 I217 L218 R219 h221 => nx _ _ _ h221)⟩⟩⟩⟩)⟩⟩⟩⟩, fun _ => ⟨fun _ => lw_k (c := klc_231) klh_231 (by decide +kernel) rfl ⟨⟨rfl, rfl⟩, trivial⟩ hL (fun r194 I191 L192 R193 h195 => lw_m (c := mlc_34) mlh_34 (by decide +kernel) rfl ⟨⟨rfl, rfl⟩, trivial⟩ h195 (fun r199 I196 L197 R198 h200 => nx _ _ _ h200)), fun _ => ⟨fun _ => ⟨v1, ⟨v2, fun n174 _ => fun n175 _ => lw_k (c := klc_278) klh_278 (by decide +kernel) rfl ⟨⟨rfl, rfl⟩, ⟨rfl, en_crange.1, en_crange.2⟩, ⟨rfl, en_crange.1, en_crange.2⟩, trivial⟩ hL (fun r179 I176 L177 R178 h180 => ⟨v1, ⟨v2, fun n181 _ => fun n182 _ => lw_m (c := mlc_73) mlh_73 (by decide +kernel) rfl ⟨⟨rfl, rfl⟩, ⟨rfl, en_crange.1, en_crange.2⟩, ⟨rfl, en_crange.1, en_crange.2⟩, trivial⟩ h180 (fun r186 I183 L184 R185 h187 => nx _ _ _ h187)⟩⟩)⟩⟩, fun _ => ⟨fun _ => lw_k (c := klc_275) klh_275 (by decide +kernel) rfl ⟨⟨rfl, rfl⟩, trivial⟩ hL (fun r164 I161 L162 R163 h165 => lw_m (c := mlc_71) mlh_71 (by decide +kernel) rfl ⟨⟨rfl, rfl⟩, trivial⟩ h165 (fun r169 I166 L167 R168 h170 => nx _ _ _ h170)), fun _ => ⟨fun _ => ⟨v1, ⟨v2, ⟨v3, ⟨fun _ => fun n109 _ => fun n110 _ => lw_k (c := klc_276) klh_276 (by decide +kernel) rfl ⟨⟨rfl, rfl⟩, ⟨rfl, en_crange.1, en_crange.2⟩, ⟨rfl, en_crange.1, en_crange.2⟩, ⟨rfl, by decide, by decide⟩, trivial⟩ hL (fun r114 I111 L112 R113 h115 => ⟨v1, ⟨v2, ⟨v3, ⟨fun _ => fun n116 _ => fun n117 _ => lw_m (c := mlc_72) mlh_72 (by decide +kernel) rfl ⟨⟨rfl, rfl⟩, ⟨rfl, en_crange.1, en_crange.2⟩, ⟨rfl, en_crange.1, en_crange.2⟩, ⟨rfl, by decide, by decide⟩, trivial⟩ h115 (fun r121 I118 L119 R120 h122 => nx _ _ _ h122), fun _ => fun n124 _ => fun n125 _ => lw_m (c := mlc_72) mlh_72 (by decide +kernel) rfl ⟨⟨rfl, rfl⟩, ⟨rfl, en_crange.1, en_crange.2⟩, ⟨rfl, en_crange.1, en_crange.2⟩, ⟨rfl, by decide, by decide⟩, trivial⟩ h115 (fun r129 I126 L127 R128 h130 => nx _ _ _ h130)⟩⟩⟩⟩), fun _ => fun n134 _ => fun n135 _ => lw_k (c := klc_276) klh_276 (by decide +kernel) rfl ⟨⟨rfl, rfl⟩, ⟨rfl, en_crange.1, en_crange.2⟩, ⟨rfl, en_crange.1, en_crange.2⟩, ⟨rfl, by decide, by decide⟩, trivial⟩ hL (fun r139 I136 L137 R138 h140 => ⟨v1, ⟨v2, ⟨v3, ⟨fun _ => fun n141 _ => fun n142 _ => lw_m (c := mlc_72) mlh_72 (by decide +kernel) rfl ⟨⟨rfl, rfl⟩, ⟨rfl, en_crange.1, en_crange.2⟩, ⟨rfl, en_crange.1, en_crange.2⟩, ⟨rfl, by decide, by decide⟩, trivial⟩ h140 (fun r146 I143 L144 R145 h147 => nx _ _ _ h147), fun _ => fun n149 _ => fun n150 _ => lw_m (c := mlc_72) mlh_72 (by decide +kernel) rfl ⟨⟨rfl, rfl⟩, ⟨rfl, en_crange.1, en_crange.2⟩, ⟨rfl, en_crange.1, en_crange.2⟩, ⟨rfl, by decide, by decide⟩, trivial⟩ h140 (fun r154 I151 L152 R153 h155 => nx _ _ _ h155)⟩⟩⟩⟩)⟩⟩⟩⟩, fun _ => ⟨fun _ => ⟨v1, ⟨v2, ⟨v3, fun n90 _ => fun n91 _ => fun n92 _ => lw_k (c := klc_227) klh_227 (by decide +kernel) rfl ⟨⟨rfl, rfl⟩, ⟨rfl, en_crange.1, en_crange.2⟩, ⟨rfl, en_crange.1, en_crange.2⟩, ⟨rfl, en_crange.1, en_crange.2⟩, trivial⟩ hL (fun r96 I93 L94 R95 h97 => ⟨v1, ⟨v2, ⟨v3, fun n98 _ => fun n99 _ => fun n100 _ => lw_m (c := mlc_31) mlh_31 (by decide +kernel) rfl ⟨⟨rfl, rfl⟩, ⟨rfl, en_crange.1, en_crange.2⟩, ⟨rfl, en_crange.1, en_crange.2⟩, ⟨rfl, en_crange.1, en_crange.2⟩, trivial⟩ h97 (fun r104 I101 L102 R103 h105 => nx _ _ _ h105)⟩⟩⟩)⟩⟩⟩, fun _ => ⟨fun _ => lw_k (c := klc_238) klh_238 (by decide +kernel) rfl ⟨⟨rfl, rfl⟩, trivial⟩ hL (fun r80 I77 L78 R79 h81 => lw_m (c := mlc_43) mlh_43 (by decide +kernel) rfl ⟨⟨rfl, rfl⟩, trivial⟩ h81 (fun r85 I82 L83 R84 h86 => nx _ _ _ h86)), fun _ => ⟨fun _ => ⟨v1, fun n62 _ => lw_k (c := klc_200) klh_200 (by decide +kernel) rfl ⟨⟨rfl, rfl⟩, ⟨rfl, en_crange.1, en_crange.2⟩, trivial⟩ hL (fun r66 I63 L64 R65 h67 => ⟨v1, fun n68 _ => lw_m (c := mlc_76) mlh_76 (by decide +kernel) rfl ⟨⟨rfl, rfl⟩, ⟨rfl, en_crange.1, en_crange.2⟩, trivial⟩ h67 (fun r72 I69 L70 R71 h73 => nx _ _ _ h73)⟩)⟩, fun _ => ⟨fun _ => ⟨v1, fun n47 _ => lw_k (c := klc_246) klh_246 (by decide +kernel) rfl ⟨⟨rfl, rfl⟩, ⟨rfl, en_crange.1, en_crange.2⟩, trivial⟩ hL (fun r51 I48 L49 R50 h52 => ⟨v1, fun n53 _ => lw_m (c := mlc_50) mlh_50 (by decide +kernel) rfl ⟨⟨rfl, rfl⟩, ⟨rfl, en_crange.1, en_crange.2⟩, trivial⟩ h52 (fun r57 I54 L55 R56 h58 => nx _ _ _ h58)⟩)⟩, fun _ => ⟨fun _ => lw_k (c := klc_245) klh_245 (by decide +kernel) rfl ⟨⟨rfl, rfl⟩, trivial⟩ hL (fun r37 I34 L35 R36 h38 => lw_m (c := mlc_49) mlh_49 (by decide +kernel) rfl ⟨⟨rfl, rfl⟩, trivial⟩ h38 (fun r42 I39 L40 R41 h43 => nx _ _ _ h43)), fun _ => ⟨fun _ => ⟨v1, ⟨v2, fun n17 _ => fun n18 _ => lw_k (c := klc_243) klh_243 (by decide +kernel) rfl ⟨⟨rfl, rfl⟩, ⟨rfl, en_crange.1, en_crange.2⟩, ⟨rfl, en_crange.1, en_crange.2⟩, trivial⟩ hL (fun r22 I19 L20 R21 h23 => ⟨v1, ⟨v2, fun n24 _ => fun n25 _ => lw_m (c := mlc_47) mlh_47 (by decide +kernel) rfl ⟨⟨rfl, rfl⟩, ⟨rfl, en_crange.1, en_crange.2⟩, ⟨rfl, en_crange.1, en_crange.2⟩, trivial⟩ h23 (fun r29 I26 L27 R28 h30 => nx _ _ _ h30)⟩⟩)⟩⟩, fun _ => ⟨fun _ => ⟨v1, fun n2 _ => lw_k (c := klc_221) klh_221 (by decide +kernel) rfl ⟨⟨rfl, rfl⟩, ⟨rfl, en_crange.1, en_crange.2⟩, trivial⟩ hL (fun r6 I3 L4 R5 h7 => ⟨v1, fun n8 _ => lw_m (c := mlc_29) mlh_29 (by decide +kernel) rfl ⟨⟨rfl, rfl⟩, ⟨rfl, en_crange.1, en_crange.2⟩, trivial⟩ h7 (fun r12 I9 L10 R11 h13 => nx _ _ _ h13)⟩)⟩, fun _ => nx _ _ _ hL⟩⟩⟩⟩⟩⟩⟩⟩⟩⟩⟩⟩⟩⟩⟩⟩⟩⟩⟩⟩⟩⟩⟩⟩⟩⟩⟩⟩⟩⟩⟩⟩⟩⟩⟩⟩⟩⟩⟩⟩⟩⟩⟩⟩⟩⟩⟩⟩
theorem sm_main : sm_Main := by
  intro L ys hL
  refine lw_start (fun w k1 m1 z1 z2 z3 z4 => ?_)
  obtain ⟨lay, I, L', R⟩ := w
  obtain rfl : lay = xLay := k1.2.2.2.2.1
  exact lw_loop (S := (L, ys)) hL (fun _ => rfl) 4001 I L' R 0 ⟨k1, m1, by
    have z1 : I 0 10 = 0 := z1
    have z2 : I 107 2 = 0 := z2
    rw [z1, z2], fun j hj => by
    have z1 : I 0 10 = 0 := z1
    rw [z1] at hj
    have hj : (j : Int) < 0 := hj
    omega, by
    have z3 : I 0 11 = -1 := z3
    have z4 : I 107 17 = -1 := z4
    rw [z3, z4]⟩ (by decide) (by decide) (by decide)
