/-! the loop of listSets with nothing told, and what a run of the machine over intervals gives -/
noncomputable def ab_k1 : ab_K := fun r _ _ => match r with
  | some (0, .ofNat 1) => true
  | _ => false
noncomputable def ab_M0 : ab_M := (0, .leaf (0, 0, .leaf (0, 0)))
noncomputable def ab_l1 (vs : List ab_V) : Bool := match vs with
  | [_, (0, .ofNat 0), (0, _), (0, .ofNat n)] => ab_an (Nat.ble 1 n) (Nat.ble n 1024)
  | _ => false
noncomputable def ab_acc (f b : Nat) (vs : List ab_V) : Bool := ab_an (Nat.beq f 268) (ab_an (Nat.beq b 1) (ab_l1 vs))
theorem ls_loop {S : sm_C} {d : Nat} {v0 : Value} {s : Int32} {w : sm_W} {Φ : sm_Z → Prop} (hΦ : Φ (none, w)) : ∀ (m : Nat) (x : Int32), x.toInt + m = 1024 → 1 ≤ x.toInt → sm_wp sm_P S d 268 1 [v0, .int 0, .int s, .int x] [] w (0, 0) Φ := by
  intro m
  have e0 : (0 : Int32).toInt = 0 := by decide
  have e1024 : ((Int16.ofInt 1024).toInt32).toInt = 1024 := by decide
  have e1 : (Int32.ofInt 1).toInt = 1 := by decide
  induction m with
  | zero =>
    intro x hx h1
    refine sm_wp_step ?_
    refine ⟨fun _ => hΦ, fun q => ?_⟩
    exfalso
    apply q
    rw [Int32.le_iff_toInt_le, e1024]
    omega
  | succ m ih =>
    intro x hx h1
    refine sm_wp_step ?_
    refine ⟨fun _ => hΦ, fun q => ⟨fun q2 => ?_, fun _ => ?_⟩⟩
    · exfalso
      have q2 : x &&& (0 ^^^ Int32.ofInt (-1)) = 0 := q2
      have e2 : (0 ^^^ Int32.ofInt (-1) : Int32) = -1 := by decide
      rw [e2, Int32.and_neg_one] at q2
      rw [q2, e0] at h1
      omega
    · refine ih (x + Int32.ofInt 1) ?_ ?_
      · rw [Int32.toInt_add, e1, ab_bmod (r := x.toInt + 1) (by omega) (by omega) (Or.inl rfl)]
        omega
      · rw [Int32.toInt_add, e1, ab_bmod (r := x.toInt + 1) (by omega) (by omega) (Or.inl rfl)]
        omega
theorem ab_acc_ok {xs : Nat → Int32} {S : sm_C} : ab_accok xs sm_P S ab_acc := by
  intro d f b vs vs' w Φ h hv hΦ
  obtain ⟨h1, h'⟩ := ab_and2 h
  obtain ⟨h2, h3⟩ := ab_and2 h'
  clear h h'
  have h1 := ab_beq h1
  have h2 := ab_beq h2
  subst h1
  subst h2
  have h := h3
  clear h3
  unfold ab_l1 at h
  split at h
  · next a0 s n =>
    obtain ⟨q1, q2⟩ := ab_and2 h
    have q1 := ab_ble q1
    have q2 := ab_ble q2
    replace hv := ab_gs_cons hv; obtain ⟨v0, r, rfl, -, hv⟩ := hv
    replace hv := ab_gs_cons hv; obtain ⟨v1, r, rfl, g1, hv⟩ := hv
    replace hv := ab_gs_cons hv; obtain ⟨v2, r, rfl, g2, hv⟩ := hv
    replace hv := ab_gs_cons hv; obtain ⟨v3, r, rfl, g3, hv⟩ := hv
    have := ab_gs_nil hv
    subst this
    obtain ⟨x1, rfl, e1⟩ := ab_0_of rfl g1
    obtain ⟨x2, rfl, -⟩ := ab_0_of rfl g2
    obtain ⟨x3, rfl, e3⟩ := ab_0_of rfl g3
    have e3 : x3.toInt = (n : Int) := e3
    have e1 : x1 = 0 := ab_ofI (by rw [e1]; decide)
    subst e1
    exact ls_loop hΦ (1024 - n) x3 (by omega) (by omega)
  · cases h
def ab_rho (ys : Nat → Int32) : Nat → Int32 := fun k => if k = 6 then ys 0 &&& 63 else ys k
theorem ab_fin {L n : Nat} {E : ab_E} {ys : Nat → Int32} (hL : L ≤ 6) (h : ab_run L sm_P ab_acc n 60 307 0 [(2, .ofNat 1004)] [] ab_M0 E (0, 0) ab_k1 = true) (hE : ab_sat (ab_rho ys) E) : sm_wp sm_P (L, ys) 60 307 0 [.ref 1004] [] sm_w0 (0, 0) (fun z => z.1 = some (.int 1)) := by
  refine ab_run_ok (xs := ab_rho ys) (fun j hj => ?_) ?_ ab_acc_ok n _ _ _ _ _ _ _ _ _ _ _ _ _ h ⟨⟨rfl, rfl⟩, trivial⟩ trivial ⟨rfl, by decide, fun p hp => absurd hp (Nat.not_lt_zero p)⟩ hE ?_
  · unfold ab_rho
    rw [if_neg (by omega)]
  · rfl
  · intro r r' M w E' hk hr _ _
    unfold ab_k1 at hk
    split at hk
    · cases r' with
      | none => exact hr.elim
      | some v =>
        obtain ⟨x, rfl, e⟩ := ab_0_of rfl hr
        have : x = 1 := ab_ofI (by rw [e]; decide)
        subst this
        rfl
    · cases hk
theorem ab_rho6 (ys : Nat → Int32) : 0 ≤ (ab_rho ys 6).toInt ∧ (ab_rho ys 6).toInt ≤ 63 := by
  show 0 ≤ (ys 0 &&& 63).toInt ∧ (ys 0 &&& 63).toInt ≤ 63
  have h1 : (ys 0 &&& 63).toBitVec.toNat ≤ 63 := by
    rw [Int32.toBitVec_and, BitVec.toNat_and]
    exact Nat.and_le_right
  have h2 : (ys 0 &&& 63).toInt = ((ys 0 &&& 63).toBitVec.toNat : Int) := by
    show (ys 0 &&& 63).toBitVec.toInt = _
    rw [BitVec.toInt_eq_toNat_of_lt (by omega)]
  omega
theorem ab_satE {ys : Nat → Int32} {l0 h0 l1 h1 l2 h2 l6 h6 : Int} (q0 : l0 ≤ (ys 0).toInt ∧ (ys 0).toInt ≤ h0) (q1 : l1 ≤ (ys 1).toInt ∧ (ys 1).toInt ≤ h1) (q2 : l2 ≤ (ys 2).toInt ∧ (ys 2).toInt ≤ h2) (q6 : l6 ≤ (ab_rho ys 6).toInt ∧ (ab_rho ys 6).toInt ≤ h6) : ab_sat (ab_rho ys) [(l0, h0), (l1, h1), (l2, h2), ab_full, ab_full, ab_full, (l6, h6)] := by
  have F : ∀ x : Int32, ab_full.1 ≤ x.toInt ∧ x.toInt ≤ ab_full.2 := fun x => ab_crange
  intro k
  match k with
  | 0 => exact q0
  | 1 => exact q1
  | 2 => exact q2
  | 3 => exact F _
  | 4 => exact F _
  | 5 => exact F _
  | 6 => exact q6
  | k + 7 => exact F _
