/-! the reference's reader: both machines in step -/
section
variable (K : Nat → Int32) (P : Nat → Nat) (V W : Nat → Int64) (N : Nat → Int32) (c : Nat) (R0 : Option (Int32 × Nat)) (M0 : Option (Int32 × Nat) × sg)
/-- the grammar's mode m; what is meant so far, o (none: a fault of meaning is known) -/
def PX (m : mo) (o : Option sg) (I : sm_I) (L : sm_L) : Prop := PSm K P W N c R0 m I L ∧ match m with
  | none => True
  | some (t, s, _) => PEm K P V M0 (t, o.map (fun a => (s, a))) I
/-- a fault of meaning is known, at t or ahead of it -/
def PWx (x : Int32) (t : Nat) (I : sm_I) : Prop := I 107 13 = 0 → 0 < (I 107 15).toInt ∧ ∃ j, M0.1 = some (I 107 15, j) ∧ (I 107 16).toInt = P j ∧ (j < t ∨ (j = t ∧ ¬ x < I 107 15))
end
section
variable {K : Nat → Int32} {P : Nat → Nat} {V W : Nat → Int64} {N : Nat → Int32} {c : Nat} {R0 : Option (Int32 × Nat)} {M0 : Option (Int32 × Nat) × sg}
variable {S : sm_C} {d : Nat} {Φ : sm_Z → Prop} {I J : sm_I} {L : sm_L} {R : sm_R} {m : mo} {e : eo} {o : Option sg}
theorem PW_e {x : Int32} {t : Nat} (h : PWx P M0 x t I) : PEm K P V M0 (t + 1, none) I := fun z => by
  obtain ⟨h1, j, h2, h3, h4⟩ := h z
  exact ⟨h1, j, by omega, h2, h3⟩
theorem PE_W {x : Int32} {t u : Nat} (h : PEm K P V M0 (u, none) I) (hu : u ≤ t) : PWx P M0 x t I := fun z => by
  obtain ⟨h1, j, h2, h3, h4⟩ := h z
  exact ⟨h1, j, h3, h4, Or.inl (by omega)⟩
theorem PX_S (h : PX K P V W N c R0 M0 m o I L) : PSm K P W N c R0 m I L := h.1
theorem PX_F (h : PSm K P W N c R0 none I L) : PX K P V W N c R0 M0 none o I L := ⟨h, trivial⟩
theorem PX_up {p j : Nat} {x : Int32} (hp : p ≠ 107) (h4 : ¬ (110 ≤ p ∧ p ≤ 113)) (h : PX K P V W N c R0 M0 m o I L) : PX K P V W N c R0 M0 m o (sm_up I p j x) L := by
  refine ⟨PS_up hp h4 h.1, ?_⟩
  match m, h with
  | none, _ => trivial
  | some (t, s, g), h => exact PE_up hp h.2
theorem om {o o' : Option sg} {f : sg → sg} {a' : sg} (h : o' = none ∨ o' = o.map f) (q : o' = some a') : ∃ a, o = some a ∧ a' = f a := by
  rcases h with h | h
  · rw [h] at q; cases q
  · rw [h] at q
    cases e : o with
    | none => rw [e] at q; cases q
    | some a => rw [e] at q; exact ⟨a, rfl, (Option.some.inj q).symm⟩
/-- a fault of meaning -/
theorem x_wrong {x1 x2 : Int32} {t : Nat} (hT : TS K P V W N c) (hx : 0 < x1.toInt) (h2 : x2.toInt = t) (tc : t ≤ c) (t5 : t ≤ 500) (hS : PSm K P W N c R0 m I L) (hw : I 107 13 = 0 → (0 < (I 107 15).toInt ∧ ∃ j, M0.1 = some (I 107 15, j) ∧ (I 107 16).toInt = P j ∧ (j < t ∨ (j = t ∧ ¬ x1 < I 107 15))) ∨ ((I 107 15 = 0 ∨ (0 < (I 107 15).toInt ∧ ∃ j, t < j ∧ j ≤ c ∧ (I 107 16).toInt = P j)) ∧ M0.1 = some (x1, t))) (h : ∀ J : sm_I, xfr I J → J 107 11 = I 107 11 → PSm K P W N c R0 m J L → PWx P M0 x1 t J → Φ (none, (xLay, J, L, kM R))) : sm_wp sm_P S d 213 0 [.ref 107, .int x1, .int x2] [] (xLay, I, L, kM R) (0, 0) Φ := by
  have n2 := tk_nat h2
  have eP : (I 111 x2.toNatClampNeg).toInt = P t := by rw [n2]; exact (hS.1.1 t tc t5).2
  have same : (I 107 13 = 0 → 0 < (I 107 15).toInt ∧ ∃ j, M0.1 = some (I 107 15, j) ∧ (I 107 16).toInt = P j ∧ (j < t ∨ (j = t ∧ ¬ x1 < I 107 15))) → Φ (none, (xLay, I, L, kM R)) := fun q => h I xfr_rf rfl hS q
  have wr : I 107 13 = 0 → M0.1 = some (x1, t) → ∀ J : sm_I, J = sm_up (sm_up I 107 15 x1) 107 16 (I 111 x2.toNatClampNeg) → Φ (none, (xLay, J, L, kM R)) := by
    intro z hM J e
    have f : xfr I J := fun p j q => by rw [e, en_up_ne _ _ _ _ (by omega), en_up_ne _ _ _ _ (by omega)]
    have n11 : J 107 11 = I 107 11 := by rw [e, en_up_ne _ _ _ _ (by omega), en_up_ne _ _ _ _ (by omega)]
    have n13 : J 107 13 = I 107 13 := by rw [e, en_up_ne _ _ _ _ (by omega), en_up_ne _ _ _ _ (by omega)]
    have n14 : J 107 14 = I 107 14 := by rw [e, en_up_ne _ _ _ _ (by omega), en_up_ne _ _ _ _ (by omega)]
    have n15 : J 107 15 = x1 := by rw [e, en_up_ne _ _ _ _ (by omega), en_up_eq]
    have n16 : (J 107 16).toInt = P t := by rw [e, en_up_eq]; exact eP
    refine h J f n11 ?_ (fun _ => ⟨by rw [n15]; exact hx, t, by rw [n15]; exact hM, n16, Or.inr ⟨rfl, by rw [n15]; exact fun q => by rw [kl_lt] at q; omega⟩⟩)
    unfold PSm PFa at hS ⊢
    rw [n11, n13, n14]
    exact ⟨tx_fr hS.1 (fun p j _ _ => f p j (by omega)), hS.2⟩
  refine u_X12_wrong_0 ⟨kl_in (by omega) (by omega), fun a => same (fun z => ?_), fun a => ?_⟩
  · rw [z] at a; exact absurd a (by decide)
  · have z : I 107 13 = 0 := by
      have q := PS_f hS
      have a := kl_nlt a
      rw [kl_0] at a
      exact en_ofI (by rw [kl_0]; omega)
    have hw := hw z
    refine ⟨fun b => wr z ?_, fun b => ⟨fun l => same (fun _ => ?_), fun l => ⟨fun eq => ⟨fun lx => wr z ?_, fun lx => same (fun _ => ?_)⟩, fun ne => wr z ?_⟩⟩⟩
    · rcases hw with ⟨w1, -⟩ | w
      · rw [b, kl_0] at w1; omega
      · exact w.2
    · rcases hw with w | ⟨w1, w2⟩
      · exact w
      · exfalso
        rw [kl_lt, eP] at l
        rcases w1 with w1 | ⟨w1, j, j1, j2, j3⟩
        · exact b w1
        · have := hT.2.2.2.2.1 t j j1 j2
          omega
    · rcases hw with ⟨w1, j, j1, j2, j3⟩ | w
      · exfalso
        have q : (I 111 x2.toNatClampNeg).toInt = (I 107 16).toInt := by rw [eq]
        rcases j3 with j3 | j3
        · have := hT.2.2.2.2.1 j t j3 tc
          omega
        · exact j3.2 lx
      · exact w.2
    · rcases hw with w | ⟨w1, w2⟩
      · exact w
      · exfalso
        have q : (I 111 x2.toNatClampNeg).toInt = (I 107 16).toInt := by rw [eq]
        rcases w1 with w1 | ⟨w1, j, j1, j2, j3⟩
        · exact b w1
        · have := hT.2.2.2.2.1 t j j1 j2
          omega
    · rcases hw with ⟨w1, j, j1, j2, j3⟩ | w
      · exfalso
        have l := kl_nlt l
        rcases j3 with j3 | j3
        · have := hT.2.2.2.2.1 j t j3 tc
          omega
        · rw [j3.1] at j2
          exact ne (en_ofI (by omega))
      · exact w.2
/-! a TOKEN that must come -/
def mkx (s : Int32) (i : Nat) (ex : List Nat) : Bool := decide (s ≠ 0) && decide (i < 21) && decide (fw s (Int32.ofNat i) ≠ -1) && decide (i ≠ 9) && decide (i ≠ 13) && (List.range 22).all (fun j => decide (j = i) || decide (fw s (Int32.ofNat j) = -1) || ex.contains j)
theorem mkx_ok {s : Int32} {i : Nat} {ex : List Nat} (h : mkx s i ex = true) : s ≠ 0 ∧ i < 21 ∧ fw s (Int32.ofNat i) ≠ -1 ∧ i ≠ 9 ∧ i ≠ 13 ∧ ∀ j, j < 22 → j = i ∨ fw s (Int32.ofNat j) = -1 ∨ j ∈ ex := by
  unfold mkx at h
  simp only [Bool.and_eq_true, Bool.or_eq_true, List.all_eq_true, List.mem_range, decide_eq_true_eq, List.contains_iff_mem] at h
  obtain ⟨⟨⟨⟨⟨h1, h2⟩, h3⟩, h4⟩, h5⟩, h6⟩ := h
  exact ⟨h1, h2, h3, h4, h5, fun j hj => by rcases h6 j hj with (q | q) | q; exact Or.inl q; exact Or.inr (Or.inl q); exact Or.inr (Or.inr q)⟩
theorem i32n {i j : Nat} (hi : i < 22) (hj : j < 22) (h : Int32.ofNat i = Int32.ofNat j) : i = j := by
  have := congrArg Int32.toInt h
  rw [Int32.toInt_ofNat_of_lt (by omega), Int32.toInt_ofNat_of_lt (by omega)] at this
  omega
/-- within a tell, at a TOKEN that counts nothing -/
theorem gc_in {s : Int32} {i : Nat} {g : gc} (h0 : s ≠ 0) (hi : i < 21) (h9 : i ≠ 9) (h13 : i ≠ 13) (hg : g.alls ≤ 4 ∧ g.parts ≤ 3) : gc_st s (Int32.ofNat i) g = g ∧ gc_ok s (Int32.ofNat i) g = true ∧ ¬ ((Int32.ofNat i = 9 ∨ Int32.ofNat i = 13) ∧ g.tell = 12) ∧ Int32.ofNat i ≠ 21 := by
  have n9 : ¬ Int32.ofNat i = 9 := fun q => h9 (i32n (by omega) (by omega) (show Int32.ofNat i = Int32.ofNat 9 from q))
  have n13 : ¬ Int32.ofNat i = 13 := fun q => h13 (i32n (by omega) (by omega) (show Int32.ofNat i = Int32.ofNat 13 from q))
  have n21 : ¬ Int32.ofNat i = 21 := fun q => by have := i32n (by omega) (by omega) (show Int32.ofNat i = Int32.ofNat 21 from q); omega
  have st : gc_st s (Int32.ofNat i) g = g := by unfold gc_st; rw [if_neg (fun q => h0 q.1), if_neg n9, if_neg n13]
  refine ⟨st, ?_, fun q => q.1.elim n9 n13, n21⟩
  unfold gc_ok
  rw [if_neg (fun q => h0 q.1), st, decide_eq_true hg.1, decide_eq_true hg.2]; rfl
/-- what must come, whatever it means (PE as it was) -/
theorem x_must {i : Nat} {x : Int32} (ex : List Nat) (hT : TS K P V W N c) (hx : x = kd_m.getD i 0) (hS : PSm K P W N c R0 m I L) (hE : PEm K P V M0 e I) (hg : ∀ t s g, m = some (t, s, g) → mkx s i ex = true ∧ ∀ j, j ∈ ex → K t = Int32.ofNat j → (j = 9 ∨ j = 13) ∧ g.tell = 12) (h : ∀ (J : sm_I) (m' : mo), xfr I J → PSm K P W N c R0 m' J L → PEm K P V M0 e J → (m' = none ∨ ∃ t s g, m = some (t, s, g) ∧ t < c ∧ t < 500 ∧ K t = Int32.ofNat i ∧ m' = some (t + 1, fw s (Int32.ofNat i), g)) → Φ (none, (xLay, J, L, kM R))) : sm_wp sm_P S (d + 2) 165 0 [.ref 107, .int x] [] (xLay, I, L, kM R) (0, 0) Φ := by
  by_cases z : I 107 13 = 0
  · obtain ⟨t, s, g, em, h11, tc, t5, hs, hgk⟩ := PS_0 hS z
    obtain ⟨hmk, hex⟩ := hg t s g em
    obtain ⟨k1, k2, k3, k4, k5, k6⟩ := mkx_ok hmk
    have gk := hgk k1
    obtain ⟨q1, q2, q3, q4⟩ := gc_in k1 k2 k4 k5 gk
    refine u_X12_must_0 (x_is hT (by omega) hx hS (fun r _ hr => ⟨r, I, L, R, rfl, fun r0 => ?_, fun r1 => ?_⟩))
    · have nk : K t ≠ Int32.ofNat i := fun q => by
        have : ¬ r = 0 := hr.mpr ⟨t, s, g, em, q⟩
        exact this r0
      refine x_fail (by decide) hS hE (fun t' s' g' em' => ?_) (fun J f _ p q => ⟨J, L, R, rfl, h J none f p q (Or.inl rfl)⟩)
      obtain ⟨rfl, rfl, rfl⟩ : t = t' ∧ s = s' ∧ g = g' := by
        have q := Option.some.inj (em.symm.trans em')
        exact ⟨congrArg Prod.fst q, congrArg (fun x => x.2.1) q, congrArg (fun x => x.2.2) q⟩
      have hs := SY_s t5 hs
      have ef : gf s (K t) t g = 1 := by
        unfold gf
        rw [if_pos]
        obtain ⟨j, j1, j2⟩ := k_lt22 (hT.2.1 t).1 (hT.2.1 t).2
        rcases k6 j j1 with q | q | q
        · exact absurd (by rw [j2, q]) nk
        · exact Or.inl (by rw [j2]; exact q)
        · obtain ⟨y1, y2⟩ := hex j q j2
          refine Or.inr ⟨?_, y2⟩
          rcases y1 with y | y
          · left; rw [j2, y]; rfl
          · right; rw [j2, y]; rfl
      rw [ef, if_neg (by decide)] at hs
      exact hs.symm
    · obtain ⟨t', s', g', em', ek⟩ := hr.mp r1
      obtain ⟨rfl, rfl, rfl⟩ : t = t' ∧ s = s' ∧ g = g' := by
        have q := Option.some.inj (em.symm.trans em')
        exact ⟨congrArg Prod.fst q, congrArg (fun x => x.2.1) q, congrArg (fun x => x.2.2) q⟩
      refine x_go (k := Int32.ofNat i) hT hS hE (fun t' s' g' em' => ?_) (fun J m' f p q rel => ⟨J, L, R, rfl, h J m' f p q ?_⟩)
      · obtain ⟨rfl, rfl, rfl⟩ : t = t' ∧ s = s' ∧ g = g' := by
          have q := Option.some.inj (em.symm.trans em')
          exact ⟨congrArg Prod.fst q, congrArg (fun x => x.2.1) q, congrArg (fun x => x.2.2) q⟩
        exact ⟨ek, by rw [ek]; exact q4, k3, q3, q2, by rw [q1]; exact gk⟩
      · rcases rel with rel | ⟨t', s', g', em', b1, b2, b3⟩
        · exact Or.inl rel
        · obtain ⟨rfl, rfl, rfl⟩ : t = t' ∧ s = s' ∧ g = g' := by
            have q := Option.some.inj (em.symm.trans em')
            exact ⟨congrArg Prod.fst q, congrArg (fun x => x.2.1) q, congrArg (fun x => x.2.2) q⟩
          exact Or.inr ⟨t, s, g, em, b1, b2, ek, by rw [b3, q1]⟩
  · have em := PS_n0 hS z
    subst em
    refine u_X12_must_0 (u_X12_is_0 ⟨fun q => absurd q z, fun _ => ⟨0, I, L, R, rfl, fun _ => ?_, fun q => absurd rfl q⟩⟩)
    exact x_fail (by decide) hS hE (fun t s g q => by cases q) (fun J f _ p q => ⟨J, L, R, rfl, h J none f p q (Or.inl rfl)⟩)
/-- what means nothing by itself -/
theorem x_mustT {i : Nat} {x s0 : Int32} (ex : List Nat) (hT : TS K P V W N c) (hx : x = kd_m.getD i 0) (hm : mkx s0 i ex = true) (ht : ∀ (v : Int64) (a : sg), ms s0 (Int32.ofNat i) v a = (0, a)) (hX : PX K P V W N c R0 M0 m o I L) (hg : ∀ t s g, m = some (t, s, g) → s = s0 ∧ ∀ j, j ∈ ex → K t = Int32.ofNat j → (j = 9 ∨ j = 13) ∧ g.tell = 12) (h : ∀ (J : sm_I) (m' : mo), xfr I J → PX K P V W N c R0 M0 m' o J L → (m' = none ∨ ∃ t g, m = some (t, s0, g) ∧ t < c ∧ t < 500 ∧ K t = Int32.ofNat i ∧ m' = some (t + 1, fw s0 (Int32.ofNat i), g)) → Φ (none, (xLay, J, L, kM R))) : sm_wp sm_P S (d + 2) 165 0 [.ref 107, .int x] [] (xLay, I, L, kM R) (0, 0) Φ := by
  have hE : ∃ e, PEm K P V M0 e I ∧ ∀ t s g, m = some (t, s, g) → e = (t, o.map (fun a => (s, a))) := by
    match m, hX with
    | none, hX => exact ⟨(0, none), PE_n (PS_no hX.1), fun t s g q => by cases q⟩
    | some (t, s, g), hX =>
      refine ⟨_, hX.2, fun t' s' g' q => ?_⟩
      have q := Option.some.inj q
      have q1 : t = t' := congrArg Prod.fst q
      have q2 : s = s' := congrArg (fun x => x.2.1) q
      rw [← q1, ← q2]
  obtain ⟨e, hE, ee⟩ := hE
  obtain ⟨k1, k2, k3, k4, k5, k6⟩ := mkx_ok hm
  refine x_must ex hT hx hX.1 hE (fun t s g em => ⟨by rw [(hg t s g em).1]; exact hm, (hg t s g em).2⟩) (fun J m' f p q rel => h J m' f ?_ ?_)
  · refine ⟨p, ?_⟩
    rcases rel with rel | ⟨t, s, g, em, b1, b2, ek, b3⟩
    · subst rel; trivial
    · subst b3
      have es := (hg t s g em).1
      subst es
      rw [ee t s g em] at q
      have n21 : K t ≠ 21 := hT.2.2.2.1 t b1
      cases eo : o with
      | none =>
        rw [eo] at q
        exact PE_w q (Nat.le_succ t)
      | some a =>
        rw [eo] at q
        have := PE_st (by omega) n21 (by rw [ek]; exact ht (V t) a) q
        rw [ek] at this
        exact this
  · rcases rel with rel | ⟨t, s, g, em, b1, b2, ek, b3⟩
    · exact Or.inl rel
    · have es := (hg t s g em).1
      subst es
      exact Or.inr ⟨t, g, em, b1, b2, ek, b3⟩
end
