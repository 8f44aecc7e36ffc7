/-! THE REFERENCE reads: modes. K: kinds of the TOKENS, P: their places, V: the class's longs, W: the reference's names, N: its INTS; c of them -/
def TS (K : Nat → Int32) (P : Nat → Nat) (V W : Nat → Int64) (N : Nat → Int32) (c : Nat) : Prop := c ≤ 501 ∧ (∀ i, 0 ≤ (K i).toInt ∧ (K i).toInt ≤ 21) ∧ (c ≤ 500 → K c = 21) ∧ (∀ i, i < c → K i ≠ 21) ∧ (∀ i j, i < j → j ≤ c → P i < P j) ∧ (∀ i, i < c → K i = 16 → ∃ v : Nat, v < 10000 ∧ (V i).toInt = v ∧ (N i).toInt = v) ∧ (∀ i j, i < c → j < c → K i = 15 → K j = 15 → (V i = V j ↔ W i = W j))
/-- the reference's rows of TOKENS -/
def tx (K : Nat → Int32) (P : Nat → Nat) (W : Nat → Int64) (N : Nat → Int32) (c : Nat) (I : sm_I) (L : sm_L) : Prop := (∀ i, i ≤ c → i ≤ 500 → I 110 i = kd_m.getD (K i).toNatClampNeg 0 ∧ (I 111 i).toInt = P i) ∧ (∀ i, i < c → i ≤ 500 → I 112 i = N i ∧ L 113 i = W i)
abbrev mo : Type := Option (Nat × Int32 × gc)
abbrev eo : Type := Nat × Option (Int32 × sg)
section
variable (K : Nat → Int32) (P : Nat → Nat) (V W : Nat → Int64) (N : Nat → Int32) (c : Nat) (R0 : Option (Int32 × Nat)) (M0 : Option (Int32 × Nat) × sg)
def PFa (I : sm_I) : Prop := 0 < (I 107 13).toInt ∧ ∃ j, R0 = some (I 107 13, j) ∧ (I 107 14).toInt = P j
def PSm (m : mo) (I : sm_I) (L : sm_L) : Prop := tx K P W N c I L ∧ 0 ≤ (I 107 11).toInt ∧ (I 107 11).toInt ≤ 500 ∧ match m with
  | none => PFa P R0 I
  | some (t, s, g) => I 107 13 = 0 ∧ (I 107 11).toInt = t ∧ t ≤ c ∧ SY K (501 - t) t s g = R0 ∧ (s ≠ 0 → g.alls ≤ 4 ∧ g.parts ≤ 3)
def PEm (e : eo) (I : sm_I) : Prop := I 107 13 = 0 → match e with
  | (t, none) => 0 < (I 107 15).toInt ∧ ∃ j, j < t ∧ M0.1 = some (I 107 15, j) ∧ (I 107 16).toInt = P j
  | (t, some (s, a)) => I 107 15 = 0 ∧ ME K V (501 - t) t s a = M0
end
/-- nothing but the reader's place, fault and worst -/
def xfr (I J : sm_I) : Prop := ∀ p j, ¬ (p = 107 ∧ (j = 11 ∨ j = 13 ∨ j = 14 ∨ j = 15 ∨ j = 16)) → J p j = I p j
theorem xfr_rf {I : sm_I} : xfr I I := fun _ _ _ => rfl
theorem xfr_tr {I J H : sm_I} (h : xfr I J) (g : xfr J H) : xfr I H := fun p j q => (g p j q).trans (h p j q)
/-- a word of the grammar, told by its number -/
theorem kd_inj : ∀ i, i < 22 → ∀ j, j < 22 → kd_m.getD i 0 = kd_m.getD j 0 → i = j := by decide +kernel
theorem kd_is {k : Int32} {i : Nat} (h0 : 0 ≤ k.toInt) (h1 : k.toInt ≤ 21) (hi : i < 22) : kd_m.getD k.toNatClampNeg 0 = kd_m.getD i 0 ↔ k = Int32.ofNat i := by
  have n := kl_nat h0
  constructor
  · intro h
    have e := kd_inj _ (by omega) i hi h
    refine en_ofI ?_
    rw [Int32.toInt_ofNat_of_lt (by omega)]; omega
  · intro h
    rw [h]
    have : (Int32.ofNat i).toNatClampNeg = i := tk_nat (Int32.toInt_ofNat_of_lt (by omega))
    rw [this]
theorem k_lt22 {k : Int32} (h0 : 0 ≤ k.toInt) (h1 : k.toInt ≤ 21) : ∃ i, i < 22 ∧ k = Int32.ofNat i := ⟨k.toNatClampNeg, by have := kl_nat h0; omega, en_ofI (by have n := kl_nat h0; rw [Int32.toInt_ofNat_of_lt (by omega)]; omega)⟩
section
variable {K : Nat → Int32} {P : Nat → Nat} {V W : Nat → Int64} {N : Nat → Int32} {c : Nat} {R0 : Option (Int32 × Nat)} {M0 : Option (Int32 × Nat) × sg}
variable {S : sm_C} {d : Nat} {Φ : sm_Z → Prop} {I J : sm_I} {L : sm_L} {R : sm_R} {m : mo} {e : eo}
theorem tx_fr (h : tx K P W N c I L) (f : ∀ p j, 110 ≤ p → p ≤ 113 → J p j = I p j) : tx K P W N c J L := ⟨fun i a b => by rw [f 110 i (by decide) (by decide), f 111 i (by decide) (by decide)]; exact h.1 i a b, fun i a b => by rw [f 112 i (by decide) (by decide)]; exact h.2 i a b⟩
theorem PS_f (h : PSm K P W N c R0 m I L) : 0 ≤ (I 107 13).toInt := by
  unfold PSm at h
  match m, h with
  | none, h => have := h.2.2.2.1; omega
  | some (t, s, g), h => rw [h.2.2.2.1]; decide
theorem PS_0 (h : PSm K P W N c R0 m I L) (z : I 107 13 = 0) : ∃ t s g, m = some (t, s, g) ∧ (I 107 11).toInt = t ∧ t ≤ c ∧ t ≤ 500 ∧ SY K (501 - t) t s g = R0 ∧ (s ≠ 0 → g.alls ≤ 4 ∧ g.parts ≤ 3) := by
  unfold PSm at h
  match m, h with
  | none, h =>
    have := h.2.2.2.1
    rw [z, kl_0] at this; omega
  | some (t, s, g), h => exact ⟨t, s, g, rfl, h.2.2.2.2.1, h.2.2.2.2.2.1, by have := h.2.2.2.2.1; have := h.2.2.1; omega, h.2.2.2.2.2.2⟩
theorem PS_le0 (h : PSm K P W N c R0 m I L) (z : I 107 13 ≤ 0) : I 107 13 = 0 := by
  have a := PS_f h
  have z := kl_le.mp z
  rw [kl_0] at z
  exact en_ofI (by rw [kl_0]; omega)
theorem PS_n0 (h : PSm K P W N c R0 m I L) (z : ¬ I 107 13 = 0) : m = none := by
  unfold PSm at h
  match m, h with
  | none, _ => rfl
  | some (t, s, g), h => exact absurd h.2.2.2.1 z
theorem PS_so {t : Nat} {s : Int32} {g : gc} (h : PSm K P W N c R0 (some (t, s, g)) I L) : I 107 13 = 0 := h.2.2.2.1
theorem PS_no (h : PSm K P W N c R0 none I L) : ¬ I 107 13 = 0 := fun z => by
  have := h.2.2.2.1
  rw [z, kl_0] at this; omega
/-- a cell of another row has changed -/
theorem PS_up {p j : Nat} {x : Int32} (hp : p ≠ 107) (h4 : ¬ (110 ≤ p ∧ p ≤ 113)) (h : PSm K P W N c R0 m I L) : PSm K P W N c R0 m (sm_up I p j x) L := by
  unfold PSm PFa at h ⊢
  rw [en_up_ne _ _ _ _ (by omega), en_up_ne _ _ _ _ (by omega), en_up_ne _ _ _ _ (by omega)]
  exact ⟨tx_fr h.1 (fun p' j' _ _ => en_up_ne _ _ _ _ (by omega)), h.2⟩
theorem PE_up {p j : Nat} {x : Int32} (hp : p ≠ 107) (h : PEm K P V M0 e I) : PEm K P V M0 e (sm_up I p j x) := by
  unfold PEm at h ⊢
  rw [en_up_ne _ _ _ _ (by omega), en_up_ne _ _ _ _ (by omega), en_up_ne _ _ _ _ (by omega)]
  exact h
theorem PE_cg (h : PEm K P V M0 e I) (z : J 107 13 = 0 → I 107 13 = 0) (e5 : J 107 15 = I 107 15) (e6 : J 107 16 = I 107 16) : PEm K P V M0 e J := by
  unfold PEm at h ⊢
  intro q
  rw [e5, e6]
  exact h (z q)
theorem PE_n (z : ¬ I 107 13 = 0) : PEm K P V M0 e I := fun q => absurd q z
/-- one step of the grammar -/
theorem SY_s {t : Nat} {s : Int32} {g : gc} (t5 : t ≤ 500) (h : SY K (501 - t) t s g = R0) : (if gf s (K t) t g = 0 then (if K t = 21 then none else SY K (501 - (t + 1)) (t + 1) (fw s (K t)) (gc_st s (K t) g)) else some (gf s (K t) t g, t)) = R0 := by
  rw [show 501 - t = (501 - (t + 1)) + 1 by omega] at h
  exact h
/-- one step of the meaning -/
theorem ME_s {t : Nat} {s : Int32} {a : sg} (t5 : t ≤ 500) (h : ME K V (501 - t) t s a = M0) : (if K t = 21 then (none, a) else if (ms s (K t) (V t) a).1 = 0 then ME K V (501 - (t + 1)) (t + 1) (fw s (K t)) (ms s (K t) (V t) a).2 else (some ((ms s (K t) (V t) a).1, t), a)) = M0 := by
  rw [show 501 - t = (501 - (t + 1)) + 1 by omega] at h
  exact h
theorem PE_st {t : Nat} {s : Int32} {a a' : sg} (t5 : t ≤ 500) (n21 : K t ≠ 21) (hs : ms s (K t) (V t) a = (0, a')) (h : PEm K P V M0 (t, some (s, a)) I) : PEm K P V M0 (t + 1, some (fw s (K t), a')) I := fun z => by
  obtain ⟨h1, h2⟩ := h z
  have h2 := ME_s t5 h2
  rw [if_neg n21, hs, if_pos rfl] at h2
  exact ⟨h1, h2⟩
theorem PE_w {t u : Nat} (h : PEm K P V M0 (t, none) I) (hu : t ≤ u) : PEm K P V M0 (u, none) I := fun z => by
  obtain ⟨h1, j, h2, h3⟩ := h z
  exact ⟨h1, j, by omega, h3⟩
theorem ME_f {t : Nat} {s f : Int32} {a a' : sg} (t5 : t ≤ 500) (n21 : K t ≠ 21) (hs : ms s (K t) (V t) a = (f, a')) (nf : f ≠ 0) (h : ME K V (501 - t) t s a = M0) : M0.1 = some (f, t) := by
  have h := ME_s t5 h
  rw [if_neg n21, hs, if_neg nf] at h
  rw [← h]
/-! what reads on -/
theorem x_is {i : Nat} {x : Int32} (hT : TS K P V W N c) (hi : i < 22) (hx : x = kd_m.getD i 0) (hS : PSm K P W N c R0 m I L) (h : ∀ r : Int32, (r = 0 ∨ r = 1) → (¬ r = 0 ↔ ∃ t s g, m = some (t, s, g) ∧ K t = Int32.ofNat i) → Φ (some (.int r), (xLay, I, L, kM R))) : sm_wp sm_P S d 143 0 [.ref 107, .int x] [] (xLay, I, L, kM R) (0, 0) Φ := by
  have bt := hS.2.1
  have bt2 := hS.2.2.1
  refine u_X12_is_0 ⟨fun a => ?_, fun a => h 0 (Or.inl rfl) ⟨fun z => absurd rfl z, fun ⟨t, s, g, q, _⟩ => absurd (by rw [q] at hS; exact PS_so hS) a⟩⟩
  obtain ⟨t, s, g, em, h11, tc, t5, hs, -⟩ := PS_0 hS a
  have nt := tk_nat h11
  have kr := hT.2.1 t
  have e110 := (hS.1.1 t tc t5).1
  refine ⟨kl_in bt (by omega), fun b => h 1 (Or.inr rfl) ⟨fun _ => ⟨t, s, g, em, ?_⟩, fun _ => by decide⟩, fun b => h 0 (Or.inl rfl) ⟨fun z => absurd rfl z, fun ⟨t', s', g', q, k⟩ => ?_⟩⟩
  · rw [nt, e110, hx] at b
    exact (kd_is kr.1 kr.2 hi).mp b
  · rw [em] at q
    have q := congrArg Prod.fst (Option.some.inj q)
    have q : t = t' := q
    subst q
    exfalso
    apply b
    rw [nt, e110, hx]
    exact (kd_is kr.1 kr.2 hi).mpr k
theorem x_fail {x : Int32} (hx : 0 < x.toInt) (hS : PSm K P W N c R0 m I L) (hE : PEm K P V M0 e I) (hg : ∀ t s g, m = some (t, s, g) → R0 = some (x, t)) (h : ∀ J : sm_I, xfr I J → J 107 11 = I 107 11 → PSm K P W N c R0 none J L → PEm K P V M0 e J → Φ (none, (xLay, J, L, kM R))) : sm_wp sm_P S d 123 0 [.ref 107, .int x] [] (xLay, I, L, kM R) (0, 0) Φ := by
  have bt := hS.2.1
  have bt2 := hS.2.2.1
  have g11 : (sm_up I 107 13 x) 107 11 = I 107 11 := en_up_ne _ _ _ _ (by omega)
  refine u_X12_fail_0 ⟨fun a => ⟨by rw [g11]; exact kl_in bt (by omega), fun n1 e1 I2 e2 => ?_⟩, fun a => ?_⟩
  · obtain ⟨t, s, g, em, h11, tc, t5, hs, -⟩ := PS_0 hS (PS_le0 hS a)
    have nt := tk_nat h11
    rw [g11, nt, en_up_ne _ _ _ _ (by omega)] at e1
    have f2 : xfr I I2 := fun p j q => by rw [e2, en_up_ne _ _ _ _ (by omega), en_up_ne _ _ _ _ (by omega)]
    have n13 : I2 107 13 = x := by rw [e2, en_up_ne _ _ _ _ (by omega), en_up_eq]
    have n11 : I2 107 11 = I 107 11 := by rw [e2, en_up_ne _ _ _ _ (by omega), g11]
    have nz : ¬ I2 107 13 = 0 := fun z => by rw [n13] at z; rw [z, kl_0] at hx; omega
    refine h I2 f2 n11 ⟨tx_fr hS.1 (fun p j _ _ => f2 p j (by omega)), by rw [n11]; exact bt, by rw [n11]; exact bt2, by rw [n13]; exact hx, t, ?_, ?_⟩ (PE_n nz)
    · rw [n13]; exact hg t s g em
    · rw [e2, en_up_eq, e1]; exact (hS.1.1 t tc t5).2
  · have nz : ¬ I 107 13 = 0 := fun z => a (by rw [z]; decide)
    have := PS_n0 hS nz
    subst this
    exact h I xfr_rf rfl hS hE
/-- it goes on, or that was TOKEN 501 -/
theorem x_go {k : Int32} (hT : TS K P V W N c) (hS : PSm K P W N c R0 m I L) (hE : PEm K P V M0 e I) (hg : ∀ t s g, m = some (t, s, g) → K t = k ∧ K t ≠ 21 ∧ fw s k ≠ -1 ∧ ¬ ((k = 9 ∨ k = 13) ∧ g.tell = 12) ∧ gc_ok s k g = true ∧ (gc_st s k g).alls ≤ 4 ∧ (gc_st s k g).parts ≤ 3) (h : ∀ (J : sm_I) (m' : mo), xfr I J → PSm K P W N c R0 m' J L → PEm K P V M0 e J → (m' = none ∨ ∃ t s g, m = some (t, s, g) ∧ t < c ∧ t < 500 ∧ m' = some (t + 1, fw s k, gc_st s k g)) → Φ (none, (xLay, J, L, kM R))) : sm_wp sm_P S (d + 1) 136 0 [.ref 107] [] (xLay, I, L, kM R) (0, 0) Φ := by
  have bt := hS.2.1
  have bt2 := hS.2.2.1
  have c500 : (500 : Int32).toInt = 500 := by decide
  refine u_X12_goesOn_0 ⟨fun a => x_fail (by decide) hS hE (fun t s g em => ?_) (fun J f _ p q => ⟨J, L, R, rfl, h J none f p q (Or.inl rfl)⟩), fun a I1 e1 => ?_⟩
  · obtain ⟨g1, g2, g3, g4, g5, -⟩ := hg t s g em
    rw [em] at hS
    obtain ⟨t', s', g', em', h11, tc, t5, hs, -⟩ := PS_0 hS (PS_so hS)
    obtain ⟨rfl, rfl, rfl⟩ : t = t' ∧ s = s' ∧ g = g' := by
      have q := Option.some.inj em'
      exact ⟨congrArg Prod.fst q, congrArg (fun x => x.2.1) q, congrArg (fun x => x.2.2) q⟩
    have t500 : 500 ≤ t := by rw [a, c500] at h11; omega
    have hs := SY_s t5 hs
    have ef : gf s (K t) t g = 2 := by
      unfold gf
      rw [if_neg (by rw [g1]; exact fun z => z.elim (fun y => g3 y) (fun y => g4 y)), if_neg g2, if_pos t500]
    rw [ef, if_neg (by decide)] at hs
    exact hs.symm
  · have a' : (I 107 11).toInt ≠ 500 := fun q => a (en_ofI (by rw [q, c500]))
    have s1 := ml_in1 (x := I 107 11) (by omega)
    have f1 : xfr I I1 := fun p j q => by rw [e1, en_up_ne _ _ _ _ (by omega)]
    have n11 : (I1 107 11).toInt = (I 107 11).toInt + 1 := by rw [e1, en_up_eq]; exact s1
    have n13 : I1 107 13 = I 107 13 := by rw [e1, en_up_ne _ _ _ _ (by omega)]
    have n14 : I1 107 14 = I 107 14 := by rw [e1, en_up_ne _ _ _ _ (by omega)]
    have hE1 : PEm K P V M0 e I1 := PE_cg hE (fun z => by rw [n13] at z; exact z) (by rw [e1, en_up_ne _ _ _ _ (by omega)]) (by rw [e1, en_up_ne _ _ _ _ (by omega)])
    have tx1 : tx K P W N c I1 L := tx_fr hS.1 (fun p j _ _ => f1 p j (by omega))
    by_cases z : I 107 13 = 0
    · obtain ⟨t, s, g, em, h11, tc, t5, hs, -⟩ := PS_0 hS z
      obtain ⟨g1, g2, g3, g4, g5, g6⟩ := hg t s g em
      have hs := SY_s t5 hs
      have tl : t < 500 := by omega
      have ef : gf s (K t) t g = 0 := by
        unfold gf
        rw [if_neg (by rw [g1]; exact fun z => z.elim (fun y => g3 y) (fun y => g4 y)), if_neg g2, if_neg (by omega), g1, if_pos g5]
      rw [ef, if_pos rfl, if_neg g2, g1] at hs
      have tl2 : t < c := by
        rcases Nat.lt_or_ge t c with q | q
        · exact q
        · have : t = c := by omega
          subst this
          exact absurd (hT.2.2.1 (by omega)) g2
      exact h I1 (some (t + 1, fw s k, gc_st s k g)) f1 ⟨tx1, by omega, by omega, by rw [n13]; exact z, by omega, by omega, hs, fun _ => g6⟩ hE1 (Or.inr ⟨t, s, g, em, tl2, tl, rfl⟩)
    · have em := PS_n0 hS z
      subst em
      refine h I1 none f1 ⟨tx1, by omega, by omega, ?_⟩ hE1 (Or.inl rfl)
      have q : PFa P R0 I := hS.2.2.2
      show PFa P R0 I1
      unfold PFa at q ⊢
      rw [n13, n14]; exact q
end
