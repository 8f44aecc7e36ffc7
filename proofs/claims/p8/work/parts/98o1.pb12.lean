/-! the class's bears, exact, told = 12 (wip/pe/mkbears.py) -/
section
variable {S : sm_C} {d : Nat} {Φ : sm_Z → Prop} {I : sm_I} {L : sm_L} {R : sm_R}
theorem kD12_kP {R : sm_R} : kP 12 (kD12 R) = kD12 R := by
  funext x j
  show (match kPl.find? (fun t => Nat.beq t.1 x && Nat.beq t.2.1 j) with
    | some t => some t.2.2
    | none => bif Nat.beq x 0 && Nat.beq j 9 then some 12 else kD12 R x j) = kD12 R x j
  split
  · next t ht =>
    have mem := List.mem_of_find?_eq_some ht
    have pr := List.find?_some ht
    obtain ⟨p1, p2⟩ := Bool.and_eq_true_iff.mp pr
    rw [← Nat.eq_of_beq_eq_true p1, ← Nat.eq_of_beq_eq_true p2]
    simp only [kPl, List.mem_cons, List.mem_nil_iff, or_false] at mem
    rcases mem with e | e | e | e | e | e | e | e | e | e | e | e | e | e | e | e <;> subst e <;> rfl
  · cases e : (Nat.beq x 0 && Nat.beq j 9) with
    | false => rfl
    | true =>
      obtain ⟨p1, p2⟩ := Bool.and_eq_true_iff.mp e
      rw [Nat.eq_of_beq_eq_true p1, Nat.eq_of_beq_eq_true p2]
      rfl
theorem kD12_r : ∀ t, t ∈ kD12l → (t.1 = 0 ∧ t.2.1 = 9 ∧ t.2.2 = 12) ∨ en_refs kl_tb t.1 t.2.1 = [t.2.2] := by decide +kernel
theorem kD12_eq {w : sm_W} (hm : en_mem kl_tb klX w) (h : w.2.2.2 0 9 = some 12) : kD12 w.2.2.2 = w.2.2.2 := by
  funext x j
  unfold kD12
  split
  · next t ht =>
    have mem := List.mem_of_find?_eq_some ht
    have pr := List.find?_some ht
    obtain ⟨p1, p2⟩ := Bool.and_eq_true_iff.mp pr
    have e1 : t.1 = x := Nat.eq_of_beq_eq_true p1
    have e2 : t.2.1 = j := Nat.eq_of_beq_eq_true p2
    rcases kD12_r t mem with ⟨q1, q2, q3⟩ | q
    · rw [← e1, ← e2, q1, q2, q3]; exact h.symm
    · obtain ⟨a, g1, g2⟩ := hm.2.2.1 t.1 t.2.1 (by rw [q]; exact List.cons_ne_nil _ _)
      rw [q] at g1
      rw [← e1, ← e2, g2, List.mem_singleton.mp g1]
  · rfl
theorem b12_val {x o : Int32} (h0 : x.toInt < 0 ∨ 10 ≤ x.toInt → Φ (some (.int o), (xLay, I, L, kD12 R))) (h1 : 0 ≤ x.toInt → x.toInt < 10 → Φ (some (.int (I 38 x.toNatClampNeg)), (xLay, I, L, kD12 R))) : sm_wp sm_P S d 89 0 [.ref 38, .int x, .int o] [] (xLay, I, L, kD12 R) (0, 0) Φ := by
  have c : (Int32.ofNat 10).toInt = 10 := by decide
  refine pd12h_X11_valueAt_0 ⟨fun a => h0 (Or.inl ?_), fun a => ⟨fun b => h0 (Or.inr ?_), fun b => ⟨?_, h1 ?_ ?_⟩⟩⟩
  · have a := kl_lt.mp a
    rw [kl_0] at a; exact a
  · have b := kl_le.mp b
    omega
  · have a := kl_nlt a
    have b := kl_nle b
    rw [kl_0] at a
    exact kl_in a (by omega)
  · have a := kl_nlt a
    rw [kl_0] at a; exact a
  · have b := kl_nle b
    omega
theorem b12_row {x : Int32} (h0 : 0 ≤ x.toInt) (h1 : x.toInt < 120) (h : Φ (some (.int 1), (xLay, I, L, kD12 R))) : sm_wp sm_P S d 287 0 [.ref 24, .int x] [] (xLay, I, L, kD12 R) (0, 0) Φ := by
  have c : (Int32.ofNat 120).toInt = 120 := by decide
  refine pd12_X8_hasRow_0 ⟨fun a => ?_, fun _ => ⟨fun b => ?_, fun _ => h⟩⟩
  · have a := kl_lt.mp a
    rw [kl_0] at a; omega
  · have b := kl_le.mp b
    omega
theorem b12_set {x : Int32} {p : Nat} (hp : x.toInt = p) (p1 : p < 120) (bx : 0 ≤ (I 25 p).toInt ∧ (I 25 p).toInt ≤ 9) (bz : -1 ≤ (I 26 p).toInt ∧ (I 26 p).toInt ≤ 9) (h0 : ¬ bst (I 38) (I 25 p) (I 26 p) → Φ (some (.int 0), (xLay, I, L, kD12 R))) (h1 : bst (I 38) (I 25 p) (I 26 p) → Φ (some (.int 1), (xLay, I, L, kD12 R))) : sm_wp sm_P S (d + 1) 293 0 [.ref 24, .int x, .ref 38] [] (xLay, I, L, kD12 R) (0, 0) Φ := by
  have px := tk_nat hp
  have v : vp_in x 120 := kl_in (by omega) (by omega)
  refine pd12_X8_isSet_0 (b12_row (by omega) (by omega) ⟨_, I, L, rfl, fun z => absurd z (by decide), fun _ => ⟨v, ?_⟩⟩)
  rw [px]
  refine b12_val (fun c => by omega) (fun _ _ => ⟨_, I, L, rfl, fun e => h0 (fun k => k.1 e), fun e => ⟨v, ?_⟩⟩)
  refine ⟨fun e2 => h1 ⟨e, Or.inl e2⟩, fun e2 => ⟨v, ?_⟩⟩
  have b0 : 0 ≤ (I 26 p).toInt := by
    have : (I 26 p).toInt ≠ -1 := fun q => e2 (en_ofI (by rw [q]; decide))
    omega
  refine b12_val (fun c => by omega) (fun _ _ => ⟨_, I, L, rfl, fun e3 => h0 (fun k => k.2.elim e2 (fun q => q e3)), fun e3 => h1 ⟨e, Or.inr e3⟩⟩)
theorem b12_holds {x : Int32} {p : Nat} (hp : x.toInt = p) (p1 : p < 120) (bx : 0 ≤ (I 25 p).toInt ∧ (I 25 p).toInt ≤ 9) (bz : -1 ≤ (I 26 p).toInt ∧ (I 26 p).toInt ≤ 9) (h0 : ¬ bhd (I 38) (I 25 p) (I 26 p) (I 27 p) (I 28 p) → Φ (some (.int 0), (xLay, I, L, kD12 R))) (h1 : bhd (I 38) (I 25 p) (I 26 p) (I 27 p) (I 28 p) → Φ (some (.int 1), (xLay, I, L, kD12 R))) : sm_wp sm_P S (d + 1) 288 0 [.ref 24, .int x, .ref 38] [] (xLay, I, L, kD12 R) (0, 0) Φ := by
  have px := tk_nat hp
  have v : vp_in x 120 := kl_in (by omega) (by omega)
  refine pd12_X8_holds_0 (b12_row (by omega) (by omega) ⟨_, I, L, rfl, fun z => absurd z (by decide), fun _ => ⟨v, ?_⟩⟩)
  rw [px]
  have fin : ∀ r9 : Int32, r9 = (if I 26 p = -1 then 0 else I 38 (I 26 p).toNatClampNeg) → (vp_in x 120) ∧ (((I 38 (I 25 p).toNatClampNeg - r9) < (I 27 p) → Φ (some (.int (0 : Int32)), (xLay, I, L, (kD12 R)))) ∧ (¬ (I 38 (I 25 p).toNatClampNeg - r9) < (I 27 p) → (vp_in x 120) ∧ (((I 28 p) < (I 38 (I 25 p).toNatClampNeg - r9) → Φ (some (.int (0 : Int32)), (xLay, I, L, (kD12 R)))) ∧ (¬ (I 28 p) < (I 38 (I 25 p).toNatClampNeg - r9) → Φ (some (.int (1 : Int32)), (xLay, I, L, (kD12 R))))))) := fun r9 e9 => by
    unfold bhd at h0 h1
    rw [← e9] at h0 h1
    exact ⟨v, fun a => h0 (fun k => k.1 a), fun a => ⟨v, fun b => h0 (fun k => k.2 b), fun b => h1 ⟨a, b⟩⟩⟩
  refine b12_val (fun c => by omega) (fun _ _ => ⟨_, I, L, rfl, v, ?_⟩)
  refine b12_val (fun c => ⟨_, I, L, rfl, ?_⟩) (fun a b => ⟨_, I, L, rfl, ?_⟩)
  · have e2 : I 26 p = -1 := en_ofI (by rw [(by decide : (-1 : Int32).toInt = -1)]; omega)
    exact fin 0 (by rw [if_pos e2])
  · exact fin _ (by rw [if_neg (fun e2 => by rw [e2, (by decide : (-1 : Int32).toInt = -1)] at a; omega)])
def k12_st (I : sm_I) (n c i : Nat) : Prop := bst (I 38) (I 25 (12 * n + 3 * c + i)) (I 26 (12 * n + 3 * c + i))
def k12_hd (I : sm_I) (n c i : Nat) : Prop := bhd (I 38) (I 25 (12 * n + 3 * c + i)) (I 26 (12 * n + 3 * c + i)) (I 27 (12 * n + 3 * c + i)) (I 28 (12 * n + 3 * c + i))
/-- the spans of one choice -/
theorem b12_5 {x1 x2 x3 x4 : Int32} {n c : Nat} (hn : x1.toInt = n) (n1 : n < 10) (hc : x3.toInt = c) (c1 : c < 4) (h4 : x4.toInt = ((12 * n + 3 * c : Nat) : Int)) (b23 : 0 ≤ (I 23 (4 * n + c)).toInt ∧ (I 23 (4 * n + c)).toInt ≤ 3) (b25 : ∀ j, j < 120 → 0 ≤ (I 25 j).toInt ∧ (I 25 j).toInt ≤ 9) (b26 : ∀ j, j < 120 → -1 ≤ (I 26 j).toInt ∧ (I 26 j).toInt ≤ 9) (hb : ∀ i, i < (I 23 (4 * n + c)).toNatClampNeg → ¬ k12_st I n c i → Φ (some (.int (-4)), (xLay, I, L, kD12 R))) (hg : (∀ i, i < (I 23 (4 * n + c)).toNatClampNeg → k12_st I n c i) → ∀ v : Int32, ((v = x3 ∧ ∀ i, i < (I 23 (4 * n + c)).toNatClampNeg → k12_hd I n c i) ∨ (v = x2 ∧ ∃ i, i < (I 23 (4 * n + c)).toNatClampNeg ∧ ¬ k12_hd I n c i)) → sm_wp sm_P S (d + 2) 31 3 [.ref 0, .int x1, .int v, .int (x3 + (-1 : Int32))] [] (xLay, I, L, (kD12 R)) (0, 0) Φ) : ∀ (m i : Nat) (x5 x6 : Int32), x6.toInt = ((12 * n + 3 * c + i : Nat) : Int) → i + m = (I 23 (4 * n + c)).toNatClampNeg → (∀ j, j < i → k12_st I n c j) → ((x5 = 1 ∧ ∀ j, j < i → k12_hd I n c j) ∨ (x5 = 0 ∧ ∃ j, j < i ∧ ¬ k12_hd I n c j)) → sm_wp sm_P S (d + 2) 31 5 [.ref 0, .int x1, .int x2, .int x3, .int x4, .int x5, .int x6] [] (xLay, I, L, (kD12 R)) (0, 0) Φ := by
  have nn := kl_nat (i := I 23 (4 * n + c)) b23.1
  have m4 : (x1 * (4 : Int32)).toInt = (n : Int) * 4 := ml_mu hn (by decide) (by omega) (by omega)
  have s4 : ((x1 * (4 : Int32)) + x3).toInt = ((4 * n + c : Nat) : Int) := (ml_ad m4 hc (by omega) (by omega)).trans (by omega)
  have n4 := tk_nat s4
  have parts : ∀ Ψ : sm_Z → Prop, Ψ (some (.int (I 23 (4 * n + c))), (xLay, I, L, kD12 R)) → sm_wp sm_P S (d + 1) 23 0 [.ref 12, .int x1, .int x3] [] (xLay, I, L, (kD12 R)) (0, 0) Ψ := fun Ψ hΨ => by
    refine pd12_X10_partsOf_0 ⟨fun a => ?_, fun _ => ⟨fun a => ?_, fun _ => ⟨kl_in (by omega) (by omega), ?_⟩⟩⟩
    · have a := kl_lt.mp a
      rw [kl_0] at a; omega
    · have a := kl_le.mp a
      rw [(by decide : (Int32.ofNat 40).toInt = 40)] at a; omega
    · rw [n4]; exact hΨ
  have se : (x4 + I 23 (4 * n + c)).toInt = ((12 * n + 3 * c : Nat) : Int) + (I 23 (4 * n + c)).toInt := ml_ad h4 rfl (by omega) (by omega)
  intro m
  induction m with
  | zero =>
    intro i x5 x6 h6 hm hs hh
    refine pd12_X11_bears_5 (parts _ ⟨_, I, L, rfl, fun _ => ⟨fun z => ?_, fun z => ?_⟩, fun a => ?_⟩)
    · refine hg (fun j hj => hs j (by omega)) x2 (Or.inr ⟨rfl, ?_⟩)
      rcases hh with ⟨e, -⟩ | ⟨-, j, hj, hq⟩
      · rw [e] at z; exact absurd z (by decide)
      · exact ⟨j, by omega, hq⟩
    · refine hg (fun j hj => hs j (by omega)) x3 (Or.inl ⟨rfl, ?_⟩)
      rcases hh with ⟨-, q⟩ | ⟨e, -⟩
      · exact fun j hj => q j (by omega)
      · exact absurd e z
    · have a := kl_nle a
      omega
  | succ m ih =>
    intro i x5 x6 h6 hm hs hh
    have s6 := ml_in1 (x := x6) (by omega)
    have i6 : (x6 + 1).toInt = ((12 * n + 3 * c + (i + 1) : Nat) : Int) := by omega
    have p1 : 12 * n + 3 * c + i < 120 := by omega
    refine pd12_X11_bears_5 (parts _ ⟨_, I, L, rfl, fun a => ?_, fun _ => ?_⟩)
    · have a := kl_le.mp a
      omega
    refine b12_set h6 p1 (b25 _ p1) (b26 _ p1) (fun q => ⟨_, I, L, rfl, fun _ => hb i (by omega) q, fun z => absurd rfl z⟩) (fun q => ⟨_, I, L, rfl, fun z => absurd z (by decide), fun _ => ?_⟩)
    have hs' : ∀ j, j < i + 1 → k12_st I n c j := fun j hj => by
      rcases Nat.lt_or_ge j i with u | u
      · exact hs j u
      · have : j = i := by omega
        subst this; exact q
    rcases hh with ⟨e5, hh⟩ | ⟨e5, j, hj, hq⟩
    · refine ⟨fun z => absurd (e5.symm.trans z) (by decide), fun _ => ?_⟩
      refine b12_holds h6 p1 (b25 _ p1) (b26 _ p1) (fun g => ⟨_, I, L, rfl, fun _ => ?_, fun z => absurd rfl z⟩) (fun g => ⟨_, I, L, rfl, fun z => absurd z (by decide), fun _ => ?_⟩)
      · exact ih (i + 1) 0 _ i6 (by omega) hs' (Or.inr ⟨rfl, i, by omega, g⟩)
      · refine ih (i + 1) 1 _ i6 (by omega) hs' (Or.inl ⟨rfl, fun j hj => ?_⟩)
        rcases Nat.lt_or_ge j i with u | u
        · exact hh j u
        · have : j = i := by omega
          subst this; exact g
    · exact ⟨fun _ => ih (i + 1) 0 _ i6 (by omega) hs' (Or.inr ⟨rfl, j, by omega, hq⟩), fun z => absurd e5 z⟩
/-- the choices, from the last one on -/
theorem b12_3 {x1 : Int32} {n ch : Nat} (hn : x1.toInt = n) (n1 : n < 10) (hc : ch ≤ 4) (b23 : ∀ j, j < 40 → 0 ≤ (I 23 j).toInt ∧ (I 23 j).toInt ≤ 3) (b25 : ∀ j, j < 120 → 0 ≤ (I 25 j).toInt ∧ (I 25 j).toInt ≤ 9) (b26 : ∀ j, j < 120 → -1 ≤ (I 26 j).toInt ∧ (I 26 j).toInt ≤ 9) (h : ∀ v : Int32, BS ch (fun c => (I 23 (4 * n + c)).toNatClampNeg) (k12_st I n) (k12_hd I n) v → Φ (some (.int v), (xLay, I, L, kD12 R))) : ∀ (m : Nat) (x2 x3 : Int32), x3.toInt = (m : Int) - 1 → m ≤ ch → (∀ c, m ≤ c → c < ch → ∀ i, i < (I 23 (4 * n + c)).toNatClampNeg → k12_st I n c i) → ((∃ c, m ≤ c ∧ c < ch ∧ (∀ i, i < (I 23 (4 * n + c)).toNatClampNeg → k12_hd I n c i) ∧ (∀ c', m ≤ c' → c' < c → ∃ i, i < (I 23 (4 * n + c')).toNatClampNeg ∧ ¬ k12_hd I n c' i) ∧ x2 = Int32.ofNat c) ∨ ((∀ c, m ≤ c → c < ch → ∃ i, i < (I 23 (4 * n + c)).toNatClampNeg ∧ ¬ k12_hd I n c i) ∧ x2 = -2)) → sm_wp sm_P S (d + 2) 31 3 [.ref 0, .int x1, .int x2, .int x3] [] (xLay, I, L, (kD12 R)) (0, 0) Φ := by
  intro m
  induction m with
  | zero =>
    intro x2 x3 h3 hm hs hh
    refine pd12_X11_bears_3 ⟨fun _ => h x2 (Or.inr ⟨fun c hc => hs c (Nat.zero_le _) hc, ?_⟩), fun a => ?_⟩
    · rcases hh with ⟨c, -, q1, q2, q3, q4⟩ | ⟨q1, q2⟩
      · exact Or.inl ⟨c, q1, q2, fun c' hc' => q3 c' (Nat.zero_le _) hc', q4⟩
      · exact Or.inr ⟨fun c hc => q1 c (Nat.zero_le _) hc, q2⟩
    · have a := kl_nlt a
      rw [kl_0] at a; omega
  | succ m ih =>
    intro x2 x3 h3 hm hs hh
    have h3 : x3.toInt = (m : Int) := by omega
    have m4 : (x1 * (4 : Int32)).toInt = (n : Int) * 4 := ml_mu hn (by decide) (by omega) (by omega)
    have s4 : ((x1 * (4 : Int32)) + x3).toInt = (n : Int) * 4 + m := ml_ad m4 h3 (by omega) (by omega)
    have s12 : (((x1 * (4 : Int32)) + x3) * (3 : Int32)).toInt = ((12 * n + 3 * m : Nat) : Int) := (ml_mu s4 (by decide : (3 : Int32).toInt = 3) (by omega) (by omega)).trans (by omega)
    have ex3 : x3 = Int32.ofNat m := en_ofI (by rw [h3, Int32.toInt_ofNat_of_lt (by omega)])
    have pd : (x3 + (-1 : Int32)).toInt = (m : Int) - 1 := (ml_ad h3 (by decide : (-1 : Int32).toInt = -1) (by omega) (by omega)).trans (by omega)
    refine pd12_X11_bears_3 ⟨fun a => ?_, fun _ => pd12_X10_firstSpan_0 ⟨_, I, L, rfl, ?_⟩⟩
    · have a := kl_lt.mp a
      rw [kl_0] at a; omega
    refine b12_5 hn n1 h3 (by omega) s12 (b23 _ (by omega)) b25 b26 (fun i hi q => h _ (Or.inl ⟨m, by omega, i, hi, q, rfl⟩)) (fun hsm v hv => ih v _ pd (by omega) (fun c c1 c2 => ?_) ?_) _ 0 1 _ (by rw [s12]; omega) (Nat.zero_add _) (fun j hj => absurd hj (Nat.not_lt_zero j)) (Or.inl ⟨rfl, fun j hj => absurd hj (Nat.not_lt_zero j)⟩)
    · rcases Nat.lt_or_ge m c with u | u
      · exact hs c u c2
      · have : c = m := by omega
        subst this; exact hsm
    · rcases hv with ⟨ev, q⟩ | ⟨ev, q⟩
      · exact Or.inl ⟨m, Nat.le_refl _, by omega, q, fun c' a b => absurd b (by omega), by rw [ev, ex3]⟩
      · rcases hh with ⟨c, c1, c2, q1, q2, q3⟩ | ⟨q1, q2⟩
        · refine Or.inl ⟨c, by omega, c2, q1, fun c' a b => ?_, by rw [ev, q3]⟩
          rcases Nat.lt_or_ge m c' with u | u
          · exact q2 c' u b
          · have : c' = m := by omega
            subst this; exact q
        · refine Or.inr ⟨fun c a b => ?_, by rw [ev, q2]⟩
          rcases Nat.lt_or_ge m c with u | u
          · exact q1 c u b
          · have : c = m := by omega
            subst this; exact q
theorem b12_bears {x1 : Int32} (hb3 : (I 12 3).toInt ≤ 10) (b22 : ∀ j, j < 10 → 0 ≤ (I 22 j).toInt ∧ (I 22 j).toInt ≤ 4) (b23 : ∀ j, j < 40 → 0 ≤ (I 23 j).toInt ∧ (I 23 j).toInt ≤ 3) (b25 : ∀ j, j < 120 → 0 ≤ (I 25 j).toInt ∧ (I 25 j).toInt ≤ 9) (b26 : ∀ j, j < 120 → -1 ≤ (I 26 j).toInt ∧ (I 26 j).toInt ≤ 9) (h0 : ¬ (0 ≤ x1.toInt ∧ x1.toInt < (I 12 3).toInt) → Φ (some (.int (-1)), (xLay, I, L, kD12 R))) (h : ∀ n : Nat, x1.toInt = n → x1.toInt < (I 12 3).toInt → ∀ v : Int32, BS (I 22 n).toNatClampNeg (fun c => (I 23 (4 * n + c)).toNatClampNeg) (k12_st I n) (k12_hd I n) v → Φ (some (.int v), (xLay, I, L, kD12 R))) : sm_wp sm_P S (d + 2) 31 0 [.ref 0, .int x1] [] (xLay, I, L, (kD12 R)) (0, 0) Φ := by
  have g := kp_inS (S := S) (d := d + 1) (I := I) (L := L) (R := kD12 R) (q := 12) (x := x1) (Φ := fun z => ∃ (r3 : Int32) (I1 : sm_I) (L2 : sm_L), z = (some (.int r3), (xLay, I1, L2, (kD12 R))) ∧ ((r3 = 0 → Φ (some (.int (-1 : Int32)), (xLay, I1, L2, (kD12 R)))) ∧ (¬ r3 = 0 → (vp_in x1 10) ∧ ∀ n4 : Int32, n4 = ((I1 22 x1.toNatClampNeg) - (1 : Int32)) → sm_wp sm_P S (d + 1 + 1) 31 3 [.ref 0, .int x1, .int (-2 : Int32), .int n4] [] (xLay, I1, L2, (kD12 R)) (0, 0) Φ))) (by decide) (fun c => ⟨_, I, L, by rw [kD12_kP], fun _ => h0 c, fun z => absurd rfl z⟩) (fun a b => ⟨_, I, L, by rw [kD12_kP], fun z => absurd z (by decide), fun _ => ⟨kl_in a (by omega), fun n4 e4 => ?_⟩⟩)
  · rw [kD12_kP] at g
    exact pd12_X11_bears_0 g
  · have nx := kl_nat a
    have bn := b22 x1.toNatClampNeg (by omega)
    have nc := kl_nat bn.1
    refine b12_3 (n := x1.toNatClampNeg) (ch := (I 22 x1.toNatClampNeg).toNatClampNeg) (by omega) (by omega) (by omega) b23 b25 b26 (h x1.toNatClampNeg (by omega) b) (I 22 x1.toNatClampNeg).toNatClampNeg (-2) n4 ?_ (Nat.le_refl _) (fun c c1 c2 => absurd c2 (by omega)) (Or.inr ⟨fun c c1 c2 => absurd c2 (by omega), rfl⟩)
    rw [e4, Int32.toInt_sub, kl_1]
    exact en_bmod (by omega) (by omega) (Or.inl (by omega))
end
