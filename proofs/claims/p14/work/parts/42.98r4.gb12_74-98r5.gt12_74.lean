section
/-! the class's begin, exact; told = 12, going = 74, not hard (wip/pe/mkg2.py) -/
section
variable {S : sm_C} {d : Nat} {Φ : sm_Z → Prop} {I : sm_I} {L : sm_L} {R : sm_R}
def g12_74_h (I J : sm_I) : Prop := ∀ p q, p ≠ 76 → ¬ (p = 74 ∧ q = 12) → J p q = I p q
theorem g12_74_Bh {n : Nat} {I J : sm_I} (h : g12_74_h I J) (b : g12_74_B I n) : g12_74_B J n ∧ g12_74_hd J = g12_74_hd I := by
  obtain ⟨b1, b2, b3, b4, b5⟩ := b
  refine ⟨⟨by rw [h 75 4 (by omega) (by omega)]; exact b1, b2, b3, by rw [h 75 5 (by omega) (by omega)]; exact b4, fun i hi => by rw [h 77 i (by omega) (by omega), h 78 i (by omega) (by omega), h 79 i (by omega) (by omega)]; exact b5 i hi⟩, ?_⟩
  funext c
  unfold g12_74_hd
  rw [h 77 c.1 (by omega) (by omega), h 77 c.2.1 (by omega) (by omega), h 79 c.1 (by omega) (by omega), h 78 c.2.1 (by omega) (by omega)]
def g12_74_st (n : Nat) (A C : List tC) (J : sm_I) : Prop := (J 74 12 = 0 ∧ tno n A) ∨ (J 74 12 = 1 ∧ ttop n C (g12_74_T J n 0))
theorem g12_74_b17 {n M : Nat} {I0 : sm_I} {C : List tC} (B : g12_74_B I0 n) (hM : (I0 37 1).toInt = M) (M6 : M ≤ 6) (ok : ∀ k, k < M → kmok I0 n k) (h : ∀ J, g12_74_h I0 J → g12_74_st n (kmoL I0 (g12_74_hd I0) M ++ C) (kmoL I0 (g12_74_hd I0) M ++ C) J → Φ (none, (xLay, J, L, kG12_74 R))) : ∀ (m i : Nat) (x4 : Int32) (J : sm_I), x4.toInt = i → i + m = M → g12_74_h I0 J → g12_74_st n (kmoL I0 (g12_74_hd I0) M ++ C) (kmoL I0 (g12_74_hd I0) i ++ C) J → sm_wp sm_P S (d + 3) 230 17 [.ref 74, .ref 40, .int x4] [] (xLay, J, L, kG12_74 R) (0, 0) Φ := by
  have nn : n * n ≤ 144 := Nat.le_trans (Nat.mul_le_mul B.2.2.1 B.2.2.1) (by decide)
  intro m
  induction m with
  | zero =>
    intro i x4 J h4 hm fh st
    have e1 : J 37 1 = I0 37 1 := fh 37 1 (by omega) (by omega)
    have ei : i = M := by omega
    subst ei
    refine pg12_74_X2_layBase_17 (d := d + 2) ⟨fun _ => h J fh st, fun a => ?_⟩
    have a := kl_nle a
    rw [e1] at a
    omega
  | succ m ih =>
    intro i x4 J h4 hm fh st
    have e1 : J 37 1 = I0 37 1 := fh 37 1 (by omega) (by omega)
    have s4 := ml_in1 (x := x4) (by omega)
    have v : vp_in x4 6 := kl_in (by omega) (by omega)
    have o0 : ∀ (K : sm_I) (x : Int32), g12_74_h I0 K → g12_74_h I0 (sm_up K 74 12 x) := fun K x q a b c1 c2 => (en_up_ne _ _ _ _ c2).trans (q a b c1 c2)
    have t0 : ∀ (K : sm_I) (x : Int32), g12_74_T (sm_up K 74 12 x) n 0 = g12_74_T K n 0 := fun K x => by
      funext a b
      unfold g12_74_T
      rw [en_up_ne _ _ _ _ (by omega)]
    refine pg12_74_X2_layBase_17 (d := d + 2) ⟨fun a => ?_, fun _ => ⟨fun e => ?_, fun e => ⟨v, v, v, v, ?_⟩⟩⟩
    · have a := kl_le.mp a
      rw [e1] at a
      omega
    · rcases st with ⟨-, st⟩ | ⟨st, -⟩
      · exact ih (i + 1) _ _ (by omega) (by omega) (o0 J 0 fh) (Or.inl ⟨en_up_eq _ _ _ _, st⟩)
      · rw [e] at st; exact absurd st (by decide)
    rcases st with ⟨st, -⟩ | ⟨-, T⟩
    · exact absurd st e
    obtain ⟨k1, k2, k3, k4⟩ := ok i (by omega)
    have n11 := B.2.2.1
    obtain ⟨Bj, ej⟩ := g12_74_Bh fh B
    rw [tk_nat h4, fh 41 i (by omega) (by omega), fh 42 i (by omega) (by omega), fh 43 i (by omega) (by omega), fh 44 i (by omega) (by omega)]
    refine g12_74_bind (d := d) (lev := 0) Bj (by omega) (by omega) kl_0 (i := nd (I0 41 i)) (j := nd (I0 42 i)) (by rw [ml_in1 (by omega)]; unfold nd; omega) (by rw [ml_in1 (by omega)]; unfold nd; omega) (by unfold nd; omega) (by unfold nd; omega) (by omega) (by omega) (by omega) (by omega) T (fun r J2 q => ⟨r, J2, L, rfl, ?_⟩)
    rw [ej] at q
    have eC : bC (g12_74_hd I0) (nd (I0 41 i)) (nd (I0 42 i)) (I0 43 i).toInt (I0 44 i).toInt ++ (kmoL I0 (g12_74_hd I0) i ++ C) = kmoL I0 (g12_74_hd I0) (i + 1) ++ C := by rw [← List.append_assoc]; rfl
    rw [eC] at q
    obtain ⟨cg2, q⟩ := q
    have fh2 : g12_74_h I0 J2 := fun a b c1 c2 => (cg2 a b (by omega)).trans (fh a b c1 c2)
    refine ⟨fun r0 => ?_, fun r0 => ?_⟩
    · rcases q with ⟨-, q⟩ | ⟨q, -⟩
      · refine ih (i + 1) _ _ (by omega) (by omega) (o0 J2 0 fh2) (Or.inl ⟨en_up_eq _ _ _ _, tno_cg (fun c hc => ?_) q⟩)
        rcases List.mem_append.mp hc with hc | hc
        · exact List.mem_append.mpr (Or.inl (kmoL_le (i + 1) M (by omega) hc))
        · exact List.mem_append.mpr (Or.inr hc)
      · rw [r0] at q; exact absurd q (by decide)
    · rcases q with ⟨q, -⟩ | ⟨-, q⟩
      · exact absurd q r0
      · exact ih (i + 1) _ _ (by omega) (by omega) (o0 J2 1 fh2) (Or.inr ⟨en_up_eq _ _ _ _, by rw [t0]; exact q⟩)
theorem g12_74_b1 {n M N : Nat} {I0 : sm_I} (B : g12_74_B I0 n) (soft : I0 74 1 = 0) (hM : (I0 37 1).toInt = M) (M6 : M ≤ 6) (ok : ∀ k, k < M → kmok I0 n k) (hN : (I0 12 2).toInt = N) (N10 : N ≤ 10) (Nn : N + 1 ≤ n) (okN : ∀ k, k < N → kopk 12 I0 n k) (h : ∀ J, g12_74_h I0 J → g12_74_st n (kmoL I0 (g12_74_hd I0) M ++ kopL 12 I0 (g12_74_hd I0) N) (kmoL I0 (g12_74_hd I0) M ++ kopL 12 I0 (g12_74_hd I0) N) J → Φ (none, (xLay, J, L, kG12_74 R))) : ∀ (m i : Nat) (x3 : Int32) (J : sm_I), x3.toInt = i → i + m = N → g12_74_h I0 J → g12_74_st n (kopL 12 I0 (g12_74_hd I0) N) (kopL 12 I0 (g12_74_hd I0) i) J → sm_wp sm_P S (d + 3) 230 1 [.ref 74, .ref 16, .int x3] [] (xLay, J, L, kG12_74 R) (0, 0) Φ := by
  have nn : n * n ≤ 144 := Nat.le_trans (Nat.mul_le_mul B.2.2.1 B.2.2.1) (by decide)
  intro m
  induction m with
  | zero =>
    intro i x3 J h3 hm fh st
    have e1 : J 12 2 = I0 12 2 := fh 12 2 (by omega) (by omega)
    have ei : i = N := by omega
    subst ei
    refine pg12_74_X2_layBase_1 (d := d + 2) ⟨fun _ => g12_74_b17 (d := d) B hM M6 ok h M 0 0 J (by decide) (by omega) fh ?_, fun a => ?_⟩
    · rcases st with ⟨s1, s2⟩ | ⟨s1, s2⟩
      · exact Or.inl ⟨s1, tno_cg (fun c hc => List.mem_append.mpr (Or.inr hc)) s2⟩
      · exact Or.inr ⟨s1, s2⟩
    · have a := kl_nle a
      rw [e1] at a
      omega
  | succ m ih =>
    intro i x3 J h3 hm fh st
    have e1 : J 12 2 = I0 12 2 := fh 12 2 (by omega) (by omega)
    have es : J 74 1 = 0 := (fh 74 1 (by omega) (by omega)).trans soft
    have s3 := ml_in1 (x := x3) (by omega)
    have v : vp_in x3 10 := kl_in (by omega) (by omega)
    have o0 : ∀ (K : sm_I) (x : Int32), g12_74_h I0 K → g12_74_h I0 (sm_up K 74 12 x) := fun K x q a b c1 c2 => (en_up_ne _ _ _ _ c2).trans (q a b c1 c2)
    have t0 : ∀ (K : sm_I) (x : Int32), g12_74_T (sm_up K 74 12 x) n 0 = g12_74_T K n 0 := fun K x => by
      funext a b
      unfold g12_74_T
      rw [en_up_ne _ _ _ _ (by omega)]
    refine pg12_74_X2_layBase_1 (d := d + 2) ⟨fun a => ?_, fun _ => ⟨v, ?_⟩⟩
    · have a := kl_le.mp a
      rw [e1] at a
      omega
    rw [tk_nat h3, fh 18 i (by omega) (by omega)]
    have eL : kopL 12 I0 (g12_74_hd I0) (i + 1) = kopC 12 I0 (g12_74_hd I0) i ++ kopL 12 I0 (g12_74_hd I0) i := rfl
    refine ⟨fun e => ?_, fun e => ⟨fun _ => ⟨fun e2 => ?_, fun e2 => ⟨v, v, v, ?_⟩⟩, fun q => absurd es q⟩⟩
    · have eC : kopC 12 I0 (g12_74_hd I0) i = [] := if_pos e
      rw [eC] at eL
      refine ih (i + 1) _ J (by omega) (by omega) fh ?_
      rcases st with st | ⟨s1, s2⟩
      · exact Or.inl st
      · exact Or.inr ⟨s1, by rw [eL]; exact s2⟩
    · rcases st with ⟨-, st⟩ | ⟨st, -⟩
      · exact ih (i + 1) _ _ (by omega) (by omega) (o0 J 0 fh) (Or.inl ⟨en_up_eq _ _ _ _, st⟩)
      · rw [e2] at st; exact absurd st (by decide)
    rcases st with ⟨st, -⟩ | ⟨-, T⟩
    · exact absurd st e2
    obtain ⟨k1, k2, k3⟩ := okN i (by omega) e
    have k1 : 0 ≤ (I0 18 i).toInt ∧ (I0 18 i).toInt + 1 < n := k1
    have k2 : -1440 ≤ (I0 19 i).toInt ∧ (I0 19 i).toInt ≤ 1440 := k2
    have k3 : -1440 ≤ (I0 20 i).toInt ∧ (I0 20 i).toInt ≤ 1440 := k3
    have n11 := B.2.2.1
    obtain ⟨Bj, ej⟩ := g12_74_Bh fh B
    rw [fh 19 i (by omega) (by omega), fh 20 i (by omega) (by omega)]
    refine g12_74_bind (d := d) (lev := 0) Bj (by omega) (by omega) kl_0 (i := i + 1) (j := nd (I0 18 i)) (by rw [s3]; omega) (by rw [ml_in1 (by omega)]; unfold nd; omega) (by omega) (by unfold nd; omega) (by omega) (by omega) (by omega) (by omega) T (fun r J2 q => ⟨r, J2, L, rfl, ?_⟩)
    rw [ej] at q
    have eC : kopC 12 I0 (g12_74_hd I0) i = bC (g12_74_hd I0) (i + 1) (nd (I0 18 i)) (I0 19 i).toInt (I0 20 i).toInt := if_neg e
    rw [← eC, ← eL] at q
    obtain ⟨cg2, q⟩ := q
    have fh2 : g12_74_h I0 J2 := fun a b c1 c2 => (cg2 a b (by omega)).trans (fh a b c1 c2)
    refine ⟨fun r0 => ?_, fun r0 => ?_⟩
    · rcases q with ⟨-, q⟩ | ⟨q, -⟩
      · exact ih (i + 1) _ _ (by omega) (by omega) (o0 J2 0 fh2) (Or.inl ⟨en_up_eq _ _ _ _, tno_cg (fun c hc => kopL_le (i + 1) N (by omega) hc) q⟩)
      · rw [r0] at q; exact absurd q (by decide)
    · rcases q with ⟨q, -⟩ | ⟨-, q⟩
      · exact absurd q r0
      · exact ih (i + 1) _ _ (by omega) (by omega) (o0 J2 1 fh2) (Or.inr ⟨en_up_eq _ _ _ _, by rw [t0]; exact q⟩)
theorem g12_74_F0 : kG12_74l = kF12_74l ++ [(74, 4, 12)] := by decide +kernel
theorem g12_74_up : sm_up (sm_up (kF12_74 R) 74 4 (some 12)) 74 5 (some 37) = kG12_74 R := by
  funext x j
  by_cases c5 : x = 74 ∧ j = 5
  · rw [c5.1, c5.2, en_up_eq]; rfl
  rw [en_up_ne _ _ _ _ c5]
  by_cases c4 : x = 74 ∧ j = 4
  · rw [c4.1, c4.2, en_up_eq]; rfl
  rw [en_up_ne _ _ _ _ c4]
  unfold kG12_74 kF12_74
  rw [g12_74_F0, List.find?_append]
  cases kF12_74l.find? (fun t => Nat.beq t.1 x && Nat.beq t.2.1 j) with
  | some t => rfl
  | none =>
    have e : [(74, 4, 12)].find? (fun t => Nat.beq t.1 x && Nat.beq t.2.1 j) = none := by
      have b : (Nat.beq 74 x && Nat.beq 4 j) = false := by
        cases q : (Nat.beq 74 x && Nat.beq 4 j) with
        | false => rfl
        | true =>
          obtain ⟨q1, q2⟩ := Bool.and_eq_true_iff.mp q
          exact absurd ⟨(Nat.eq_of_beq_eq_true q1).symm, (Nat.eq_of_beq_eq_true q2).symm⟩ c4
      show (match (Nat.beq 74 x && Nat.beq 4 j) with
        | true => some (74, 4, 12)
        | false => List.find? _ []) = none
      rw [b]; rfl
    rw [e]; rfl
theorem g12_74_ai {ys : List Nat} {x : Int32} {a : Nat} (k : kyM 74 I ys) (yl : ys.length < 60) (hx : x = Int32.ofNat a) (h : ∀ J, (∀ p j, p ≠ 80 → ¬ (p = 74 ∧ j = 11) → J p j = I p j) → kyM 74 J (ys ++ [a]) → Φ (none, (xLay, J, L, kG12_74 R))) : sm_wp sm_P S d 219 0 [.ref 74, .int x] [] (xLay, I, L, kG12_74 R) (0, 0) Φ := by
  obtain ⟨k1, k2⟩ := k
  have k1 : (I 74 11).toInt = ys.length := k1
  have k2 : ∀ k, k < ys.length → I 80 k = Int32.ofNat (ys.getD k 0) := k2
  refine pg12_74_X2_addItem_0 ⟨fun a => ?_, fun _ => ⟨kl_in (by omega) (by omega), fun I1 e1 I2 e2 => ?_⟩⟩
  · have a := kl_le.mp a
    rw [Int32.toInt_ofNat_of_lt (by decide)] at a; omega
  rw [tk_nat k1, hx] at e1
  have e11 : I1 74 11 = I 74 11 := by rw [e1, en_up_ne _ _ _ _ (by omega)]
  refine h I2 (fun p j q1 q2 => by rw [e2, en_up_ne _ _ _ _ q2, e1, en_up_ne _ _ _ _ (by omega)]) ⟨?_, fun k hk => ?_⟩
  · show (I2 74 11).toInt = _
    rw [e2, en_up_eq, e11, ml_in1 (by omega), k1, List.length_append]; rfl
  · show I2 80 k = _
    rw [List.length_append] at hk
    have hk : k < ys.length + 1 := hk
    rw [e2, en_up_ne _ _ _ _ (by omega), e1]
    by_cases c : k = ys.length
    · rw [c, en_up_eq, nG_n]
    · rw [en_up_ne _ _ _ _ (by omega), nG_l (by omega)]
      exact k2 k (by omega)
/-- what begin writes -/
def g12_74_bfr (I J : sm_I) : Prop := ∀ p q, ¬ (p = 74 ∧ (q = 6 ∨ q = 7 ∨ q = 8 ∨ q = 10 ∨ q = 11 ∨ q = 12)) → ¬ (p = 75 ∧ (q = 4 ∨ q = 5)) → ¬ (76 ≤ p ∧ p ≤ 80) → J p q = I p q
theorem g12_74_begin {n s m M : Nat} {x3 : Int32} (soft : I 74 1 = 0) (hM : (I 37 1).toInt = M) (M6 : M ≤ 6) (ok : ∀ k, k < M → kmok I n k) (hN : (I 12 2).toInt + 1 = n) (n11 : n ≤ 11) (n1 : 1 ≤ n) (okN : ∀ k, k < n - 1 → kopk 12 I n k) (hs : (I 12 3).toInt = s) (s10 : s ≤ 10) (hm : (I 12 5).toInt = m) (m45 : m ≤ 45) (h : ∀ J, g12_74_bfr I J → (J 74 6 = 0 ∧ J 74 7 = 0 ∧ J 74 8 = 0 ∧ J 74 10 = 0) → kyM 74 J (kitL x3 s m) → g12_74_B J n → (∀ a, a < n → J 77 a = Int32.ofNat a ∧ J 78 a = 0 ∧ J 79 a = 0) → g12_74_st n (kbaC 12 J (g12_74_hd J)) (kbaC 12 J (g12_74_hd J)) J → Φ (none, (xLay, J, L, kG12_74 R))) : sm_wp sm_P S (d + 4) 220 0 [.ref 74, .ref 12, .ref 37, .int x3, .int 0] [] (xLay, I, L, kF12_74 R) (0, 0) Φ := by
  refine pg12_74_X2_beginF_0 (d := d + 3) (fun I1 e1 => ⟨fun _ => ?_, fun a => absurd (by decide) a⟩)
  rw [g12_74_up]
  have o1 : ∀ p j, ¬ (p = 74 ∧ (j = 7 ∨ j = 8 ∨ j = 10)) → (sm_up I1 74 10 (0 : Int32)) p j = I p j := fun p j q => by rw [en_up_ne _ _ _ _ (by omega), e1, en_up_ne _ _ _ _ (by omega), en_up_ne _ _ _ _ (by omega)]
  refine pg12_74_X2_layBase_0 (d := d + 2) (fun n1' en1 => ?_)
  have o2 : ∀ p j, ¬ (p = 74 ∧ (j = 6 ∨ j = 7 ∨ j = 8 ∨ j = 10)) → (sm_up (sm_up I1 74 10 (0 : Int32)) 74 6 (0 : Int32)) p j = I p j := fun p j q => by rw [en_up_ne _ _ _ _ (by omega)]; exact o1 p j (by omega)
  have qn : n1'.toInt = n := by
    rw [en1, o2 12 2 (by omega)]
    rw [ml_ad (a := (n : Int)) (by rw [ml_in1 (by omega)]; exact hN) kl_0 (by omega) (by omega)]
    omega
  refine g12_74_bl qn n1 n11 (fun J2 bf B2 st2 T2 => ⟨J2, L, rfl, ?_⟩)
  have oJ : ∀ p j, ¬ (p = 74 ∧ (j = 6 ∨ j = 7 ∨ j = 8 ∨ j = 10)) → ¬ (p = 75 ∧ (j = 4 ∨ j = 5)) → ¬ (76 ≤ p ∧ p ≤ 79) → J2 p j = I p j := fun p j q1 q2 q3 => (bf p j q2 (by omega) (by omega) (by omega) (by omega)).trans (o2 p j q1)
  have oK : ∀ p j, ¬ (p = 74 ∧ (j = 6 ∨ j = 7 ∨ j = 8 ∨ j = 10 ∨ j = 12)) → ¬ (p = 75 ∧ (j = 4 ∨ j = 5)) → ¬ (76 ≤ p ∧ p ≤ 79) → (sm_up J2 74 12 (1 : Int32)) p j = I p j := fun p j q1 q2 q3 => by rw [en_up_ne _ _ _ _ (by omega)]; exact oJ p j (by omega) q2 q3
  have g6 : J2 74 6 = 0 := by rw [bf 74 6 (by omega) (by omega) (by omega) (by omega) (by omega), en_up_eq]
  have g7 : J2 74 7 = 0 := by rw [bf 74 7 (by omega) (by omega) (by omega) (by omega) (by omega), en_up_ne _ _ _ _ (by omega), en_up_ne _ _ _ _ (by omega), e1, en_up_ne _ _ _ _ (by omega), en_up_eq]
  have g8 : J2 74 8 = 0 := by rw [bf 74 8 (by omega) (by omega) (by omega) (by omega) (by omega), en_up_ne _ _ _ _ (by omega), en_up_ne _ _ _ _ (by omega), e1, en_up_eq]
  have g10 : J2 74 10 = 0 := by rw [bf 74 10 (by omega) (by omega) (by omega) (by omega) (by omega), en_up_ne _ _ _ _ (by omega), en_up_eq]
  obtain ⟨K, eK⟩ : ∃ K, K = sm_up J2 74 12 (1 : Int32) := ⟨_, rfl⟩
  rw [← eK] at oK ⊢
  have hK : g12_74_h J2 K := fun a b c1 c2 => by rw [eK, en_up_ne _ _ _ _ c2]
  have hK' : g12_74_h K J2 := fun a b c1 c2 => (hK a b c1 c2).symm
  obtain ⟨BK, eKh⟩ := g12_74_Bh hK B2
  have TK : g12_74_T K n 0 = g12_74_T J2 n 0 := by
    funext a b
    unfold g12_74_T
    rw [eK, en_up_ne _ _ _ _ (by omega)]
  have okM : ∀ k, k < M → kmok K n k := fun k hk => by
    have a := ok k hk
    unfold kmok at a ⊢
    rw [oK 41 k (by omega) (by omega) (by omega), oK 42 k (by omega) (by omega) (by omega), oK 43 k (by omega) (by omega) (by omega), oK 44 k (by omega) (by omega) (by omega)]; exact a
  have okO : ∀ k, k < n - 1 → kopk 12 K n k := fun k hk => by
    have a := okN k hk
    have a : I 18 k ≠ -1 → (0 ≤ (I 18 k).toInt ∧ (I 18 k).toInt + 1 < n) ∧ (-1440 ≤ (I 19 k).toInt ∧ (I 19 k).toInt ≤ 1440) ∧ (-1440 ≤ (I 20 k).toInt ∧ (I 20 k).toInt ≤ 1440) := a
    show K 18 k ≠ -1 → (0 ≤ (K 18 k).toInt ∧ (K 18 k).toInt + 1 < n) ∧ (-1440 ≤ (K 19 k).toInt ∧ (K 19 k).toInt ≤ 1440) ∧ (-1440 ≤ (K 20 k).toInt ∧ (K 20 k).toInt ≤ 1440)
    rw [oK 18 k (by omega) (by omega) (by omega), oK 19 k (by omega) (by omega) (by omega), oK 20 k (by omega) (by omega) (by omega)]; exact a
  have eM : (K 37 1).toInt = M := by rw [oK 37 1 (by omega) (by omega) (by omega)]; exact hM
  have eN : (K 12 2).toInt = ((n - 1 : Nat) : Int) := by rw [oK 12 2 (by omega) (by omega) (by omega)]; omega
  refine g12_74_b1 (d := d) (I0 := K) (n := n) (M := M) (N := n - 1) BK (by rw [oK 74 1 (by omega) (by omega) (by omega)]; exact soft) eM M6 okM eN (by omega) (by omega) okO (fun J3 h3 st3 => ⟨J3, L, rfl, ?_⟩) (n - 1) 0 0 K (by decide) (by omega) (fun _ _ _ _ => rfl) (Or.inr ⟨by rw [eK, en_up_eq], by rw [TK]; exact T2⟩)
  -- the ITEMS
  obtain ⟨K4, eK4⟩ : ∃ K4, K4 = sm_up J3 74 11 (0 : Int32) := ⟨_, rfl⟩
  rw [← eK4]
  have o4 : ∀ p j, ¬ (p = 74 ∧ (j = 6 ∨ j = 7 ∨ j = 8 ∨ j = 10 ∨ j = 11 ∨ j = 12)) → ¬ (p = 75 ∧ (j = 4 ∨ j = 5)) → ¬ (76 ≤ p ∧ p ≤ 79) → K4 p j = I p j := fun p j q1 q2 q3 => by rw [eK4, en_up_ne _ _ _ _ (by omega), h3 p j (by omega) (by omega)]; exact oK p j (by omega) q2 q3
  have fin : ∀ J, (∀ p j, p ≠ 80 → ¬ (p = 74 ∧ j = 11) → J p j = K4 p j) → kyM 74 J (kitL x3 s m) → Φ (none, (xLay, J, L, kG12_74 R)) := fun J fr kk => by
    have f3 : ∀ p j, p ≠ 80 → ¬ (p = 74 ∧ j = 11) → J p j = J3 p j := fun p j q1 q2 => by rw [fr p j q1 q2, eK4, en_up_ne _ _ _ _ q2]
    have fK : ∀ p j, p ≠ 80 → ¬ (p = 74 ∧ (j = 11 ∨ j = 12)) → p ≠ 76 → J p j = K p j := fun p j q1 q2 q3 => (f3 p j q1 (by omega)).trans (h3 p j q3 (by omega))
    have f2 : ∀ p j, p ≠ 80 → ¬ (p = 74 ∧ (j = 11 ∨ j = 12)) → p ≠ 76 → J p j = J2 p j := fun p j q1 q2 q3 => by rw [fK p j q1 q2 q3, eK, en_up_ne _ _ _ _ (by omega)]
    have hdJ : g12_74_hd J = g12_74_hd K := by
      funext c
      unfold g12_74_hd
      rw [fK 77 c.1 (by omega) (by omega) (by omega), fK 77 c.2.1 (by omega) (by omega) (by omega), fK 79 c.1 (by omega) (by omega) (by omega), fK 78 c.2.1 (by omega) (by omega) (by omega)]
    have BJ : g12_74_B J n := by
      obtain ⟨b1, b2, b3, b4, b5⟩ := BK
      exact ⟨by rw [fK 75 4 (by omega) (by omega) (by omega)]; exact b1, b2, b3, by rw [fK 75 5 (by omega) (by omega) (by omega)]; exact b4, fun i hi => by rw [fK 77 i (by omega) (by omega) (by omega), fK 78 i (by omega) (by omega) (by omega), fK 79 i (by omega) (by omega) (by omega)]; exact b5 i hi⟩
    have eB : kbaC 12 J (g12_74_hd J) = kmoL K (g12_74_hd K) M ++ kopL 12 K (g12_74_hd K) (n - 1) := by
      have e1 : (J 37 1).toNatClampNeg = M := tk_nat (by rw [fK 37 1 (by omega) (by omega) (by omega)]; exact eM)
      have e2 : (J 12 2).toNatClampNeg = n - 1 := tk_nat (by rw [fK 12 2 (by omega) (by omega) (by omega)]; exact eN)
      have e3 : ∀ k, kmoL J (g12_74_hd K) k = kmoL K (g12_74_hd K) k := fun k => by
        induction k with
        | zero => rfl
        | succ k ih =>
          show bC (g12_74_hd K) (nd (J 41 k)) (nd (J 42 k)) (J 43 k).toInt (J 44 k).toInt ++ kmoL J (g12_74_hd K) k = bC (g12_74_hd K) (nd (K 41 k)) (nd (K 42 k)) (K 43 k).toInt (K 44 k).toInt ++ kmoL K (g12_74_hd K) k
          rw [ih, fK 41 k (by omega) (by omega) (by omega), fK 42 k (by omega) (by omega) (by omega), fK 43 k (by omega) (by omega) (by omega), fK 44 k (by omega) (by omega) (by omega)]
      have e4 : ∀ k, kopL 12 J (g12_74_hd K) k = kopL 12 K (g12_74_hd K) k := fun k => by
        induction k with
        | zero => rfl
        | succ k ih =>
          show (if J 18 k = -1 then [] else bC (g12_74_hd K) (k + 1) (nd (J 18 k)) (J 19 k).toInt (J 20 k).toInt) ++ kopL 12 J (g12_74_hd K) k = (if K 18 k = -1 then [] else bC (g12_74_hd K) (k + 1) (nd (K 18 k)) (K 19 k).toInt (K 20 k).toInt) ++ kopL 12 K (g12_74_hd K) k
          rw [ih, fK 18 k (by omega) (by omega) (by omega), fK 19 k (by omega) (by omega) (by omega), fK 20 k (by omega) (by omega) (by omega)]
      show kmoL J (g12_74_hd J) (J 37 1).toNatClampNeg ++ kopL 12 J (g12_74_hd J) (J 12 2).toNatClampNeg = _
      rw [e1, e2, hdJ, e3, e4]
    refine h J (fun p j q1 q2 q3 => by rw [fr p j (by omega) (by omega)]; exact o4 p j q1 q2 (by omega)) ⟨by rw [f2 74 6 (by omega) (by omega) (by omega)]; exact g6, by rw [f2 74 7 (by omega) (by omega) (by omega)]; exact g7, by rw [f2 74 8 (by omega) (by omega) (by omega)]; exact g8, by rw [f2 74 10 (by omega) (by omega) (by omega)]; exact g10⟩ kk BJ (fun a ha => by rw [f2 77 a (by omega) (by omega) (by omega), f2 78 a (by omega) (by omega) (by omega), f2 79 a (by omega) (by omega) (by omega)]; exact st2 a ha) ?_
    rw [eB]
    have e12 : J 74 12 = J3 74 12 := f3 74 12 (by omega) (by omega)
    have eT : g12_74_T J n 0 = g12_74_T J3 n 0 := by
      funext a b
      unfold g12_74_T
      rw [f3 76 _ (by omega) (by omega)]
    unfold g12_74_st
    rw [e12, eT]; exact st3
  have lenS := sL_len x3
  have mv : ∀ (k i : Nat) (x5 : Int32) (J : sm_I), x5.toInt = i → i + k = m → (∀ p j, p ≠ 80 → ¬ (p = 74 ∧ j = 11) → J p j = K4 p j) → kyM 74 J (kitL x3 s i) → sm_wp sm_P S (d + 4) 220 9 [.ref 74, .int x5] [] (xLay, J, L, kG12_74 R) (0, 0) Φ := by
    intro k
    induction k with
    | zero =>
      intro i x5 J h5 hk fr kk
      have ei : i = m := by omega
      subst ei
      have e5 : J 12 5 = I 12 5 := by rw [fr 12 5 (by omega) (by omega)]; exact o4 12 5 (by omega) (by omega) (by omega)
      refine pg12_74_X2_begin_9 (d := d + 3) ⟨fun _ => fin J fr kk, fun a => ?_⟩
      have a := kl_nle a
      rw [e5] at a
      omega
    | succ k ih =>
      intro i x5 J h5 hk fr kk
      have e5 : J 12 5 = I 12 5 := by rw [fr 12 5 (by omega) (by omega)]; exact o4 12 5 (by omega) (by omega) (by omega)
      have s5 := ml_in1 (x := x5) (by omega)
      have c100 : (100 : Int32).toInt = 100 := by decide
      refine pg12_74_X2_begin_9 (d := d + 3) ⟨fun a => ?_, fun _ => ?_⟩
      · have a := kl_le.mp a
        rw [e5] at a
        omega
      have v : (100 : Int32) + x5 = Int32.ofNat (100 + i) := en_ofI (by rw [ml_ad c100 h5 (by omega) (by omega), Int32.toInt_ofNat_of_lt (by omega)]; omega)
      have ll := kitL_len (set := x3) (s := s) (m := i)
      refine g12_74_ai kk (by omega) v (fun J2 o2 k2 => ⟨J2, L, rfl, ih (i + 1) _ J2 (by omega) (by omega) (fun p j q1 q2 => (o2 p j q1 q2).trans (fr p j q1 q2)) ?_⟩)
      have e : kitL x3 s i ++ [100 + i] = kitL x3 s (i + 1) := by
        unfold kitL
        rw [List.append_assoc]; rfl
      rw [e] at k2
      exact k2
  have sy : ∀ (k i : Nat) (x5 : Int32) (J : sm_I), x5.toInt = i → i + k = s → (∀ p j, p ≠ 80 → ¬ (p = 74 ∧ j = 11) → J p j = K4 p j) → kyM 74 J (sL x3 i) → sm_wp sm_P S (d + 4) 220 4 [.ref 74, .int x3, .int x5] [] (xLay, J, L, kG12_74 R) (0, 0) Φ := by
    intro k
    induction k with
    | zero =>
      intro i x5 J h5 hk fr kk
      have ei : i = s := by omega
      subst ei
      have e5 : J 12 3 = I 12 3 := by rw [fr 12 3 (by omega) (by omega)]; exact o4 12 3 (by omega) (by omega) (by omega)
      refine pg12_74_X2_begin_4 (d := d + 3) ⟨fun _ => mv m 0 0 J (by decide) (by omega) fr ?_, fun a => ?_⟩
      · show kyM 74 J (sL x3 i ++ [])
        rw [List.append_nil]; exact kk
      · have a := kl_nle a
        rw [e5] at a
        omega
    | succ k ih =>
      intro i x5 J h5 hk fr kk
      have e5 : J 12 3 = I 12 3 := by rw [fr 12 3 (by omega) (by omega)]; exact o4 12 3 (by omega) (by omega) (by omega)
      have s5 := ml_in1 (x := x5) (by omega)
      have ex : x5 = Int32.ofNat i := en_ofI (by rw [h5, Int32.toInt_ofNat_of_lt (by omega)])
      refine pg12_74_X2_begin_4 (d := d + 3) ⟨fun a => ?_, fun _ => ⟨fun q => ?_, fun q => ?_⟩⟩
      · have a := kl_le.mp a
        rw [e5] at a
        omega
      · refine ih (i + 1) _ J (by omega) (by omega) fr ?_
        show kyM 74 J (sL x3 i ++ (if isb x3 i = true then [i] else []))
        rw [if_neg (by unfold isb; rw [← ex, decide_eq_true q]; decide), List.append_nil]
        exact kk
      · have ll := lenS i
        refine g12_74_ai kk (by omega) ex (fun J2 o2 k2 => ⟨J2, L, rfl, ih (i + 1) _ J2 (by omega) (by omega) (fun p j q1 q2 => (o2 p j q1 q2).trans (fr p j q1 q2)) ?_⟩)
        show kyM 74 J2 (sL x3 i ++ (if isb x3 i = true then [i] else []))
        rw [if_pos (by unfold isb; rw [← ex, decide_eq_false q]; rfl)]
        exact k2
  refine sy s 0 0 K4 (by decide) (by omega) (fun _ _ _ _ => rfl) ⟨?_, fun k hk => absurd hk (Nat.not_lt_zero k)⟩
  show (K4 74 11).toInt = _
  rw [eK4, en_up_eq]; rfl
end
end
section
/-! the class's begin, exact; told = 49, going = 74, not hard (wip/pe/mkg2.py) -/
section
variable {S : sm_C} {d : Nat} {Φ : sm_Z → Prop} {I : sm_I} {L : sm_L} {R : sm_R}
def g49_74_h (I J : sm_I) : Prop := ∀ p q, p ≠ 76 → ¬ (p = 74 ∧ q = 12) → J p q = I p q
theorem g49_74_Bh {n : Nat} {I J : sm_I} (h : g49_74_h I J) (b : g49_74_B I n) : g49_74_B J n ∧ g49_74_hd J = g49_74_hd I := by
  obtain ⟨b1, b2, b3, b4, b5⟩ := b
  refine ⟨⟨by rw [h 75 4 (by omega) (by omega)]; exact b1, b2, b3, by rw [h 75 5 (by omega) (by omega)]; exact b4, fun i hi => by rw [h 77 i (by omega) (by omega), h 78 i (by omega) (by omega), h 79 i (by omega) (by omega)]; exact b5 i hi⟩, ?_⟩
  funext c
  unfold g49_74_hd
  rw [h 77 c.1 (by omega) (by omega), h 77 c.2.1 (by omega) (by omega), h 79 c.1 (by omega) (by omega), h 78 c.2.1 (by omega) (by omega)]
def g49_74_st (n : Nat) (A C : List tC) (J : sm_I) : Prop := (J 74 12 = 0 ∧ tno n A) ∨ (J 74 12 = 1 ∧ ttop n C (g49_74_T J n 0))
theorem g49_74_b17 {n M : Nat} {I0 : sm_I} {C : List tC} (B : g49_74_B I0 n) (hM : (I0 37 1).toInt = M) (M6 : M ≤ 6) (ok : ∀ k, k < M → kmok I0 n k) (h : ∀ J, g49_74_h I0 J → g49_74_st n (kmoL I0 (g49_74_hd I0) M ++ C) (kmoL I0 (g49_74_hd I0) M ++ C) J → Φ (none, (xLay, J, L, kG49_74 R))) : ∀ (m i : Nat) (x4 : Int32) (J : sm_I), x4.toInt = i → i + m = M → g49_74_h I0 J → g49_74_st n (kmoL I0 (g49_74_hd I0) M ++ C) (kmoL I0 (g49_74_hd I0) i ++ C) J → sm_wp sm_P S (d + 3) 230 17 [.ref 74, .ref 40, .int x4] [] (xLay, J, L, kG49_74 R) (0, 0) Φ := by
  have nn : n * n ≤ 144 := Nat.le_trans (Nat.mul_le_mul B.2.2.1 B.2.2.1) (by decide)
  intro m
  induction m with
  | zero =>
    intro i x4 J h4 hm fh st
    have e1 : J 37 1 = I0 37 1 := fh 37 1 (by omega) (by omega)
    have ei : i = M := by omega
    subst ei
    refine pg49_74_X2_layBase_17 (d := d + 2) ⟨fun _ => h J fh st, fun a => ?_⟩
    have a := kl_nle a
    rw [e1] at a
    omega
  | succ m ih =>
    intro i x4 J h4 hm fh st
    have e1 : J 37 1 = I0 37 1 := fh 37 1 (by omega) (by omega)
    have s4 := ml_in1 (x := x4) (by omega)
    have v : vp_in x4 6 := kl_in (by omega) (by omega)
    have o0 : ∀ (K : sm_I) (x : Int32), g49_74_h I0 K → g49_74_h I0 (sm_up K 74 12 x) := fun K x q a b c1 c2 => (en_up_ne _ _ _ _ c2).trans (q a b c1 c2)
    have t0 : ∀ (K : sm_I) (x : Int32), g49_74_T (sm_up K 74 12 x) n 0 = g49_74_T K n 0 := fun K x => by
      funext a b
      unfold g49_74_T
      rw [en_up_ne _ _ _ _ (by omega)]
    refine pg49_74_X2_layBase_17 (d := d + 2) ⟨fun a => ?_, fun _ => ⟨fun e => ?_, fun e => ⟨v, v, v, v, ?_⟩⟩⟩
    · have a := kl_le.mp a
      rw [e1] at a
      omega
    · rcases st with ⟨-, st⟩ | ⟨st, -⟩
      · exact ih (i + 1) _ _ (by omega) (by omega) (o0 J 0 fh) (Or.inl ⟨en_up_eq _ _ _ _, st⟩)
      · rw [e] at st; exact absurd st (by decide)
    rcases st with ⟨st, -⟩ | ⟨-, T⟩
    · exact absurd st e
    obtain ⟨k1, k2, k3, k4⟩ := ok i (by omega)
    have n11 := B.2.2.1
    obtain ⟨Bj, ej⟩ := g49_74_Bh fh B
    rw [tk_nat h4, fh 41 i (by omega) (by omega), fh 42 i (by omega) (by omega), fh 43 i (by omega) (by omega), fh 44 i (by omega) (by omega)]
    refine g49_74_bind (d := d) (lev := 0) Bj (by omega) (by omega) kl_0 (i := nd (I0 41 i)) (j := nd (I0 42 i)) (by rw [ml_in1 (by omega)]; unfold nd; omega) (by rw [ml_in1 (by omega)]; unfold nd; omega) (by unfold nd; omega) (by unfold nd; omega) (by omega) (by omega) (by omega) (by omega) T (fun r J2 q => ⟨r, J2, L, rfl, ?_⟩)
    rw [ej] at q
    have eC : bC (g49_74_hd I0) (nd (I0 41 i)) (nd (I0 42 i)) (I0 43 i).toInt (I0 44 i).toInt ++ (kmoL I0 (g49_74_hd I0) i ++ C) = kmoL I0 (g49_74_hd I0) (i + 1) ++ C := by rw [← List.append_assoc]; rfl
    rw [eC] at q
    obtain ⟨cg2, q⟩ := q
    have fh2 : g49_74_h I0 J2 := fun a b c1 c2 => (cg2 a b (by omega)).trans (fh a b c1 c2)
    refine ⟨fun r0 => ?_, fun r0 => ?_⟩
    · rcases q with ⟨-, q⟩ | ⟨q, -⟩
      · refine ih (i + 1) _ _ (by omega) (by omega) (o0 J2 0 fh2) (Or.inl ⟨en_up_eq _ _ _ _, tno_cg (fun c hc => ?_) q⟩)
        rcases List.mem_append.mp hc with hc | hc
        · exact List.mem_append.mpr (Or.inl (kmoL_le (i + 1) M (by omega) hc))
        · exact List.mem_append.mpr (Or.inr hc)
      · rw [r0] at q; exact absurd q (by decide)
    · rcases q with ⟨q, -⟩ | ⟨-, q⟩
      · exact absurd q r0
      · exact ih (i + 1) _ _ (by omega) (by omega) (o0 J2 1 fh2) (Or.inr ⟨en_up_eq _ _ _ _, by rw [t0]; exact q⟩)
theorem g49_74_b1 {n M N : Nat} {I0 : sm_I} (B : g49_74_B I0 n) (soft : I0 74 1 = 0) (hM : (I0 37 1).toInt = M) (M6 : M ≤ 6) (ok : ∀ k, k < M → kmok I0 n k) (hN : (I0 49 2).toInt = N) (N10 : N ≤ 10) (Nn : N + 1 ≤ n) (okN : ∀ k, k < N → kopk 49 I0 n k) (h : ∀ J, g49_74_h I0 J → g49_74_st n (kmoL I0 (g49_74_hd I0) M ++ kopL 49 I0 (g49_74_hd I0) N) (kmoL I0 (g49_74_hd I0) M ++ kopL 49 I0 (g49_74_hd I0) N) J → Φ (none, (xLay, J, L, kG49_74 R))) : ∀ (m i : Nat) (x3 : Int32) (J : sm_I), x3.toInt = i → i + m = N → g49_74_h I0 J → g49_74_st n (kopL 49 I0 (g49_74_hd I0) N) (kopL 49 I0 (g49_74_hd I0) i) J → sm_wp sm_P S (d + 3) 230 1 [.ref 74, .ref 53, .int x3] [] (xLay, J, L, kG49_74 R) (0, 0) Φ := by
  have nn : n * n ≤ 144 := Nat.le_trans (Nat.mul_le_mul B.2.2.1 B.2.2.1) (by decide)
  intro m
  induction m with
  | zero =>
    intro i x3 J h3 hm fh st
    have e1 : J 49 2 = I0 49 2 := fh 49 2 (by omega) (by omega)
    have ei : i = N := by omega
    subst ei
    refine pg49_74_X2_layBase_1 (d := d + 2) ⟨fun _ => g49_74_b17 (d := d) B hM M6 ok h M 0 0 J (by decide) (by omega) fh ?_, fun a => ?_⟩
    · rcases st with ⟨s1, s2⟩ | ⟨s1, s2⟩
      · exact Or.inl ⟨s1, tno_cg (fun c hc => List.mem_append.mpr (Or.inr hc)) s2⟩
      · exact Or.inr ⟨s1, s2⟩
    · have a := kl_nle a
      rw [e1] at a
      omega
  | succ m ih =>
    intro i x3 J h3 hm fh st
    have e1 : J 49 2 = I0 49 2 := fh 49 2 (by omega) (by omega)
    have es : J 74 1 = 0 := (fh 74 1 (by omega) (by omega)).trans soft
    have s3 := ml_in1 (x := x3) (by omega)
    have v : vp_in x3 10 := kl_in (by omega) (by omega)
    have o0 : ∀ (K : sm_I) (x : Int32), g49_74_h I0 K → g49_74_h I0 (sm_up K 74 12 x) := fun K x q a b c1 c2 => (en_up_ne _ _ _ _ c2).trans (q a b c1 c2)
    have t0 : ∀ (K : sm_I) (x : Int32), g49_74_T (sm_up K 74 12 x) n 0 = g49_74_T K n 0 := fun K x => by
      funext a b
      unfold g49_74_T
      rw [en_up_ne _ _ _ _ (by omega)]
    refine pg49_74_X2_layBase_1 (d := d + 2) ⟨fun a => ?_, fun _ => ⟨v, ?_⟩⟩
    · have a := kl_le.mp a
      rw [e1] at a
      omega
    rw [tk_nat h3, fh 55 i (by omega) (by omega)]
    have eL : kopL 49 I0 (g49_74_hd I0) (i + 1) = kopC 49 I0 (g49_74_hd I0) i ++ kopL 49 I0 (g49_74_hd I0) i := rfl
    refine ⟨fun e => ?_, fun e => ⟨fun _ => ⟨fun e2 => ?_, fun e2 => ⟨v, v, v, ?_⟩⟩, fun q => absurd es q⟩⟩
    · have eC : kopC 49 I0 (g49_74_hd I0) i = [] := if_pos e
      rw [eC] at eL
      refine ih (i + 1) _ J (by omega) (by omega) fh ?_
      rcases st with st | ⟨s1, s2⟩
      · exact Or.inl st
      · exact Or.inr ⟨s1, by rw [eL]; exact s2⟩
    · rcases st with ⟨-, st⟩ | ⟨st, -⟩
      · exact ih (i + 1) _ _ (by omega) (by omega) (o0 J 0 fh) (Or.inl ⟨en_up_eq _ _ _ _, st⟩)
      · rw [e2] at st; exact absurd st (by decide)
    rcases st with ⟨st, -⟩ | ⟨-, T⟩
    · exact absurd st e2
    obtain ⟨k1, k2, k3⟩ := okN i (by omega) e
    have k1 : 0 ≤ (I0 55 i).toInt ∧ (I0 55 i).toInt + 1 < n := k1
    have k2 : -1440 ≤ (I0 56 i).toInt ∧ (I0 56 i).toInt ≤ 1440 := k2
    have k3 : -1440 ≤ (I0 57 i).toInt ∧ (I0 57 i).toInt ≤ 1440 := k3
    have n11 := B.2.2.1
    obtain ⟨Bj, ej⟩ := g49_74_Bh fh B
    rw [fh 56 i (by omega) (by omega), fh 57 i (by omega) (by omega)]
    refine g49_74_bind (d := d) (lev := 0) Bj (by omega) (by omega) kl_0 (i := i + 1) (j := nd (I0 55 i)) (by rw [s3]; omega) (by rw [ml_in1 (by omega)]; unfold nd; omega) (by omega) (by unfold nd; omega) (by omega) (by omega) (by omega) (by omega) T (fun r J2 q => ⟨r, J2, L, rfl, ?_⟩)
    rw [ej] at q
    have eC : kopC 49 I0 (g49_74_hd I0) i = bC (g49_74_hd I0) (i + 1) (nd (I0 55 i)) (I0 56 i).toInt (I0 57 i).toInt := if_neg e
    rw [← eC, ← eL] at q
    obtain ⟨cg2, q⟩ := q
    have fh2 : g49_74_h I0 J2 := fun a b c1 c2 => (cg2 a b (by omega)).trans (fh a b c1 c2)
    refine ⟨fun r0 => ?_, fun r0 => ?_⟩
    · rcases q with ⟨-, q⟩ | ⟨q, -⟩
      · exact ih (i + 1) _ _ (by omega) (by omega) (o0 J2 0 fh2) (Or.inl ⟨en_up_eq _ _ _ _, tno_cg (fun c hc => kopL_le (i + 1) N (by omega) hc) q⟩)
      · rw [r0] at q; exact absurd q (by decide)
    · rcases q with ⟨q, -⟩ | ⟨-, q⟩
      · exact absurd q r0
      · exact ih (i + 1) _ _ (by omega) (by omega) (o0 J2 1 fh2) (Or.inr ⟨en_up_eq _ _ _ _, by rw [t0]; exact q⟩)
theorem g49_74_F0 : kG49_74l = kF49_74l ++ [(74, 4, 49)] := by decide +kernel
theorem g49_74_up : sm_up (sm_up (kF49_74 R) 74 4 (some 49)) 74 5 (some 37) = kG49_74 R := by
  funext x j
  by_cases c5 : x = 74 ∧ j = 5
  · rw [c5.1, c5.2, en_up_eq]; rfl
  rw [en_up_ne _ _ _ _ c5]
  by_cases c4 : x = 74 ∧ j = 4
  · rw [c4.1, c4.2, en_up_eq]; rfl
  rw [en_up_ne _ _ _ _ c4]
  unfold kG49_74 kF49_74
  rw [g49_74_F0, List.find?_append]
  cases kF49_74l.find? (fun t => Nat.beq t.1 x && Nat.beq t.2.1 j) with
  | some t => rfl
  | none =>
    have e : [(74, 4, 49)].find? (fun t => Nat.beq t.1 x && Nat.beq t.2.1 j) = none := by
      have b : (Nat.beq 74 x && Nat.beq 4 j) = false := by
        cases q : (Nat.beq 74 x && Nat.beq 4 j) with
        | false => rfl
        | true =>
          obtain ⟨q1, q2⟩ := Bool.and_eq_true_iff.mp q
          exact absurd ⟨(Nat.eq_of_beq_eq_true q1).symm, (Nat.eq_of_beq_eq_true q2).symm⟩ c4
      show (match (Nat.beq 74 x && Nat.beq 4 j) with
        | true => some (74, 4, 49)
        | false => List.find? _ []) = none
      rw [b]; rfl
    rw [e]; rfl
theorem g49_74_ai {ys : List Nat} {x : Int32} {a : Nat} (k : kyM 74 I ys) (yl : ys.length < 60) (hx : x = Int32.ofNat a) (h : ∀ J, (∀ p j, p ≠ 80 → ¬ (p = 74 ∧ j = 11) → J p j = I p j) → kyM 74 J (ys ++ [a]) → Φ (none, (xLay, J, L, kG49_74 R))) : sm_wp sm_P S d 219 0 [.ref 74, .int x] [] (xLay, I, L, kG49_74 R) (0, 0) Φ := by
  obtain ⟨k1, k2⟩ := k
  have k1 : (I 74 11).toInt = ys.length := k1
  have k2 : ∀ k, k < ys.length → I 80 k = Int32.ofNat (ys.getD k 0) := k2
  refine pg49_74_X2_addItem_0 ⟨fun a => ?_, fun _ => ⟨kl_in (by omega) (by omega), fun I1 e1 I2 e2 => ?_⟩⟩
  · have a := kl_le.mp a
    rw [Int32.toInt_ofNat_of_lt (by decide)] at a; omega
  rw [tk_nat k1, hx] at e1
  have e11 : I1 74 11 = I 74 11 := by rw [e1, en_up_ne _ _ _ _ (by omega)]
  refine h I2 (fun p j q1 q2 => by rw [e2, en_up_ne _ _ _ _ q2, e1, en_up_ne _ _ _ _ (by omega)]) ⟨?_, fun k hk => ?_⟩
  · show (I2 74 11).toInt = _
    rw [e2, en_up_eq, e11, ml_in1 (by omega), k1, List.length_append]; rfl
  · show I2 80 k = _
    rw [List.length_append] at hk
    have hk : k < ys.length + 1 := hk
    rw [e2, en_up_ne _ _ _ _ (by omega), e1]
    by_cases c : k = ys.length
    · rw [c, en_up_eq, nG_n]
    · rw [en_up_ne _ _ _ _ (by omega), nG_l (by omega)]
      exact k2 k (by omega)
/-- what begin writes -/
def g49_74_bfr (I J : sm_I) : Prop := ∀ p q, ¬ (p = 74 ∧ (q = 6 ∨ q = 7 ∨ q = 8 ∨ q = 10 ∨ q = 11 ∨ q = 12)) → ¬ (p = 75 ∧ (q = 4 ∨ q = 5)) → ¬ (76 ≤ p ∧ p ≤ 80) → J p q = I p q
theorem g49_74_begin {n s m M : Nat} {x3 : Int32} (soft : I 74 1 = 0) (hM : (I 37 1).toInt = M) (M6 : M ≤ 6) (ok : ∀ k, k < M → kmok I n k) (hN : (I 49 2).toInt + 1 = n) (n11 : n ≤ 11) (n1 : 1 ≤ n) (okN : ∀ k, k < n - 1 → kopk 49 I n k) (hs : (I 49 3).toInt = s) (s10 : s ≤ 10) (hm : (I 49 5).toInt = m) (m45 : m ≤ 45) (h : ∀ J, g49_74_bfr I J → (J 74 6 = 0 ∧ J 74 7 = 0 ∧ J 74 8 = 0 ∧ J 74 10 = 0) → kyM 74 J (kitL x3 s m) → g49_74_B J n → (∀ a, a < n → J 77 a = Int32.ofNat a ∧ J 78 a = 0 ∧ J 79 a = 0) → g49_74_st n (kbaC 49 J (g49_74_hd J)) (kbaC 49 J (g49_74_hd J)) J → Φ (none, (xLay, J, L, kG49_74 R))) : sm_wp sm_P S (d + 4) 220 0 [.ref 74, .ref 49, .ref 37, .int x3, .int 0] [] (xLay, I, L, kF49_74 R) (0, 0) Φ := by
  refine pg49_74_X2_beginF_0 (d := d + 3) (fun I1 e1 => ⟨fun _ => ?_, fun a => absurd (by decide) a⟩)
  rw [g49_74_up]
  have o1 : ∀ p j, ¬ (p = 74 ∧ (j = 7 ∨ j = 8 ∨ j = 10)) → (sm_up I1 74 10 (0 : Int32)) p j = I p j := fun p j q => by rw [en_up_ne _ _ _ _ (by omega), e1, en_up_ne _ _ _ _ (by omega), en_up_ne _ _ _ _ (by omega)]
  refine pg49_74_X2_layBase_0 (d := d + 2) (fun n1' en1 => ?_)
  have o2 : ∀ p j, ¬ (p = 74 ∧ (j = 6 ∨ j = 7 ∨ j = 8 ∨ j = 10)) → (sm_up (sm_up I1 74 10 (0 : Int32)) 74 6 (0 : Int32)) p j = I p j := fun p j q => by rw [en_up_ne _ _ _ _ (by omega)]; exact o1 p j (by omega)
  have qn : n1'.toInt = n := by
    rw [en1, o2 49 2 (by omega)]
    rw [ml_ad (a := (n : Int)) (by rw [ml_in1 (by omega)]; exact hN) kl_0 (by omega) (by omega)]
    omega
  refine g49_74_bl qn n1 n11 (fun J2 bf B2 st2 T2 => ⟨J2, L, rfl, ?_⟩)
  have oJ : ∀ p j, ¬ (p = 74 ∧ (j = 6 ∨ j = 7 ∨ j = 8 ∨ j = 10)) → ¬ (p = 75 ∧ (j = 4 ∨ j = 5)) → ¬ (76 ≤ p ∧ p ≤ 79) → J2 p j = I p j := fun p j q1 q2 q3 => (bf p j q2 (by omega) (by omega) (by omega) (by omega)).trans (o2 p j q1)
  have oK : ∀ p j, ¬ (p = 74 ∧ (j = 6 ∨ j = 7 ∨ j = 8 ∨ j = 10 ∨ j = 12)) → ¬ (p = 75 ∧ (j = 4 ∨ j = 5)) → ¬ (76 ≤ p ∧ p ≤ 79) → (sm_up J2 74 12 (1 : Int32)) p j = I p j := fun p j q1 q2 q3 => by rw [en_up_ne _ _ _ _ (by omega)]; exact oJ p j (by omega) q2 q3
  have g6 : J2 74 6 = 0 := by rw [bf 74 6 (by omega) (by omega) (by omega) (by omega) (by omega), en_up_eq]
  have g7 : J2 74 7 = 0 := by rw [bf 74 7 (by omega) (by omega) (by omega) (by omega) (by omega), en_up_ne _ _ _ _ (by omega), en_up_ne _ _ _ _ (by omega), e1, en_up_ne _ _ _ _ (by omega), en_up_eq]
  have g8 : J2 74 8 = 0 := by rw [bf 74 8 (by omega) (by omega) (by omega) (by omega) (by omega), en_up_ne _ _ _ _ (by omega), en_up_ne _ _ _ _ (by omega), e1, en_up_eq]
  have g10 : J2 74 10 = 0 := by rw [bf 74 10 (by omega) (by omega) (by omega) (by omega) (by omega), en_up_ne _ _ _ _ (by omega), en_up_eq]
  obtain ⟨K, eK⟩ : ∃ K, K = sm_up J2 74 12 (1 : Int32) := ⟨_, rfl⟩
  rw [← eK] at oK ⊢
  have hK : g49_74_h J2 K := fun a b c1 c2 => by rw [eK, en_up_ne _ _ _ _ c2]
  have hK' : g49_74_h K J2 := fun a b c1 c2 => (hK a b c1 c2).symm
  obtain ⟨BK, eKh⟩ := g49_74_Bh hK B2
  have TK : g49_74_T K n 0 = g49_74_T J2 n 0 := by
    funext a b
    unfold g49_74_T
    rw [eK, en_up_ne _ _ _ _ (by omega)]
  have okM : ∀ k, k < M → kmok K n k := fun k hk => by
    have a := ok k hk
    unfold kmok at a ⊢
    rw [oK 41 k (by omega) (by omega) (by omega), oK 42 k (by omega) (by omega) (by omega), oK 43 k (by omega) (by omega) (by omega), oK 44 k (by omega) (by omega) (by omega)]; exact a
  have okO : ∀ k, k < n - 1 → kopk 49 K n k := fun k hk => by
    have a := okN k hk
    have a : I 55 k ≠ -1 → (0 ≤ (I 55 k).toInt ∧ (I 55 k).toInt + 1 < n) ∧ (-1440 ≤ (I 56 k).toInt ∧ (I 56 k).toInt ≤ 1440) ∧ (-1440 ≤ (I 57 k).toInt ∧ (I 57 k).toInt ≤ 1440) := a
    show K 55 k ≠ -1 → (0 ≤ (K 55 k).toInt ∧ (K 55 k).toInt + 1 < n) ∧ (-1440 ≤ (K 56 k).toInt ∧ (K 56 k).toInt ≤ 1440) ∧ (-1440 ≤ (K 57 k).toInt ∧ (K 57 k).toInt ≤ 1440)
    rw [oK 55 k (by omega) (by omega) (by omega), oK 56 k (by omega) (by omega) (by omega), oK 57 k (by omega) (by omega) (by omega)]; exact a
  have eM : (K 37 1).toInt = M := by rw [oK 37 1 (by omega) (by omega) (by omega)]; exact hM
  have eN : (K 49 2).toInt = ((n - 1 : Nat) : Int) := by rw [oK 49 2 (by omega) (by omega) (by omega)]; omega
  refine g49_74_b1 (d := d) (I0 := K) (n := n) (M := M) (N := n - 1) BK (by rw [oK 74 1 (by omega) (by omega) (by omega)]; exact soft) eM M6 okM eN (by omega) (by omega) okO (fun J3 h3 st3 => ⟨J3, L, rfl, ?_⟩) (n - 1) 0 0 K (by decide) (by omega) (fun _ _ _ _ => rfl) (Or.inr ⟨by rw [eK, en_up_eq], by rw [TK]; exact T2⟩)
  -- the ITEMS
  obtain ⟨K4, eK4⟩ : ∃ K4, K4 = sm_up J3 74 11 (0 : Int32) := ⟨_, rfl⟩
  rw [← eK4]
  have o4 : ∀ p j, ¬ (p = 74 ∧ (j = 6 ∨ j = 7 ∨ j = 8 ∨ j = 10 ∨ j = 11 ∨ j = 12)) → ¬ (p = 75 ∧ (j = 4 ∨ j = 5)) → ¬ (76 ≤ p ∧ p ≤ 79) → K4 p j = I p j := fun p j q1 q2 q3 => by rw [eK4, en_up_ne _ _ _ _ (by omega), h3 p j (by omega) (by omega)]; exact oK p j (by omega) q2 q3
  have fin : ∀ J, (∀ p j, p ≠ 80 → ¬ (p = 74 ∧ j = 11) → J p j = K4 p j) → kyM 74 J (kitL x3 s m) → Φ (none, (xLay, J, L, kG49_74 R)) := fun J fr kk => by
    have f3 : ∀ p j, p ≠ 80 → ¬ (p = 74 ∧ j = 11) → J p j = J3 p j := fun p j q1 q2 => by rw [fr p j q1 q2, eK4, en_up_ne _ _ _ _ q2]
    have fK : ∀ p j, p ≠ 80 → ¬ (p = 74 ∧ (j = 11 ∨ j = 12)) → p ≠ 76 → J p j = K p j := fun p j q1 q2 q3 => (f3 p j q1 (by omega)).trans (h3 p j q3 (by omega))
    have f2 : ∀ p j, p ≠ 80 → ¬ (p = 74 ∧ (j = 11 ∨ j = 12)) → p ≠ 76 → J p j = J2 p j := fun p j q1 q2 q3 => by rw [fK p j q1 q2 q3, eK, en_up_ne _ _ _ _ (by omega)]
    have hdJ : g49_74_hd J = g49_74_hd K := by
      funext c
      unfold g49_74_hd
      rw [fK 77 c.1 (by omega) (by omega) (by omega), fK 77 c.2.1 (by omega) (by omega) (by omega), fK 79 c.1 (by omega) (by omega) (by omega), fK 78 c.2.1 (by omega) (by omega) (by omega)]
    have BJ : g49_74_B J n := by
      obtain ⟨b1, b2, b3, b4, b5⟩ := BK
      exact ⟨by rw [fK 75 4 (by omega) (by omega) (by omega)]; exact b1, b2, b3, by rw [fK 75 5 (by omega) (by omega) (by omega)]; exact b4, fun i hi => by rw [fK 77 i (by omega) (by omega) (by omega), fK 78 i (by omega) (by omega) (by omega), fK 79 i (by omega) (by omega) (by omega)]; exact b5 i hi⟩
    have eB : kbaC 49 J (g49_74_hd J) = kmoL K (g49_74_hd K) M ++ kopL 49 K (g49_74_hd K) (n - 1) := by
      have e1 : (J 37 1).toNatClampNeg = M := tk_nat (by rw [fK 37 1 (by omega) (by omega) (by omega)]; exact eM)
      have e2 : (J 49 2).toNatClampNeg = n - 1 := tk_nat (by rw [fK 49 2 (by omega) (by omega) (by omega)]; exact eN)
      have e3 : ∀ k, kmoL J (g49_74_hd K) k = kmoL K (g49_74_hd K) k := fun k => by
        induction k with
        | zero => rfl
        | succ k ih =>
          show bC (g49_74_hd K) (nd (J 41 k)) (nd (J 42 k)) (J 43 k).toInt (J 44 k).toInt ++ kmoL J (g49_74_hd K) k = bC (g49_74_hd K) (nd (K 41 k)) (nd (K 42 k)) (K 43 k).toInt (K 44 k).toInt ++ kmoL K (g49_74_hd K) k
          rw [ih, fK 41 k (by omega) (by omega) (by omega), fK 42 k (by omega) (by omega) (by omega), fK 43 k (by omega) (by omega) (by omega), fK 44 k (by omega) (by omega) (by omega)]
      have e4 : ∀ k, kopL 49 J (g49_74_hd K) k = kopL 49 K (g49_74_hd K) k := fun k => by
        induction k with
        | zero => rfl
        | succ k ih =>
          show (if J 55 k = -1 then [] else bC (g49_74_hd K) (k + 1) (nd (J 55 k)) (J 56 k).toInt (J 57 k).toInt) ++ kopL 49 J (g49_74_hd K) k = (if K 55 k = -1 then [] else bC (g49_74_hd K) (k + 1) (nd (K 55 k)) (K 56 k).toInt (K 57 k).toInt) ++ kopL 49 K (g49_74_hd K) k
          rw [ih, fK 55 k (by omega) (by omega) (by omega), fK 56 k (by omega) (by omega) (by omega), fK 57 k (by omega) (by omega) (by omega)]
      show kmoL J (g49_74_hd J) (J 37 1).toNatClampNeg ++ kopL 49 J (g49_74_hd J) (J 49 2).toNatClampNeg = _
      rw [e1, e2, hdJ, e3, e4]
    refine h J (fun p j q1 q2 q3 => by rw [fr p j (by omega) (by omega)]; exact o4 p j q1 q2 (by omega)) ⟨by rw [f2 74 6 (by omega) (by omega) (by omega)]; exact g6, by rw [f2 74 7 (by omega) (by omega) (by omega)]; exact g7, by rw [f2 74 8 (by omega) (by omega) (by omega)]; exact g8, by rw [f2 74 10 (by omega) (by omega) (by omega)]; exact g10⟩ kk BJ (fun a ha => by rw [f2 77 a (by omega) (by omega) (by omega), f2 78 a (by omega) (by omega) (by omega), f2 79 a (by omega) (by omega) (by omega)]; exact st2 a ha) ?_
    rw [eB]
    have e12 : J 74 12 = J3 74 12 := f3 74 12 (by omega) (by omega)
    have eT : g49_74_T J n 0 = g49_74_T J3 n 0 := by
      funext a b
      unfold g49_74_T
      rw [f3 76 _ (by omega) (by omega)]
    unfold g49_74_st
    rw [e12, eT]; exact st3
  have lenS := sL_len x3
  have mv : ∀ (k i : Nat) (x5 : Int32) (J : sm_I), x5.toInt = i → i + k = m → (∀ p j, p ≠ 80 → ¬ (p = 74 ∧ j = 11) → J p j = K4 p j) → kyM 74 J (kitL x3 s i) → sm_wp sm_P S (d + 4) 220 9 [.ref 74, .int x5] [] (xLay, J, L, kG49_74 R) (0, 0) Φ := by
    intro k
    induction k with
    | zero =>
      intro i x5 J h5 hk fr kk
      have ei : i = m := by omega
      subst ei
      have e5 : J 49 5 = I 49 5 := by rw [fr 49 5 (by omega) (by omega)]; exact o4 49 5 (by omega) (by omega) (by omega)
      refine pg49_74_X2_begin_9 (d := d + 3) ⟨fun _ => fin J fr kk, fun a => ?_⟩
      have a := kl_nle a
      rw [e5] at a
      omega
    | succ k ih =>
      intro i x5 J h5 hk fr kk
      have e5 : J 49 5 = I 49 5 := by rw [fr 49 5 (by omega) (by omega)]; exact o4 49 5 (by omega) (by omega) (by omega)
      have s5 := ml_in1 (x := x5) (by omega)
      have c100 : (100 : Int32).toInt = 100 := by decide
      refine pg49_74_X2_begin_9 (d := d + 3) ⟨fun a => ?_, fun _ => ?_⟩
      · have a := kl_le.mp a
        rw [e5] at a
        omega
      have v : (100 : Int32) + x5 = Int32.ofNat (100 + i) := en_ofI (by rw [ml_ad c100 h5 (by omega) (by omega), Int32.toInt_ofNat_of_lt (by omega)]; omega)
      have ll := kitL_len (set := x3) (s := s) (m := i)
      refine g49_74_ai kk (by omega) v (fun J2 o2 k2 => ⟨J2, L, rfl, ih (i + 1) _ J2 (by omega) (by omega) (fun p j q1 q2 => (o2 p j q1 q2).trans (fr p j q1 q2)) ?_⟩)
      have e : kitL x3 s i ++ [100 + i] = kitL x3 s (i + 1) := by
        unfold kitL
        rw [List.append_assoc]; rfl
      rw [e] at k2
      exact k2
  have sy : ∀ (k i : Nat) (x5 : Int32) (J : sm_I), x5.toInt = i → i + k = s → (∀ p j, p ≠ 80 → ¬ (p = 74 ∧ j = 11) → J p j = K4 p j) → kyM 74 J (sL x3 i) → sm_wp sm_P S (d + 4) 220 4 [.ref 74, .int x3, .int x5] [] (xLay, J, L, kG49_74 R) (0, 0) Φ := by
    intro k
    induction k with
    | zero =>
      intro i x5 J h5 hk fr kk
      have ei : i = s := by omega
      subst ei
      have e5 : J 49 3 = I 49 3 := by rw [fr 49 3 (by omega) (by omega)]; exact o4 49 3 (by omega) (by omega) (by omega)
      refine pg49_74_X2_begin_4 (d := d + 3) ⟨fun _ => mv m 0 0 J (by decide) (by omega) fr ?_, fun a => ?_⟩
      · show kyM 74 J (sL x3 i ++ [])
        rw [List.append_nil]; exact kk
      · have a := kl_nle a
        rw [e5] at a
        omega
    | succ k ih =>
      intro i x5 J h5 hk fr kk
      have e5 : J 49 3 = I 49 3 := by rw [fr 49 3 (by omega) (by omega)]; exact o4 49 3 (by omega) (by omega) (by omega)
      have s5 := ml_in1 (x := x5) (by omega)
      have ex : x5 = Int32.ofNat i := en_ofI (by rw [h5, Int32.toInt_ofNat_of_lt (by omega)])
      refine pg49_74_X2_begin_4 (d := d + 3) ⟨fun a => ?_, fun _ => ⟨fun q => ?_, fun q => ?_⟩⟩
      · have a := kl_le.mp a
        rw [e5] at a
        omega
      · refine ih (i + 1) _ J (by omega) (by omega) fr ?_
        show kyM 74 J (sL x3 i ++ (if isb x3 i = true then [i] else []))
        rw [if_neg (by unfold isb; rw [← ex, decide_eq_true q]; decide), List.append_nil]
        exact kk
      · have ll := lenS i
        refine g49_74_ai kk (by omega) ex (fun J2 o2 k2 => ⟨J2, L, rfl, ih (i + 1) _ J2 (by omega) (by omega) (fun p j q1 q2 => (o2 p j q1 q2).trans (fr p j q1 q2)) ?_⟩)
        show kyM 74 J2 (sL x3 i ++ (if isb x3 i = true then [i] else []))
        rw [if_pos (by unfold isb; rw [← ex, decide_eq_false q]; rfl)]
        exact k2
  refine sy s 0 0 K4 (by decide) (by omega) (fun _ _ _ _ => rfl) ⟨?_, fun k hk => absurd hk (Nat.not_lt_zero k)⟩
  show (K4 74 11).toInt = _
  rw [eK4, en_up_eq]; rfl
end
end
section
/-! the class's GOING THROUGH with the book, exact; told = 12, going = 74 (wip/pe/mkg2.py) -/
section
variable {S : sm_C} {d : Nat} {Φ : sm_Z → Prop} {I : sm_I} {L : sm_L} {R : sm_R}
theorem g12_74_aw {ys : List Nat} {f : Nat → Nat} {w : Nat} {x1 x4 : Int32} {I0 : sm_I} {L0 : sm_L} (h1 : x1.toInt = w) (w1000 : w < 1000) (h4 : x4.toInt = ys.length) (yl : ys.length ≤ 60) (hk : ∀ k, k < ys.length → I0 80 k = Int32.ofNat (ys.getD k 0)) (hc : ∀ k, k < ys.length → I0 81 k = Int32.ofNat (f k)) (mono : ∀ i j, i < j → j < ys.length → ys.getD i 0 < ys.getD j 0) (rg : ∀ k, k < ys.length → (ys.getD k 0 < 10 ∧ f k < 4) ∨ (100 ≤ ys.getD k 0 ∧ ys.getD k 0 < 145 ∧ f k < 2)) (h : ∀ (J : sm_I) (L' : sm_L), (∀ p j, ¬ (p = 47 ∧ j = w) → J p j = I0 p j) → (∀ p j, ¬ (p = 48 ∧ j = w) → L' p j = L0 p j) → wbk (J 47 w) (L' 48 w) (gyw ys f ys.length) → Φ (none, (xLay, J, L', kG12_74 R))) : ∀ (m i : Nat) (x5 : Int32) (J : sm_I) (L' : sm_L), x5.toInt = i → i + m = ys.length → (∀ p j, ¬ (p = 47 ∧ j = w) → J p j = I0 p j) → (∀ p j, ¬ (p = 48 ∧ j = w) → L' p j = L0 p j) → wbk (J 47 w) (L' 48 w) (gyw ys f i) → sm_wp sm_P S d 215 4 [.ref 45, .int x1, .ref 80, .ref 81, .int x4, .int x5] [] (xLay, J, L', kG12_74 R) (0, 0) Φ := by
  have v1 : vp_in x1 1000 := kl_in (by omega) (by omega)
  have p1 := tk_nat h1
  intro m
  induction m with
  | zero =>
    intro i x5 J L' h5 hm fr fl wb
    have ei : i = ys.length := by omega
    subst ei
    refine pg12_74_X1_addWay_4 ⟨fun _ => h J L' fr fl wb, fun a => ?_⟩
    have a := kl_nle a
    omega
  | succ m ih =>
    intro i x5 J L' h5 hm fr fl wb
    have s5 := ml_in1 (x := x5) (by omega)
    have v5 : vp_in x5 60 := kl_in (by omega) (by omega)
    have c100 : (100 : Int32).toInt = 100 := by decide
    have rk := rg i (by omega)
    have it : (Int32.ofNat (ys.getD i 0)).toInt = ys.getD i 0 := Int32.toInt_ofNat_of_lt (by omega)
    have new : gyw ys f i (ys.getD i 0) = 0 := gyw_0 i (fun j hj => by have := mono j i hj (by omega); omega)
    refine pg12_74_X1_addWay_4 ⟨fun a => ?_, fun _ => ⟨v5, ?_⟩⟩
    · have a := kl_le.mp a
      omega
    rw [tk_nat h5, p1, fr 80 i (by omega), fr 81 i (by omega), hk i (by omega), hc i (by omega)]
    refine ⟨fun a => ⟨v1, v5, v5, v1, fun L1 e1 => ?_⟩, fun a => ⟨v1, v5, v5, fun n2 e2 => ⟨v1, fun I3 e3 => ?_⟩⟩⟩
    · have a := kl_le.mp a
      obtain ⟨r1, r2, r3⟩ := rk.resolve_left (fun q => by omega)
      obtain ⟨k, ek⟩ : ∃ k, ys.getD i 0 = 100 + k := ⟨ys.getD i 0 - 100, by omega⟩
      refine ih (i + 1) _ J L1 (by omega) (by omega) fr (fun p j q => by rw [e1, en_up_ne _ _ _ _ q]; exact fl p j q) ?_
      rw [e1, en_up_eq]
      show wbk _ _ (sup (gyw ys f i) (ys.getD i 0) (f i))
      rw [ek] at new ⊢
      exact wbk_m wb (by omega) r3 new
    · have a := kl_nle a
      obtain ⟨r1, r2⟩ := rk.resolve_right (fun q => by omega)
      refine ih (i + 1) _ I3 L' (by omega) (by omega) (fun p j q => by rw [e3, en_up_ne _ _ _ _ q]; exact fr p j q) fl ?_
      rw [e3, en_up_eq, e2]
      exact wbk_s wb r1 r2 new
/-- the book's new WAY -/
theorem g12_74_nw {ys : List Nat} {f : Nat → Nat} {w : Nat} (k : kyM 74 I ys) (yl : ys.length ≤ 60) (hw : (I 74 14).toInt = w) (w1000 : w < 1000) (ng : I 74 10 = 0) (hc : ∀ k, k < ys.length → I 81 k = Int32.ofNat (f k)) (mono : ∀ i j, i < j → j < ys.length → ys.getD i 0 < ys.getD j 0) (rg : ∀ k, k < ys.length → (ys.getD k 0 < 10 ∧ f k < 4) ∨ (100 ≤ ys.getD k 0 ∧ ys.getD k 0 < 145 ∧ f k < 2)) (h : ∀ (J : sm_I) (L' : sm_L), (∀ p j, ¬ (p = 47 ∧ j = w) → ¬ (p = 74 ∧ j = 14) → J p j = I p j) → (∀ p j, ¬ (p = 48 ∧ j = w) → L' p j = L p j) → wbk (J 47 w) (L' 48 w) (gyw ys f ys.length) → (J 74 14).toInt = ((w + 1 : Nat) : Int) → Φ (none, (xLay, J, L', kG12_74 R))) : sm_wp sm_P S (d + 1) 233 0 [.ref 74, .ref 45] [] (xLay, I, L, kG12_74 R) (0, 0) Φ := by
  obtain ⟨k1, k2⟩ := k
  have k1 : (I 74 11).toInt = ys.length := k1
  have v1 : vp_in (I 74 14) 1000 := kl_in (by omega) (by omega)
  refine pg12_74_X2_noteWay_0 (pg12_74_X1_addWay_0 ⟨fun a => ?_, fun _ => ⟨fun _ => ⟨v1, fun I1 e1 => ⟨v1, fun L2 e2 => ?_⟩⟩, fun a => ?_⟩⟩)
  · have a := kl_lt.mp a
    rw [kl_0] at a; omega
  · rw [tk_nat hw] at e1 e2
    refine g12_74_aw (I0 := I) (L0 := L) hw w1000 k1 yl k2 hc mono rg (fun J L' fr fl wb => ⟨J, L', rfl, fun _ I4 e4 => ?_, fun q => absurd ((fr 74 10 (by omega)).trans ng) q⟩) ys.length 0 0 I1 L2 (by decide) (by omega) (fun p j q => by rw [e1, en_up_ne _ _ _ _ q]) (fun p j q => by rw [e2, en_up_ne _ _ _ _ q]) (by rw [e1, e2, en_up_eq, en_up_eq]; exact wbk_0)
    have e14 : J 74 14 = I 74 14 := fr 74 14 (by omega)
    exact h I4 L' (fun p j q1 q2 => by rw [e4, en_up_ne _ _ _ _ q2]; exact fr p j q1) fl (by rw [e4, en_up_ne _ _ _ _ (by omega)]; exact wb) (by rw [e4, en_up_eq, e14, ml_in1 (by omega), hw]; rfl)
  · have a := kl_nlt a
    rw [show (1000 : Int32).toInt = 1000 from by decide] at a
    omega
theorem g12_74_at {a b t : Nat} {x1 x2 x3 x4 : Int32} (h1 : x1.toInt = t) (t1 : t < 1000) (h2 : x2 = Int32.ofNat a) (h3 : x3 = Int32.ofNat b) (h4 : x4 = 0 ∨ x4 = 1) (h : ∀ J, (∀ p j, ¬ (p = 46 ∧ j = t) → J p j = I p j) → J 46 t = pkT a b (!decide (x4 = 0)) → Φ (none, (xLay, J, L, kG12_74 R))) : sm_wp sm_P S d 214 0 [.ref 45, .int x1, .int x2, .int x3, .int x4] [] (xLay, I, L, kG12_74 R) (0, 0) Φ := by
  have v1 : vp_in x1 1000 := kl_in (by omega) (by omega)
  have c1000 : (1000 : Int32).toInt = 1000 := by decide
  refine pg12_74_X1_addTry_0 ⟨fun a => ?_, fun _ => ⟨fun a => ?_, fun _ => ⟨fun e n1 e1 => ⟨v1, fun I2 e2 => ?_⟩, fun e n1 e1 => ⟨v1, fun I2 e2 => ?_⟩⟩⟩⟩
  · have a := kl_lt.mp a
    rw [kl_0] at a; omega
  · have a := kl_le.mp a
    omega
  · rw [tk_nat h1, e1, h2, h3] at e2
    refine h I2 (fun p j q => by rw [e2, en_up_ne _ _ _ _ q]) ?_
    rw [e2, en_up_eq, decide_eq_true e]; rfl
  · rw [tk_nat h1, e1, h2, h3] at e2
    refine h I2 (fun p j q => by rw [e2, en_up_ne _ _ _ _ q]) ?_
    rw [e2, en_up_eq, decide_eq_false e]; rfl
/-- what going through writes -/
def g12_74_gfr (I J : sm_I) : Prop := ∀ p q, ¬ (p = 74 ∧ (q = 6 ∨ q = 13 ∨ q = 14 ∨ q = 15)) → p ≠ 76 → p ≠ 81 → p ≠ 46 → p ≠ 47 → J p q = I p q
def g12_74_lfr (L L' : sm_L) : Prop := ∀ p j, p ≠ 48 → L' p j = L p j
def g12_74_ok (ys : List Nat) (I0 : sm_I) (n : Nat) : Prop := g12_74_B I0 n ∧ kyM 74 I0 ys ∧ ys.length ≤ 55 ∧ I0 74 10 = 0 ∧ (∀ i j, i < j → j < ys.length → ys.getD i 0 < ys.getD j 0) ∧ ∀ k, k < ys.length → kiok 12 74 I0 n (ys.getD k 0)
def g12_74_rl (ys : List Nat) (I0 : sm_I) (L0 : sm_L) (n : Nat) (B0 : List tC) (k : Nat) (nx : Nat → Nat) (tr fd : Nat) (lg : Nat → Nat × Nat × Bool) (wy : Nat → Nat → Nat) (J : sm_I) (L : sm_L) : Prop := (g12_74_gfr I0 J ∧ g12_74_lfr L0 L) ∧ ((J 74 13).toInt = tr ∧ (J 74 14).toInt = fd ∧ J 74 15 = 0 ∧ J 74 6 = 0) ∧ (∀ j, j ≤ k → (J 81 j).toInt = (nx j : Int) - 1 ∧ nx j ≤ kcd 12 I0 (ys.getD j 0)) ∧ (∀ j, j < k → 1 ≤ nx j) ∧ (∀ j, j ≤ k → ttop n (cl B0 (fun i c => kcv 12 74 I0 (g12_74_hd I0) (ys.getD i 0) c) (fun i => nx i - 1) j) (g12_74_T J n j)) ∧ kbk ys tr fd lg wy J L ∧ (tr ≤ 1000 ∧ fd ≤ tr)
def g12_74_fin (ys : List Nat) (I0 : sm_I) (L0 : sm_L) (n : Nat) (B0 : List tC) (s : ss) (J : sm_I) (L : sm_L) : Prop := (g12_74_gfr I0 J ∧ g12_74_lfr L0 L) ∧ ((J 74 13).toInt = s.2.2.1 ∧ (J 74 14).toInt = s.2.2.2.1 ∧ J 74 15 = (if s.2.2.2.2.1 = true then 1 else 0) ∧ J 74 6 = 0) ∧ kbk ys s.2.2.1 s.2.2.2.1 s.2.2.2.2.2.1 s.2.2.2.2.2.2 J L ∧ (I0 74 12 ≠ 0 → ttop n B0 (g12_74_T J n 0))
theorem g12_74_fB {n : Nat} {I J : sm_I} (h : g12_74_gfr I J) (b : g12_74_B I n) : g12_74_B J n ∧ g12_74_hd J = g12_74_hd I := by
  obtain ⟨b1, b2, b3, b4, b5⟩ := b
  refine ⟨⟨by rw [h 75 4 (by omega) (by omega) (by omega) (by omega) (by omega)]; exact b1, b2, b3, by rw [h 75 5 (by omega) (by omega) (by omega) (by omega) (by omega)]; exact b4, fun i hi => by rw [h 77 i (by omega) (by omega) (by omega) (by omega) (by omega), h 78 i (by omega) (by omega) (by omega) (by omega) (by omega), h 79 i (by omega) (by omega) (by omega) (by omega) (by omega)]; exact b5 i hi⟩, ?_⟩
  funext c
  unfold g12_74_hd
  rw [h 77 c.1 (by omega) (by omega) (by omega) (by omega) (by omega), h 77 c.2.1 (by omega) (by omega) (by omega) (by omega) (by omega), h 79 c.1 (by omega) (by omega) (by omega) (by omega) (by omega), h 78 c.2.1 (by omega) (by omega) (by omega) (by omega) (by omega)]
/-- a going's frame keeps what an ITEM asks -/
theorem g12_74_fi {n s : Nat} {I J : sm_I} (h : g12_74_gfr I J) : (∀ f c, kcc 12 74 J f s c = kcc 12 74 I f s c) ∧ kcd 12 J s = kcd 12 I s ∧ (kiok 12 74 I n s → kiok 12 74 J n s) := by
  have o : ∀ p j, (12 ≤ p ∧ p ≤ 36) → J p j = I p j := fun p j q => h p j (by omega) (by omega) (by omega) (by omega) (by omega)
  have gv : kgv 74 J s = kgv 74 I s := by
    unfold kgv
    rw [h 74 7 (by omega) (by omega) (by omega) (by omega) (by omega), h 74 8 (by omega) (by omega) (by omega) (by omega) (by omega)]
  have e : ∀ f g p m, ksL 12 J f g p m = ksL 12 I f g p m := fun f g p => ksL_fr f g p (fun c j h1 h2 => o c j (by omega))
  have ec : kcd 12 J s = kcd 12 I s := by
    show (if s < 10 then (J 22 s).toNatClampNeg else if (J 36 (s - 100)).toInt < 0 then 0 else 2) = (if s < 10 then (I 22 s).toNatClampNeg else if (I 36 (s - 100)).toInt < 0 then 0 else 2)
    rw [o 22 _ (by omega), o 36 _ (by omega)]
  refine ⟨fun f c => ?_, ec, fun k => ?_⟩
  · show (if s < 10 then ksL 12 J f (kgv 74 J s) (3 * (4 * s + c)) (J 23 (4 * s + c)).toNatClampNeg else mvC f (nd (J 34 (s - 100))) (nd (J 35 (s - 100))) (J 36 (s - 100)).toInt c) = (if s < 10 then ksL 12 I f (kgv 74 I s) (3 * (4 * s + c)) (I 23 (4 * s + c)).toNatClampNeg else mvC f (nd (I 34 (s - 100))) (nd (I 35 (s - 100))) (I 36 (s - 100)).toInt c)
    rw [gv, e, o 23 _ (by omega), o 34 _ (by omega), o 35 _ (by omega), o 36 _ (by omega)]
  · rcases k with ⟨k1, k2, k3, k4⟩ | ⟨k1, k2⟩
    · refine Or.inl ⟨k1, ?_, by rw [gv]; exact k3, fun c hc => ?_⟩
      · show 0 ≤ (J 22 s).toInt ∧ (J 22 s).toInt ≤ 4
        rw [o 22 _ (by omega)]; exact k2
      · have hc : c < (J 22 s).toNatClampNeg := hc
        rw [o 22 _ (by omega)] at hc
        obtain ⟨a1, a2⟩ := k4 c hc
        refine ⟨?_, fun i hi => ?_⟩
        · show 0 ≤ (J 23 (4 * s + c)).toInt ∧ (J 23 (4 * s + c)).toInt ≤ 3
          rw [o 23 _ (by omega)]; exact a1
        · have hi : i < (J 23 (4 * s + c)).toNatClampNeg := hi
          rw [o 23 _ (by omega)] at hi
          obtain ⟨b0, b1, b2, b3, b4⟩ := a2 i hi
          refine ⟨b0, ?_, ?_, ?_, ?_⟩
          · show 0 ≤ (J 25 _).toInt ∧ (J 25 _).toInt + 1 < n
            rw [o 25 _ (by omega)]; exact b1
          · show -1 ≤ (J 26 _).toInt ∧ (J 26 _).toInt + 1 < n
            rw [o 26 _ (by omega)]; exact b2
          · show -1440 ≤ (J 27 _).toInt ∧ (J 27 _).toInt ≤ 1440
            rw [o 27 _ (by omega)]; exact b3
          · show -1440 ≤ (J 28 _).toInt ∧ (J 28 _).toInt ≤ 1440
            rw [o 28 _ (by omega)]; exact b4
    · refine Or.inr ⟨k1, fun w => ?_⟩
      have w : 0 ≤ (J 36 (s - 100)).toInt := w
      rw [o 36 _ (by omega)] at w
      obtain ⟨a1, a2, a3⟩ := k2 w
      refine ⟨?_, ?_, ?_⟩
      · show 0 ≤ (J 34 _).toInt ∧ (J 34 _).toInt + 1 < n
        rw [o 34 _ (by omega)]; exact a1
      · show 0 ≤ (J 35 _).toInt ∧ (J 35 _).toInt + 1 < n
        rw [o 35 _ (by omega)]; exact a2
      · show (J 36 _).toInt ≤ 100000
        rw [o 36 _ (by omega)]; exact a3
theorem g12_74_c4 {n s : Nat} {I : sm_I} (k : kiok 12 74 I n s) : (s < 10 ∧ kcd 12 I s ≤ 4) ∨ (100 ≤ s ∧ s < 145 ∧ kcd 12 I s ≤ 2) := by
  unfold kcd
  rcases k with ⟨k1, k2, -, -⟩ | ⟨k1, -⟩
  · rw [if_pos k1]
    have := kl_nat k2.1
    exact Or.inl ⟨k1, by omega⟩
  · rw [if_neg (by omega)]
    refine Or.inr ⟨k1.1, k1.2, ?_⟩
    split <;> omega
theorem g12_74_lv {n lev : Nat} (nw : n ≤ 11) (l : lev ≤ 55) : (lev + 1) * (n * n) + n * n ≤ 7381 := by
  have nn : n * n ≤ 11 * 11 := Nat.mul_le_mul nw nw
  have a : (lev + 1) * (n * n) ≤ 56 * (11 * 11) := Nat.mul_le_mul (by omega) nn
  omega
theorem g12_74_gt {ys : List Nat} {I0 : sm_I} {L0 : sm_L} {n : Nat} {B0 : List tC} {F : ss} (ok : g12_74_ok ys I0 n) (m1 : 1 ≤ ys.length) (hΦ : ∀ (J : sm_I) (L' : sm_L), g12_74_fin ys I0 L0 n B0 F J L' → Φ (none, (xLay, J, L', kG12_74 R))) : ∀ (f k : Nat) (nx : Nat → Nat) (tr fd : Nat) (lg : Nat → Nat × Nat × Bool) (wy : Nat → Nat → Nat) (J : sm_I) (L' : sm_L) (x3 x4 : Int32) (st : Nat), g12_74_rl ys I0 L0 n B0 k nx tr fd lg wy J L' → k < ys.length → x3.toInt = k → x4.toInt = st → st + f ≤ 2001 → rn ys.length (fun j => kcd 12 I0 (ys.getD j 0)) (fz n B0 (fun i c => kcv 12 74 I0 (g12_74_hd I0) (ys.getD i 0) c)) false f (k + 1, nx, tr, fd, false, lg, wy) = F → F.1 = 0 → sm_wp sm_P S (d + 5) 225 5 [.ref 74, .ref 45, .int 0, .int x3, .int x4] [] (xLay, J, L', kG12_74 R) (0, 0) Φ := by
  obtain ⟨B, kk, m55, ng, mono, iok⟩ := ok
  have k1 : (I0 74 11).toInt = ys.length := kk.1
  have k2 : ∀ k, k < ys.length → I0 80 k = Int32.ofNat (ys.getD k 0) := kk.2
  have nw := B.2.2.1
  have c1000 : (1000 : Int32).toInt = 1000 := by decide
  have c2010 : (2010 : Int32).toInt = 2010 := by decide
  have cm1 : (-1 : Int32).toInt = -1 := by decide
  intro f
  induction f with
  | zero =>
    intro k nx tr fd lg wy J L' x3 x4 st _ _ _ _ _ e z
    have e : (k + 1, nx, tr, fd, false, lg, wy) = F := e
    rw [← e] at z
    exact absurd z (Nat.succ_ne_zero k)
  | succ f ih =>
    intro k nx tr fd lg wy J L' x3 x4 st rel km h3 h4 hst hF hz
    obtain ⟨⟨fr, fl⟩, ⟨r13, r14, r15, r6⟩, r81, rn1, rT, rK, t1000, fdt⟩ := id rel
    have p3 := tk_nat h3
    have v : vp_in x3 60 := kl_in (by omega) (by omega)
    have s4 := ml_in1 (x := x4) (by omega)
    obtain ⟨s, es⟩ : ∃ s, s = ys.getD k 0 := ⟨_, rfl⟩
    have ik := iok k km
    rw [← es] at ik
    have cs := g12_74_c4 ik
    have its : (Int32.ofNat s).toInt = s := Int32.toInt_ofNat_of_lt (by omega)
    obtain ⟨n0, nk⟩ := r81 k (Nat.le_refl _)
    rw [← es] at nk
    refine pg12_74_X2_goThrough_5 (d := d + 4) ⟨fun a => ?_, fun _ => ⟨fun a => ?_, fun _ => ⟨v, ?_⟩⟩⟩
    · have a := kl_le.mp a
      omega
    · have a := kl_lt.mp a
      rw [kl_0] at a; omega
    rw [p3]
    intro n1 e1
    have q1 : n1.toInt = (nx k : Int) := by rw [e1, ml_in1 (by omega), n0]; omega
    have n1e : n1 = Int32.ofNat (nx k) := en_ofI (by rw [q1, Int32.toInt_ofNat_of_lt (by omega)])
    refine ⟨v, fun I2 e2 => ⟨v, v, ?_⟩⟩
    have o2 : ∀ p j, ¬ (p = 81 ∧ j = k) → I2 p j = J p j := fun p j q => by rw [e2, en_up_ne _ _ _ _ q]
    have f2 : g12_74_gfr I0 I2 := fun p j a1 a2 a3 a4 a5 => (o2 p j (by omega)).trans (fr p j a1 a2 a3 a4 a5)
    have k81 : I2 81 k = n1 := by rw [e2, en_up_eq]
    have i80 : I2 80 k = Int32.ofNat s := by rw [f2 80 k (by omega) (by omega) (by omega) (by omega) (by omega), k2 k km, es]
    obtain ⟨fi1, fi2, fi3⟩ := g12_74_fi (n := n) (s := s) f2
    rw [i80, k81]
    refine g12_74_cd (d := d + 2) (n := n) its (fi3 ik) (fun v5 ev => ⟨v5, I2, L', rfl, fun a => ?_, fun a => ?_⟩)
    rotate_left
    · -- back
      rw [fi2] at ev
      have a := kl_nlt a
      rw [q1, ev] at a
      have enx : nx k = kcd 12 I0 s := by omega
      rw [rn_back (nc := fun j => kcd 12 I0 (ys.getD j 0)) (k := k) (nx := nx) (by show kcd 12 I0 (ys.getD k 0) ≤ nx k; rw [← es, enx]; exact Nat.le_refl _)] at hF
      obtain ⟨y3, ey3⟩ : ∃ y : Int32, y = x3 + (-1 : Int32) := ⟨_, rfl⟩
      have mk : y3.toInt = (k : Int) - 1 := by
        rw [ey3]
        exact (ml_ad h3 cm1 (by omega) (by omega)).trans (by omega)
      rw [← ey3]
      have T2 : ∀ j, g12_74_T I2 n j = g12_74_T J n j := fun j => by
        funext a b
        unfold g12_74_T
        rw [o2 76 _ (by omega)]
      have K2 : kbk ys tr fd lg wy I2 L' := ⟨fun i hi h1 => by rw [o2 46 i (by omega)]; exact rK.1 i hi h1, fun w hw => by rw [o2 47 w (by omega)]; exact rK.2 w hw⟩
      refine pg12_74_X2_goThrough_19 (d := d + 4) ?_
      cases k with
      | zero =>
        rw [rn_0 rfl] at hF
        have fin : Φ (none, (xLay, I2, L', kG12_74 R)) := hΦ I2 L' (by
          rw [← hF]
          exact ⟨⟨f2, fl⟩, ⟨by rw [o2 74 13 (by omega)]; exact r13, by rw [o2 74 14 (by omega)]; exact r14, by rw [o2 74 15 (by omega)]; exact r15, by rw [o2 74 6 (by omega)]; exact r6⟩, K2, fun _ => by rw [T2]; exact rT 0 (Nat.le_refl _)⟩)
        refine pg12_74_X2_goThrough_5 (d := d + 4) ⟨fun _ => fin, fun _ => ⟨fun _ => fin, fun a => ?_⟩⟩
        have a := kl_nlt0 a
        omega
      | succ k =>
        exact ih k nx tr fd lg wy I2 L' _ _ (st + 1) ⟨⟨f2, fl⟩, ⟨by rw [o2 74 13 (by omega)]; exact r13, by rw [o2 74 14 (by omega)]; exact r14, by rw [o2 74 15 (by omega)]; exact r15, by rw [o2 74 6 (by omega)]; exact r6⟩, fun j hj => by rw [o2 81 j (by omega)]; exact r81 j (by omega), fun j hj => rn1 j (by omega), fun j hj => by rw [T2]; exact rT j (by omega), K2, t1000, fdt⟩ (by omega) (by omega) (by omega) (by omega) hF hz
    · -- a TRY
      rw [fi2] at ev
      have a := kl_lt.mp a
      rw [q1, ev] at a
      have enx : nx k < kcd 12 I0 s := by omega
      have c : ¬ kcd 12 I0 (ys.getD k 0) ≤ nx k := by rw [← es]; omega
      intro I6 e6
      have o6 : ∀ p j, ¬ (p = 74 ∧ j = 13) → I6 p j = I2 p j := fun p j q => by rw [e6, en_up_ne _ _ _ _ q]
      have q13 : (I6 74 13).toInt = tr + 1 := by rw [e6, en_up_eq, o2 74 13 (by omega), ml_in1 (by omega), r13]
      have f6 : g12_74_gfr I0 I6 := fun p j a1 a2 a3 a4 a5 => (o6 p j (by omega)).trans (f2 p j a1 a2 a3 a4 a5)
      have oo : ∀ p j, ¬ (p = 81 ∧ j = k) → ¬ (p = 74 ∧ j = 13) → I6 p j = J p j := fun p j a1 a2 => (o6 p j a2).trans (o2 p j a1)
      have T6 : ∀ j, g12_74_T I6 n j = g12_74_T J n j := fun j => by
        funext a b
        unfold g12_74_T
        rw [oo 76 _ (by omega) (by omega)]
      refine ⟨fun a => ⟨v, v, ?_⟩, fun a => ?_⟩
      rotate_left
      · -- SPENT
        have a := kl_nle a
        rw [q13, c1000] at a
        rw [rn_spent (nc := fun j => kcd 12 I0 (ys.getD j 0)) c (by omega)] at hF
        have o31 : ∀ p j, ¬ (p = 74 ∧ j = 15) → (sm_up I6 74 15 (1 : Int32)) p j = I6 p j := fun p j q => en_up_ne _ _ _ _ q
        refine hΦ _ L' ?_
        rw [← hF]
        refine ⟨⟨fun p j a1 a2 a3 a4 a5 => (o31 p j (by omega)).trans (f6 p j a1 a2 a3 a4 a5), fl⟩, ⟨?_, ?_, ?_, ?_⟩, ⟨fun i hi h1 => ?_, fun w hw => ?_⟩, fun _ => ?_⟩
        · rw [o31 74 13 (by omega), q13]; rfl
        · rw [o31 74 14 (by omega), oo 74 14 (by omega) (by omega)]; exact r14
        · exact en_up_eq _ _ _ _
        · rw [o31 74 6 (by omega), oo 74 6 (by omega) (by omega)]; exact r6
        · have hi : i < tr + 1 := hi
          rw [o31 46 i (by omega), oo 46 i (by omega) (by omega)]
          exact rK.1 i (by omega) h1
        · rw [o31 47 w (by omega), oo 47 w (by omega) (by omega)]
          exact rK.2 w hw
        · have e : g12_74_T (sm_up I6 74 15 (1 : Int32)) n 0 = g12_74_T I6 n 0 := by
            funext a b
            unfold g12_74_T
            rw [o31 76 _ (by omega)]
          rw [e, T6]
          exact rT 0 (Nat.zero_le _)
      have a := kl_le.mp a
      rw [q13, c1000] at a
      have tt : ¬ 1000 ≤ tr := by omega
      have s3 := ml_in1 (x := x3) (by omega)
      obtain ⟨B6, ehd⟩ := g12_74_fB f6 B
      obtain ⟨gi1, gi2, gi3⟩ := g12_74_fi (n := n) (s := s) f6
      have i80' : I6 80 k = Int32.ofNat s := (o6 80 k (by omega)).trans i80
      have i81' : I6 81 k = Int32.ofNat (nx k) := by rw [o6 81 k (by omega), k81, n1e]
      rw [i80', i81']
      refine g12_74_push (d := d + 1) B6 (g12_74_lv nw (by omega)) (by omega) h3 its (Int32.toInt_ofNat_of_lt (by omega)) (gi3 ik) (by rw [gi2]; exact enx) (by rw [T6]; exact rT k (Nat.le_refl _)) (fun r J7 z => ⟨r, J7, L', rfl, v, v, ?_⟩)
      rw [gi1, ehd] at z
      obtain ⟨cg7, z⟩ := z
      have chk : kcc 12 74 I0 (g12_74_hd I0) s (nx k) ++ cl B0 (fun i c => kcv 12 74 I0 (g12_74_hd I0) (ys.getD i 0) c) (fun i => nx i - 1) k = cl B0 (fun i c => kcv 12 74 I0 (g12_74_hd I0) (ys.getD i 0) c) (chs nx k (nx k)) (k + 1) := by
        show _ = kcv 12 74 I0 (g12_74_hd I0) (ys.getD k 0) (chs nx k (nx k) k) ++ cl B0 _ (chs nx k (nx k)) k
        have e1 : chs nx k (nx k) k = nx k := if_pos rfl
        have e2 : kcv 12 74 I0 (g12_74_hd I0) s (nx k) = kcc 12 74 I0 (g12_74_hd I0) s (nx k) := if_pos enx
        rw [e1, ← es, e2]
        congr 1
        exact cl_cg k (fun i hi => by
          have : chs nx k (nx k) i = nx i - 1 := if_neg (by omega)
          rw [this])
      rw [chk] at z
      have o7 : ∀ p j, p ≠ 76 → J7 p j = I6 p j := fun p j q => cg7 p j (by omega)
      have f7 : g12_74_gfr I0 J7 := fun p j a1 a2 a3 a4 a5 => (o7 p j a2).trans (f6 p j a1 a2 a3 a4 a5)
      have rr : r = 0 ∨ r = 1 := by
        rcases z with ⟨e, -⟩ | ⟨e, -⟩
        · exact Or.inl e
        · exact Or.inr e
      have q7 : (J7 74 13 - 1).toInt = (tr : Int) := by
        rw [o7 74 13 (by omega), Int32.toInt_sub, kl_1, q13]
        exact en_bmod (by omega) (by omega) (Or.inl (by omega))
      rw [o7 80 k (by omega), o7 81 k (by omega), i80', i81']
      refine g12_74_at (a := s) (b := nx k) q7 (by omega) rfl rfl rr (fun J10 o10 v10 => ⟨J10, L', rfl, ?_⟩)
      -- what all three ways on have in common
      have f10 : g12_74_gfr I0 J10 := fun p j a1 a2 a3 a4 a5 => (o10 p j (by omega)).trans (f7 p j a1 a2 a3 a4 a5)
      have oA : ∀ p j, p ≠ 76 → p ≠ 46 → ¬ (p = 81 ∧ j = k) → ¬ (p = 74 ∧ j = 13) → J10 p j = J p j := fun p j a1 a2 a3 a4 => by rw [o10 p j (by omega), o7 p j a1, oo p j a3 a4]
      have d13 : (J10 74 13).toInt = ((tr + 1 : Nat) : Int) := by rw [o10 74 13 (by omega), o7 74 13 (by omega), q13]; omega
      have d14 : (J10 74 14).toInt = fd := by rw [oA 74 14 (by omega) (by omega) (by omega) (by omega)]; exact r14
      have d15 : J10 74 15 = 0 := by rw [oA 74 15 (by omega) (by omega) (by omega) (by omega)]; exact r15
      have d6 : J10 74 6 = 0 := by rw [oA 74 6 (by omega) (by omega) (by omega) (by omega)]; exact r6
      have c81 : J10 81 k = Int32.ofNat (nx k) := by rw [o10 81 k (by omega), o7 81 k (by omega)]; exact i81'
      have d81 : ∀ j, j ≤ k → (J10 81 j).toInt = ((sup nx k (nx k + 1) j : Nat) : Int) - 1 ∧ sup nx k (nx k + 1) j ≤ kcd 12 I0 (ys.getD j 0) := fun j hj => by
        by_cases e : j = k
        · rw [e, sup_eq, c81, Int32.toInt_ofNat_of_lt (by omega), ← es]
          exact ⟨by omega, enx⟩
        · rw [sup_ne _ _ e, oA 81 j (by omega) (by omega) (by omega) (by omega)]
          exact r81 j hj
      have Tk : ∀ nx' : Nat → Nat, (∀ i, i < k → nx' i = nx i) → ∀ j, j ≤ k → ttop n (cl B0 (fun i c => kcv 12 74 I0 (g12_74_hd I0) (ys.getD i 0) c) (fun i => nx' i - 1) j) (g12_74_T J10 n j) := fun nx' e j hj => by
        rw [cl_nx (nx := nx') (nx' := nx) (fun i hi => e i (by omega))]
        refine ttop_eq (fun u v hu hv => ?_) (rT j hj)
        have tl := tix_lt hu hv
        have e1 : g12_74_T J10 n j u v = g12_74_T J7 n j u v := by unfold g12_74_T; rw [o10 76 _ (by omega)]
        have e2 : g12_74_T J7 n j u v = g12_74_T I6 n j u v := by
          unfold g12_74_T tix
          rw [cg7 76 _ (fun q => ?_)]
          have := Nat.mul_le_mul_right (n * n) (show j + 1 ≤ k + 1 by omega)
          rw [Nat.succ_mul] at this
          omega
        rw [e1, e2, T6]
      have lgb : kbk ys (tr + 1) fd (sup lg tr (k, nx k, !decide (r = 0))) wy J10 L' := by
        refine ⟨fun i hi h1 => ?_, fun w hw => ?_⟩
        · by_cases e : i = tr
          · rw [e, sup_eq, v10, es]
          · rw [sup_ne _ _ e, o10 46 i (by omega), o7 46 i (by omega), oo 46 i (by omega) (by omega)]
            exact rK.1 i (by omega) h1
        · rw [oA 47 w (by omega) (by omega) (by omega) (by omega)]
          exact rK.2 w hw
      have iM : (J10 74 11 - 1).toInt = (ys.length : Int) - 1 := by
        rw [f10 74 11 (by omega) (by omega) (by omega) (by omega) (by omega), Int32.toInt_sub, kl_1, k1]
        exact en_bmod (by omega) (by omega) (Or.inl rfl)
      have s41 : (x4 + 1).toInt = ((st + 1 : Nat) : Int) := by rw [s4, h4]; omega
      refine ⟨fun r0 => pg12_74_X2_goThrough_16 (d := d + 4) ⟨fun _ => pg12_74_X2_goThrough_19 (d := d + 4) ?_, fun q => absurd r0 q⟩, fun r0 => ?_⟩
      · -- it failed
        have zn : tno n (cl B0 (fun i c => kcv 12 74 I0 (g12_74_hd I0) (ys.getD i 0) c) (chs nx k (nx k)) (k + 1)) := by
          rcases z with ⟨-, q⟩ | ⟨q, -⟩
          · exact q
          · rw [r0] at q; exact absurd q (by decide)
        rw [rn_fail (nc := fun j => kcd 12 I0 (ys.getD j 0)) c tt (fz_f zn)] at hF
        rw [decide_eq_true r0] at lgb
        exact ih k (sup nx k (nx k + 1)) (tr + 1) fd (sup lg tr (k, nx k, false)) wy J10 L' x3 _ (st + 1) ⟨⟨f10, fl⟩, ⟨d13, d14, d15, d6⟩, d81, fun j hj => by rw [sup_ne _ _ (show j ≠ k by omega)]; exact rn1 j hj, Tk _ (fun i hi => sup_ne _ _ (by omega)), lgb, by omega, by omega⟩ km h3 s41 (by omega) hF hz
      have zt : ttop n (cl B0 (fun i c => kcv 12 74 I0 (g12_74_hd I0) (ys.getD i 0) c) (chs nx k (nx k)) (k + 1)) (g12_74_T J10 n (k + 1)) := by
        have e : g12_74_T J10 n (k + 1) = g12_74_T J7 n (k + 1) := by
          funext u v
          unfold g12_74_T
          rw [o10 76 _ (by omega)]
        rw [e]
        rcases z with ⟨q, -⟩ | ⟨-, q⟩
        · exact absurd q r0
        · exact q
      have ft := fz_t zt
      rw [decide_eq_false r0] at lgb
      have lgb : kbk ys (tr + 1) fd (sup lg tr (k, nx k, true)) wy J10 L' := lgb
      refine ⟨fun a => ?_, fun a => ⟨kl_in (by omega) (by omega), fun I13 e13 => pg12_74_X2_goThrough_19 (d := d + 4) ?_⟩⟩
      · -- a WAY
        have a := kl_le.mp a
        rw [iM, h3] at a
        have lm : ¬ k + 1 < ys.length := by omega
        rw [rn_way0 (nc := fun j => kcd 12 I0 (ys.getD j 0)) c tt ft lm] at hF
        refine pg12_74_X2_goThrough_16 (d := d + 4) ⟨fun q => absurd q r0, fun _ => ?_⟩
        refine g12_74_nw (d := d + 3) (ys := ys) (f := chs nx k (nx k)) (w := fd) ⟨?_, ?_⟩ (by omega) d14 (by omega) ?_ (fun i hi => ?_) mono (fun i hi => ?_) (fun J15 L15 o15 l15 wb15 d14' => ⟨J15, L15, rfl, fun _ => pg12_74_X2_goThrough_19 (d := d + 4) ?_, fun q => absurd rfl q⟩)
        · show (J10 74 11).toInt = _
          rw [f10 74 11 (by omega) (by omega) (by omega) (by omega) (by omega)]; exact k1
        · intro i hi
          show J10 80 i = _
          rw [f10 80 i (by omega) (by omega) (by omega) (by omega) (by omega)]; exact k2 i hi
        · rw [f10 74 10 (by omega) (by omega) (by omega) (by omega) (by omega)]; exact ng
        · by_cases e : i = k
          · rw [show chs nx k (nx k) i = nx k from if_pos e, e]
            exact c81
          · rw [show chs nx k (nx k) i = nx i - 1 from if_neg e]
            have b := (d81 i (by omega)).1
            rw [sup_ne _ _ e] at b
            have b1 := rn1 i (by omega)
            have b2 := (r81 i (by omega)).2
            have b3 := g12_74_c4 (iok i hi)
            exact en_ofI (by rw [b, Int32.toInt_ofNat_of_lt (by omega)]; omega)
        · have b3 := g12_74_c4 (iok i hi)
          by_cases e : i = k
          · rw [show chs nx k (nx k) i = nx k from if_pos e, e, ← es]
            omega
          · rw [show chs nx k (nx k) i = nx i - 1 from if_neg e]
            have b1 := rn1 i (by omega)
            have b2 := (r81 i (by omega)).2
            omega
        · have oB : ∀ p j, p ≠ 47 → ¬ (p = 74 ∧ j = 14) → J15 p j = J10 p j := fun p j q1 q2 => o15 p j (by omega) q2
          refine ih k (sup nx k (nx k + 1)) (tr + 1) (fd + 1) (sup lg tr (k, nx k, true)) (sup wy fd (chs nx k (nx k))) J15 L15 x3 _ (st + 1) ⟨⟨fun p j a1 a2 a3 a4 a5 => (oB p j a5 (by omega)).trans (f10 p j a1 a2 a3 a4 a5), fun p j q => (l15 p j (by omega)).trans (fl p j q)⟩, ⟨by rw [oB 74 13 (by omega) (by omega)]; exact d13, d14', by rw [oB 74 15 (by omega) (by omega)]; exact d15, by rw [oB 74 6 (by omega) (by omega)]; exact d6⟩, fun j hj => by rw [oB 81 j (by omega) (by omega)]; exact d81 j hj, fun j hj => by rw [sup_ne _ _ (show j ≠ k by omega)]; exact rn1 j hj, fun j hj => ttop_eq (fun u v _ _ => by unfold g12_74_T; rw [oB 76 _ (by omega) (by omega)]) (Tk _ (fun i hi => sup_ne _ _ (by omega)) j hj), ⟨fun i hi h1 => by rw [oB 46 i (by omega) (by omega)]; exact lgb.1 i hi h1, fun w hw => ?_⟩, by omega, by omega⟩ km h3 s41 (by omega) hF hz
          by_cases e : w = fd
          · rw [e, sup_eq]; exact wb15
          · rw [sup_ne _ _ e, o15 47 w (by omega) (by omega), l15 48 w (by omega)]
            exact lgb.2 w (by omega)
      · -- one ITEM further
        have a := kl_nle a
        rw [iM, h3] at a
        have lm : k + 1 < ys.length := by omega
        rw [rn_down (nc := fun j => kcd 12 I0 (ys.getD j 0)) c tt ft lm] at hF
        have x31 : (x3 + 1).toInt = ((k + 1 : Nat) : Int) := by rw [s3, h3]; omega
        rw [tk_nat x31] at e13
        have o16 : ∀ p j, ¬ (p = 81 ∧ j = k + 1) → I13 p j = J10 p j := fun p j q => by rw [e13, en_up_ne _ _ _ _ q]
        refine ih (k + 1) (sup (sup nx k (nx k + 1)) (k + 1) 0) (tr + 1) fd (sup lg tr (k, nx k, true)) wy I13 L' (x3 + 1) _ (st + 1) ⟨⟨fun p j a1 a2 a3 a4 a5 => (o16 p j (by omega)).trans (f10 p j a1 a2 a3 a4 a5), fl⟩, ⟨by rw [o16 74 13 (by omega)]; exact d13, by rw [o16 74 14 (by omega)]; exact d14, by rw [o16 74 15 (by omega)]; exact d15, by rw [o16 74 6 (by omega)]; exact d6⟩, fun j hj => ?_, fun j hj => ?_, fun j hj => ?_, ⟨fun i hi h1 => by rw [o16 46 i (by omega)]; exact lgb.1 i hi h1, fun w hw => by rw [o16 47 w (by omega)]; exact lgb.2 w hw⟩, by omega, by omega⟩ lm x31 s41 (by omega) hF hz
        · by_cases e : j = k + 1
          · rw [e, sup_eq, e13, en_up_eq]
            exact ⟨by rw [cm1]; rfl, Nat.zero_le _⟩
          · rw [sup_ne _ _ e, o16 81 j (by omega)]
            exact d81 j (by omega)
        · rw [sup_ne _ _ (show j ≠ k + 1 by omega)]
          by_cases e : j = k
          · rw [e, sup_eq]
            omega
          · rw [sup_ne _ _ e]
            exact rn1 j (by omega)
        · by_cases e : j = k + 1
          · rw [e]
            have ec : cl B0 (fun i c => kcv 12 74 I0 (g12_74_hd I0) (ys.getD i 0) c) (fun i => sup (sup nx k (nx k + 1)) (k + 1) 0 i - 1) (k + 1) = cl B0 (fun i c => kcv 12 74 I0 (g12_74_hd I0) (ys.getD i 0) c) (chs nx k (nx k)) (k + 1) := cl_cg (k + 1) (fun i hi => by
              show sup (sup nx k (nx k + 1)) (k + 1) 0 i - 1 = chs nx k (nx k) i
              rw [sup_ne _ _ (show i ≠ k + 1 by omega)]
              by_cases q : i = k
              · rw [q, sup_eq, Nat.add_sub_cancel]
                exact (if_pos rfl).symm
              · rw [sup_ne _ _ q]
                exact (if_neg q).symm)
            rw [ec]
            exact ttop_eq (fun u v _ _ => by unfold g12_74_T; rw [o16 76 _ (by omega)]) zt
          · exact ttop_eq (fun u v _ _ => by unfold g12_74_T; rw [o16 76 _ (by omega)]) (Tk _ (fun i hi => by rw [sup_ne _ _ (show i ≠ k + 1 by omega), sup_ne _ _ (show i ≠ k by omega)]) j (by omega))
end
end
