/-! the class's begin, exact; told = 12, going = 74, not hard (wip/pe/mkg2.py) -/
section
variable {S : sm_C} {d : Nat} {Φ : sm_Z → Prop} {I : sm_I} {L : sm_L} {R : sm_R}
def g12_74_h (I J : sm_I) : Prop := ∀ p q, p ≠ 76 → ¬ (p = 74 ∧ q = 12) → J p q = I p q
theorem g12_74_Bh {n : Nat} {I J : sm_I} (h : g12_74_h I J) (b : g12_74_B I n) : g12_74_B J n ∧ g12_74_hd J = g12_74_hd I := by
  obtain ⟨b1, b2, b3, b4, b5⟩ := b
  refine ⟨⟨by rw [h 75 4 (by omega) (by omega)]; exact b1, b2, b3, by rw [h 75 5 (by omega) (by omega)]; exact b4, fun i hi => by rw [h 77 i (by omega) (by omega), h 78 i (by omega) (by omega), h 79 i (by omega) (by omega)]; exact b5 i hi⟩, ?_⟩
  funext c
  unfold g12_74_hd
  rw [h 77 c.1 (by omega) (by omega), h 77 c.2.1 (by omega) (by omega), h 79 c.1 (by omega) (by omega), h 78 c.2.1 (by omega) (by omega)]
def g12_74_st (n : Nat) (A C : List tC) (J : sm_I) : Prop := (J 74 12 = 0 ∧ tno n A) ∨ (J 74 12 = 1 ∧ ttop n C (g12_74_T J n 0))
theorem g12_74_b17 {n M : Nat} {I0 : sm_I} {C : List tC} (B : g12_74_B I0 n) (hM : (I0 37 1).toInt = M) (M6 : M ≤ 6) (ok : ∀ k, k < M → kmok I0 n k) (h : ∀ J, g12_74_h I0 J → g12_74_st n (kmoL I0 (g12_74_hd I0) M ++ C) (kmoL I0 (g12_74_hd I0) M ++ C) J → Φ (none, (xLay, J, L, kG12_74 R))) : ∀ (m i : Nat) (x4 : Int32) (J : sm_I), x4.toInt = i → i + m = M → g12_74_h I0 J → g12_74_st n (kmoL I0 (g12_74_hd I0) M ++ C) (kmoL I0 (g12_74_hd I0) i ++ C) J → sm_wp sm_P S (d + 3) 230 17 [.ref 74, .ref 40, .int x4] [] (xLay, J, L, kG12_74 R) (0, 0) Φ := by
  have nn : n * n ≤ 144 := Nat.le_trans (Nat.mul_le_mul B.2.2.1 B.2.2.1) (by decide)
  intro m
  induction m with
  | zero =>
    intro i x4 J h4 hm fh st
    have e1 : J 37 1 = I0 37 1 := fh 37 1 (by omega) (by omega)
    have ei : i = M := by omega
    subst ei
    refine pg12_74_X2_layBase_17 (d := d + 2) ⟨fun _ => h J fh st, fun a => ?_⟩
    have a := kl_nle a
    rw [e1] at a
    omega
  | succ m ih =>
    intro i x4 J h4 hm fh st
    have e1 : J 37 1 = I0 37 1 := fh 37 1 (by omega) (by omega)
    have s4 := ml_in1 (x := x4) (by omega)
    have v : vp_in x4 6 := kl_in (by omega) (by omega)
    have o0 : ∀ (K : sm_I) (x : Int32), g12_74_h I0 K → g12_74_h I0 (sm_up K 74 12 x) := fun K x q a b c1 c2 => (en_up_ne _ _ _ _ c2).trans (q a b c1 c2)
    have t0 : ∀ (K : sm_I) (x : Int32), g12_74_T (sm_up K 74 12 x) n 0 = g12_74_T K n 0 := fun K x => by
      funext a b
      unfold g12_74_T
      rw [en_up_ne _ _ _ _ (by omega)]
    refine pg12_74_X2_layBase_17 (d := d + 2) ⟨fun a => ?_, fun _ => ⟨fun e => ?_, fun e => ⟨v, v, v, v, ?_⟩⟩⟩
    · have a := kl_le.mp a
      rw [e1] at a
      omega
    · rcases st with ⟨-, st⟩ | ⟨st, -⟩
      · exact ih (i + 1) _ _ (by omega) (by omega) (o0 J 0 fh) (Or.inl ⟨en_up_eq _ _ _ _, st⟩)
      · rw [e] at st; exact absurd st (by decide)
    rcases st with ⟨st, -⟩ | ⟨-, T⟩
    · exact absurd st e
    obtain ⟨k1, k2, k3, k4⟩ := ok i (by omega)
    have n11 := B.2.2.1
    obtain ⟨Bj, ej⟩ := g12_74_Bh fh B
    rw [tk_nat h4, fh 41 i (by omega) (by omega), fh 42 i (by omega) (by omega), fh 43 i (by omega) (by omega), fh 44 i (by omega) (by omega)]
    refine g12_74_bind (d := d) (lev := 0) Bj (by omega) (by omega) kl_0 (i := nd (I0 41 i)) (j := nd (I0 42 i)) (by rw [ml_in1 (by omega)]; unfold nd; omega) (by rw [ml_in1 (by omega)]; unfold nd; omega) (by unfold nd; omega) (by unfold nd; omega) (by omega) (by omega) (by omega) (by omega) T (fun r J2 q => ⟨r, J2, L, rfl, ?_⟩)
    rw [ej] at q
    have eC : bC (g12_74_hd I0) (nd (I0 41 i)) (nd (I0 42 i)) (I0 43 i).toInt (I0 44 i).toInt ++ (kmoL I0 (g12_74_hd I0) i ++ C) = kmoL I0 (g12_74_hd I0) (i + 1) ++ C := by rw [← List.append_assoc]; rfl
    rw [eC] at q
    obtain ⟨cg2, q⟩ := q
    have fh2 : g12_74_h I0 J2 := fun a b c1 c2 => (cg2 a b (by omega)).trans (fh a b c1 c2)
    refine ⟨fun r0 => ?_, fun r0 => ?_⟩
    · rcases q with ⟨-, q⟩ | ⟨q, -⟩
      · refine ih (i + 1) _ _ (by omega) (by omega) (o0 J2 0 fh2) (Or.inl ⟨en_up_eq _ _ _ _, tno_cg (fun c hc => ?_) q⟩)
        rcases List.mem_append.mp hc with hc | hc
        · exact List.mem_append.mpr (Or.inl (kmoL_le (i + 1) M (by omega) hc))
        · exact List.mem_append.mpr (Or.inr hc)
      · rw [r0] at q; exact absurd q (by decide)
    · rcases q with ⟨q, -⟩ | ⟨-, q⟩
      · exact absurd q r0
      · exact ih (i + 1) _ _ (by omega) (by omega) (o0 J2 1 fh2) (Or.inr ⟨en_up_eq _ _ _ _, by rw [t0]; exact q⟩)
theorem g12_74_b1 {n M N : Nat} {I0 : sm_I} (B : g12_74_B I0 n) (soft : I0 74 1 = 0) (hM : (I0 37 1).toInt = M) (M6 : M ≤ 6) (ok : ∀ k, k < M → kmok I0 n k) (hN : (I0 12 2).toInt = N) (N10 : N ≤ 10) (Nn : N + 1 ≤ n) (okN : ∀ k, k < N → kopk 12 I0 n k) (h : ∀ J, g12_74_h I0 J → g12_74_st n (kmoL I0 (g12_74_hd I0) M ++ kopL 12 I0 (g12_74_hd I0) N) (kmoL I0 (g12_74_hd I0) M ++ kopL 12 I0 (g12_74_hd I0) N) J → Φ (none, (xLay, J, L, kG12_74 R))) : ∀ (m i : Nat) (x3 : Int32) (J : sm_I), x3.toInt = i → i + m = N → g12_74_h I0 J → g12_74_st n (kopL 12 I0 (g12_74_hd I0) N) (kopL 12 I0 (g12_74_hd I0) i) J → sm_wp sm_P S (d + 3) 230 1 [.ref 74, .ref 16, .int x3] [] (xLay, J, L, kG12_74 R) (0, 0) Φ := by
  have nn : n * n ≤ 144 := Nat.le_trans (Nat.mul_le_mul B.2.2.1 B.2.2.1) (by decide)
  intro m
  induction m with
  | zero =>
    intro i x3 J h3 hm fh st
    have e1 : J 12 2 = I0 12 2 := fh 12 2 (by omega) (by omega)
    have ei : i = N := by omega
    subst ei
    refine pg12_74_X2_layBase_1 (d := d + 2) ⟨fun _ => g12_74_b17 (d := d) B hM M6 ok h M 0 0 J (by decide) (by omega) fh ?_, fun a => ?_⟩
    · rcases st with ⟨s1, s2⟩ | ⟨s1, s2⟩
      · exact Or.inl ⟨s1, tno_cg (fun c hc => List.mem_append.mpr (Or.inr hc)) s2⟩
      · exact Or.inr ⟨s1, s2⟩
    · have a := kl_nle a
      rw [e1] at a
      omega
  | succ m ih =>
    intro i x3 J h3 hm fh st
    have e1 : J 12 2 = I0 12 2 := fh 12 2 (by omega) (by omega)
    have es : J 74 1 = 0 := (fh 74 1 (by omega) (by omega)).trans soft
    have s3 := ml_in1 (x := x3) (by omega)
    have v : vp_in x3 10 := kl_in (by omega) (by omega)
    have o0 : ∀ (K : sm_I) (x : Int32), g12_74_h I0 K → g12_74_h I0 (sm_up K 74 12 x) := fun K x q a b c1 c2 => (en_up_ne _ _ _ _ c2).trans (q a b c1 c2)
    have t0 : ∀ (K : sm_I) (x : Int32), g12_74_T (sm_up K 74 12 x) n 0 = g12_74_T K n 0 := fun K x => by
      funext a b
      unfold g12_74_T
      rw [en_up_ne _ _ _ _ (by omega)]
    refine pg12_74_X2_layBase_1 (d := d + 2) ⟨fun a => ?_, fun _ => ⟨v, ?_⟩⟩
    · have a := kl_le.mp a
      rw [e1] at a
      omega
    rw [tk_nat h3, fh 18 i (by omega) (by omega)]
    have eL : kopL 12 I0 (g12_74_hd I0) (i + 1) = kopC 12 I0 (g12_74_hd I0) i ++ kopL 12 I0 (g12_74_hd I0) i := rfl
    refine ⟨fun e => ?_, fun e => ⟨fun _ => ⟨fun e2 => ?_, fun e2 => ⟨v, v, v, ?_⟩⟩, fun q => absurd es q⟩⟩
    · have eC : kopC 12 I0 (g12_74_hd I0) i = [] := if_pos e
      rw [eC] at eL
      refine ih (i + 1) _ J (by omega) (by omega) fh ?_
      rcases st with st | ⟨s1, s2⟩
      · exact Or.inl st
      · exact Or.inr ⟨s1, by rw [eL]; exact s2⟩
    · rcases st with ⟨-, st⟩ | ⟨st, -⟩
      · exact ih (i + 1) _ _ (by omega) (by omega) (o0 J 0 fh) (Or.inl ⟨en_up_eq _ _ _ _, st⟩)
      · rw [e2] at st; exact absurd st (by decide)
    rcases st with ⟨st, -⟩ | ⟨-, T⟩
    · exact absurd st e2
    obtain ⟨k1, k2, k3⟩ := okN i (by omega) e
    have k1 : 0 ≤ (I0 18 i).toInt ∧ (I0 18 i).toInt + 1 < n := k1
    have k2 : -1440 ≤ (I0 19 i).toInt ∧ (I0 19 i).toInt ≤ 1440 := k2
    have k3 : -1440 ≤ (I0 20 i).toInt ∧ (I0 20 i).toInt ≤ 1440 := k3
    have n11 := B.2.2.1
    obtain ⟨Bj, ej⟩ := g12_74_Bh fh B
    rw [fh 19 i (by omega) (by omega), fh 20 i (by omega) (by omega)]
    refine g12_74_bind (d := d) (lev := 0) Bj (by omega) (by omega) kl_0 (i := i + 1) (j := nd (I0 18 i)) (by rw [s3]; omega) (by rw [ml_in1 (by omega)]; unfold nd; omega) (by omega) (by unfold nd; omega) (by omega) (by omega) (by omega) (by omega) T (fun r J2 q => ⟨r, J2, L, rfl, ?_⟩)
    rw [ej] at q
    have eC : kopC 12 I0 (g12_74_hd I0) i = bC (g12_74_hd I0) (i + 1) (nd (I0 18 i)) (I0 19 i).toInt (I0 20 i).toInt := if_neg e
    rw [← eC, ← eL] at q
    obtain ⟨cg2, q⟩ := q
    have fh2 : g12_74_h I0 J2 := fun a b c1 c2 => (cg2 a b (by omega)).trans (fh a b c1 c2)
    refine ⟨fun r0 => ?_, fun r0 => ?_⟩
    · rcases q with ⟨-, q⟩ | ⟨q, -⟩
      · exact ih (i + 1) _ _ (by omega) (by omega) (o0 J2 0 fh2) (Or.inl ⟨en_up_eq _ _ _ _, tno_cg (fun c hc => kopL_le (i + 1) N (by omega) hc) q⟩)
      · rw [r0] at q; exact absurd q (by decide)
    · rcases q with ⟨q, -⟩ | ⟨-, q⟩
      · exact absurd q r0
      · exact ih (i + 1) _ _ (by omega) (by omega) (o0 J2 1 fh2) (Or.inr ⟨en_up_eq _ _ _ _, by rw [t0]; exact q⟩)
theorem g12_74_F0 : kG12_74l = kF12_74l ++ [(74, 4, 12)] := by decide +kernel
theorem g12_74_up : sm_up (sm_up (kF12_74 R) 74 4 (some 12)) 74 5 (some 37) = kG12_74 R := by
  funext x j
  by_cases c5 : x = 74 ∧ j = 5
  · rw [c5.1, c5.2, en_up_eq]; rfl
  rw [en_up_ne _ _ _ _ c5]
  by_cases c4 : x = 74 ∧ j = 4
  · rw [c4.1, c4.2, en_up_eq]; rfl
  rw [en_up_ne _ _ _ _ c4]
  unfold kG12_74 kF12_74
  rw [g12_74_F0, List.find?_append]
  cases kF12_74l.find? (fun t => Nat.beq t.1 x && Nat.beq t.2.1 j) with
  | some t => rfl
  | none =>
    have e : [(74, 4, 12)].find? (fun t => Nat.beq t.1 x && Nat.beq t.2.1 j) = none := by
      have b : (Nat.beq 74 x && Nat.beq 4 j) = false := by
        cases q : (Nat.beq 74 x && Nat.beq 4 j) with
        | false => rfl
        | true =>
          obtain ⟨q1, q2⟩ := Bool.and_eq_true_iff.mp q
          exact absurd ⟨(Nat.eq_of_beq_eq_true q1).symm, (Nat.eq_of_beq_eq_true q2).symm⟩ c4
      show (match (Nat.beq 74 x && Nat.beq 4 j) with
        | true => some (74, 4, 12)
        | false => List.find? _ []) = none
      rw [b]; rfl
    rw [e]; rfl
theorem g12_74_ai {ys : List Nat} {x : Int32} {a : Nat} (k : kyM 74 I ys) (yl : ys.length < 60) (hx : x = Int32.ofNat a) (h : ∀ J, (∀ p j, p ≠ 80 → ¬ (p = 74 ∧ j = 11) → J p j = I p j) → kyM 74 J (ys ++ [a]) → Φ (none, (xLay, J, L, kG12_74 R))) : sm_wp sm_P S d 219 0 [.ref 74, .int x] [] (xLay, I, L, kG12_74 R) (0, 0) Φ := by
  obtain ⟨k1, k2⟩ := k
  have k1 : (I 74 11).toInt = ys.length := k1
  have k2 : ∀ k, k < ys.length → I 80 k = Int32.ofNat (ys.getD k 0) := k2
  refine pg12_74_X2_addItem_0 ⟨fun a => ?_, fun _ => ⟨kl_in (by omega) (by omega), fun I1 e1 I2 e2 => ?_⟩⟩
  · have a := kl_le.mp a
    rw [Int32.toInt_ofNat_of_lt (by decide)] at a; omega
  rw [tk_nat k1, hx] at e1
  have e11 : I1 74 11 = I 74 11 := by rw [e1, en_up_ne _ _ _ _ (by omega)]
  refine h I2 (fun p j q1 q2 => by rw [e2, en_up_ne _ _ _ _ q2, e1, en_up_ne _ _ _ _ (by omega)]) ⟨?_, fun k hk => ?_⟩
  · show (I2 74 11).toInt = _
    rw [e2, en_up_eq, e11, ml_in1 (by omega), k1, List.length_append]; rfl
  · show I2 80 k = _
    rw [List.length_append] at hk
    have hk : k < ys.length + 1 := hk
    rw [e2, en_up_ne _ _ _ _ (by omega), e1]
    by_cases c : k = ys.length
    · rw [c, en_up_eq, nG_n]
    · rw [en_up_ne _ _ _ _ (by omega), nG_l (by omega)]
      exact k2 k (by omega)
/-- what begin writes -/
def g12_74_bfr (I J : sm_I) : Prop := ∀ p q, ¬ (p = 74 ∧ (q = 6 ∨ q = 7 ∨ q = 8 ∨ q = 10 ∨ q = 11 ∨ q = 12)) → ¬ (p = 75 ∧ (q = 4 ∨ q = 5)) → ¬ (76 ≤ p ∧ p ≤ 80) → J p q = I p q
theorem g12_74_begin {n s m M : Nat} {x3 : Int32} (soft : I 74 1 = 0) (hM : (I 37 1).toInt = M) (M6 : M ≤ 6) (ok : ∀ k, k < M → kmok I n k) (hN : (I 12 2).toInt + 1 = n) (n11 : n ≤ 11) (n1 : 1 ≤ n) (okN : ∀ k, k < n - 1 → kopk 12 I n k) (hs : (I 12 3).toInt = s) (s10 : s ≤ 10) (hm : (I 12 5).toInt = m) (m45 : m ≤ 45) (h : ∀ J, g12_74_bfr I J → (J 74 6 = 0 ∧ J 74 7 = 0 ∧ J 74 8 = 0 ∧ J 74 10 = 0) → kyM 74 J (kitL x3 s m) → g12_74_B J n → (∀ a, a < n → J 77 a = Int32.ofNat a ∧ J 78 a = 0 ∧ J 79 a = 0) → g12_74_st n (kbaC 12 J (g12_74_hd J)) (kbaC 12 J (g12_74_hd J)) J → Φ (none, (xLay, J, L, kG12_74 R))) : sm_wp sm_P S (d + 4) 220 0 [.ref 74, .ref 12, .ref 37, .int x3, .int 0] [] (xLay, I, L, kF12_74 R) (0, 0) Φ := by
  refine pg12_74_X2_beginF_0 (d := d + 3) (fun I1 e1 => ⟨fun _ => ?_, fun a => absurd (by decide) a⟩)
  rw [g12_74_up]
  have o1 : ∀ p j, ¬ (p = 74 ∧ (j = 7 ∨ j = 8 ∨ j = 10)) → (sm_up I1 74 10 (0 : Int32)) p j = I p j := fun p j q => by rw [en_up_ne _ _ _ _ (by omega), e1, en_up_ne _ _ _ _ (by omega), en_up_ne _ _ _ _ (by omega)]
  refine pg12_74_X2_layBase_0 (d := d + 2) (fun n1' en1 => ?_)
  have o2 : ∀ p j, ¬ (p = 74 ∧ (j = 6 ∨ j = 7 ∨ j = 8 ∨ j = 10)) → (sm_up (sm_up I1 74 10 (0 : Int32)) 74 6 (0 : Int32)) p j = I p j := fun p j q => by rw [en_up_ne _ _ _ _ (by omega)]; exact o1 p j (by omega)
  have qn : n1'.toInt = n := by
    rw [en1, o2 12 2 (by omega)]
    rw [ml_ad (a := (n : Int)) (by rw [ml_in1 (by omega)]; exact hN) kl_0 (by omega) (by omega)]
    omega
  refine g12_74_bl qn n1 n11 (fun J2 bf B2 st2 T2 => ⟨J2, L, rfl, ?_⟩)
  have oJ : ∀ p j, ¬ (p = 74 ∧ (j = 6 ∨ j = 7 ∨ j = 8 ∨ j = 10)) → ¬ (p = 75 ∧ (j = 4 ∨ j = 5)) → ¬ (76 ≤ p ∧ p ≤ 79) → J2 p j = I p j := fun p j q1 q2 q3 => (bf p j q2 (by omega) (by omega) (by omega) (by omega)).trans (o2 p j q1)
  have oK : ∀ p j, ¬ (p = 74 ∧ (j = 6 ∨ j = 7 ∨ j = 8 ∨ j = 10 ∨ j = 12)) → ¬ (p = 75 ∧ (j = 4 ∨ j = 5)) → ¬ (76 ≤ p ∧ p ≤ 79) → (sm_up J2 74 12 (1 : Int32)) p j = I p j := fun p j q1 q2 q3 => by rw [en_up_ne _ _ _ _ (by omega)]; exact oJ p j (by omega) q2 q3
  have g6 : J2 74 6 = 0 := by rw [bf 74 6 (by omega) (by omega) (by omega) (by omega) (by omega), en_up_eq]
  have g7 : J2 74 7 = 0 := by rw [bf 74 7 (by omega) (by omega) (by omega) (by omega) (by omega), en_up_ne _ _ _ _ (by omega), en_up_ne _ _ _ _ (by omega), e1, en_up_ne _ _ _ _ (by omega), en_up_eq]
  have g8 : J2 74 8 = 0 := by rw [bf 74 8 (by omega) (by omega) (by omega) (by omega) (by omega), en_up_ne _ _ _ _ (by omega), en_up_ne _ _ _ _ (by omega), e1, en_up_eq]
  have g10 : J2 74 10 = 0 := by rw [bf 74 10 (by omega) (by omega) (by omega) (by omega) (by omega), en_up_ne _ _ _ _ (by omega), en_up_eq]
  obtain ⟨K, eK⟩ : ∃ K, K = sm_up J2 74 12 (1 : Int32) := ⟨_, rfl⟩
  rw [← eK] at oK ⊢
  have hK : g12_74_h J2 K := fun a b c1 c2 => by rw [eK, en_up_ne _ _ _ _ c2]
  have hK' : g12_74_h K J2 := fun a b c1 c2 => (hK a b c1 c2).symm
  obtain ⟨BK, eKh⟩ := g12_74_Bh hK B2
  have TK : g12_74_T K n 0 = g12_74_T J2 n 0 := by
    funext a b
    unfold g12_74_T
    rw [eK, en_up_ne _ _ _ _ (by omega)]
  have okM : ∀ k, k < M → kmok K n k := fun k hk => by
    have a := ok k hk
    unfold kmok at a ⊢
    rw [oK 41 k (by omega) (by omega) (by omega), oK 42 k (by omega) (by omega) (by omega), oK 43 k (by omega) (by omega) (by omega), oK 44 k (by omega) (by omega) (by omega)]; exact a
  have okO : ∀ k, k < n - 1 → kopk 12 K n k := fun k hk => by
    have a := okN k hk
    have a : I 18 k ≠ -1 → (0 ≤ (I 18 k).toInt ∧ (I 18 k).toInt + 1 < n) ∧ (-1440 ≤ (I 19 k).toInt ∧ (I 19 k).toInt ≤ 1440) ∧ (-1440 ≤ (I 20 k).toInt ∧ (I 20 k).toInt ≤ 1440) := a
    show K 18 k ≠ -1 → (0 ≤ (K 18 k).toInt ∧ (K 18 k).toInt + 1 < n) ∧ (-1440 ≤ (K 19 k).toInt ∧ (K 19 k).toInt ≤ 1440) ∧ (-1440 ≤ (K 20 k).toInt ∧ (K 20 k).toInt ≤ 1440)
    rw [oK 18 k (by omega) (by omega) (by omega), oK 19 k (by omega) (by omega) (by omega), oK 20 k (by omega) (by omega) (by omega)]; exact a
  have eM : (K 37 1).toInt = M := by rw [oK 37 1 (by omega) (by omega) (by omega)]; exact hM
  have eN : (K 12 2).toInt = ((n - 1 : Nat) : Int) := by rw [oK 12 2 (by omega) (by omega) (by omega)]; omega
  refine g12_74_b1 (d := d) (I0 := K) (n := n) (M := M) (N := n - 1) BK (by rw [oK 74 1 (by omega) (by omega) (by omega)]; exact soft) eM M6 okM eN (by omega) (by omega) okO (fun J3 h3 st3 => ⟨J3, L, rfl, ?_⟩) (n - 1) 0 0 K (by decide) (by omega) (fun _ _ _ _ => rfl) (Or.inr ⟨by rw [eK, en_up_eq], by rw [TK]; exact T2⟩)
  -- the ITEMS
  obtain ⟨K4, eK4⟩ : ∃ K4, K4 = sm_up J3 74 11 (0 : Int32) := ⟨_, rfl⟩
  rw [← eK4]
  have o4 : ∀ p j, ¬ (p = 74 ∧ (j = 6 ∨ j = 7 ∨ j = 8 ∨ j = 10 ∨ j = 11 ∨ j = 12)) → ¬ (p = 75 ∧ (j = 4 ∨ j = 5)) → ¬ (76 ≤ p ∧ p ≤ 79) → K4 p j = I p j := fun p j q1 q2 q3 => by rw [eK4, en_up_ne _ _ _ _ (by omega), h3 p j (by omega) (by omega)]; exact oK p j (by omega) q2 q3
  have fin : ∀ J, (∀ p j, p ≠ 80 → ¬ (p = 74 ∧ j = 11) → J p j = K4 p j) → kyM 74 J (kitL x3 s m) → Φ (none, (xLay, J, L, kG12_74 R)) := fun J fr kk => by
    have f3 : ∀ p j, p ≠ 80 → ¬ (p = 74 ∧ j = 11) → J p j = J3 p j := fun p j q1 q2 => by rw [fr p j q1 q2, eK4, en_up_ne _ _ _ _ q2]
    have fK : ∀ p j, p ≠ 80 → ¬ (p = 74 ∧ (j = 11 ∨ j = 12)) → p ≠ 76 → J p j = K p j := fun p j q1 q2 q3 => (f3 p j q1 (by omega)).trans (h3 p j q3 (by omega))
    have f2 : ∀ p j, p ≠ 80 → ¬ (p = 74 ∧ (j = 11 ∨ j = 12)) → p ≠ 76 → J p j = J2 p j := fun p j q1 q2 q3 => by rw [fK p j q1 q2 q3, eK, en_up_ne _ _ _ _ (by omega)]
    have hdJ : g12_74_hd J = g12_74_hd K := by
      funext c
      unfold g12_74_hd
      rw [fK 77 c.1 (by omega) (by omega) (by omega), fK 77 c.2.1 (by omega) (by omega) (by omega), fK 79 c.1 (by omega) (by omega) (by omega), fK 78 c.2.1 (by omega) (by omega) (by omega)]
    have BJ : g12_74_B J n := by
      obtain ⟨b1, b2, b3, b4, b5⟩ := BK
      exact ⟨by rw [fK 75 4 (by omega) (by omega) (by omega)]; exact b1, b2, b3, by rw [fK 75 5 (by omega) (by omega) (by omega)]; exact b4, fun i hi => by rw [fK 77 i (by omega) (by omega) (by omega), fK 78 i (by omega) (by omega) (by omega), fK 79 i (by omega) (by omega) (by omega)]; exact b5 i hi⟩
    have eB : kbaC 12 J (g12_74_hd J) = kmoL K (g12_74_hd K) M ++ kopL 12 K (g12_74_hd K) (n - 1) := by
      have e1 : (J 37 1).toNatClampNeg = M := tk_nat (by rw [fK 37 1 (by omega) (by omega) (by omega)]; exact eM)
      have e2 : (J 12 2).toNatClampNeg = n - 1 := tk_nat (by rw [fK 12 2 (by omega) (by omega) (by omega)]; exact eN)
      have e3 : ∀ k, kmoL J (g12_74_hd K) k = kmoL K (g12_74_hd K) k := fun k => by
        induction k with
        | zero => rfl
        | succ k ih =>
          show bC (g12_74_hd K) (nd (J 41 k)) (nd (J 42 k)) (J 43 k).toInt (J 44 k).toInt ++ kmoL J (g12_74_hd K) k = bC (g12_74_hd K) (nd (K 41 k)) (nd (K 42 k)) (K 43 k).toInt (K 44 k).toInt ++ kmoL K (g12_74_hd K) k
          rw [ih, fK 41 k (by omega) (by omega) (by omega), fK 42 k (by omega) (by omega) (by omega), fK 43 k (by omega) (by omega) (by omega), fK 44 k (by omega) (by omega) (by omega)]
      have e4 : ∀ k, kopL 12 J (g12_74_hd K) k = kopL 12 K (g12_74_hd K) k := fun k => by
        induction k with
        | zero => rfl
        | succ k ih =>
          show (if J 18 k = -1 then [] else bC (g12_74_hd K) (k + 1) (nd (J 18 k)) (J 19 k).toInt (J 20 k).toInt) ++ kopL 12 J (g12_74_hd K) k = (if K 18 k = -1 then [] else bC (g12_74_hd K) (k + 1) (nd (K 18 k)) (K 19 k).toInt (K 20 k).toInt) ++ kopL 12 K (g12_74_hd K) k
          rw [ih, fK 18 k (by omega) (by omega) (by omega), fK 19 k (by omega) (by omega) (by omega), fK 20 k (by omega) (by omega) (by omega)]
      show kmoL J (g12_74_hd J) (J 37 1).toNatClampNeg ++ kopL 12 J (g12_74_hd J) (J 12 2).toNatClampNeg = _
      rw [e1, e2, hdJ, e3, e4]
    refine h J (fun p j q1 q2 q3 => by rw [fr p j (by omega) (by omega)]; exact o4 p j q1 q2 (by omega)) ⟨by rw [f2 74 6 (by omega) (by omega) (by omega)]; exact g6, by rw [f2 74 7 (by omega) (by omega) (by omega)]; exact g7, by rw [f2 74 8 (by omega) (by omega) (by omega)]; exact g8, by rw [f2 74 10 (by omega) (by omega) (by omega)]; exact g10⟩ kk BJ (fun a ha => by rw [f2 77 a (by omega) (by omega) (by omega), f2 78 a (by omega) (by omega) (by omega), f2 79 a (by omega) (by omega) (by omega)]; exact st2 a ha) ?_
    rw [eB]
    have e12 : J 74 12 = J3 74 12 := f3 74 12 (by omega) (by omega)
    have eT : g12_74_T J n 0 = g12_74_T J3 n 0 := by
      funext a b
      unfold g12_74_T
      rw [f3 76 _ (by omega) (by omega)]
    unfold g12_74_st
    rw [e12, eT]; exact st3
  have lenS := sL_len x3
  have mv : ∀ (k i : Nat) (x5 : Int32) (J : sm_I), x5.toInt = i → i + k = m → (∀ p j, p ≠ 80 → ¬ (p = 74 ∧ j = 11) → J p j = K4 p j) → kyM 74 J (kitL x3 s i) → sm_wp sm_P S (d + 4) 220 9 [.ref 74, .int x5] [] (xLay, J, L, kG12_74 R) (0, 0) Φ := by
    intro k
    induction k with
    | zero =>
      intro i x5 J h5 hk fr kk
      have ei : i = m := by omega
      subst ei
      have e5 : J 12 5 = I 12 5 := by rw [fr 12 5 (by omega) (by omega)]; exact o4 12 5 (by omega) (by omega) (by omega)
      refine pg12_74_X2_begin_9 (d := d + 3) ⟨fun _ => fin J fr kk, fun a => ?_⟩
      have a := kl_nle a
      rw [e5] at a
      omega
    | succ k ih =>
      intro i x5 J h5 hk fr kk
      have e5 : J 12 5 = I 12 5 := by rw [fr 12 5 (by omega) (by omega)]; exact o4 12 5 (by omega) (by omega) (by omega)
      have s5 := ml_in1 (x := x5) (by omega)
      have c100 : (100 : Int32).toInt = 100 := by decide
      refine pg12_74_X2_begin_9 (d := d + 3) ⟨fun a => ?_, fun _ => ?_⟩
      · have a := kl_le.mp a
        rw [e5] at a
        omega
      have v : (100 : Int32) + x5 = Int32.ofNat (100 + i) := en_ofI (by rw [ml_ad c100 h5 (by omega) (by omega), Int32.toInt_ofNat_of_lt (by omega)]; omega)
      have ll := kitL_len (set := x3) (s := s) (m := i)
      refine g12_74_ai kk (by omega) v (fun J2 o2 k2 => ⟨J2, L, rfl, ih (i + 1) _ J2 (by omega) (by omega) (fun p j q1 q2 => (o2 p j q1 q2).trans (fr p j q1 q2)) ?_⟩)
      have e : kitL x3 s i ++ [100 + i] = kitL x3 s (i + 1) := by
        unfold kitL
        rw [List.append_assoc]; rfl
      rw [e] at k2
      exact k2
  have sy : ∀ (k i : Nat) (x5 : Int32) (J : sm_I), x5.toInt = i → i + k = s → (∀ p j, p ≠ 80 → ¬ (p = 74 ∧ j = 11) → J p j = K4 p j) → kyM 74 J (sL x3 i) → sm_wp sm_P S (d + 4) 220 4 [.ref 74, .int x3, .int x5] [] (xLay, J, L, kG12_74 R) (0, 0) Φ := by
    intro k
    induction k with
    | zero =>
      intro i x5 J h5 hk fr kk
      have ei : i = s := by omega
      subst ei
      have e5 : J 12 3 = I 12 3 := by rw [fr 12 3 (by omega) (by omega)]; exact o4 12 3 (by omega) (by omega) (by omega)
      refine pg12_74_X2_begin_4 (d := d + 3) ⟨fun _ => mv m 0 0 J (by decide) (by omega) fr ?_, fun a => ?_⟩
      · show kyM 74 J (sL x3 i ++ [])
        rw [List.append_nil]; exact kk
      · have a := kl_nle a
        rw [e5] at a
        omega
    | succ k ih =>
      intro i x5 J h5 hk fr kk
      have e5 : J 12 3 = I 12 3 := by rw [fr 12 3 (by omega) (by omega)]; exact o4 12 3 (by omega) (by omega) (by omega)
      have s5 := ml_in1 (x := x5) (by omega)
      have ex : x5 = Int32.ofNat i := en_ofI (by rw [h5, Int32.toInt_ofNat_of_lt (by omega)])
      refine pg12_74_X2_begin_4 (d := d + 3) ⟨fun a => ?_, fun _ => ⟨fun q => ?_, fun q => ?_⟩⟩
      · have a := kl_le.mp a
        rw [e5] at a
        omega
      · refine ih (i + 1) _ J (by omega) (by omega) fr ?_
        show kyM 74 J (sL x3 i ++ (if isb x3 i = true then [i] else []))
        rw [if_neg (by unfold isb; rw [← ex, decide_eq_true q]; decide), List.append_nil]
        exact kk
      · have ll := lenS i
        refine g12_74_ai kk (by omega) ex (fun J2 o2 k2 => ⟨J2, L, rfl, ih (i + 1) _ J2 (by omega) (by omega) (fun p j q1 q2 => (o2 p j q1 q2).trans (fr p j q1 q2)) ?_⟩)
        show kyM 74 J2 (sL x3 i ++ (if isb x3 i = true then [i] else []))
        rw [if_pos (by unfold isb; rw [← ex, decide_eq_false q]; rfl)]
        exact k2
  refine sy s 0 0 K4 (by decide) (by omega) (fun _ _ _ _ => rfl) ⟨?_, fun k hk => absurd hk (Nat.not_lt_zero k)⟩
  show (K4 74 11).toInt = _
  rw [eK4, en_up_eq]; rfl
end
