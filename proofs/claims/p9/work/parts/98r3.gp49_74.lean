/-! the class's push, exact; told = 49, going = 74 (wip/pe/mkg2.py) -/
section
variable {S : sm_C} {d : Nat} {Φ : sm_Z → Prop} {I : sm_I} {L : sm_L} {R : sm_R}
theorem g49_74_hk (I : sm_I) : g49_74_hd I = khd 74 I := rfl
theorem g49_74_va59 {x1 x2 : Int32} {i : Nat} (h1 : x1.toInt = i) (hi : i < 10) (h : Φ (some (.int (I 59 i)), (xLay, I, L, kG49_74 R))) : sm_wp sm_P S d 89 0 [.ref 59, .int x1, .int x2] [] (xLay, I, L, kG49_74 R) (0, 0) Φ := by
  refine pg49_74v59_X11_valueAt_0 ⟨fun a => ?_, fun _ => ⟨fun a => ?_, fun _ => ⟨kl_in (by omega) (by omega), ?_⟩⟩⟩
  · have a := kl_lt.mp a
    rw [kl_0] at a; omega
  · have a := kl_le.mp a
    rw [Int32.toInt_ofNat_of_lt (by decide)] at a; omega
  · rw [tk_nat h1]; exact h
theorem g49_74_va71 {x1 x2 : Int32} {i : Nat} (h1 : x1.toInt = i) (hi : i < 45) (h : Φ (some (.int (I 71 i)), (xLay, I, L, kG49_74 R))) : sm_wp sm_P S d 89 0 [.ref 71, .int x1, .int x2] [] (xLay, I, L, kG49_74 R) (0, 0) Φ := by
  refine pg49_74v71_X11_valueAt_0 ⟨fun a => ?_, fun _ => ⟨fun a => ?_, fun _ => ⟨kl_in (by omega) (by omega), ?_⟩⟩⟩
  · have a := kl_lt.mp a
    rw [kl_0] at a; omega
  · have a := kl_le.mp a
    rw [Int32.toInt_ofNat_of_lt (by decide)] at a; omega
  · rw [tk_nat h1]; exact h
theorem g49_74_va72 {x1 x2 : Int32} {i : Nat} (h1 : x1.toInt = i) (hi : i < 45) (h : Φ (some (.int (I 72 i)), (xLay, I, L, kG49_74 R))) : sm_wp sm_P S d 89 0 [.ref 72, .int x1, .int x2] [] (xLay, I, L, kG49_74 R) (0, 0) Φ := by
  refine pg49_74v72_X11_valueAt_0 ⟨fun a => ?_, fun _ => ⟨fun a => ?_, fun _ => ⟨kl_in (by omega) (by omega), ?_⟩⟩⟩
  · have a := kl_lt.mp a
    rw [kl_0] at a; omega
  · have a := kl_le.mp a
    rw [Int32.toInt_ofNat_of_lt (by decide)] at a; omega
  · rw [tk_nat h1]; exact h
theorem g49_74_va73 {x1 x2 : Int32} {i : Nat} (h1 : x1.toInt = i) (hi : i < 45) (h : Φ (some (.int (I 73 i)), (xLay, I, L, kG49_74 R))) : sm_wp sm_P S d 89 0 [.ref 73, .int x1, .int x2] [] (xLay, I, L, kG49_74 R) (0, 0) Φ := by
  refine pg49_74v73_X11_valueAt_0 ⟨fun a => ?_, fun _ => ⟨fun a => ?_, fun _ => ⟨kl_in (by omega) (by omega), ?_⟩⟩⟩
  · have a := kl_lt.mp a
    rw [kl_0] at a; omega
  · have a := kl_le.mp a
    rw [Int32.toInt_ofNat_of_lt (by decide)] at a; omega
  · rw [tk_nat h1]; exact h
theorem g49_74_wl {x : Int32} {k : Nat} (hx : x.toInt = ((100 + k : Nat) : Int)) (k45 : k < 45) (h : Φ (some (.int (I 73 k)), (xLay, I, L, kG49_74 R))) : sm_wp sm_P S (d + 1) 237 0 [.ref 74, .int x] [] (xLay, I, L, kG49_74 R) (0, 0) Φ := by
  have c100 : (100 : Int32).toInt = 100 := by decide
  have c200 : (200 : Int32).toInt = 200 := by decide
  have s : (x - 100).toInt = (k : Int) := by
    rw [Int32.toInt_sub, c100]
    exact en_bmod (by omega) (by omega) (Or.inl (by omega))
  refine pg49_74_X2_walkOf_0 ⟨fun _ => g49_74_va73 s k45 ⟨_, I, L, rfl, h⟩, fun a => ?_⟩
  have a := kl_nlt a
  omega
theorem g49_74_cd {x : Int32} {s n : Nat} (hx : x.toInt = s) (ok : kiok 49 74 I n s) (h : ∀ v : Int32, v.toInt = kcd 49 I s → Φ (some (.int v), (xLay, I, L, kG49_74 R))) : sm_wp sm_P S (d + 2) 223 0 [.ref 74, .int x] [] (xLay, I, L, kG49_74 R) (0, 0) Φ := by
  have c100 : (100 : Int32).toInt = 100 := by decide
  unfold kcd at h
  rcases ok with ⟨s10, b, -, -⟩ | ⟨⟨s0, s1⟩, -⟩
  · rw [if_pos s10] at h
    refine pg49_74_X2_choicesOf_0 ⟨fun a => ?_, fun _ => g49_74_va59 hx s10 ⟨_, I, L, rfl, h _ (kl_nat b.1).symm⟩⟩
    have a := kl_le.mp a
    omega
  · rw [if_neg (by omega)] at h
    refine pg49_74_X2_choicesOf_0 ⟨fun _ => g49_74_wl (k := s - 100) (by omega) (by omega) ⟨_, I, L, rfl, fun a => h 2 ?_, fun a => h 0 ?_⟩, fun a => ?_⟩
    · have a := kl_le.mp a
      rw [kl_0] at a
      show _ = (((if (I 73 (s - 100)).toInt < 0 then 0 else 2 : Nat)) : Int)
      rw [if_neg (by omega)]; rfl
    · have a := kl_nle a
      rw [kl_0] at a
      show _ = (((if (I 73 (s - 100)).toInt < 0 then 0 else 2 : Nat)) : Int)
      rw [if_pos a]; rfl
    · have a := kl_nle a
      omega
theorem g49_74_p6 {n lev p N : Nat} {x1 x5 x7 : Int32} {I0 : sm_I} {C : List tC} (B : g49_74_B I0 n) (hl : (lev + 1) * (n * n) + n * n ≤ 7381) (l1 : lev ≤ 90) (h1 : x1.toInt = lev) (h7 : x7.toInt = ((p + N : Nat) : Int)) (pN : p + N ≤ 120) (g0 : 0 ≤ x5.toInt) (g1 : x5.toInt ≤ 5000) (ok : ∀ i, i < N → kspk 49 I0 n (p + i)) (h : ∀ r J, g49_74_R (lev + 1) n (ksL 49 I0 (g49_74_hd I0) x5.toInt p N ++ C) I0 r J → Φ (some (.int r), (xLay, J, L, kG49_74 R))) : ∀ (m i : Nat) (x8 : Int32) (J : sm_I), x8.toInt = ((p + i : Nat) : Int) → i + m = N → g49_74_c n (lev + 1) I0 J → ttop n (ksL 49 I0 (g49_74_hd I0) x5.toInt p i ++ C) (g49_74_T J n (lev + 1)) → sm_wp sm_P S (d + 3) 234 6 [.ref 74, .int x1, .ref 61, .int x5, .int x7, .int x8] [] (xLay, J, L, kG49_74 R) (0, 0) Φ := by
  have sl : (x1 + 1).toInt = ((lev + 1 : Nat) : Int) := by rw [ml_in1 (by omega)]; omega
  intro m
  induction m with
  | zero =>
    intro i x8 J h8 hm cg T
    have e : i = N := by omega
    subst e
    refine pg49_74_X2_push_6 (d := d + 2) ⟨fun _ => h 1 J ⟨cg, Or.inr ⟨rfl, T⟩⟩, fun a => ?_⟩
    have a := kl_nle a
    omega
  | succ m ih =>
    intro i x8 J h8 hm cg T
    have s8 := ml_in1 (x := x8) (by omega)
    have v : vp_in x8 120 := kl_in (by omega) (by omega)
    obtain ⟨k0, k1, k2, k3, k4⟩ := ok i (by omega)
    have k1 : 0 ≤ (I0 62 (p + i)).toInt ∧ (I0 62 (p + i)).toInt + 1 < n := k1
    have k2 : -1 ≤ (I0 63 (p + i)).toInt ∧ (I0 63 (p + i)).toInt + 1 < n := k2
    have k3 : -1440 ≤ (I0 64 (p + i)).toInt ∧ (I0 64 (p + i)).toInt ≤ 1440 := k3
    have k4 : -1440 ≤ (I0 65 (p + i)).toInt ∧ (I0 65 (p + i)).toInt ≤ 1440 := k4
    have n11 := B.2.2.1
    obtain ⟨Bj, ej⟩ := g49_74_Bc cg B
    refine pg49_74_X2_push_6 (d := d + 2) ⟨fun a => ?_, fun _ => ⟨v, v, v, v, ?_⟩⟩
    · have a := kl_le.mp a
      omega
    rw [tk_nat h8, cg 62 _ (by omega), cg 63 _ (by omega), cg 64 _ (by omega), cg 65 _ (by omega)]
    intro n1 e1 n2 e2
    have q1 : n1.toInt = (I0 64 (p + i)).toInt - x5.toInt := by rw [e1, Int32.toInt_sub]; exact en_bmod (by omega) (by omega) (Or.inl rfl)
    have q2 : n2.toInt = (I0 65 (p + i)).toInt + x5.toInt := by rw [e2]; exact ml_ad rfl rfl (by omega) (by omega)
    have i1 : (I0 62 (p + i) + 1).toInt = ((nd (I0 62 (p + i)) : Nat) : Int) := by rw [ml_in1 (by omega)]; unfold nd; omega
    have i2 : (I0 63 (p + i) + 1).toInt = ((nd (I0 63 (p + i)) : Nat) : Int) := by rw [ml_in1 (by omega)]; unfold nd; omega
    refine g49_74_bind (d := d) Bj hl (by omega) sl i1 i2 (by unfold nd; omega) (by unfold nd; omega) (by omega) (by omega) (by omega) (by omega) T (fun r J2 q => ⟨r, J2, L, rfl, ?_⟩)
    rw [ej, q1, q2] at q
    have eC : bC (g49_74_hd I0) (nd (I0 62 (p + i))) (nd (I0 63 (p + i))) ((I0 64 (p + i)).toInt - x5.toInt) ((I0 65 (p + i)).toInt + x5.toInt) ++ (ksL 49 I0 (g49_74_hd I0) x5.toInt p i ++ C) = ksL 49 I0 (g49_74_hd I0) x5.toInt p (i + 1) ++ C := by rw [← List.append_assoc]; rfl
    rw [eC] at q
    obtain ⟨cg2, q⟩ := q
    refine ⟨fun r0 => ?_, fun r0 => ?_⟩
    · rcases q with ⟨-, q⟩ | ⟨q, -⟩
      · refine h 0 J2 ⟨g49_74_ct cg cg2, Or.inl ⟨rfl, tno_cg (fun c hc => ?_) q⟩⟩
        rcases List.mem_append.mp hc with hc | hc
        · exact List.mem_append.mpr (Or.inl (ksL_le (i + 1) N (by omega) hc))
        · exact List.mem_append.mpr (Or.inr hc)
      · rw [r0] at q; exact absurd q (by decide)
    · rcases q with ⟨q, -⟩ | ⟨-, q⟩
      · exact absurd q r0
      · exact ih (i + 1) _ J2 (by omega) (by omega) (g49_74_ct cg cg2) q
/-- one choice of an ITEM, on the next level -/
theorem g49_74_push {n lev s c : Nat} {x1 x2 x3 : Int32} {C : List tC} (B : g49_74_B I n) (hl : (lev + 1) * (n * n) + n * n ≤ 7381) (l1 : lev ≤ 90) (h1 : x1.toInt = lev) (hs : x2.toInt = s) (hc : x3.toInt = c) (ok : kiok 49 74 I n s) (cn : c < kcd 49 I s) (T : ttop n C (g49_74_T I n lev)) (h : ∀ r J, g49_74_R (lev + 1) n (kcc 49 74 I (g49_74_hd I) s c ++ C) I r J → Φ (some (.int r), (xLay, J, L, kG49_74 R))) : sm_wp sm_P S (d + 3) 234 0 [.ref 74, .int x1, .int x2, .int x3] [] (xLay, I, L, kG49_74 R) (0, 0) Φ := by
  have c100 : (100 : Int32).toInt = 100 := by decide
  have c200 : (200 : Int32).toInt = 200 := by decide
  have c120 : (Int32.ofNat 120).toInt = 120 := by decide
  have c4 : (4 : Int32).toInt = 4 := by decide
  have c3 : (3 : Int32).toInt = 3 := by decide
  have sl : (x1 + 1).toInt = ((lev + 1 : Nat) : Int) := by rw [ml_in1 (by omega)]; omega
  have n11 := B.2.2.1
  unfold kcd at cn
  unfold kcc at h
  refine pg49_74_X2_push_0 (d := d + 2) (g49_74_cp (d := d + 1) B hl l1 h1 (fun J1 cg1 v1 => ⟨J1, L, rfl, fun a => ?_, fun a => ?_⟩))
  · have a := kl_lt.mp a
    obtain ⟨s10, b, g, ok⟩ := ok.resolve_right (fun q => by omega)
    have b : 0 ≤ (I 59 s).toInt ∧ (I 59 s).toInt ≤ 4 := b
    rw [if_pos s10] at cn h
    have cn : c < (I 59 s).toNatClampNeg := cn
    have nb := kl_nat b.1
    obtain ⟨o1, o2⟩ := ok c cn
    have o1 : 0 ≤ (I 60 (4 * s + c)).toInt ∧ (I 60 (4 * s + c)).toInt ≤ 3 := o1
    have nN := kl_nat o1.1
    have ex : x2 = Int32.ofNat s := en_ofI (by rw [hs, Int32.toInt_ofNat_of_lt (by omega)])
    obtain ⟨Bj, ej⟩ := g49_74_Bc cg1 B
    intro n4 e4
    have q4 : n4.toInt = kgv 74 I s := by
      rw [e4, cg1 74 7 (by omega), cg1 74 8 (by omega), ex]; rfl
    have m1 : (x2 * (4 : Int32)).toInt = (s : Int) * 4 := ml_mu hs c4 (by omega) (by omega)
    have m2 : (x2 * (4 : Int32) + x3).toInt = ((4 * s + c : Nat) : Int) := (ml_ad m1 hc (by omega) (by omega)).trans (by omega)
    have m3 : ((x2 * (4 : Int32) + x3) * (3 : Int32)).toInt = ((3 * (4 * s + c) : Nat) : Int) := (ml_mu m2 c3 (by omega) (by omega)).trans (by omega)
    refine pg49_74_X10_firstSpan_0 ⟨_, J1, L, rfl, pg49_74_X10_partsOf_0 ⟨fun a => ?_, fun _ => ⟨fun a => ?_, fun _ => ⟨kl_in (by omega) (by omega), _, J1, L, rfl, fun a => ?_, fun _ => ⟨fun _ => ?_, fun a => ?_⟩⟩⟩⟩⟩
    · have a := kl_lt.mp a
      rw [kl_0, m2] at a; omega
    · have a := kl_le.mp a
      rw [Int32.toInt_ofNat_of_lt (by decide), m2] at a; omega
    · have a := kl_lt.mp a
      rw [kl_0, m3] at a; omega
    · rw [tk_nat m2, cg1 60 _ (by omega)]
      have tt : ttop n C (g49_74_T J1 n (lev + 1)) := ttop_eq (fun i j hi hj => (v1 i j hi hj).symm) T
      refine g49_74_p6 (d := d) (I0 := J1) (p := 3 * (4 * s + c)) (N := (I 60 (4 * s + c)).toNatClampNeg) Bj hl l1 h1 ((ml_ad m3 rfl (by omega) (by omega)).trans (by omega)) (by omega) (by rw [q4]; exact g.1) (by rw [q4]; exact g.2) (fun i hi => ?_) (fun r J q => h r J ?_) _ 0 _ J1 (m3.trans (by omega)) (Nat.zero_add _) g49_74_c0 tt
      · obtain ⟨k0, k1, k2, k3, k4⟩ := o2 i hi
        have k1 : 0 ≤ (I 62 (3 * (4 * s + c) + i)).toInt ∧ (I 62 (3 * (4 * s + c) + i)).toInt + 1 < n := k1
        have k2 : -1 ≤ (I 63 (3 * (4 * s + c) + i)).toInt ∧ (I 63 (3 * (4 * s + c) + i)).toInt + 1 < n := k2
        have k3 : -1440 ≤ (I 64 (3 * (4 * s + c) + i)).toInt ∧ (I 64 (3 * (4 * s + c) + i)).toInt ≤ 1440 := k3
        have k4 : -1440 ≤ (I 65 (3 * (4 * s + c) + i)).toInt ∧ (I 65 (3 * (4 * s + c) + i)).toInt ≤ 1440 := k4
        refine ⟨k0, ?_, ?_, ?_, ?_⟩
        · show 0 ≤ (J1 62 (3 * (4 * s + c) + i)).toInt ∧ (J1 62 (3 * (4 * s + c) + i)).toInt + 1 < n
          rw [cg1 62 _ (by omega)]; exact k1
        · show -1 ≤ (J1 63 (3 * (4 * s + c) + i)).toInt ∧ (J1 63 (3 * (4 * s + c) + i)).toInt + 1 < n
          rw [cg1 63 _ (by omega)]; exact k2
        · show -1440 ≤ (J1 64 (3 * (4 * s + c) + i)).toInt ∧ (J1 64 (3 * (4 * s + c) + i)).toInt ≤ 1440
          rw [cg1 64 _ (by omega)]; exact k3
        · show -1440 ≤ (J1 65 (3 * (4 * s + c) + i)).toInt ∧ (J1 65 (3 * (4 * s + c) + i)).toInt ≤ 1440
          rw [cg1 65 _ (by omega)]; exact k4
      · obtain ⟨q1, q2⟩ := q
        refine ⟨g49_74_ct cg1 q1, ?_⟩
        have e := ksL_fr (Q := 49) (g49_74_hd I) (kgv 74 I s) (3 * (4 * s + c)) (fun p j h1 h2 => cg1 p j (by omega))
        rw [ej, q4, e] at q2
        exact q2
    · have a := kl_nle a
      rw [c120, tk_nat m2, cg1 60 _ (by omega)] at a
      exfalso
      have := ml_ad m3 (y := I 60 (4 * s + c)) rfl (by omega) (by omega)
      omega
  · have a := kl_nlt a
    obtain ⟨⟨s0, s1⟩, ok⟩ := ok.resolve_left (fun q => by have := q.1; omega)
    rw [if_neg (by omega)] at cn h
    have wn : 0 ≤ (I 73 (s - 100)).toInt := by
      have cn : c < (if (I 73 (s - 100)).toInt < 0 then 0 else 2) := cn
      rcases Int.lt_or_le (I 73 (s - 100)).toInt 0 with q | q
      · rw [if_pos q] at cn; exact absurd cn (Nat.not_lt_zero _)
      · exact q
    obtain ⟨k1, k2, k3⟩ := ok wn
    have k1 : 0 ≤ (I 71 (s - 100)).toInt ∧ (I 71 (s - 100)).toInt + 1 < n := k1
    have k2 : 0 ≤ (I 72 (s - 100)).toInt ∧ (I 72 (s - 100)).toInt + 1 < n := k2
    have k3 : (I 73 (s - 100)).toInt ≤ 100000 := k3
    obtain ⟨Bj, ej⟩ := g49_74_Bc cg1 B
    have s' : (x2 - 100).toInt = ((s - 100 : Nat) : Int) := by
      rw [Int32.toInt_sub, c100]
      exact en_bmod (by omega) (by omega) (Or.inl (by omega))
    have tt : ttop n C (g49_74_T J1 n (lev + 1)) := ttop_eq (fun i j hi hj => (v1 i j hi hj).symm) T
    refine pg49_74_X2_pushMove_0 (d := d + 1) (g49_74_wl (k := s - 100) (by omega) (by omega) ⟨_, J1, L, rfl, fun b => ?_, fun _ => g49_74_va71 s' (by omega) ⟨_, J1, L, rfl, g49_74_va72 s' (by omega) ⟨_, J1, L, rfl, ?_⟩⟩⟩)
    · have b := kl_le.mp b
      omega
    rw [cg1 71 _ (by omega), cg1 72 _ (by omega), cg1 73 _ (by omega)]
    have nw : (-(I 73 (s - 100))).toInt = -(I 73 (s - 100)).toInt := by rw [Int32.toInt_neg]; exact en_bmod (by omega) (by omega) (Or.inl rfl)
    have i1 : (I 71 (s - 100) + 1).toInt = ((nd (I 71 (s - 100)) : Nat) : Int) := by rw [ml_in1 (by omega)]; unfold nd; omega
    have i2 : (I 72 (s - 100) + 1).toInt = ((nd (I 72 (s - 100)) : Nat) : Int) := by rw [ml_in1 (by omega)]; unfold nd; omega
    have h : ∀ r J, g49_74_R (lev + 1) n (mvC (g49_74_hd I) (nd (I 71 (s - 100))) (nd (I 72 (s - 100))) (I 73 (s - 100)).toInt c ++ C) I r J → Φ (some (.int r), (xLay, J, L, kG49_74 R)) := h
    have fin : ∀ (r : Int32) (J : sm_I), g49_74_R (lev + 1) n (mvC (g49_74_hd I) (nd (I 71 (s - 100))) (nd (I 72 (s - 100))) (I 73 (s - 100)).toInt c ++ C) J1 r J → (r = 0 ∨ r = 1) ∧ (r = 0 ∨ r = 1) ∧ Φ (some (.int r), (xLay, J, L, kG49_74 R)) := fun r J q => by
      have rr : r = 0 ∨ r = 1 := by
        rcases q.2 with ⟨e, -⟩ | ⟨e, -⟩
        · exact Or.inl e
        · exact Or.inr e
      exact ⟨rr, rr, h r J ⟨g49_74_ct cg1 q.1, q.2⟩⟩
    have c0 : x3 = 0 ↔ c = 0 := ⟨fun e => by rw [e, kl_0] at hc; omega, fun e => en_ofI (by rw [hc, e]; decide)⟩
    refine ⟨fun e => ?_, fun e => ?_⟩
    · have ec := c0.mp e
      refine g49_74_tighten (d := d) Bj hl (by omega) sl i1 i2 (by unfold nd; omega) (by unfold nd; omega) (by omega) (by omega) tt (fun r J q => ?_)
      rw [ej, nw] at q
      obtain ⟨a1, a2, a3⟩ := fin r J (by unfold mvC; rw [if_pos ec]; exact q)
      exact ⟨r, J, L, rfl, a1, r, J, L, rfl, a2, a3⟩
    · have ec : ¬ c = 0 := fun q => e (c0.mpr q)
      refine g49_74_tighten (d := d) Bj hl (by omega) sl i2 i1 (by unfold nd; omega) (by unfold nd; omega) (by omega) (by omega) tt (fun r J q => ?_)
      rw [ej, nw] at q
      obtain ⟨a1, a2, a3⟩ := fin r J (by unfold mvC; rw [if_neg ec]; exact q)
      exact ⟨r, J, L, rfl, a1, r, J, L, rfl, a2, a3⟩
end
