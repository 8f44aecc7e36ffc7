section
/-! the class's push, exact; told = 12, going = 74 (wip/pe/mkg2.py) -/
section
variable {S : sm_C} {d : Nat} {Φ : sm_Z → Prop} {I : sm_I} {L : sm_L} {R : sm_R}
theorem g12_74_va22 {x1 x2 : Int32} {i : Nat} (h1 : x1.toInt = i) (hi : i < 10) (h : Φ (some (.int (I 22 i)), (xLay, I, L, kG12_74 R))) : sm_wp sm_P S d 89 0 [.ref 22, .int x1, .int x2] [] (xLay, I, L, kG12_74 R) (0, 0) Φ := by
  refine pg12_74v22_X11_valueAt_0 ⟨fun a => ?_, fun _ => ⟨fun a => ?_, fun _ => ⟨kl_in (by omega) (by omega), ?_⟩⟩⟩
  · have a := kl_lt.mp a
    rw [kl_0] at a; omega
  · have a := kl_le.mp a
    rw [Int32.toInt_ofNat_of_lt (by decide)] at a; omega
  · rw [tk_nat h1]; exact h
theorem g12_74_va34 {x1 x2 : Int32} {i : Nat} (h1 : x1.toInt = i) (hi : i < 45) (h : Φ (some (.int (I 34 i)), (xLay, I, L, kG12_74 R))) : sm_wp sm_P S d 89 0 [.ref 34, .int x1, .int x2] [] (xLay, I, L, kG12_74 R) (0, 0) Φ := by
  refine pg12_74v34_X11_valueAt_0 ⟨fun a => ?_, fun _ => ⟨fun a => ?_, fun _ => ⟨kl_in (by omega) (by omega), ?_⟩⟩⟩
  · have a := kl_lt.mp a
    rw [kl_0] at a; omega
  · have a := kl_le.mp a
    rw [Int32.toInt_ofNat_of_lt (by decide)] at a; omega
  · rw [tk_nat h1]; exact h
theorem g12_74_va35 {x1 x2 : Int32} {i : Nat} (h1 : x1.toInt = i) (hi : i < 45) (h : Φ (some (.int (I 35 i)), (xLay, I, L, kG12_74 R))) : sm_wp sm_P S d 89 0 [.ref 35, .int x1, .int x2] [] (xLay, I, L, kG12_74 R) (0, 0) Φ := by
  refine pg12_74v35_X11_valueAt_0 ⟨fun a => ?_, fun _ => ⟨fun a => ?_, fun _ => ⟨kl_in (by omega) (by omega), ?_⟩⟩⟩
  · have a := kl_lt.mp a
    rw [kl_0] at a; omega
  · have a := kl_le.mp a
    rw [Int32.toInt_ofNat_of_lt (by decide)] at a; omega
  · rw [tk_nat h1]; exact h
theorem g12_74_va36 {x1 x2 : Int32} {i : Nat} (h1 : x1.toInt = i) (hi : i < 45) (h : Φ (some (.int (I 36 i)), (xLay, I, L, kG12_74 R))) : sm_wp sm_P S d 89 0 [.ref 36, .int x1, .int x2] [] (xLay, I, L, kG12_74 R) (0, 0) Φ := by
  refine pg12_74v36_X11_valueAt_0 ⟨fun a => ?_, fun _ => ⟨fun a => ?_, fun _ => ⟨kl_in (by omega) (by omega), ?_⟩⟩⟩
  · have a := kl_lt.mp a
    rw [kl_0] at a; omega
  · have a := kl_le.mp a
    rw [Int32.toInt_ofNat_of_lt (by decide)] at a; omega
  · rw [tk_nat h1]; exact h
theorem g12_74_wl {x : Int32} {k : Nat} (hx : x.toInt = ((100 + k : Nat) : Int)) (k45 : k < 45) (h : Φ (some (.int (I 36 k)), (xLay, I, L, kG12_74 R))) : sm_wp sm_P S (d + 1) 237 0 [.ref 74, .int x] [] (xLay, I, L, kG12_74 R) (0, 0) Φ := by
  have c100 : (100 : Int32).toInt = 100 := by decide
  have c200 : (200 : Int32).toInt = 200 := by decide
  have s : (x - 100).toInt = (k : Int) := by
    rw [Int32.toInt_sub, c100]
    exact en_bmod (by omega) (by omega) (Or.inl (by omega))
  refine pg12_74_X2_walkOf_0 ⟨fun _ => g12_74_va36 s k45 ⟨_, I, L, rfl, h⟩, fun a => ?_⟩
  have a := kl_nlt a
  omega
theorem g12_74_cd {x : Int32} {s n : Nat} (hx : x.toInt = s) (ok : kiok 12 74 I n s) (h : ∀ v : Int32, v.toInt = kcd 12 I s → Φ (some (.int v), (xLay, I, L, kG12_74 R))) : sm_wp sm_P S (d + 2) 223 0 [.ref 74, .int x] [] (xLay, I, L, kG12_74 R) (0, 0) Φ := by
  have c100 : (100 : Int32).toInt = 100 := by decide
  unfold kcd at h
  rcases ok with ⟨s10, b, -, -⟩ | ⟨⟨s0, s1⟩, -⟩
  · rw [if_pos s10] at h
    refine pg12_74_X2_choicesOf_0 ⟨fun a => ?_, fun _ => g12_74_va22 hx s10 ⟨_, I, L, rfl, h _ (kl_nat b.1).symm⟩⟩
    have a := kl_le.mp a
    omega
  · rw [if_neg (by omega)] at h
    refine pg12_74_X2_choicesOf_0 ⟨fun _ => g12_74_wl (k := s - 100) (by omega) (by omega) ⟨_, I, L, rfl, fun a => h 2 ?_, fun a => h 0 ?_⟩, fun a => ?_⟩
    · have a := kl_le.mp a
      rw [kl_0] at a
      show _ = (((if (I 36 (s - 100)).toInt < 0 then 0 else 2 : Nat)) : Int)
      rw [if_neg (by omega)]; rfl
    · have a := kl_nle a
      rw [kl_0] at a
      show _ = (((if (I 36 (s - 100)).toInt < 0 then 0 else 2 : Nat)) : Int)
      rw [if_pos a]; rfl
    · have a := kl_nle a
      omega
theorem g12_74_p6 {n lev p N : Nat} {x1 x5 x7 : Int32} {I0 : sm_I} {C : List tC} (B : g12_74_B I0 n) (hl : (lev + 1) * (n * n) + n * n ≤ 7381) (l1 : lev ≤ 90) (h1 : x1.toInt = lev) (h7 : x7.toInt = ((p + N : Nat) : Int)) (pN : p + N ≤ 120) (g0 : 0 ≤ x5.toInt) (g1 : x5.toInt ≤ 5000) (ok : ∀ i, i < N → kspk 12 I0 n (p + i)) (h : ∀ r J, g12_74_R (lev + 1) n (ksL 12 I0 (g12_74_hd I0) x5.toInt p N ++ C) I0 r J → Φ (some (.int r), (xLay, J, L, kG12_74 R))) : ∀ (m i : Nat) (x8 : Int32) (J : sm_I), x8.toInt = ((p + i : Nat) : Int) → i + m = N → g12_74_c n (lev + 1) I0 J → ttop n (ksL 12 I0 (g12_74_hd I0) x5.toInt p i ++ C) (g12_74_T J n (lev + 1)) → sm_wp sm_P S (d + 3) 234 6 [.ref 74, .int x1, .ref 24, .int x5, .int x7, .int x8] [] (xLay, J, L, kG12_74 R) (0, 0) Φ := by
  have sl : (x1 + 1).toInt = ((lev + 1 : Nat) : Int) := by rw [ml_in1 (by omega)]; omega
  intro m
  induction m with
  | zero =>
    intro i x8 J h8 hm cg T
    have e : i = N := by omega
    subst e
    refine pg12_74_X2_push_6 (d := d + 2) ⟨fun _ => h 1 J ⟨cg, Or.inr ⟨rfl, T⟩⟩, fun a => ?_⟩
    have a := kl_nle a
    omega
  | succ m ih =>
    intro i x8 J h8 hm cg T
    have s8 := ml_in1 (x := x8) (by omega)
    have v : vp_in x8 120 := kl_in (by omega) (by omega)
    obtain ⟨k0, k1, k2, k3, k4⟩ := ok i (by omega)
    have k1 : 0 ≤ (I0 25 (p + i)).toInt ∧ (I0 25 (p + i)).toInt + 1 < n := k1
    have k2 : -1 ≤ (I0 26 (p + i)).toInt ∧ (I0 26 (p + i)).toInt + 1 < n := k2
    have k3 : -1440 ≤ (I0 27 (p + i)).toInt ∧ (I0 27 (p + i)).toInt ≤ 1440 := k3
    have k4 : -1440 ≤ (I0 28 (p + i)).toInt ∧ (I0 28 (p + i)).toInt ≤ 1440 := k4
    have n11 := B.2.2.1
    obtain ⟨Bj, ej⟩ := g12_74_Bc cg B
    refine pg12_74_X2_push_6 (d := d + 2) ⟨fun a => ?_, fun _ => ⟨v, v, v, v, ?_⟩⟩
    · have a := kl_le.mp a
      omega
    rw [tk_nat h8, cg 25 _ (by omega), cg 26 _ (by omega), cg 27 _ (by omega), cg 28 _ (by omega)]
    intro n1 e1 n2 e2
    have q1 : n1.toInt = (I0 27 (p + i)).toInt - x5.toInt := by rw [e1, Int32.toInt_sub]; exact en_bmod (by omega) (by omega) (Or.inl rfl)
    have q2 : n2.toInt = (I0 28 (p + i)).toInt + x5.toInt := by rw [e2]; exact ml_ad rfl rfl (by omega) (by omega)
    have i1 : (I0 25 (p + i) + 1).toInt = ((nd (I0 25 (p + i)) : Nat) : Int) := by rw [ml_in1 (by omega)]; unfold nd; omega
    have i2 : (I0 26 (p + i) + 1).toInt = ((nd (I0 26 (p + i)) : Nat) : Int) := by rw [ml_in1 (by omega)]; unfold nd; omega
    refine g12_74_bind (d := d) Bj hl (by omega) sl i1 i2 (by unfold nd; omega) (by unfold nd; omega) (by omega) (by omega) (by omega) (by omega) T (fun r J2 q => ⟨r, J2, L, rfl, ?_⟩)
    rw [ej, q1, q2] at q
    have eC : bC (g12_74_hd I0) (nd (I0 25 (p + i))) (nd (I0 26 (p + i))) ((I0 27 (p + i)).toInt - x5.toInt) ((I0 28 (p + i)).toInt + x5.toInt) ++ (ksL 12 I0 (g12_74_hd I0) x5.toInt p i ++ C) = ksL 12 I0 (g12_74_hd I0) x5.toInt p (i + 1) ++ C := by rw [← List.append_assoc]; rfl
    rw [eC] at q
    obtain ⟨cg2, q⟩ := q
    refine ⟨fun r0 => ?_, fun r0 => ?_⟩
    · rcases q with ⟨-, q⟩ | ⟨q, -⟩
      · refine h 0 J2 ⟨g12_74_ct cg cg2, Or.inl ⟨rfl, tno_cg (fun c hc => ?_) q⟩⟩
        rcases List.mem_append.mp hc with hc | hc
        · exact List.mem_append.mpr (Or.inl (ksL_le (i + 1) N (by omega) hc))
        · exact List.mem_append.mpr (Or.inr hc)
      · rw [r0] at q; exact absurd q (by decide)
    · rcases q with ⟨q, -⟩ | ⟨-, q⟩
      · exact absurd q r0
      · exact ih (i + 1) _ J2 (by omega) (by omega) (g12_74_ct cg cg2) q
/-- one choice of an ITEM, on the next level -/
theorem g12_74_push {n lev s c : Nat} {x1 x2 x3 : Int32} {C : List tC} (B : g12_74_B I n) (hl : (lev + 1) * (n * n) + n * n ≤ 7381) (l1 : lev ≤ 90) (h1 : x1.toInt = lev) (hs : x2.toInt = s) (hc : x3.toInt = c) (ok : kiok 12 74 I n s) (cn : c < kcd 12 I s) (T : ttop n C (g12_74_T I n lev)) (h : ∀ r J, g12_74_R (lev + 1) n (kcc 12 74 I (g12_74_hd I) s c ++ C) I r J → Φ (some (.int r), (xLay, J, L, kG12_74 R))) : sm_wp sm_P S (d + 3) 234 0 [.ref 74, .int x1, .int x2, .int x3] [] (xLay, I, L, kG12_74 R) (0, 0) Φ := by
  have c100 : (100 : Int32).toInt = 100 := by decide
  have c200 : (200 : Int32).toInt = 200 := by decide
  have c120 : (Int32.ofNat 120).toInt = 120 := by decide
  have c4 : (4 : Int32).toInt = 4 := by decide
  have c3 : (3 : Int32).toInt = 3 := by decide
  have sl : (x1 + 1).toInt = ((lev + 1 : Nat) : Int) := by rw [ml_in1 (by omega)]; omega
  have n11 := B.2.2.1
  unfold kcd at cn
  unfold kcc at h
  refine pg12_74_X2_push_0 (d := d + 2) (g12_74_cp (d := d + 1) B hl l1 h1 (fun J1 cg1 v1 => ⟨J1, L, rfl, fun a => ?_, fun a => ?_⟩))
  · have a := kl_lt.mp a
    obtain ⟨s10, b, g, ok⟩ := ok.resolve_right (fun q => by omega)
    have b : 0 ≤ (I 22 s).toInt ∧ (I 22 s).toInt ≤ 4 := b
    rw [if_pos s10] at cn h
    have cn : c < (I 22 s).toNatClampNeg := cn
    have nb := kl_nat b.1
    obtain ⟨o1, o2⟩ := ok c cn
    have o1 : 0 ≤ (I 23 (4 * s + c)).toInt ∧ (I 23 (4 * s + c)).toInt ≤ 3 := o1
    have nN := kl_nat o1.1
    have ex : x2 = Int32.ofNat s := en_ofI (by rw [hs, Int32.toInt_ofNat_of_lt (by omega)])
    obtain ⟨Bj, ej⟩ := g12_74_Bc cg1 B
    intro n4 e4
    have q4 : n4.toInt = kgv 74 I s := by
      rw [e4, cg1 74 7 (by omega), cg1 74 8 (by omega), ex]; rfl
    have m1 : (x2 * (4 : Int32)).toInt = (s : Int) * 4 := ml_mu hs c4 (by omega) (by omega)
    have m2 : (x2 * (4 : Int32) + x3).toInt = ((4 * s + c : Nat) : Int) := (ml_ad m1 hc (by omega) (by omega)).trans (by omega)
    have m3 : ((x2 * (4 : Int32) + x3) * (3 : Int32)).toInt = ((3 * (4 * s + c) : Nat) : Int) := (ml_mu m2 c3 (by omega) (by omega)).trans (by omega)
    refine pg12_74_X10_firstSpan_0 ⟨_, J1, L, rfl, pg12_74_X10_partsOf_0 ⟨fun a => ?_, fun _ => ⟨fun a => ?_, fun _ => ⟨kl_in (by omega) (by omega), _, J1, L, rfl, fun a => ?_, fun _ => ⟨fun _ => ?_, fun a => ?_⟩⟩⟩⟩⟩
    · have a := kl_lt.mp a
      rw [kl_0, m2] at a; omega
    · have a := kl_le.mp a
      rw [Int32.toInt_ofNat_of_lt (by decide), m2] at a; omega
    · have a := kl_lt.mp a
      rw [kl_0, m3] at a; omega
    · rw [tk_nat m2, cg1 23 _ (by omega)]
      have tt : ttop n C (g12_74_T J1 n (lev + 1)) := ttop_eq (fun i j hi hj => (v1 i j hi hj).symm) T
      refine g12_74_p6 (d := d) (I0 := J1) (p := 3 * (4 * s + c)) (N := (I 23 (4 * s + c)).toNatClampNeg) Bj hl l1 h1 ((ml_ad m3 rfl (by omega) (by omega)).trans (by omega)) (by omega) (by rw [q4]; exact g.1) (by rw [q4]; exact g.2) (fun i hi => ?_) (fun r J q => h r J ?_) _ 0 _ J1 (m3.trans (by omega)) (Nat.zero_add _) g12_74_c0 tt
      · obtain ⟨k0, k1, k2, k3, k4⟩ := o2 i hi
        have k1 : 0 ≤ (I 25 (3 * (4 * s + c) + i)).toInt ∧ (I 25 (3 * (4 * s + c) + i)).toInt + 1 < n := k1
        have k2 : -1 ≤ (I 26 (3 * (4 * s + c) + i)).toInt ∧ (I 26 (3 * (4 * s + c) + i)).toInt + 1 < n := k2
        have k3 : -1440 ≤ (I 27 (3 * (4 * s + c) + i)).toInt ∧ (I 27 (3 * (4 * s + c) + i)).toInt ≤ 1440 := k3
        have k4 : -1440 ≤ (I 28 (3 * (4 * s + c) + i)).toInt ∧ (I 28 (3 * (4 * s + c) + i)).toInt ≤ 1440 := k4
        refine ⟨k0, ?_, ?_, ?_, ?_⟩
        · show 0 ≤ (J1 25 (3 * (4 * s + c) + i)).toInt ∧ (J1 25 (3 * (4 * s + c) + i)).toInt + 1 < n
          rw [cg1 25 _ (by omega)]; exact k1
        · show -1 ≤ (J1 26 (3 * (4 * s + c) + i)).toInt ∧ (J1 26 (3 * (4 * s + c) + i)).toInt + 1 < n
          rw [cg1 26 _ (by omega)]; exact k2
        · show -1440 ≤ (J1 27 (3 * (4 * s + c) + i)).toInt ∧ (J1 27 (3 * (4 * s + c) + i)).toInt ≤ 1440
          rw [cg1 27 _ (by omega)]; exact k3
        · show -1440 ≤ (J1 28 (3 * (4 * s + c) + i)).toInt ∧ (J1 28 (3 * (4 * s + c) + i)).toInt ≤ 1440
          rw [cg1 28 _ (by omega)]; exact k4
      · obtain ⟨q1, q2⟩ := q
        refine ⟨g12_74_ct cg1 q1, ?_⟩
        have e := ksL_fr (Q := 12) (g12_74_hd I) (kgv 74 I s) (3 * (4 * s + c)) (fun p j h1 h2 => cg1 p j (by omega))
        rw [ej, q4, e] at q2
        exact q2
    · have a := kl_nle a
      rw [c120, tk_nat m2, cg1 23 _ (by omega)] at a
      exfalso
      have := ml_ad m3 (y := I 23 (4 * s + c)) rfl (by omega) (by omega)
      omega
  · have a := kl_nlt a
    obtain ⟨⟨s0, s1⟩, ok⟩ := ok.resolve_left (fun q => by have := q.1; omega)
    rw [if_neg (by omega)] at cn h
    have wn : 0 ≤ (I 36 (s - 100)).toInt := by
      have cn : c < (if (I 36 (s - 100)).toInt < 0 then 0 else 2) := cn
      rcases Int.lt_or_le (I 36 (s - 100)).toInt 0 with q | q
      · rw [if_pos q] at cn; exact absurd cn (Nat.not_lt_zero _)
      · exact q
    obtain ⟨k1, k2, k3⟩ := ok wn
    have k1 : 0 ≤ (I 34 (s - 100)).toInt ∧ (I 34 (s - 100)).toInt + 1 < n := k1
    have k2 : 0 ≤ (I 35 (s - 100)).toInt ∧ (I 35 (s - 100)).toInt + 1 < n := k2
    have k3 : (I 36 (s - 100)).toInt ≤ 100000 := k3
    obtain ⟨Bj, ej⟩ := g12_74_Bc cg1 B
    have s' : (x2 - 100).toInt = ((s - 100 : Nat) : Int) := by
      rw [Int32.toInt_sub, c100]
      exact en_bmod (by omega) (by omega) (Or.inl (by omega))
    have tt : ttop n C (g12_74_T J1 n (lev + 1)) := ttop_eq (fun i j hi hj => (v1 i j hi hj).symm) T
    refine pg12_74_X2_pushMove_0 (d := d + 1) (g12_74_wl (k := s - 100) (by omega) (by omega) ⟨_, J1, L, rfl, fun b => ?_, fun _ => g12_74_va34 s' (by omega) ⟨_, J1, L, rfl, g12_74_va35 s' (by omega) ⟨_, J1, L, rfl, ?_⟩⟩⟩)
    · have b := kl_le.mp b
      omega
    rw [cg1 34 _ (by omega), cg1 35 _ (by omega), cg1 36 _ (by omega)]
    have nw : (-(I 36 (s - 100))).toInt = -(I 36 (s - 100)).toInt := by rw [Int32.toInt_neg]; exact en_bmod (by omega) (by omega) (Or.inl rfl)
    have i1 : (I 34 (s - 100) + 1).toInt = ((nd (I 34 (s - 100)) : Nat) : Int) := by rw [ml_in1 (by omega)]; unfold nd; omega
    have i2 : (I 35 (s - 100) + 1).toInt = ((nd (I 35 (s - 100)) : Nat) : Int) := by rw [ml_in1 (by omega)]; unfold nd; omega
    have h : ∀ r J, g12_74_R (lev + 1) n (mvC (g12_74_hd I) (nd (I 34 (s - 100))) (nd (I 35 (s - 100))) (I 36 (s - 100)).toInt c ++ C) I r J → Φ (some (.int r), (xLay, J, L, kG12_74 R)) := h
    have fin : ∀ (r : Int32) (J : sm_I), g12_74_R (lev + 1) n (mvC (g12_74_hd I) (nd (I 34 (s - 100))) (nd (I 35 (s - 100))) (I 36 (s - 100)).toInt c ++ C) J1 r J → (r = 0 ∨ r = 1) ∧ (r = 0 ∨ r = 1) ∧ Φ (some (.int r), (xLay, J, L, kG12_74 R)) := fun r J q => by
      have rr : r = 0 ∨ r = 1 := by
        rcases q.2 with ⟨e, -⟩ | ⟨e, -⟩
        · exact Or.inl e
        · exact Or.inr e
      exact ⟨rr, rr, h r J ⟨g12_74_ct cg1 q.1, q.2⟩⟩
    have c0 : x3 = 0 ↔ c = 0 := ⟨fun e => by rw [e, kl_0] at hc; omega, fun e => en_ofI (by rw [hc, e]; decide)⟩
    refine ⟨fun e => ?_, fun e => ?_⟩
    · have ec := c0.mp e
      refine g12_74_tighten (d := d) Bj hl (by omega) sl i1 i2 (by unfold nd; omega) (by unfold nd; omega) (by omega) (by omega) tt (fun r J q => ?_)
      rw [ej, nw] at q
      obtain ⟨a1, a2, a3⟩ := fin r J (by unfold mvC; rw [if_pos ec]; exact q)
      exact ⟨r, J, L, rfl, a1, r, J, L, rfl, a2, a3⟩
    · have ec : ¬ c = 0 := fun q => e (c0.mpr q)
      refine g12_74_tighten (d := d) Bj hl (by omega) sl i2 i1 (by unfold nd; omega) (by unfold nd; omega) (by omega) (by omega) tt (fun r J q => ?_)
      rw [ej, nw] at q
      obtain ⟨a1, a2, a3⟩ := fin r J (by unfold mvC; rw [if_neg ec]; exact q)
      exact ⟨r, J, L, rfl, a1, r, J, L, rfl, a2, a3⟩
end
end
section
/-! the class's push, exact; told = 49, going = 74 (wip/pe/mkg2.py) -/
section
variable {S : sm_C} {d : Nat} {Φ : sm_Z → Prop} {I : sm_I} {L : sm_L} {R : sm_R}
theorem g49_74_va59 {x1 x2 : Int32} {i : Nat} (h1 : x1.toInt = i) (hi : i < 10) (h : Φ (some (.int (I 59 i)), (xLay, I, L, kG49_74 R))) : sm_wp sm_P S d 89 0 [.ref 59, .int x1, .int x2] [] (xLay, I, L, kG49_74 R) (0, 0) Φ := by
  refine pg49_74v59_X11_valueAt_0 ⟨fun a => ?_, fun _ => ⟨fun a => ?_, fun _ => ⟨kl_in (by omega) (by omega), ?_⟩⟩⟩
  · have a := kl_lt.mp a
    rw [kl_0] at a; omega
  · have a := kl_le.mp a
    rw [Int32.toInt_ofNat_of_lt (by decide)] at a; omega
  · rw [tk_nat h1]; exact h
theorem g49_74_va71 {x1 x2 : Int32} {i : Nat} (h1 : x1.toInt = i) (hi : i < 45) (h : Φ (some (.int (I 71 i)), (xLay, I, L, kG49_74 R))) : sm_wp sm_P S d 89 0 [.ref 71, .int x1, .int x2] [] (xLay, I, L, kG49_74 R) (0, 0) Φ := by
  refine pg49_74v71_X11_valueAt_0 ⟨fun a => ?_, fun _ => ⟨fun a => ?_, fun _ => ⟨kl_in (by omega) (by omega), ?_⟩⟩⟩
  · have a := kl_lt.mp a
    rw [kl_0] at a; omega
  · have a := kl_le.mp a
    rw [Int32.toInt_ofNat_of_lt (by decide)] at a; omega
  · rw [tk_nat h1]; exact h
theorem g49_74_va72 {x1 x2 : Int32} {i : Nat} (h1 : x1.toInt = i) (hi : i < 45) (h : Φ (some (.int (I 72 i)), (xLay, I, L, kG49_74 R))) : sm_wp sm_P S d 89 0 [.ref 72, .int x1, .int x2] [] (xLay, I, L, kG49_74 R) (0, 0) Φ := by
  refine pg49_74v72_X11_valueAt_0 ⟨fun a => ?_, fun _ => ⟨fun a => ?_, fun _ => ⟨kl_in (by omega) (by omega), ?_⟩⟩⟩
  · have a := kl_lt.mp a
    rw [kl_0] at a; omega
  · have a := kl_le.mp a
    rw [Int32.toInt_ofNat_of_lt (by decide)] at a; omega
  · rw [tk_nat h1]; exact h
theorem g49_74_va73 {x1 x2 : Int32} {i : Nat} (h1 : x1.toInt = i) (hi : i < 45) (h : Φ (some (.int (I 73 i)), (xLay, I, L, kG49_74 R))) : sm_wp sm_P S d 89 0 [.ref 73, .int x1, .int x2] [] (xLay, I, L, kG49_74 R) (0, 0) Φ := by
  refine pg49_74v73_X11_valueAt_0 ⟨fun a => ?_, fun _ => ⟨fun a => ?_, fun _ => ⟨kl_in (by omega) (by omega), ?_⟩⟩⟩
  · have a := kl_lt.mp a
    rw [kl_0] at a; omega
  · have a := kl_le.mp a
    rw [Int32.toInt_ofNat_of_lt (by decide)] at a; omega
  · rw [tk_nat h1]; exact h
theorem g49_74_wl {x : Int32} {k : Nat} (hx : x.toInt = ((100 + k : Nat) : Int)) (k45 : k < 45) (h : Φ (some (.int (I 73 k)), (xLay, I, L, kG49_74 R))) : sm_wp sm_P S (d + 1) 237 0 [.ref 74, .int x] [] (xLay, I, L, kG49_74 R) (0, 0) Φ := by
  have c100 : (100 : Int32).toInt = 100 := by decide
  have c200 : (200 : Int32).toInt = 200 := by decide
  have s : (x - 100).toInt = (k : Int) := by
    rw [Int32.toInt_sub, c100]
    exact en_bmod (by omega) (by omega) (Or.inl (by omega))
  refine pg49_74_X2_walkOf_0 ⟨fun _ => g49_74_va73 s k45 ⟨_, I, L, rfl, h⟩, fun a => ?_⟩
  have a := kl_nlt a
  omega
theorem g49_74_cd {x : Int32} {s n : Nat} (hx : x.toInt = s) (ok : kiok 49 74 I n s) (h : ∀ v : Int32, v.toInt = kcd 49 I s → Φ (some (.int v), (xLay, I, L, kG49_74 R))) : sm_wp sm_P S (d + 2) 223 0 [.ref 74, .int x] [] (xLay, I, L, kG49_74 R) (0, 0) Φ := by
  have c100 : (100 : Int32).toInt = 100 := by decide
  unfold kcd at h
  rcases ok with ⟨s10, b, -, -⟩ | ⟨⟨s0, s1⟩, -⟩
  · rw [if_pos s10] at h
    refine pg49_74_X2_choicesOf_0 ⟨fun a => ?_, fun _ => g49_74_va59 hx s10 ⟨_, I, L, rfl, h _ (kl_nat b.1).symm⟩⟩
    have a := kl_le.mp a
    omega
  · rw [if_neg (by omega)] at h
    refine pg49_74_X2_choicesOf_0 ⟨fun _ => g49_74_wl (k := s - 100) (by omega) (by omega) ⟨_, I, L, rfl, fun a => h 2 ?_, fun a => h 0 ?_⟩, fun a => ?_⟩
    · have a := kl_le.mp a
      rw [kl_0] at a
      show _ = (((if (I 73 (s - 100)).toInt < 0 then 0 else 2 : Nat)) : Int)
      rw [if_neg (by omega)]; rfl
    · have a := kl_nle a
      rw [kl_0] at a
      show _ = (((if (I 73 (s - 100)).toInt < 0 then 0 else 2 : Nat)) : Int)
      rw [if_pos a]; rfl
    · have a := kl_nle a
      omega
theorem g49_74_p6 {n lev p N : Nat} {x1 x5 x7 : Int32} {I0 : sm_I} {C : List tC} (B : g49_74_B I0 n) (hl : (lev + 1) * (n * n) + n * n ≤ 7381) (l1 : lev ≤ 90) (h1 : x1.toInt = lev) (h7 : x7.toInt = ((p + N : Nat) : Int)) (pN : p + N ≤ 120) (g0 : 0 ≤ x5.toInt) (g1 : x5.toInt ≤ 5000) (ok : ∀ i, i < N → kspk 49 I0 n (p + i)) (h : ∀ r J, g49_74_R (lev + 1) n (ksL 49 I0 (g49_74_hd I0) x5.toInt p N ++ C) I0 r J → Φ (some (.int r), (xLay, J, L, kG49_74 R))) : ∀ (m i : Nat) (x8 : Int32) (J : sm_I), x8.toInt = ((p + i : Nat) : Int) → i + m = N → g49_74_c n (lev + 1) I0 J → ttop n (ksL 49 I0 (g49_74_hd I0) x5.toInt p i ++ C) (g49_74_T J n (lev + 1)) → sm_wp sm_P S (d + 3) 234 6 [.ref 74, .int x1, .ref 61, .int x5, .int x7, .int x8] [] (xLay, J, L, kG49_74 R) (0, 0) Φ := by
  have sl : (x1 + 1).toInt = ((lev + 1 : Nat) : Int) := by rw [ml_in1 (by omega)]; omega
  intro m
  induction m with
  | zero =>
    intro i x8 J h8 hm cg T
    have e : i = N := by omega
    subst e
    refine pg49_74_X2_push_6 (d := d + 2) ⟨fun _ => h 1 J ⟨cg, Or.inr ⟨rfl, T⟩⟩, fun a => ?_⟩
    have a := kl_nle a
    omega
  | succ m ih =>
    intro i x8 J h8 hm cg T
    have s8 := ml_in1 (x := x8) (by omega)
    have v : vp_in x8 120 := kl_in (by omega) (by omega)
    obtain ⟨k0, k1, k2, k3, k4⟩ := ok i (by omega)
    have k1 : 0 ≤ (I0 62 (p + i)).toInt ∧ (I0 62 (p + i)).toInt + 1 < n := k1
    have k2 : -1 ≤ (I0 63 (p + i)).toInt ∧ (I0 63 (p + i)).toInt + 1 < n := k2
    have k3 : -1440 ≤ (I0 64 (p + i)).toInt ∧ (I0 64 (p + i)).toInt ≤ 1440 := k3
    have k4 : -1440 ≤ (I0 65 (p + i)).toInt ∧ (I0 65 (p + i)).toInt ≤ 1440 := k4
    have n11 := B.2.2.1
    obtain ⟨Bj, ej⟩ := g49_74_Bc cg B
    refine pg49_74_X2_push_6 (d := d + 2) ⟨fun a => ?_, fun _ => ⟨v, v, v, v, ?_⟩⟩
    · have a := kl_le.mp a
      omega
    rw [tk_nat h8, cg 62 _ (by omega), cg 63 _ (by omega), cg 64 _ (by omega), cg 65 _ (by omega)]
    intro n1 e1 n2 e2
    have q1 : n1.toInt = (I0 64 (p + i)).toInt - x5.toInt := by rw [e1, Int32.toInt_sub]; exact en_bmod (by omega) (by omega) (Or.inl rfl)
    have q2 : n2.toInt = (I0 65 (p + i)).toInt + x5.toInt := by rw [e2]; exact ml_ad rfl rfl (by omega) (by omega)
    have i1 : (I0 62 (p + i) + 1).toInt = ((nd (I0 62 (p + i)) : Nat) : Int) := by rw [ml_in1 (by omega)]; unfold nd; omega
    have i2 : (I0 63 (p + i) + 1).toInt = ((nd (I0 63 (p + i)) : Nat) : Int) := by rw [ml_in1 (by omega)]; unfold nd; omega
    refine g49_74_bind (d := d) Bj hl (by omega) sl i1 i2 (by unfold nd; omega) (by unfold nd; omega) (by omega) (by omega) (by omega) (by omega) T (fun r J2 q => ⟨r, J2, L, rfl, ?_⟩)
    rw [ej, q1, q2] at q
    have eC : bC (g49_74_hd I0) (nd (I0 62 (p + i))) (nd (I0 63 (p + i))) ((I0 64 (p + i)).toInt - x5.toInt) ((I0 65 (p + i)).toInt + x5.toInt) ++ (ksL 49 I0 (g49_74_hd I0) x5.toInt p i ++ C) = ksL 49 I0 (g49_74_hd I0) x5.toInt p (i + 1) ++ C := by rw [← List.append_assoc]; rfl
    rw [eC] at q
    obtain ⟨cg2, q⟩ := q
    refine ⟨fun r0 => ?_, fun r0 => ?_⟩
    · rcases q with ⟨-, q⟩ | ⟨q, -⟩
      · refine h 0 J2 ⟨g49_74_ct cg cg2, Or.inl ⟨rfl, tno_cg (fun c hc => ?_) q⟩⟩
        rcases List.mem_append.mp hc with hc | hc
        · exact List.mem_append.mpr (Or.inl (ksL_le (i + 1) N (by omega) hc))
        · exact List.mem_append.mpr (Or.inr hc)
      · rw [r0] at q; exact absurd q (by decide)
    · rcases q with ⟨q, -⟩ | ⟨-, q⟩
      · exact absurd q r0
      · exact ih (i + 1) _ J2 (by omega) (by omega) (g49_74_ct cg cg2) q
/-- one choice of an ITEM, on the next level -/
theorem g49_74_push {n lev s c : Nat} {x1 x2 x3 : Int32} {C : List tC} (B : g49_74_B I n) (hl : (lev + 1) * (n * n) + n * n ≤ 7381) (l1 : lev ≤ 90) (h1 : x1.toInt = lev) (hs : x2.toInt = s) (hc : x3.toInt = c) (ok : kiok 49 74 I n s) (cn : c < kcd 49 I s) (T : ttop n C (g49_74_T I n lev)) (h : ∀ r J, g49_74_R (lev + 1) n (kcc 49 74 I (g49_74_hd I) s c ++ C) I r J → Φ (some (.int r), (xLay, J, L, kG49_74 R))) : sm_wp sm_P S (d + 3) 234 0 [.ref 74, .int x1, .int x2, .int x3] [] (xLay, I, L, kG49_74 R) (0, 0) Φ := by
  have c100 : (100 : Int32).toInt = 100 := by decide
  have c200 : (200 : Int32).toInt = 200 := by decide
  have c120 : (Int32.ofNat 120).toInt = 120 := by decide
  have c4 : (4 : Int32).toInt = 4 := by decide
  have c3 : (3 : Int32).toInt = 3 := by decide
  have sl : (x1 + 1).toInt = ((lev + 1 : Nat) : Int) := by rw [ml_in1 (by omega)]; omega
  have n11 := B.2.2.1
  unfold kcd at cn
  unfold kcc at h
  refine pg49_74_X2_push_0 (d := d + 2) (g49_74_cp (d := d + 1) B hl l1 h1 (fun J1 cg1 v1 => ⟨J1, L, rfl, fun a => ?_, fun a => ?_⟩))
  · have a := kl_lt.mp a
    obtain ⟨s10, b, g, ok⟩ := ok.resolve_right (fun q => by omega)
    have b : 0 ≤ (I 59 s).toInt ∧ (I 59 s).toInt ≤ 4 := b
    rw [if_pos s10] at cn h
    have cn : c < (I 59 s).toNatClampNeg := cn
    have nb := kl_nat b.1
    obtain ⟨o1, o2⟩ := ok c cn
    have o1 : 0 ≤ (I 60 (4 * s + c)).toInt ∧ (I 60 (4 * s + c)).toInt ≤ 3 := o1
    have nN := kl_nat o1.1
    have ex : x2 = Int32.ofNat s := en_ofI (by rw [hs, Int32.toInt_ofNat_of_lt (by omega)])
    obtain ⟨Bj, ej⟩ := g49_74_Bc cg1 B
    intro n4 e4
    have q4 : n4.toInt = kgv 74 I s := by
      rw [e4, cg1 74 7 (by omega), cg1 74 8 (by omega), ex]; rfl
    have m1 : (x2 * (4 : Int32)).toInt = (s : Int) * 4 := ml_mu hs c4 (by omega) (by omega)
    have m2 : (x2 * (4 : Int32) + x3).toInt = ((4 * s + c : Nat) : Int) := (ml_ad m1 hc (by omega) (by omega)).trans (by omega)
    have m3 : ((x2 * (4 : Int32) + x3) * (3 : Int32)).toInt = ((3 * (4 * s + c) : Nat) : Int) := (ml_mu m2 c3 (by omega) (by omega)).trans (by omega)
    refine pg49_74_X10_firstSpan_0 ⟨_, J1, L, rfl, pg49_74_X10_partsOf_0 ⟨fun a => ?_, fun _ => ⟨fun a => ?_, fun _ => ⟨kl_in (by omega) (by omega), _, J1, L, rfl, fun a => ?_, fun _ => ⟨fun _ => ?_, fun a => ?_⟩⟩⟩⟩⟩
    · have a := kl_lt.mp a
      rw [kl_0, m2] at a; omega
    · have a := kl_le.mp a
      rw [Int32.toInt_ofNat_of_lt (by decide), m2] at a; omega
    · have a := kl_lt.mp a
      rw [kl_0, m3] at a; omega
    · rw [tk_nat m2, cg1 60 _ (by omega)]
      have tt : ttop n C (g49_74_T J1 n (lev + 1)) := ttop_eq (fun i j hi hj => (v1 i j hi hj).symm) T
      refine g49_74_p6 (d := d) (I0 := J1) (p := 3 * (4 * s + c)) (N := (I 60 (4 * s + c)).toNatClampNeg) Bj hl l1 h1 ((ml_ad m3 rfl (by omega) (by omega)).trans (by omega)) (by omega) (by rw [q4]; exact g.1) (by rw [q4]; exact g.2) (fun i hi => ?_) (fun r J q => h r J ?_) _ 0 _ J1 (m3.trans (by omega)) (Nat.zero_add _) g49_74_c0 tt
      · obtain ⟨k0, k1, k2, k3, k4⟩ := o2 i hi
        have k1 : 0 ≤ (I 62 (3 * (4 * s + c) + i)).toInt ∧ (I 62 (3 * (4 * s + c) + i)).toInt + 1 < n := k1
        have k2 : -1 ≤ (I 63 (3 * (4 * s + c) + i)).toInt ∧ (I 63 (3 * (4 * s + c) + i)).toInt + 1 < n := k2
        have k3 : -1440 ≤ (I 64 (3 * (4 * s + c) + i)).toInt ∧ (I 64 (3 * (4 * s + c) + i)).toInt ≤ 1440 := k3
        have k4 : -1440 ≤ (I 65 (3 * (4 * s + c) + i)).toInt ∧ (I 65 (3 * (4 * s + c) + i)).toInt ≤ 1440 := k4
        refine ⟨k0, ?_, ?_, ?_, ?_⟩
        · show 0 ≤ (J1 62 (3 * (4 * s + c) + i)).toInt ∧ (J1 62 (3 * (4 * s + c) + i)).toInt + 1 < n
          rw [cg1 62 _ (by omega)]; exact k1
        · show -1 ≤ (J1 63 (3 * (4 * s + c) + i)).toInt ∧ (J1 63 (3 * (4 * s + c) + i)).toInt + 1 < n
          rw [cg1 63 _ (by omega)]; exact k2
        · show -1440 ≤ (J1 64 (3 * (4 * s + c) + i)).toInt ∧ (J1 64 (3 * (4 * s + c) + i)).toInt ≤ 1440
          rw [cg1 64 _ (by omega)]; exact k3
        · show -1440 ≤ (J1 65 (3 * (4 * s + c) + i)).toInt ∧ (J1 65 (3 * (4 * s + c) + i)).toInt ≤ 1440
          rw [cg1 65 _ (by omega)]; exact k4
      · obtain ⟨q1, q2⟩ := q
        refine ⟨g49_74_ct cg1 q1, ?_⟩
        have e := ksL_fr (Q := 49) (g49_74_hd I) (kgv 74 I s) (3 * (4 * s + c)) (fun p j h1 h2 => cg1 p j (by omega))
        rw [ej, q4, e] at q2
        exact q2
    · have a := kl_nle a
      rw [c120, tk_nat m2, cg1 60 _ (by omega)] at a
      exfalso
      have := ml_ad m3 (y := I 60 (4 * s + c)) rfl (by omega) (by omega)
      omega
  · have a := kl_nlt a
    obtain ⟨⟨s0, s1⟩, ok⟩ := ok.resolve_left (fun q => by have := q.1; omega)
    rw [if_neg (by omega)] at cn h
    have wn : 0 ≤ (I 73 (s - 100)).toInt := by
      have cn : c < (if (I 73 (s - 100)).toInt < 0 then 0 else 2) := cn
      rcases Int.lt_or_le (I 73 (s - 100)).toInt 0 with q | q
      · rw [if_pos q] at cn; exact absurd cn (Nat.not_lt_zero _)
      · exact q
    obtain ⟨k1, k2, k3⟩ := ok wn
    have k1 : 0 ≤ (I 71 (s - 100)).toInt ∧ (I 71 (s - 100)).toInt + 1 < n := k1
    have k2 : 0 ≤ (I 72 (s - 100)).toInt ∧ (I 72 (s - 100)).toInt + 1 < n := k2
    have k3 : (I 73 (s - 100)).toInt ≤ 100000 := k3
    obtain ⟨Bj, ej⟩ := g49_74_Bc cg1 B
    have s' : (x2 - 100).toInt = ((s - 100 : Nat) : Int) := by
      rw [Int32.toInt_sub, c100]
      exact en_bmod (by omega) (by omega) (Or.inl (by omega))
    have tt : ttop n C (g49_74_T J1 n (lev + 1)) := ttop_eq (fun i j hi hj => (v1 i j hi hj).symm) T
    refine pg49_74_X2_pushMove_0 (d := d + 1) (g49_74_wl (k := s - 100) (by omega) (by omega) ⟨_, J1, L, rfl, fun b => ?_, fun _ => g49_74_va71 s' (by omega) ⟨_, J1, L, rfl, g49_74_va72 s' (by omega) ⟨_, J1, L, rfl, ?_⟩⟩⟩)
    · have b := kl_le.mp b
      omega
    rw [cg1 71 _ (by omega), cg1 72 _ (by omega), cg1 73 _ (by omega)]
    have nw : (-(I 73 (s - 100))).toInt = -(I 73 (s - 100)).toInt := by rw [Int32.toInt_neg]; exact en_bmod (by omega) (by omega) (Or.inl rfl)
    have i1 : (I 71 (s - 100) + 1).toInt = ((nd (I 71 (s - 100)) : Nat) : Int) := by rw [ml_in1 (by omega)]; unfold nd; omega
    have i2 : (I 72 (s - 100) + 1).toInt = ((nd (I 72 (s - 100)) : Nat) : Int) := by rw [ml_in1 (by omega)]; unfold nd; omega
    have h : ∀ r J, g49_74_R (lev + 1) n (mvC (g49_74_hd I) (nd (I 71 (s - 100))) (nd (I 72 (s - 100))) (I 73 (s - 100)).toInt c ++ C) I r J → Φ (some (.int r), (xLay, J, L, kG49_74 R)) := h
    have fin : ∀ (r : Int32) (J : sm_I), g49_74_R (lev + 1) n (mvC (g49_74_hd I) (nd (I 71 (s - 100))) (nd (I 72 (s - 100))) (I 73 (s - 100)).toInt c ++ C) J1 r J → (r = 0 ∨ r = 1) ∧ (r = 0 ∨ r = 1) ∧ Φ (some (.int r), (xLay, J, L, kG49_74 R)) := fun r J q => by
      have rr : r = 0 ∨ r = 1 := by
        rcases q.2 with ⟨e, -⟩ | ⟨e, -⟩
        · exact Or.inl e
        · exact Or.inr e
      exact ⟨rr, rr, h r J ⟨g49_74_ct cg1 q.1, q.2⟩⟩
    have c0 : x3 = 0 ↔ c = 0 := ⟨fun e => by rw [e, kl_0] at hc; omega, fun e => en_ofI (by rw [hc, e]; decide)⟩
    refine ⟨fun e => ?_, fun e => ?_⟩
    · have ec := c0.mp e
      refine g49_74_tighten (d := d) Bj hl (by omega) sl i1 i2 (by unfold nd; omega) (by unfold nd; omega) (by omega) (by omega) tt (fun r J q => ?_)
      rw [ej, nw] at q
      obtain ⟨a1, a2, a3⟩ := fin r J (by unfold mvC; rw [if_pos ec]; exact q)
      exact ⟨r, J, L, rfl, a1, r, J, L, rfl, a2, a3⟩
    · have ec : ¬ c = 0 := fun q => e (c0.mpr q)
      refine g49_74_tighten (d := d) Bj hl (by omega) sl i2 i1 (by unfold nd; omega) (by unfold nd; omega) (by omega) (by omega) tt (fun r J q => ?_)
      rw [ej, nw] at q
      obtain ⟨a1, a2, a3⟩ := fin r J (by unfold mvC; rw [if_neg ec]; exact q)
      exact ⟨r, J, L, rfl, a1, r, J, L, rfl, a2, a3⟩
end
end
section
/-! the class's begin, exact; told = 12, going = 74, not hard (wip/pe/mkg2.py) -/
section
variable {S : sm_C} {d : Nat} {Φ : sm_Z → Prop} {I : sm_I} {L : sm_L} {R : sm_R}
def g12_74_h (I J : sm_I) : Prop := ∀ p q, p ≠ 76 → ¬ (p = 74 ∧ q = 12) → J p q = I p q
theorem g12_74_Bh {n : Nat} {I J : sm_I} (h : g12_74_h I J) (b : g12_74_B I n) : g12_74_B J n ∧ g12_74_hd J = g12_74_hd I := by
  obtain ⟨b1, b2, b3, b4, b5⟩ := b
  refine ⟨⟨by rw [h 75 4 (by omega) (by omega)]; exact b1, b2, b3, by rw [h 75 5 (by omega) (by omega)]; exact b4, fun i hi => by rw [h 77 i (by omega) (by omega), h 78 i (by omega) (by omega), h 79 i (by omega) (by omega)]; exact b5 i hi⟩, ?_⟩
  funext c
  unfold g12_74_hd
  rw [h 77 c.1 (by omega) (by omega), h 77 c.2.1 (by omega) (by omega), h 79 c.1 (by omega) (by omega), h 78 c.2.1 (by omega) (by omega)]
def g12_74_st (n : Nat) (A C : List tC) (J : sm_I) : Prop := (J 74 12 = 0 ∧ tno n A) ∨ (J 74 12 = 1 ∧ ttop n C (g12_74_T J n 0))
theorem g12_74_b17 {n M : Nat} {I0 : sm_I} {C : List tC} (B : g12_74_B I0 n) (hM : (I0 37 1).toInt = M) (M6 : M ≤ 6) (ok : ∀ k, k < M → kmok I0 n k) (h : ∀ J, g12_74_h I0 J → g12_74_st n (kmoL I0 (g12_74_hd I0) M ++ C) (kmoL I0 (g12_74_hd I0) M ++ C) J → Φ (none, (xLay, J, L, kG12_74 R))) : ∀ (m i : Nat) (x4 : Int32) (J : sm_I), x4.toInt = i → i + m = M → g12_74_h I0 J → g12_74_st n (kmoL I0 (g12_74_hd I0) M ++ C) (kmoL I0 (g12_74_hd I0) i ++ C) J → sm_wp sm_P S (d + 3) 230 17 [.ref 74, .ref 40, .int x4] [] (xLay, J, L, kG12_74 R) (0, 0) Φ := by
  have nn : n * n ≤ 144 := Nat.le_trans (Nat.mul_le_mul B.2.2.1 B.2.2.1) (by decide)
  intro m
  induction m with
  | zero =>
    intro i x4 J h4 hm fh st
    have e1 : J 37 1 = I0 37 1 := fh 37 1 (by omega) (by omega)
    have ei : i = M := by omega
    subst ei
    refine pg12_74_X2_layBase_17 (d := d + 2) ⟨fun _ => h J fh st, fun a => ?_⟩
    have a := kl_nle a
    rw [e1] at a
    omega
  | succ m ih =>
    intro i x4 J h4 hm fh st
    have e1 : J 37 1 = I0 37 1 := fh 37 1 (by omega) (by omega)
    have s4 := ml_in1 (x := x4) (by omega)
    have v : vp_in x4 6 := kl_in (by omega) (by omega)
    have o0 : ∀ (K : sm_I) (x : Int32), g12_74_h I0 K → g12_74_h I0 (sm_up K 74 12 x) := fun K x q a b c1 c2 => (en_up_ne _ _ _ _ c2).trans (q a b c1 c2)
    have t0 : ∀ (K : sm_I) (x : Int32), g12_74_T (sm_up K 74 12 x) n 0 = g12_74_T K n 0 := fun K x => by
      funext a b
      unfold g12_74_T
      rw [en_up_ne _ _ _ _ (by omega)]
    refine pg12_74_X2_layBase_17 (d := d + 2) ⟨fun a => ?_, fun _ => ⟨fun e => ?_, fun e => ⟨v, v, v, v, ?_⟩⟩⟩
    · have a := kl_le.mp a
      rw [e1] at a
      omega
    · rcases st with ⟨-, st⟩ | ⟨st, -⟩
      · exact ih (i + 1) _ _ (by omega) (by omega) (o0 J 0 fh) (Or.inl ⟨en_up_eq _ _ _ _, st⟩)
      · rw [e] at st; exact absurd st (by decide)
    rcases st with ⟨st, -⟩ | ⟨-, T⟩
    · exact absurd st e
    obtain ⟨k1, k2, k3, k4⟩ := ok i (by omega)
    have n11 := B.2.2.1
    obtain ⟨Bj, ej⟩ := g12_74_Bh fh B
    rw [tk_nat h4, fh 41 i (by omega) (by omega), fh 42 i (by omega) (by omega), fh 43 i (by omega) (by omega), fh 44 i (by omega) (by omega)]
    refine g12_74_bind (d := d) (lev := 0) Bj (by omega) (by omega) kl_0 (i := nd (I0 41 i)) (j := nd (I0 42 i)) (by rw [ml_in1 (by omega)]; unfold nd; omega) (by rw [ml_in1 (by omega)]; unfold nd; omega) (by unfold nd; omega) (by unfold nd; omega) (by omega) (by omega) (by omega) (by omega) T (fun r J2 q => ⟨r, J2, L, rfl, ?_⟩)
    rw [ej] at q
    have eC : bC (g12_74_hd I0) (nd (I0 41 i)) (nd (I0 42 i)) (I0 43 i).toInt (I0 44 i).toInt ++ (kmoL I0 (g12_74_hd I0) i ++ C) = kmoL I0 (g12_74_hd I0) (i + 1) ++ C := by rw [← List.append_assoc]; rfl
    rw [eC] at q
    obtain ⟨cg2, q⟩ := q
    have fh2 : g12_74_h I0 J2 := fun a b c1 c2 => (cg2 a b (by omega)).trans (fh a b c1 c2)
    refine ⟨fun r0 => ?_, fun r0 => ?_⟩
    · rcases q with ⟨-, q⟩ | ⟨q, -⟩
      · refine ih (i + 1) _ _ (by omega) (by omega) (o0 J2 0 fh2) (Or.inl ⟨en_up_eq _ _ _ _, tno_cg (fun c hc => ?_) q⟩)
        rcases List.mem_append.mp hc with hc | hc
        · exact List.mem_append.mpr (Or.inl (kmoL_le (i + 1) M (by omega) hc))
        · exact List.mem_append.mpr (Or.inr hc)
      · rw [r0] at q; exact absurd q (by decide)
    · rcases q with ⟨q, -⟩ | ⟨-, q⟩
      · exact absurd q r0
      · exact ih (i + 1) _ _ (by omega) (by omega) (o0 J2 1 fh2) (Or.inr ⟨en_up_eq _ _ _ _, by rw [t0]; exact q⟩)
theorem g12_74_b1 {n M N : Nat} {I0 : sm_I} (B : g12_74_B I0 n) (soft : I0 74 1 = 0) (hM : (I0 37 1).toInt = M) (M6 : M ≤ 6) (ok : ∀ k, k < M → kmok I0 n k) (hN : (I0 12 2).toInt = N) (N10 : N ≤ 10) (Nn : N + 1 ≤ n) (okN : ∀ k, k < N → kopk 12 I0 n k) (h : ∀ J, g12_74_h I0 J → g12_74_st n (kmoL I0 (g12_74_hd I0) M ++ kopL 12 I0 (g12_74_hd I0) N) (kmoL I0 (g12_74_hd I0) M ++ kopL 12 I0 (g12_74_hd I0) N) J → Φ (none, (xLay, J, L, kG12_74 R))) : ∀ (m i : Nat) (x3 : Int32) (J : sm_I), x3.toInt = i → i + m = N → g12_74_h I0 J → g12_74_st n (kopL 12 I0 (g12_74_hd I0) N) (kopL 12 I0 (g12_74_hd I0) i) J → sm_wp sm_P S (d + 3) 230 1 [.ref 74, .ref 16, .int x3] [] (xLay, J, L, kG12_74 R) (0, 0) Φ := by
  have nn : n * n ≤ 144 := Nat.le_trans (Nat.mul_le_mul B.2.2.1 B.2.2.1) (by decide)
  intro m
  induction m with
  | zero =>
    intro i x3 J h3 hm fh st
    have e1 : J 12 2 = I0 12 2 := fh 12 2 (by omega) (by omega)
    have ei : i = N := by omega
    subst ei
    refine pg12_74_X2_layBase_1 (d := d + 2) ⟨fun _ => g12_74_b17 (d := d) B hM M6 ok h M 0 0 J (by decide) (by omega) fh ?_, fun a => ?_⟩
    · rcases st with ⟨s1, s2⟩ | ⟨s1, s2⟩
      · exact Or.inl ⟨s1, tno_cg (fun c hc => List.mem_append.mpr (Or.inr hc)) s2⟩
      · exact Or.inr ⟨s1, s2⟩
    · have a := kl_nle a
      rw [e1] at a
      omega
  | succ m ih =>
    intro i x3 J h3 hm fh st
    have e1 : J 12 2 = I0 12 2 := fh 12 2 (by omega) (by omega)
    have es : J 74 1 = 0 := (fh 74 1 (by omega) (by omega)).trans soft
    have s3 := ml_in1 (x := x3) (by omega)
    have v : vp_in x3 10 := kl_in (by omega) (by omega)
    have o0 : ∀ (K : sm_I) (x : Int32), g12_74_h I0 K → g12_74_h I0 (sm_up K 74 12 x) := fun K x q a b c1 c2 => (en_up_ne _ _ _ _ c2).trans (q a b c1 c2)
    have t0 : ∀ (K : sm_I) (x : Int32), g12_74_T (sm_up K 74 12 x) n 0 = g12_74_T K n 0 := fun K x => by
      funext a b
      unfold g12_74_T
      rw [en_up_ne _ _ _ _ (by omega)]
    refine pg12_74_X2_layBase_1 (d := d + 2) ⟨fun a => ?_, fun _ => ⟨v, ?_⟩⟩
    · have a := kl_le.mp a
      rw [e1] at a
      omega
    rw [tk_nat h3, fh 18 i (by omega) (by omega)]
    have eL : kopL 12 I0 (g12_74_hd I0) (i + 1) = kopC 12 I0 (g12_74_hd I0) i ++ kopL 12 I0 (g12_74_hd I0) i := rfl
    refine ⟨fun e => ?_, fun e => ⟨fun _ => ⟨fun e2 => ?_, fun e2 => ⟨v, v, v, ?_⟩⟩, fun q => absurd es q⟩⟩
    · have eC : kopC 12 I0 (g12_74_hd I0) i = [] := if_pos e
      rw [eC] at eL
      refine ih (i + 1) _ J (by omega) (by omega) fh ?_
      rcases st with st | ⟨s1, s2⟩
      · exact Or.inl st
      · exact Or.inr ⟨s1, by rw [eL]; exact s2⟩
    · rcases st with ⟨-, st⟩ | ⟨st, -⟩
      · exact ih (i + 1) _ _ (by omega) (by omega) (o0 J 0 fh) (Or.inl ⟨en_up_eq _ _ _ _, st⟩)
      · rw [e2] at st; exact absurd st (by decide)
    rcases st with ⟨st, -⟩ | ⟨-, T⟩
    · exact absurd st e2
    obtain ⟨k1, k2, k3⟩ := okN i (by omega) e
    have k1 : 0 ≤ (I0 18 i).toInt ∧ (I0 18 i).toInt + 1 < n := k1
    have k2 : -1440 ≤ (I0 19 i).toInt ∧ (I0 19 i).toInt ≤ 1440 := k2
    have k3 : -1440 ≤ (I0 20 i).toInt ∧ (I0 20 i).toInt ≤ 1440 := k3
    have n11 := B.2.2.1
    obtain ⟨Bj, ej⟩ := g12_74_Bh fh B
    rw [fh 19 i (by omega) (by omega), fh 20 i (by omega) (by omega)]
    refine g12_74_bind (d := d) (lev := 0) Bj (by omega) (by omega) kl_0 (i := i + 1) (j := nd (I0 18 i)) (by rw [s3]; omega) (by rw [ml_in1 (by omega)]; unfold nd; omega) (by omega) (by unfold nd; omega) (by omega) (by omega) (by omega) (by omega) T (fun r J2 q => ⟨r, J2, L, rfl, ?_⟩)
    rw [ej] at q
    have eC : kopC 12 I0 (g12_74_hd I0) i = bC (g12_74_hd I0) (i + 1) (nd (I0 18 i)) (I0 19 i).toInt (I0 20 i).toInt := if_neg e
    rw [← eC, ← eL] at q
    obtain ⟨cg2, q⟩ := q
    have fh2 : g12_74_h I0 J2 := fun a b c1 c2 => (cg2 a b (by omega)).trans (fh a b c1 c2)
    refine ⟨fun r0 => ?_, fun r0 => ?_⟩
    · rcases q with ⟨-, q⟩ | ⟨q, -⟩
      · exact ih (i + 1) _ _ (by omega) (by omega) (o0 J2 0 fh2) (Or.inl ⟨en_up_eq _ _ _ _, tno_cg (fun c hc => kopL_le (i + 1) N (by omega) hc) q⟩)
      · rw [r0] at q; exact absurd q (by decide)
    · rcases q with ⟨q, -⟩ | ⟨-, q⟩
      · exact absurd q r0
      · exact ih (i + 1) _ _ (by omega) (by omega) (o0 J2 1 fh2) (Or.inr ⟨en_up_eq _ _ _ _, by rw [t0]; exact q⟩)
theorem g12_74_F0 : kG12_74l = kF12_74l ++ [(74, 4, 12)] := by decide +kernel
theorem g12_74_up : sm_up (sm_up (kF12_74 R) 74 4 (some 12)) 74 5 (some 37) = kG12_74 R := by
  funext x j
  by_cases c5 : x = 74 ∧ j = 5
  · rw [c5.1, c5.2, en_up_eq]; rfl
  rw [en_up_ne _ _ _ _ c5]
  by_cases c4 : x = 74 ∧ j = 4
  · rw [c4.1, c4.2, en_up_eq]; rfl
  rw [en_up_ne _ _ _ _ c4]
  unfold kG12_74 kF12_74
  rw [g12_74_F0, List.find?_append]
  cases kF12_74l.find? (fun t => Nat.beq t.1 x && Nat.beq t.2.1 j) with
  | some t => rfl
  | none =>
    have e : [(74, 4, 12)].find? (fun t => Nat.beq t.1 x && Nat.beq t.2.1 j) = none := by
      have b : (Nat.beq 74 x && Nat.beq 4 j) = false := by
        cases q : (Nat.beq 74 x && Nat.beq 4 j) with
        | false => rfl
        | true =>
          obtain ⟨q1, q2⟩ := Bool.and_eq_true_iff.mp q
          exact absurd ⟨(Nat.eq_of_beq_eq_true q1).symm, (Nat.eq_of_beq_eq_true q2).symm⟩ c4
      show (match (Nat.beq 74 x && Nat.beq 4 j) with
        | true => some (74, 4, 12)
        | false => List.find? _ []) = none
      rw [b]; rfl
    rw [e]; rfl
theorem g12_74_ai {ys : List Nat} {x : Int32} {a : Nat} (k : kyM 74 I ys) (yl : ys.length < 60) (hx : x = Int32.ofNat a) (h : ∀ J, (∀ p j, p ≠ 80 → ¬ (p = 74 ∧ j = 11) → J p j = I p j) → kyM 74 J (ys ++ [a]) → Φ (none, (xLay, J, L, kG12_74 R))) : sm_wp sm_P S d 219 0 [.ref 74, .int x] [] (xLay, I, L, kG12_74 R) (0, 0) Φ := by
  obtain ⟨k1, k2⟩ := k
  have k1 : (I 74 11).toInt = ys.length := k1
  have k2 : ∀ k, k < ys.length → I 80 k = Int32.ofNat (ys.getD k 0) := k2
  refine pg12_74_X2_addItem_0 ⟨fun a => ?_, fun _ => ⟨kl_in (by omega) (by omega), fun I1 e1 I2 e2 => ?_⟩⟩
  · have a := kl_le.mp a
    rw [Int32.toInt_ofNat_of_lt (by decide)] at a; omega
  rw [tk_nat k1, hx] at e1
  have e11 : I1 74 11 = I 74 11 := by rw [e1, en_up_ne _ _ _ _ (by omega)]
  refine h I2 (fun p j q1 q2 => by rw [e2, en_up_ne _ _ _ _ q2, e1, en_up_ne _ _ _ _ (by omega)]) ⟨?_, fun k hk => ?_⟩
  · show (I2 74 11).toInt = _
    rw [e2, en_up_eq, e11, ml_in1 (by omega), k1, List.length_append]; rfl
  · show I2 80 k = _
    rw [List.length_append] at hk
    have hk : k < ys.length + 1 := hk
    rw [e2, en_up_ne _ _ _ _ (by omega), e1]
    by_cases c : k = ys.length
    · rw [c, en_up_eq, nG_n]
    · rw [en_up_ne _ _ _ _ (by omega), nG_l (by omega)]
      exact k2 k (by omega)
/-- what begin writes -/
def g12_74_bfr (I J : sm_I) : Prop := ∀ p q, ¬ (p = 74 ∧ (q = 6 ∨ q = 7 ∨ q = 8 ∨ q = 10 ∨ q = 11 ∨ q = 12)) → ¬ (p = 75 ∧ (q = 4 ∨ q = 5)) → ¬ (76 ≤ p ∧ p ≤ 80) → J p q = I p q
theorem g12_74_begin {n s m M : Nat} {x3 : Int32} (soft : I 74 1 = 0) (hM : (I 37 1).toInt = M) (M6 : M ≤ 6) (ok : ∀ k, k < M → kmok I n k) (hN : (I 12 2).toInt + 1 = n) (n11 : n ≤ 11) (n1 : 1 ≤ n) (okN : ∀ k, k < n - 1 → kopk 12 I n k) (hs : (I 12 3).toInt = s) (s10 : s ≤ 10) (hm : (I 12 5).toInt = m) (m45 : m ≤ 45) (h : ∀ J, g12_74_bfr I J → (J 74 6 = 0 ∧ J 74 7 = 0 ∧ J 74 8 = 0 ∧ J 74 10 = 0) → kyM 74 J (kitL x3 s m) → g12_74_B J n → (∀ a, a < n → J 77 a = Int32.ofNat a ∧ J 78 a = 0 ∧ J 79 a = 0) → g12_74_st n (kbaC 12 J (g12_74_hd J)) (kbaC 12 J (g12_74_hd J)) J → Φ (none, (xLay, J, L, kG12_74 R))) : sm_wp sm_P S (d + 4) 220 0 [.ref 74, .ref 12, .ref 37, .int x3, .int 0] [] (xLay, I, L, kF12_74 R) (0, 0) Φ := by
  refine pg12_74_X2_beginF_0 (d := d + 3) (fun I1 e1 => ⟨fun _ => ?_, fun a => absurd (by decide) a⟩)
  rw [g12_74_up]
  have o1 : ∀ p j, ¬ (p = 74 ∧ (j = 7 ∨ j = 8 ∨ j = 10)) → (sm_up I1 74 10 (0 : Int32)) p j = I p j := fun p j q => by rw [en_up_ne _ _ _ _ (by omega), e1, en_up_ne _ _ _ _ (by omega), en_up_ne _ _ _ _ (by omega)]
  refine pg12_74_X2_layBase_0 (d := d + 2) (fun n1' en1 => ?_)
  have o2 : ∀ p j, ¬ (p = 74 ∧ (j = 6 ∨ j = 7 ∨ j = 8 ∨ j = 10)) → (sm_up (sm_up I1 74 10 (0 : Int32)) 74 6 (0 : Int32)) p j = I p j := fun p j q => by rw [en_up_ne _ _ _ _ (by omega)]; exact o1 p j (by omega)
  have qn : n1'.toInt = n := by
    rw [en1, o2 12 2 (by omega)]
    rw [ml_ad (a := (n : Int)) (by rw [ml_in1 (by omega)]; exact hN) kl_0 (by omega) (by omega)]
    omega
  refine g12_74_bl qn n1 n11 (fun J2 bf B2 st2 T2 => ⟨J2, L, rfl, ?_⟩)
  have oJ : ∀ p j, ¬ (p = 74 ∧ (j = 6 ∨ j = 7 ∨ j = 8 ∨ j = 10)) → ¬ (p = 75 ∧ (j = 4 ∨ j = 5)) → ¬ (76 ≤ p ∧ p ≤ 79) → J2 p j = I p j := fun p j q1 q2 q3 => (bf p j q2 (by omega) (by omega) (by omega) (by omega)).trans (o2 p j q1)
  have oK : ∀ p j, ¬ (p = 74 ∧ (j = 6 ∨ j = 7 ∨ j = 8 ∨ j = 10 ∨ j = 12)) → ¬ (p = 75 ∧ (j = 4 ∨ j = 5)) → ¬ (76 ≤ p ∧ p ≤ 79) → (sm_up J2 74 12 (1 : Int32)) p j = I p j := fun p j q1 q2 q3 => by rw [en_up_ne _ _ _ _ (by omega)]; exact oJ p j (by omega) q2 q3
  have g6 : J2 74 6 = 0 := by rw [bf 74 6 (by omega) (by omega) (by omega) (by omega) (by omega), en_up_eq]
  have g7 : J2 74 7 = 0 := by rw [bf 74 7 (by omega) (by omega) (by omega) (by omega) (by omega), en_up_ne _ _ _ _ (by omega), en_up_ne _ _ _ _ (by omega), e1, en_up_ne _ _ _ _ (by omega), en_up_eq]
  have g8 : J2 74 8 = 0 := by rw [bf 74 8 (by omega) (by omega) (by omega) (by omega) (by omega), en_up_ne _ _ _ _ (by omega), en_up_ne _ _ _ _ (by omega), e1, en_up_eq]
  have g10 : J2 74 10 = 0 := by rw [bf 74 10 (by omega) (by omega) (by omega) (by omega) (by omega), en_up_ne _ _ _ _ (by omega), en_up_eq]
  obtain ⟨K, eK⟩ : ∃ K, K = sm_up J2 74 12 (1 : Int32) := ⟨_, rfl⟩
  rw [← eK] at oK ⊢
  have hK : g12_74_h J2 K := fun a b c1 c2 => by rw [eK, en_up_ne _ _ _ _ c2]
  have hK' : g12_74_h K J2 := fun a b c1 c2 => (hK a b c1 c2).symm
  obtain ⟨BK, eKh⟩ := g12_74_Bh hK B2
  have TK : g12_74_T K n 0 = g12_74_T J2 n 0 := by
    funext a b
    unfold g12_74_T
    rw [eK, en_up_ne _ _ _ _ (by omega)]
  have okM : ∀ k, k < M → kmok K n k := fun k hk => by
    have a := ok k hk
    unfold kmok at a ⊢
    rw [oK 41 k (by omega) (by omega) (by omega), oK 42 k (by omega) (by omega) (by omega), oK 43 k (by omega) (by omega) (by omega), oK 44 k (by omega) (by omega) (by omega)]; exact a
  have okO : ∀ k, k < n - 1 → kopk 12 K n k := fun k hk => by
    have a := okN k hk
    have a : I 18 k ≠ -1 → (0 ≤ (I 18 k).toInt ∧ (I 18 k).toInt + 1 < n) ∧ (-1440 ≤ (I 19 k).toInt ∧ (I 19 k).toInt ≤ 1440) ∧ (-1440 ≤ (I 20 k).toInt ∧ (I 20 k).toInt ≤ 1440) := a
    show K 18 k ≠ -1 → (0 ≤ (K 18 k).toInt ∧ (K 18 k).toInt + 1 < n) ∧ (-1440 ≤ (K 19 k).toInt ∧ (K 19 k).toInt ≤ 1440) ∧ (-1440 ≤ (K 20 k).toInt ∧ (K 20 k).toInt ≤ 1440)
    rw [oK 18 k (by omega) (by omega) (by omega), oK 19 k (by omega) (by omega) (by omega), oK 20 k (by omega) (by omega) (by omega)]; exact a
  have eM : (K 37 1).toInt = M := by rw [oK 37 1 (by omega) (by omega) (by omega)]; exact hM
  have eN : (K 12 2).toInt = ((n - 1 : Nat) : Int) := by rw [oK 12 2 (by omega) (by omega) (by omega)]; omega
  refine g12_74_b1 (d := d) (I0 := K) (n := n) (M := M) (N := n - 1) BK (by rw [oK 74 1 (by omega) (by omega) (by omega)]; exact soft) eM M6 okM eN (by omega) (by omega) okO (fun J3 h3 st3 => ⟨J3, L, rfl, ?_⟩) (n - 1) 0 0 K (by decide) (by omega) (fun _ _ _ _ => rfl) (Or.inr ⟨by rw [eK, en_up_eq], by rw [TK]; exact T2⟩)
  -- the ITEMS
  obtain ⟨K4, eK4⟩ : ∃ K4, K4 = sm_up J3 74 11 (0 : Int32) := ⟨_, rfl⟩
  rw [← eK4]
  have o4 : ∀ p j, ¬ (p = 74 ∧ (j = 6 ∨ j = 7 ∨ j = 8 ∨ j = 10 ∨ j = 11 ∨ j = 12)) → ¬ (p = 75 ∧ (j = 4 ∨ j = 5)) → ¬ (76 ≤ p ∧ p ≤ 79) → K4 p j = I p j := fun p j q1 q2 q3 => by rw [eK4, en_up_ne _ _ _ _ (by omega), h3 p j (by omega) (by omega)]; exact oK p j (by omega) q2 q3
  have fin : ∀ J, (∀ p j, p ≠ 80 → ¬ (p = 74 ∧ j = 11) → J p j = K4 p j) → kyM 74 J (kitL x3 s m) → Φ (none, (xLay, J, L, kG12_74 R)) := fun J fr kk => by
    have f3 : ∀ p j, p ≠ 80 → ¬ (p = 74 ∧ j = 11) → J p j = J3 p j := fun p j q1 q2 => by rw [fr p j q1 q2, eK4, en_up_ne _ _ _ _ q2]
    have fK : ∀ p j, p ≠ 80 → ¬ (p = 74 ∧ (j = 11 ∨ j = 12)) → p ≠ 76 → J p j = K p j := fun p j q1 q2 q3 => (f3 p j q1 (by omega)).trans (h3 p j q3 (by omega))
    have f2 : ∀ p j, p ≠ 80 → ¬ (p = 74 ∧ (j = 11 ∨ j = 12)) → p ≠ 76 → J p j = J2 p j := fun p j q1 q2 q3 => by rw [fK p j q1 q2 q3, eK, en_up_ne _ _ _ _ (by omega)]
    have hdJ : g12_74_hd J = g12_74_hd K := by
      funext c
      unfold g12_74_hd
      rw [fK 77 c.1 (by omega) (by omega) (by omega), fK 77 c.2.1 (by omega) (by omega) (by omega), fK 79 c.1 (by omega) (by omega) (by omega), fK 78 c.2.1 (by omega) (by omega) (by omega)]
    have BJ : g12_74_B J n := by
      obtain ⟨b1, b2, b3, b4, b5⟩ := BK
      exact ⟨by rw [fK 75 4 (by omega) (by omega) (by omega)]; exact b1, b2, b3, by rw [fK 75 5 (by omega) (by omega) (by omega)]; exact b4, fun i hi => by rw [fK 77 i (by omega) (by omega) (by omega), fK 78 i (by omega) (by omega) (by omega), fK 79 i (by omega) (by omega) (by omega)]; exact b5 i hi⟩
    have eB : kbaC 12 J (g12_74_hd J) = kmoL K (g12_74_hd K) M ++ kopL 12 K (g12_74_hd K) (n - 1) := by
      have e1 : (J 37 1).toNatClampNeg = M := tk_nat (by rw [fK 37 1 (by omega) (by omega) (by omega)]; exact eM)
      have e2 : (J 12 2).toNatClampNeg = n - 1 := tk_nat (by rw [fK 12 2 (by omega) (by omega) (by omega)]; exact eN)
      have e3 : ∀ k, kmoL J (g12_74_hd K) k = kmoL K (g12_74_hd K) k := fun k => by
        induction k with
        | zero => rfl
        | succ k ih =>
          show bC (g12_74_hd K) (nd (J 41 k)) (nd (J 42 k)) (J 43 k).toInt (J 44 k).toInt ++ kmoL J (g12_74_hd K) k = bC (g12_74_hd K) (nd (K 41 k)) (nd (K 42 k)) (K 43 k).toInt (K 44 k).toInt ++ kmoL K (g12_74_hd K) k
          rw [ih, fK 41 k (by omega) (by omega) (by omega), fK 42 k (by omega) (by omega) (by omega), fK 43 k (by omega) (by omega) (by omega), fK 44 k (by omega) (by omega) (by omega)]
      have e4 : ∀ k, kopL 12 J (g12_74_hd K) k = kopL 12 K (g12_74_hd K) k := fun k => by
        induction k with
        | zero => rfl
        | succ k ih =>
          show (if J 18 k = -1 then [] else bC (g12_74_hd K) (k + 1) (nd (J 18 k)) (J 19 k).toInt (J 20 k).toInt) ++ kopL 12 J (g12_74_hd K) k = (if K 18 k = -1 then [] else bC (g12_74_hd K) (k + 1) (nd (K 18 k)) (K 19 k).toInt (K 20 k).toInt) ++ kopL 12 K (g12_74_hd K) k
          rw [ih, fK 18 k (by omega) (by omega) (by omega), fK 19 k (by omega) (by omega) (by omega), fK 20 k (by omega) (by omega) (by omega)]
      show kmoL J (g12_74_hd J) (J 37 1).toNatClampNeg ++ kopL 12 J (g12_74_hd J) (J 12 2).toNatClampNeg = _
      rw [e1, e2, hdJ, e3, e4]
    refine h J (fun p j q1 q2 q3 => by rw [fr p j (by omega) (by omega)]; exact o4 p j q1 q2 (by omega)) ⟨by rw [f2 74 6 (by omega) (by omega) (by omega)]; exact g6, by rw [f2 74 7 (by omega) (by omega) (by omega)]; exact g7, by rw [f2 74 8 (by omega) (by omega) (by omega)]; exact g8, by rw [f2 74 10 (by omega) (by omega) (by omega)]; exact g10⟩ kk BJ (fun a ha => by rw [f2 77 a (by omega) (by omega) (by omega), f2 78 a (by omega) (by omega) (by omega), f2 79 a (by omega) (by omega) (by omega)]; exact st2 a ha) ?_
    rw [eB]
    have e12 : J 74 12 = J3 74 12 := f3 74 12 (by omega) (by omega)
    have eT : g12_74_T J n 0 = g12_74_T J3 n 0 := by
      funext a b
      unfold g12_74_T
      rw [f3 76 _ (by omega) (by omega)]
    unfold g12_74_st
    rw [e12, eT]; exact st3
  have lenS := sL_len x3
  have mv : ∀ (k i : Nat) (x5 : Int32) (J : sm_I), x5.toInt = i → i + k = m → (∀ p j, p ≠ 80 → ¬ (p = 74 ∧ j = 11) → J p j = K4 p j) → kyM 74 J (kitL x3 s i) → sm_wp sm_P S (d + 4) 220 9 [.ref 74, .int x5] [] (xLay, J, L, kG12_74 R) (0, 0) Φ := by
    intro k
    induction k with
    | zero =>
      intro i x5 J h5 hk fr kk
      have ei : i = m := by omega
      subst ei
      have e5 : J 12 5 = I 12 5 := by rw [fr 12 5 (by omega) (by omega)]; exact o4 12 5 (by omega) (by omega) (by omega)
      refine pg12_74_X2_begin_9 (d := d + 3) ⟨fun _ => fin J fr kk, fun a => ?_⟩
      have a := kl_nle a
      rw [e5] at a
      omega
    | succ k ih =>
      intro i x5 J h5 hk fr kk
      have e5 : J 12 5 = I 12 5 := by rw [fr 12 5 (by omega) (by omega)]; exact o4 12 5 (by omega) (by omega) (by omega)
      have s5 := ml_in1 (x := x5) (by omega)
      have c100 : (100 : Int32).toInt = 100 := by decide
      refine pg12_74_X2_begin_9 (d := d + 3) ⟨fun a => ?_, fun _ => ?_⟩
      · have a := kl_le.mp a
        rw [e5] at a
        omega
      have v : (100 : Int32) + x5 = Int32.ofNat (100 + i) := en_ofI (by rw [ml_ad c100 h5 (by omega) (by omega), Int32.toInt_ofNat_of_lt (by omega)]; omega)
      have ll := kitL_len (set := x3) (s := s) (m := i)
      refine g12_74_ai kk (by omega) v (fun J2 o2 k2 => ⟨J2, L, rfl, ih (i + 1) _ J2 (by omega) (by omega) (fun p j q1 q2 => (o2 p j q1 q2).trans (fr p j q1 q2)) ?_⟩)
      have e : kitL x3 s i ++ [100 + i] = kitL x3 s (i + 1) := by
        unfold kitL
        rw [List.append_assoc]; rfl
      rw [e] at k2
      exact k2
  have sy : ∀ (k i : Nat) (x5 : Int32) (J : sm_I), x5.toInt = i → i + k = s → (∀ p j, p ≠ 80 → ¬ (p = 74 ∧ j = 11) → J p j = K4 p j) → kyM 74 J (sL x3 i) → sm_wp sm_P S (d + 4) 220 4 [.ref 74, .int x3, .int x5] [] (xLay, J, L, kG12_74 R) (0, 0) Φ := by
    intro k
    induction k with
    | zero =>
      intro i x5 J h5 hk fr kk
      have ei : i = s := by omega
      subst ei
      have e5 : J 12 3 = I 12 3 := by rw [fr 12 3 (by omega) (by omega)]; exact o4 12 3 (by omega) (by omega) (by omega)
      refine pg12_74_X2_begin_4 (d := d + 3) ⟨fun _ => mv m 0 0 J (by decide) (by omega) fr ?_, fun a => ?_⟩
      · show kyM 74 J (sL x3 i ++ [])
        rw [List.append_nil]; exact kk
      · have a := kl_nle a
        rw [e5] at a
        omega
    | succ k ih =>
      intro i x5 J h5 hk fr kk
      have e5 : J 12 3 = I 12 3 := by rw [fr 12 3 (by omega) (by omega)]; exact o4 12 3 (by omega) (by omega) (by omega)
      have s5 := ml_in1 (x := x5) (by omega)
      have ex : x5 = Int32.ofNat i := en_ofI (by rw [h5, Int32.toInt_ofNat_of_lt (by omega)])
      refine pg12_74_X2_begin_4 (d := d + 3) ⟨fun a => ?_, fun _ => ⟨fun q => ?_, fun q => ?_⟩⟩
      · have a := kl_le.mp a
        rw [e5] at a
        omega
      · refine ih (i + 1) _ J (by omega) (by omega) fr ?_
        show kyM 74 J (sL x3 i ++ (if isb x3 i = true then [i] else []))
        rw [if_neg (by unfold isb; rw [← ex, decide_eq_true q]; decide), List.append_nil]
        exact kk
      · have ll := lenS i
        refine g12_74_ai kk (by omega) ex (fun J2 o2 k2 => ⟨J2, L, rfl, ih (i + 1) _ J2 (by omega) (by omega) (fun p j q1 q2 => (o2 p j q1 q2).trans (fr p j q1 q2)) ?_⟩)
        show kyM 74 J2 (sL x3 i ++ (if isb x3 i = true then [i] else []))
        rw [if_pos (by unfold isb; rw [← ex, decide_eq_false q]; rfl)]
        exact k2
  refine sy s 0 0 K4 (by decide) (by omega) (fun _ _ _ _ => rfl) ⟨?_, fun k hk => absurd hk (Nat.not_lt_zero k)⟩
  show (K4 74 11).toInt = _
  rw [eK4, en_up_eq]; rfl
end
end
section
/-! the class's begin, exact; told = 49, going = 74, not hard (wip/pe/mkg2.py) -/
section
variable {S : sm_C} {d : Nat} {Φ : sm_Z → Prop} {I : sm_I} {L : sm_L} {R : sm_R}
def g49_74_h (I J : sm_I) : Prop := ∀ p q, p ≠ 76 → ¬ (p = 74 ∧ q = 12) → J p q = I p q
theorem g49_74_Bh {n : Nat} {I J : sm_I} (h : g49_74_h I J) (b : g49_74_B I n) : g49_74_B J n ∧ g49_74_hd J = g49_74_hd I := by
  obtain ⟨b1, b2, b3, b4, b5⟩ := b
  refine ⟨⟨by rw [h 75 4 (by omega) (by omega)]; exact b1, b2, b3, by rw [h 75 5 (by omega) (by omega)]; exact b4, fun i hi => by rw [h 77 i (by omega) (by omega), h 78 i (by omega) (by omega), h 79 i (by omega) (by omega)]; exact b5 i hi⟩, ?_⟩
  funext c
  unfold g49_74_hd
  rw [h 77 c.1 (by omega) (by omega), h 77 c.2.1 (by omega) (by omega), h 79 c.1 (by omega) (by omega), h 78 c.2.1 (by omega) (by omega)]
def g49_74_st (n : Nat) (A C : List tC) (J : sm_I) : Prop := (J 74 12 = 0 ∧ tno n A) ∨ (J 74 12 = 1 ∧ ttop n C (g49_74_T J n 0))
theorem g49_74_b17 {n M : Nat} {I0 : sm_I} {C : List tC} (B : g49_74_B I0 n) (hM : (I0 37 1).toInt = M) (M6 : M ≤ 6) (ok : ∀ k, k < M → kmok I0 n k) (h : ∀ J, g49_74_h I0 J → g49_74_st n (kmoL I0 (g49_74_hd I0) M ++ C) (kmoL I0 (g49_74_hd I0) M ++ C) J → Φ (none, (xLay, J, L, kG49_74 R))) : ∀ (m i : Nat) (x4 : Int32) (J : sm_I), x4.toInt = i → i + m = M → g49_74_h I0 J → g49_74_st n (kmoL I0 (g49_74_hd I0) M ++ C) (kmoL I0 (g49_74_hd I0) i ++ C) J → sm_wp sm_P S (d + 3) 230 17 [.ref 74, .ref 40, .int x4] [] (xLay, J, L, kG49_74 R) (0, 0) Φ := by
  have nn : n * n ≤ 144 := Nat.le_trans (Nat.mul_le_mul B.2.2.1 B.2.2.1) (by decide)
  intro m
  induction m with
  | zero =>
    intro i x4 J h4 hm fh st
    have e1 : J 37 1 = I0 37 1 := fh 37 1 (by omega) (by omega)
    have ei : i = M := by omega
    subst ei
    refine pg49_74_X2_layBase_17 (d := d + 2) ⟨fun _ => h J fh st, fun a => ?_⟩
    have a := kl_nle a
    rw [e1] at a
    omega
  | succ m ih =>
    intro i x4 J h4 hm fh st
    have e1 : J 37 1 = I0 37 1 := fh 37 1 (by omega) (by omega)
    have s4 := ml_in1 (x := x4) (by omega)
    have v : vp_in x4 6 := kl_in (by omega) (by omega)
    have o0 : ∀ (K : sm_I) (x : Int32), g49_74_h I0 K → g49_74_h I0 (sm_up K 74 12 x) := fun K x q a b c1 c2 => (en_up_ne _ _ _ _ c2).trans (q a b c1 c2)
    have t0 : ∀ (K : sm_I) (x : Int32), g49_74_T (sm_up K 74 12 x) n 0 = g49_74_T K n 0 := fun K x => by
      funext a b
      unfold g49_74_T
      rw [en_up_ne _ _ _ _ (by omega)]
    refine pg49_74_X2_layBase_17 (d := d + 2) ⟨fun a => ?_, fun _ => ⟨fun e => ?_, fun e => ⟨v, v, v, v, ?_⟩⟩⟩
    · have a := kl_le.mp a
      rw [e1] at a
      omega
    · rcases st with ⟨-, st⟩ | ⟨st, -⟩
      · exact ih (i + 1) _ _ (by omega) (by omega) (o0 J 0 fh) (Or.inl ⟨en_up_eq _ _ _ _, st⟩)
      · rw [e] at st; exact absurd st (by decide)
    rcases st with ⟨st, -⟩ | ⟨-, T⟩
    · exact absurd st e
    obtain ⟨k1, k2, k3, k4⟩ := ok i (by omega)
    have n11 := B.2.2.1
    obtain ⟨Bj, ej⟩ := g49_74_Bh fh B
    rw [tk_nat h4, fh 41 i (by omega) (by omega), fh 42 i (by omega) (by omega), fh 43 i (by omega) (by omega), fh 44 i (by omega) (by omega)]
    refine g49_74_bind (d := d) (lev := 0) Bj (by omega) (by omega) kl_0 (i := nd (I0 41 i)) (j := nd (I0 42 i)) (by rw [ml_in1 (by omega)]; unfold nd; omega) (by rw [ml_in1 (by omega)]; unfold nd; omega) (by unfold nd; omega) (by unfold nd; omega) (by omega) (by omega) (by omega) (by omega) T (fun r J2 q => ⟨r, J2, L, rfl, ?_⟩)
    rw [ej] at q
    have eC : bC (g49_74_hd I0) (nd (I0 41 i)) (nd (I0 42 i)) (I0 43 i).toInt (I0 44 i).toInt ++ (kmoL I0 (g49_74_hd I0) i ++ C) = kmoL I0 (g49_74_hd I0) (i + 1) ++ C := by rw [← List.append_assoc]; rfl
    rw [eC] at q
    obtain ⟨cg2, q⟩ := q
    have fh2 : g49_74_h I0 J2 := fun a b c1 c2 => (cg2 a b (by omega)).trans (fh a b c1 c2)
    refine ⟨fun r0 => ?_, fun r0 => ?_⟩
    · rcases q with ⟨-, q⟩ | ⟨q, -⟩
      · refine ih (i + 1) _ _ (by omega) (by omega) (o0 J2 0 fh2) (Or.inl ⟨en_up_eq _ _ _ _, tno_cg (fun c hc => ?_) q⟩)
        rcases List.mem_append.mp hc with hc | hc
        · exact List.mem_append.mpr (Or.inl (kmoL_le (i + 1) M (by omega) hc))
        · exact List.mem_append.mpr (Or.inr hc)
      · rw [r0] at q; exact absurd q (by decide)
    · rcases q with ⟨q, -⟩ | ⟨-, q⟩
      · exact absurd q r0
      · exact ih (i + 1) _ _ (by omega) (by omega) (o0 J2 1 fh2) (Or.inr ⟨en_up_eq _ _ _ _, by rw [t0]; exact q⟩)
theorem g49_74_b1 {n M N : Nat} {I0 : sm_I} (B : g49_74_B I0 n) (soft : I0 74 1 = 0) (hM : (I0 37 1).toInt = M) (M6 : M ≤ 6) (ok : ∀ k, k < M → kmok I0 n k) (hN : (I0 49 2).toInt = N) (N10 : N ≤ 10) (Nn : N + 1 ≤ n) (okN : ∀ k, k < N → kopk 49 I0 n k) (h : ∀ J, g49_74_h I0 J → g49_74_st n (kmoL I0 (g49_74_hd I0) M ++ kopL 49 I0 (g49_74_hd I0) N) (kmoL I0 (g49_74_hd I0) M ++ kopL 49 I0 (g49_74_hd I0) N) J → Φ (none, (xLay, J, L, kG49_74 R))) : ∀ (m i : Nat) (x3 : Int32) (J : sm_I), x3.toInt = i → i + m = N → g49_74_h I0 J → g49_74_st n (kopL 49 I0 (g49_74_hd I0) N) (kopL 49 I0 (g49_74_hd I0) i) J → sm_wp sm_P S (d + 3) 230 1 [.ref 74, .ref 53, .int x3] [] (xLay, J, L, kG49_74 R) (0, 0) Φ := by
  have nn : n * n ≤ 144 := Nat.le_trans (Nat.mul_le_mul B.2.2.1 B.2.2.1) (by decide)
  intro m
  induction m with
  | zero =>
    intro i x3 J h3 hm fh st
    have e1 : J 49 2 = I0 49 2 := fh 49 2 (by omega) (by omega)
    have ei : i = N := by omega
    subst ei
    refine pg49_74_X2_layBase_1 (d := d + 2) ⟨fun _ => g49_74_b17 (d := d) B hM M6 ok h M 0 0 J (by decide) (by omega) fh ?_, fun a => ?_⟩
    · rcases st with ⟨s1, s2⟩ | ⟨s1, s2⟩
      · exact Or.inl ⟨s1, tno_cg (fun c hc => List.mem_append.mpr (Or.inr hc)) s2⟩
      · exact Or.inr ⟨s1, s2⟩
    · have a := kl_nle a
      rw [e1] at a
      omega
  | succ m ih =>
    intro i x3 J h3 hm fh st
    have e1 : J 49 2 = I0 49 2 := fh 49 2 (by omega) (by omega)
    have es : J 74 1 = 0 := (fh 74 1 (by omega) (by omega)).trans soft
    have s3 := ml_in1 (x := x3) (by omega)
    have v : vp_in x3 10 := kl_in (by omega) (by omega)
    have o0 : ∀ (K : sm_I) (x : Int32), g49_74_h I0 K → g49_74_h I0 (sm_up K 74 12 x) := fun K x q a b c1 c2 => (en_up_ne _ _ _ _ c2).trans (q a b c1 c2)
    have t0 : ∀ (K : sm_I) (x : Int32), g49_74_T (sm_up K 74 12 x) n 0 = g49_74_T K n 0 := fun K x => by
      funext a b
      unfold g49_74_T
      rw [en_up_ne _ _ _ _ (by omega)]
    refine pg49_74_X2_layBase_1 (d := d + 2) ⟨fun a => ?_, fun _ => ⟨v, ?_⟩⟩
    · have a := kl_le.mp a
      rw [e1] at a
      omega
    rw [tk_nat h3, fh 55 i (by omega) (by omega)]
    have eL : kopL 49 I0 (g49_74_hd I0) (i + 1) = kopC 49 I0 (g49_74_hd I0) i ++ kopL 49 I0 (g49_74_hd I0) i := rfl
    refine ⟨fun e => ?_, fun e => ⟨fun _ => ⟨fun e2 => ?_, fun e2 => ⟨v, v, v, ?_⟩⟩, fun q => absurd es q⟩⟩
    · have eC : kopC 49 I0 (g49_74_hd I0) i = [] := if_pos e
      rw [eC] at eL
      refine ih (i + 1) _ J (by omega) (by omega) fh ?_
      rcases st with st | ⟨s1, s2⟩
      · exact Or.inl st
      · exact Or.inr ⟨s1, by rw [eL]; exact s2⟩
    · rcases st with ⟨-, st⟩ | ⟨st, -⟩
      · exact ih (i + 1) _ _ (by omega) (by omega) (o0 J 0 fh) (Or.inl ⟨en_up_eq _ _ _ _, st⟩)
      · rw [e2] at st; exact absurd st (by decide)
    rcases st with ⟨st, -⟩ | ⟨-, T⟩
    · exact absurd st e2
    obtain ⟨k1, k2, k3⟩ := okN i (by omega) e
    have k1 : 0 ≤ (I0 55 i).toInt ∧ (I0 55 i).toInt + 1 < n := k1
    have k2 : -1440 ≤ (I0 56 i).toInt ∧ (I0 56 i).toInt ≤ 1440 := k2
    have k3 : -1440 ≤ (I0 57 i).toInt ∧ (I0 57 i).toInt ≤ 1440 := k3
    have n11 := B.2.2.1
    obtain ⟨Bj, ej⟩ := g49_74_Bh fh B
    rw [fh 56 i (by omega) (by omega), fh 57 i (by omega) (by omega)]
    refine g49_74_bind (d := d) (lev := 0) Bj (by omega) (by omega) kl_0 (i := i + 1) (j := nd (I0 55 i)) (by rw [s3]; omega) (by rw [ml_in1 (by omega)]; unfold nd; omega) (by omega) (by unfold nd; omega) (by omega) (by omega) (by omega) (by omega) T (fun r J2 q => ⟨r, J2, L, rfl, ?_⟩)
    rw [ej] at q
    have eC : kopC 49 I0 (g49_74_hd I0) i = bC (g49_74_hd I0) (i + 1) (nd (I0 55 i)) (I0 56 i).toInt (I0 57 i).toInt := if_neg e
    rw [← eC, ← eL] at q
    obtain ⟨cg2, q⟩ := q
    have fh2 : g49_74_h I0 J2 := fun a b c1 c2 => (cg2 a b (by omega)).trans (fh a b c1 c2)
    refine ⟨fun r0 => ?_, fun r0 => ?_⟩
    · rcases q with ⟨-, q⟩ | ⟨q, -⟩
      · exact ih (i + 1) _ _ (by omega) (by omega) (o0 J2 0 fh2) (Or.inl ⟨en_up_eq _ _ _ _, tno_cg (fun c hc => kopL_le (i + 1) N (by omega) hc) q⟩)
      · rw [r0] at q; exact absurd q (by decide)
    · rcases q with ⟨q, -⟩ | ⟨-, q⟩
      · exact absurd q r0
      · exact ih (i + 1) _ _ (by omega) (by omega) (o0 J2 1 fh2) (Or.inr ⟨en_up_eq _ _ _ _, by rw [t0]; exact q⟩)
theorem g49_74_F0 : kG49_74l = kF49_74l ++ [(74, 4, 49)] := by decide +kernel
theorem g49_74_up : sm_up (sm_up (kF49_74 R) 74 4 (some 49)) 74 5 (some 37) = kG49_74 R := by
  funext x j
  by_cases c5 : x = 74 ∧ j = 5
  · rw [c5.1, c5.2, en_up_eq]; rfl
  rw [en_up_ne _ _ _ _ c5]
  by_cases c4 : x = 74 ∧ j = 4
  · rw [c4.1, c4.2, en_up_eq]; rfl
  rw [en_up_ne _ _ _ _ c4]
  unfold kG49_74 kF49_74
  rw [g49_74_F0, List.find?_append]
  cases kF49_74l.find? (fun t => Nat.beq t.1 x && Nat.beq t.2.1 j) with
  | some t => rfl
  | none =>
    have e : [(74, 4, 49)].find? (fun t => Nat.beq t.1 x && Nat.beq t.2.1 j) = none := by
      have b : (Nat.beq 74 x && Nat.beq 4 j) = false := by
        cases q : (Nat.beq 74 x && Nat.beq 4 j) with
        | false => rfl
        | true =>
          obtain ⟨q1, q2⟩ := Bool.and_eq_true_iff.mp q
          exact absurd ⟨(Nat.eq_of_beq_eq_true q1).symm, (Nat.eq_of_beq_eq_true q2).symm⟩ c4
      show (match (Nat.beq 74 x && Nat.beq 4 j) with
        | true => some (74, 4, 49)
        | false => List.find? _ []) = none
      rw [b]; rfl
    rw [e]; rfl
theorem g49_74_ai {ys : List Nat} {x : Int32} {a : Nat} (k : kyM 74 I ys) (yl : ys.length < 60) (hx : x = Int32.ofNat a) (h : ∀ J, (∀ p j, p ≠ 80 → ¬ (p = 74 ∧ j = 11) → J p j = I p j) → kyM 74 J (ys ++ [a]) → Φ (none, (xLay, J, L, kG49_74 R))) : sm_wp sm_P S d 219 0 [.ref 74, .int x] [] (xLay, I, L, kG49_74 R) (0, 0) Φ := by
  obtain ⟨k1, k2⟩ := k
  have k1 : (I 74 11).toInt = ys.length := k1
  have k2 : ∀ k, k < ys.length → I 80 k = Int32.ofNat (ys.getD k 0) := k2
  refine pg49_74_X2_addItem_0 ⟨fun a => ?_, fun _ => ⟨kl_in (by omega) (by omega), fun I1 e1 I2 e2 => ?_⟩⟩
  · have a := kl_le.mp a
    rw [Int32.toInt_ofNat_of_lt (by decide)] at a; omega
  rw [tk_nat k1, hx] at e1
  have e11 : I1 74 11 = I 74 11 := by rw [e1, en_up_ne _ _ _ _ (by omega)]
  refine h I2 (fun p j q1 q2 => by rw [e2, en_up_ne _ _ _ _ q2, e1, en_up_ne _ _ _ _ (by omega)]) ⟨?_, fun k hk => ?_⟩
  · show (I2 74 11).toInt = _
    rw [e2, en_up_eq, e11, ml_in1 (by omega), k1, List.length_append]; rfl
  · show I2 80 k = _
    rw [List.length_append] at hk
    have hk : k < ys.length + 1 := hk
    rw [e2, en_up_ne _ _ _ _ (by omega), e1]
    by_cases c : k = ys.length
    · rw [c, en_up_eq, nG_n]
    · rw [en_up_ne _ _ _ _ (by omega), nG_l (by omega)]
      exact k2 k (by omega)
/-- what begin writes -/
def g49_74_bfr (I J : sm_I) : Prop := ∀ p q, ¬ (p = 74 ∧ (q = 6 ∨ q = 7 ∨ q = 8 ∨ q = 10 ∨ q = 11 ∨ q = 12)) → ¬ (p = 75 ∧ (q = 4 ∨ q = 5)) → ¬ (76 ≤ p ∧ p ≤ 80) → J p q = I p q
theorem g49_74_begin {n s m M : Nat} {x3 : Int32} (soft : I 74 1 = 0) (hM : (I 37 1).toInt = M) (M6 : M ≤ 6) (ok : ∀ k, k < M → kmok I n k) (hN : (I 49 2).toInt + 1 = n) (n11 : n ≤ 11) (n1 : 1 ≤ n) (okN : ∀ k, k < n - 1 → kopk 49 I n k) (hs : (I 49 3).toInt = s) (s10 : s ≤ 10) (hm : (I 49 5).toInt = m) (m45 : m ≤ 45) (h : ∀ J, g49_74_bfr I J → (J 74 6 = 0 ∧ J 74 7 = 0 ∧ J 74 8 = 0 ∧ J 74 10 = 0) → kyM 74 J (kitL x3 s m) → g49_74_B J n → (∀ a, a < n → J 77 a = Int32.ofNat a ∧ J 78 a = 0 ∧ J 79 a = 0) → g49_74_st n (kbaC 49 J (g49_74_hd J)) (kbaC 49 J (g49_74_hd J)) J → Φ (none, (xLay, J, L, kG49_74 R))) : sm_wp sm_P S (d + 4) 220 0 [.ref 74, .ref 49, .ref 37, .int x3, .int 0] [] (xLay, I, L, kF49_74 R) (0, 0) Φ := by
  refine pg49_74_X2_beginF_0 (d := d + 3) (fun I1 e1 => ⟨fun _ => ?_, fun a => absurd (by decide) a⟩)
  rw [g49_74_up]
  have o1 : ∀ p j, ¬ (p = 74 ∧ (j = 7 ∨ j = 8 ∨ j = 10)) → (sm_up I1 74 10 (0 : Int32)) p j = I p j := fun p j q => by rw [en_up_ne _ _ _ _ (by omega), e1, en_up_ne _ _ _ _ (by omega), en_up_ne _ _ _ _ (by omega)]
  refine pg49_74_X2_layBase_0 (d := d + 2) (fun n1' en1 => ?_)
  have o2 : ∀ p j, ¬ (p = 74 ∧ (j = 6 ∨ j = 7 ∨ j = 8 ∨ j = 10)) → (sm_up (sm_up I1 74 10 (0 : Int32)) 74 6 (0 : Int32)) p j = I p j := fun p j q => by rw [en_up_ne _ _ _ _ (by omega)]; exact o1 p j (by omega)
  have qn : n1'.toInt = n := by
    rw [en1, o2 49 2 (by omega)]
    rw [ml_ad (a := (n : Int)) (by rw [ml_in1 (by omega)]; exact hN) kl_0 (by omega) (by omega)]
    omega
  refine g49_74_bl qn n1 n11 (fun J2 bf B2 st2 T2 => ⟨J2, L, rfl, ?_⟩)
  have oJ : ∀ p j, ¬ (p = 74 ∧ (j = 6 ∨ j = 7 ∨ j = 8 ∨ j = 10)) → ¬ (p = 75 ∧ (j = 4 ∨ j = 5)) → ¬ (76 ≤ p ∧ p ≤ 79) → J2 p j = I p j := fun p j q1 q2 q3 => (bf p j q2 (by omega) (by omega) (by omega) (by omega)).trans (o2 p j q1)
  have oK : ∀ p j, ¬ (p = 74 ∧ (j = 6 ∨ j = 7 ∨ j = 8 ∨ j = 10 ∨ j = 12)) → ¬ (p = 75 ∧ (j = 4 ∨ j = 5)) → ¬ (76 ≤ p ∧ p ≤ 79) → (sm_up J2 74 12 (1 : Int32)) p j = I p j := fun p j q1 q2 q3 => by rw [en_up_ne _ _ _ _ (by omega)]; exact oJ p j (by omega) q2 q3
  have g6 : J2 74 6 = 0 := by rw [bf 74 6 (by omega) (by omega) (by omega) (by omega) (by omega), en_up_eq]
  have g7 : J2 74 7 = 0 := by rw [bf 74 7 (by omega) (by omega) (by omega) (by omega) (by omega), en_up_ne _ _ _ _ (by omega), en_up_ne _ _ _ _ (by omega), e1, en_up_ne _ _ _ _ (by omega), en_up_eq]
  have g8 : J2 74 8 = 0 := by rw [bf 74 8 (by omega) (by omega) (by omega) (by omega) (by omega), en_up_ne _ _ _ _ (by omega), en_up_ne _ _ _ _ (by omega), e1, en_up_eq]
  have g10 : J2 74 10 = 0 := by rw [bf 74 10 (by omega) (by omega) (by omega) (by omega) (by omega), en_up_ne _ _ _ _ (by omega), en_up_eq]
  obtain ⟨K, eK⟩ : ∃ K, K = sm_up J2 74 12 (1 : Int32) := ⟨_, rfl⟩
  rw [← eK] at oK ⊢
  have hK : g49_74_h J2 K := fun a b c1 c2 => by rw [eK, en_up_ne _ _ _ _ c2]
  have hK' : g49_74_h K J2 := fun a b c1 c2 => (hK a b c1 c2).symm
  obtain ⟨BK, eKh⟩ := g49_74_Bh hK B2
  have TK : g49_74_T K n 0 = g49_74_T J2 n 0 := by
    funext a b
    unfold g49_74_T
    rw [eK, en_up_ne _ _ _ _ (by omega)]
  have okM : ∀ k, k < M → kmok K n k := fun k hk => by
    have a := ok k hk
    unfold kmok at a ⊢
    rw [oK 41 k (by omega) (by omega) (by omega), oK 42 k (by omega) (by omega) (by omega), oK 43 k (by omega) (by omega) (by omega), oK 44 k (by omega) (by omega) (by omega)]; exact a
  have okO : ∀ k, k < n - 1 → kopk 49 K n k := fun k hk => by
    have a := okN k hk
    have a : I 55 k ≠ -1 → (0 ≤ (I 55 k).toInt ∧ (I 55 k).toInt + 1 < n) ∧ (-1440 ≤ (I 56 k).toInt ∧ (I 56 k).toInt ≤ 1440) ∧ (-1440 ≤ (I 57 k).toInt ∧ (I 57 k).toInt ≤ 1440) := a
    show K 55 k ≠ -1 → (0 ≤ (K 55 k).toInt ∧ (K 55 k).toInt + 1 < n) ∧ (-1440 ≤ (K 56 k).toInt ∧ (K 56 k).toInt ≤ 1440) ∧ (-1440 ≤ (K 57 k).toInt ∧ (K 57 k).toInt ≤ 1440)
    rw [oK 55 k (by omega) (by omega) (by omega), oK 56 k (by omega) (by omega) (by omega), oK 57 k (by omega) (by omega) (by omega)]; exact a
  have eM : (K 37 1).toInt = M := by rw [oK 37 1 (by omega) (by omega) (by omega)]; exact hM
  have eN : (K 49 2).toInt = ((n - 1 : Nat) : Int) := by rw [oK 49 2 (by omega) (by omega) (by omega)]; omega
  refine g49_74_b1 (d := d) (I0 := K) (n := n) (M := M) (N := n - 1) BK (by rw [oK 74 1 (by omega) (by omega) (by omega)]; exact soft) eM M6 okM eN (by omega) (by omega) okO (fun J3 h3 st3 => ⟨J3, L, rfl, ?_⟩) (n - 1) 0 0 K (by decide) (by omega) (fun _ _ _ _ => rfl) (Or.inr ⟨by rw [eK, en_up_eq], by rw [TK]; exact T2⟩)
  -- the ITEMS
  obtain ⟨K4, eK4⟩ : ∃ K4, K4 = sm_up J3 74 11 (0 : Int32) := ⟨_, rfl⟩
  rw [← eK4]
  have o4 : ∀ p j, ¬ (p = 74 ∧ (j = 6 ∨ j = 7 ∨ j = 8 ∨ j = 10 ∨ j = 11 ∨ j = 12)) → ¬ (p = 75 ∧ (j = 4 ∨ j = 5)) → ¬ (76 ≤ p ∧ p ≤ 79) → K4 p j = I p j := fun p j q1 q2 q3 => by rw [eK4, en_up_ne _ _ _ _ (by omega), h3 p j (by omega) (by omega)]; exact oK p j (by omega) q2 q3
  have fin : ∀ J, (∀ p j, p ≠ 80 → ¬ (p = 74 ∧ j = 11) → J p j = K4 p j) → kyM 74 J (kitL x3 s m) → Φ (none, (xLay, J, L, kG49_74 R)) := fun J fr kk => by
    have f3 : ∀ p j, p ≠ 80 → ¬ (p = 74 ∧ j = 11) → J p j = J3 p j := fun p j q1 q2 => by rw [fr p j q1 q2, eK4, en_up_ne _ _ _ _ q2]
    have fK : ∀ p j, p ≠ 80 → ¬ (p = 74 ∧ (j = 11 ∨ j = 12)) → p ≠ 76 → J p j = K p j := fun p j q1 q2 q3 => (f3 p j q1 (by omega)).trans (h3 p j q3 (by omega))
    have f2 : ∀ p j, p ≠ 80 → ¬ (p = 74 ∧ (j = 11 ∨ j = 12)) → p ≠ 76 → J p j = J2 p j := fun p j q1 q2 q3 => by rw [fK p j q1 q2 q3, eK, en_up_ne _ _ _ _ (by omega)]
    have hdJ : g49_74_hd J = g49_74_hd K := by
      funext c
      unfold g49_74_hd
      rw [fK 77 c.1 (by omega) (by omega) (by omega), fK 77 c.2.1 (by omega) (by omega) (by omega), fK 79 c.1 (by omega) (by omega) (by omega), fK 78 c.2.1 (by omega) (by omega) (by omega)]
    have BJ : g49_74_B J n := by
      obtain ⟨b1, b2, b3, b4, b5⟩ := BK
      exact ⟨by rw [fK 75 4 (by omega) (by omega) (by omega)]; exact b1, b2, b3, by rw [fK 75 5 (by omega) (by omega) (by omega)]; exact b4, fun i hi => by rw [fK 77 i (by omega) (by omega) (by omega), fK 78 i (by omega) (by omega) (by omega), fK 79 i (by omega) (by omega) (by omega)]; exact b5 i hi⟩
    have eB : kbaC 49 J (g49_74_hd J) = kmoL K (g49_74_hd K) M ++ kopL 49 K (g49_74_hd K) (n - 1) := by
      have e1 : (J 37 1).toNatClampNeg = M := tk_nat (by rw [fK 37 1 (by omega) (by omega) (by omega)]; exact eM)
      have e2 : (J 49 2).toNatClampNeg = n - 1 := tk_nat (by rw [fK 49 2 (by omega) (by omega) (by omega)]; exact eN)
      have e3 : ∀ k, kmoL J (g49_74_hd K) k = kmoL K (g49_74_hd K) k := fun k => by
        induction k with
        | zero => rfl
        | succ k ih =>
          show bC (g49_74_hd K) (nd (J 41 k)) (nd (J 42 k)) (J 43 k).toInt (J 44 k).toInt ++ kmoL J (g49_74_hd K) k = bC (g49_74_hd K) (nd (K 41 k)) (nd (K 42 k)) (K 43 k).toInt (K 44 k).toInt ++ kmoL K (g49_74_hd K) k
          rw [ih, fK 41 k (by omega) (by omega) (by omega), fK 42 k (by omega) (by omega) (by omega), fK 43 k (by omega) (by omega) (by omega), fK 44 k (by omega) (by omega) (by omega)]
      have e4 : ∀ k, kopL 49 J (g49_74_hd K) k = kopL 49 K (g49_74_hd K) k := fun k => by
        induction k with
        | zero => rfl
        | succ k ih =>
          show (if J 55 k = -1 then [] else bC (g49_74_hd K) (k + 1) (nd (J 55 k)) (J 56 k).toInt (J 57 k).toInt) ++ kopL 49 J (g49_74_hd K) k = (if K 55 k = -1 then [] else bC (g49_74_hd K) (k + 1) (nd (K 55 k)) (K 56 k).toInt (K 57 k).toInt) ++ kopL 49 K (g49_74_hd K) k
          rw [ih, fK 55 k (by omega) (by omega) (by omega), fK 56 k (by omega) (by omega) (by omega), fK 57 k (by omega) (by omega) (by omega)]
      show kmoL J (g49_74_hd J) (J 37 1).toNatClampNeg ++ kopL 49 J (g49_74_hd J) (J 49 2).toNatClampNeg = _
      rw [e1, e2, hdJ, e3, e4]
    refine h J (fun p j q1 q2 q3 => by rw [fr p j (by omega) (by omega)]; exact o4 p j q1 q2 (by omega)) ⟨by rw [f2 74 6 (by omega) (by omega) (by omega)]; exact g6, by rw [f2 74 7 (by omega) (by omega) (by omega)]; exact g7, by rw [f2 74 8 (by omega) (by omega) (by omega)]; exact g8, by rw [f2 74 10 (by omega) (by omega) (by omega)]; exact g10⟩ kk BJ (fun a ha => by rw [f2 77 a (by omega) (by omega) (by omega), f2 78 a (by omega) (by omega) (by omega), f2 79 a (by omega) (by omega) (by omega)]; exact st2 a ha) ?_
    rw [eB]
    have e12 : J 74 12 = J3 74 12 := f3 74 12 (by omega) (by omega)
    have eT : g49_74_T J n 0 = g49_74_T J3 n 0 := by
      funext a b
      unfold g49_74_T
      rw [f3 76 _ (by omega) (by omega)]
    unfold g49_74_st
    rw [e12, eT]; exact st3
  have lenS := sL_len x3
  have mv : ∀ (k i : Nat) (x5 : Int32) (J : sm_I), x5.toInt = i → i + k = m → (∀ p j, p ≠ 80 → ¬ (p = 74 ∧ j = 11) → J p j = K4 p j) → kyM 74 J (kitL x3 s i) → sm_wp sm_P S (d + 4) 220 9 [.ref 74, .int x5] [] (xLay, J, L, kG49_74 R) (0, 0) Φ := by
    intro k
    induction k with
    | zero =>
      intro i x5 J h5 hk fr kk
      have ei : i = m := by omega
      subst ei
      have e5 : J 49 5 = I 49 5 := by rw [fr 49 5 (by omega) (by omega)]; exact o4 49 5 (by omega) (by omega) (by omega)
      refine pg49_74_X2_begin_9 (d := d + 3) ⟨fun _ => fin J fr kk, fun a => ?_⟩
      have a := kl_nle a
      rw [e5] at a
      omega
    | succ k ih =>
      intro i x5 J h5 hk fr kk
      have e5 : J 49 5 = I 49 5 := by rw [fr 49 5 (by omega) (by omega)]; exact o4 49 5 (by omega) (by omega) (by omega)
      have s5 := ml_in1 (x := x5) (by omega)
      have c100 : (100 : Int32).toInt = 100 := by decide
      refine pg49_74_X2_begin_9 (d := d + 3) ⟨fun a => ?_, fun _ => ?_⟩
      · have a := kl_le.mp a
        rw [e5] at a
        omega
      have v : (100 : Int32) + x5 = Int32.ofNat (100 + i) := en_ofI (by rw [ml_ad c100 h5 (by omega) (by omega), Int32.toInt_ofNat_of_lt (by omega)]; omega)
      have ll := kitL_len (set := x3) (s := s) (m := i)
      refine g49_74_ai kk (by omega) v (fun J2 o2 k2 => ⟨J2, L, rfl, ih (i + 1) _ J2 (by omega) (by omega) (fun p j q1 q2 => (o2 p j q1 q2).trans (fr p j q1 q2)) ?_⟩)
      have e : kitL x3 s i ++ [100 + i] = kitL x3 s (i + 1) := by
        unfold kitL
        rw [List.append_assoc]; rfl
      rw [e] at k2
      exact k2
  have sy : ∀ (k i : Nat) (x5 : Int32) (J : sm_I), x5.toInt = i → i + k = s → (∀ p j, p ≠ 80 → ¬ (p = 74 ∧ j = 11) → J p j = K4 p j) → kyM 74 J (sL x3 i) → sm_wp sm_P S (d + 4) 220 4 [.ref 74, .int x3, .int x5] [] (xLay, J, L, kG49_74 R) (0, 0) Φ := by
    intro k
    induction k with
    | zero =>
      intro i x5 J h5 hk fr kk
      have ei : i = s := by omega
      subst ei
      have e5 : J 49 3 = I 49 3 := by rw [fr 49 3 (by omega) (by omega)]; exact o4 49 3 (by omega) (by omega) (by omega)
      refine pg49_74_X2_begin_4 (d := d + 3) ⟨fun _ => mv m 0 0 J (by decide) (by omega) fr ?_, fun a => ?_⟩
      · show kyM 74 J (sL x3 i ++ [])
        rw [List.append_nil]; exact kk
      · have a := kl_nle a
        rw [e5] at a
        omega
    | succ k ih =>
      intro i x5 J h5 hk fr kk
      have e5 : J 49 3 = I 49 3 := by rw [fr 49 3 (by omega) (by omega)]; exact o4 49 3 (by omega) (by omega) (by omega)
      have s5 := ml_in1 (x := x5) (by omega)
      have ex : x5 = Int32.ofNat i := en_ofI (by rw [h5, Int32.toInt_ofNat_of_lt (by omega)])
      refine pg49_74_X2_begin_4 (d := d + 3) ⟨fun a => ?_, fun _ => ⟨fun q => ?_, fun q => ?_⟩⟩
      · have a := kl_le.mp a
        rw [e5] at a
        omega
      · refine ih (i + 1) _ J (by omega) (by omega) fr ?_
        show kyM 74 J (sL x3 i ++ (if isb x3 i = true then [i] else []))
        rw [if_neg (by unfold isb; rw [← ex, decide_eq_true q]; decide), List.append_nil]
        exact kk
      · have ll := lenS i
        refine g49_74_ai kk (by omega) ex (fun J2 o2 k2 => ⟨J2, L, rfl, ih (i + 1) _ J2 (by omega) (by omega) (fun p j q1 q2 => (o2 p j q1 q2).trans (fr p j q1 q2)) ?_⟩)
        show kyM 74 J2 (sL x3 i ++ (if isb x3 i = true then [i] else []))
        rw [if_pos (by unfold isb; rw [← ex, decide_eq_false q]; rfl)]
        exact k2
  refine sy s 0 0 K4 (by decide) (by omega) (fun _ _ _ _ => rfl) ⟨?_, fun k hk => absurd hk (Nat.not_lt_zero k)⟩
  show (K4 74 11).toInt = _
  rw [eK4, en_up_eq]; rfl
end
end
