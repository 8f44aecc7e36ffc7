section
/-! the class's asking leaves the levels of a WAY; told = 49, asked = 12 (wip/pe/mka1.py) -/
theorem kGA49_12_l : ∀ t, t ∈ kG49_74l → kA49_12l.find? (fun s => Nat.beq s.1 t.1 && Nat.beq s.2.1 t.2.1) = some t := by decide +kernel
theorem kGA49_12 (R : sm_R) : kG49_74 (kA49_12 R) = kA49_12 R := by
  funext x j
  unfold kG49_74
  split
  · next t ht =>
    have mem := List.mem_of_find?_eq_some ht
    have pr := List.find?_some ht
    obtain ⟨p1, p2⟩ := Bool.and_eq_true_iff.mp pr
    have e1 : t.1 = x := Nat.eq_of_beq_eq_true p1
    have e2 : t.2.1 = j := Nat.eq_of_beq_eq_true p2
    rw [← e1, ← e2]
    unfold kA49_12
    rw [kGA49_12_l t mem]
  · rfl
theorem kA49_12_r : ∀ t, t ∈ kA49_12l → (t.1 = 0 ∧ t.2.1 = 9 ∧ t.2.2 = 49) ∨ (t.1 = 74 ∧ t.2.1 = 4 ∧ t.2.2 = 49) ∨ en_refs kl_tb t.1 t.2.1 = [t.2.2] := by decide +kernel
theorem kA49_12_eq {w : sm_W} (hm : en_mem kl_tb klX w) (h : w.2.2.2 0 9 = some 49) (h2 : w.2.2.2 74 4 = some 49) : kA49_12 w.2.2.2 = w.2.2.2 := by
  funext x j
  unfold kA49_12
  split
  · next t ht =>
    have mem := List.mem_of_find?_eq_some ht
    have pr := List.find?_some ht
    obtain ⟨p1, p2⟩ := Bool.and_eq_true_iff.mp pr
    have e1 : t.1 = x := Nat.eq_of_beq_eq_true p1
    have e2 : t.2.1 = j := Nat.eq_of_beq_eq_true p2
    rcases kA49_12_r t mem with ⟨q1, q2, q3⟩ | ⟨q1, q2, q3⟩ | q
    · rw [← e1, ← e2, q1, q2, q3]; exact h.symm
    · rw [← e1, ← e2, q1, q2, q3]; exact h2.symm
    · obtain ⟨a, g1, g2⟩ := hm.2.2.1 t.1 t.2.1 (by rw [q]; exact List.cons_ne_nil _ _)
      rw [q] at g1
      rw [← e1, ← e2, g2, List.mem_singleton.mp g1]
  · rfl
section
variable {S : sm_C} {d : Nat} {Φ : sm_Z → Prop} {I : sm_I} {L : sm_L} {R : sm_R}
theorem aw49_12 {n lev D : Nat} {x2 x3 x4 : Int32} (eA : kA49_12 R = R) (D3 : 3 ≤ D) (B : g49_74_B I n) (hl : (lev + 1) * (n * n) + n * n ≤ 7381) (l1 : lev ≤ 80) (h3 : x3.toInt = lev) (q0 : 0 ≤ x2.toInt) (q5 : x2.toInt < 5) (h : ∀ r J, (r = 0 ∨ r = 1) → g49_74_c n (lev + 1) I J → Φ (some (.int r), (xLay, J, L, R))) : sm_wp sm_P S D 0 0 [.ref 103, .ref 12, .int x2, .int x3, .int x4] [] (xLay, I, L, R) (0, 0) Φ := by
  have eG : kG49_74 R = R := by rw [← eA, kGA49_12]
  obtain ⟨d, rfl⟩ : ∃ d, D = d + 3 := ⟨D - 3, by omega⟩
  have v : vp_in x2 5 := kl_in q0 q5
  have s3 : (x3 + 1).toInt = ((lev + 1 : Nat) : Int) := by rw [ml_in1 (by omega), h3]; omega
  refine pw49_12_X0_answer_0 (d := d + 2) eA ⟨v, v, cpW49 (d := d + 1) eG B hl (by omega) h3 (fun J c e => ⟨J, L, rfl, ?_⟩)⟩
  obtain ⟨B2, -⟩ := g49_74_Bc c B
  exact ⟨fun _ => ⟨v, v, bwW49 (d := d) eG B2 hl (by omega) s3 (fun r J2 r01 c2 => ⟨r, J2, L, rfl, r01, h r J2 r01 (g49_74_ct c c2)⟩)⟩, fun _ => ⟨fun _ => ⟨v, fun n11 e11 n12 e12 n13 e13 => twW49 (d := d + 1) eG B2 hl (by omega) s3 (fun r J2 r01 c2 => ⟨r, J2, L, rfl, r01, h r J2 r01 (g49_74_ct c c2)⟩)⟩, fun _ => ⟨v, fun n4 e4 n5 e5 n6 e6 => twW49 (d := d + 1) eG B2 hl (by omega) s3 (fun r J2 r01 c2 => ⟨r, J2, L, rfl, r01, h r J2 r01 (g49_74_ct c c2)⟩)⟩⟩⟩
/-- what is above a level may change -/
def lf49_12 (n lev : Nat) (I J : sm_I) : Prop := ∀ p q, ¬ (p = 76 ∧ (lev + 1) * (n * n) ≤ q) → J p q = I p q
theorem lf49_12_c {n lev : Nat} {I J : sm_I} (h : g49_74_c n (lev + 1) I J) : lf49_12 n lev I J := fun p q a => h p q (fun w => a ⟨w.1, w.2.1⟩)
theorem lf49_12_s {n lev : Nat} {I J : sm_I} (h : lf49_12 n (lev + 1) I J) : lf49_12 n lev I J := fun p q a => h p q (fun w => a ⟨w.1, by
  have := w.2
  rw [Nat.succ_mul] at this
  omega⟩)
theorem lf49_12_t {n lev : Nat} {I J K : sm_I} (a : lf49_12 n lev I J) (b : lf49_12 n lev J K) : lf49_12 n lev I K := fun p q h => (b p q h).trans (a p q h)
theorem lf49_12_T {n lev j : Nat} {I J : sm_I} (a : lf49_12 n lev I J) (hj : j ≤ lev) : ∀ u v, u < n → v < n → g49_74_T J n j u v = g49_74_T I n j u v := fun u v hu hv => by
  have tl := tix_lt hu hv
  unfold g49_74_T
  rw [a 76 _ (fun q => ?_)]
  have q := q.2
  unfold tix at q
  have := Nat.mul_le_mul_right (n * n) (show j + 1 ≤ lev + 1 by omega)
  rw [Nat.succ_mul] at this
  omega
theorem lf49_12_B {n lev : Nat} {I J : sm_I} (a : lf49_12 n lev I J) (B : g49_74_B I n) : g49_74_B J n := by
  obtain ⟨b1, b2, b3, b4, b5⟩ := B
  exact ⟨by rw [a 75 4 (by omega)]; exact b1, b2, b3, by rw [a 75 5 (by omega)]; exact b4, fun i hi => by rw [a 77 i (by omega), a 78 i (by omega), a 79 i (by omega)]; exact b5 i hi⟩
theorem isL49_12 {n : Nat} {x4 x5 : Int32} (eA : kA49_12 R = R) (n11 : n ≤ 11) : ∀ (m q lev D : Nat) (x2 x3 : Int32) (I : sm_I) (Φ : sm_Z → Prop), q + m = 5 → m + 4 ≤ D → x2.toInt = q → x3.toInt = lev → lev + m ≤ 60 → g49_74_B I n → (∀ r J, (r = 0 ∨ r = 1) → lf49_12 n lev I J → Φ (some (.int r), (xLay, J, L, R))) → sm_wp sm_P S D 7 0 [.ref 103, .ref 12, .int x2, .int x3, .int x4, .int x5] [] (xLay, I, L, R) (0, 0) Φ := by
  have h5 : (5 : Int32).toInt = 5 := by decide
  intro m
  induction m with
  | zero =>
    intro q lev D x2 x3 I Φ hq hD h2 h3 hl B h
    obtain ⟨d, rfl⟩ : ∃ d, D = d + 1 := ⟨D - 1, by omega⟩
    have e : Φ (some (.int 1), (xLay, I, L, R)) := h 1 I (Or.inr rfl) (fun _ _ _ => rfl)
    exact pw49_12_X0_isLeft_0 eA ⟨fun _ => e, fun _ => ⟨fun c => absurd (Int32.lt_iff_toInt_lt.mp c) (by rw [h5]; omega), fun _ => e⟩⟩
  | succ m ih =>
    intro q lev D x2 x3 I Φ hq hD h2 h3 hl B h
    obtain ⟨d, rfl⟩ : ∃ d, D = d + 1 := ⟨D - 1, by omega⟩
    have e : Φ (some (.int 1), (xLay, I, L, R)) := h 1 I (Or.inr rfl) (fun _ _ _ => rfl)
    have s2 : (x2 + 1).toInt = ((q + 1 : Nat) : Int) := by rw [ml_in1 (by omega), h2]; omega
    have s3 : (x3 + 1).toInt = ((lev + 1 : Nat) : Int) := by rw [ml_in1 (by omega), h3]; omega
    have cap : (lev + 1) * (n * n) + n * n ≤ 7381 := by
      have nn : n * n ≤ 11 * 11 := Nat.mul_le_mul n11 n11
      have a : (lev + 1) * (n * n) ≤ 60 * (11 * 11) := Nat.mul_le_mul (by omega) nn
      omega
    -- the last block
    have b18 : ∀ (J : sm_I) (s : Int32), (s = 0 ∨ s = 1) → lf49_12 n lev I J → sm_wp sm_P S (d + 1) 7 18 [] [.int s] (xLay, J, L, R) (0, 0) Φ := fun J s s01 f => pw49_12_X0_isLeft_18 eA ⟨s01, h s J s01 f⟩
    have b14 : ∀ J : sm_I, lf49_12 n lev I J → sm_wp sm_P S (d + 1) 7 14 [.ref 103, .ref 12, .int x2, .int x3, .int x4, .int x5] [] (xLay, J, L, R) (0, 0) Φ := fun J f => by
      refine pw49_12_X0_isLeft_14 eA (aw49_12 eA (by omega) (lf49_12_B f B) cap (by omega) h3 (by omega) (by omega) (fun r J2 r01 c => ⟨r, J2, L, rfl, fun _ => b18 J2 0 (Or.inl rfl) (lf49_12_t f (lf49_12_c c)), fun r1 => ?_⟩))
      have f2 := lf49_12_t f (lf49_12_c c)
      exact ih (q + 1) (lev + 1) d _ _ J2 _ (by omega) (by omega) s2 s3 (by omega) (lf49_12_B f2 B) (fun r3 J3 r301 f3 => ⟨r3, J3, L, rfl, fun _ => b18 J3 0 (Or.inl rfl) (lf49_12_t f2 (lf49_12_s f3)), fun _ => b18 J3 1 (Or.inr rfl) (lf49_12_t f2 (lf49_12_s f3))⟩)
    refine pw49_12_X0_isLeft_0 eA ⟨fun _ => e, fun _ => ⟨fun _ => ⟨fun _ => ⟨fun _ => ?_, fun _ => ?_⟩, fun _ => ?_⟩, fun _ => e⟩⟩
    · exact ih (q + 1) lev d _ _ I _ (by omega) (by omega) s2 h3 (by omega) B (fun r J r01 f => ⟨r, J, L, rfl, r01, h r J r01 f⟩)
    · refine aw49_12 eA (by omega) B cap (by omega) h3 (by omega) (by omega) (fun r J r01 c => ⟨r, J, L, rfl, fun _ => b14 J (lf49_12_c c), fun r1 => ?_⟩)
      have f2 := lf49_12_c c
      exact ih (q + 1) (lev + 1) d _ _ J _ (by omega) (by omega) s2 s3 (by omega) (lf49_12_B f2 B) (fun r3 J3 r301 f3 => ⟨r3, J3, L, rfl, fun _ => b14 J3 (lf49_12_t f2 (lf49_12_s f3)), fun _ => h 1 J3 (Or.inr rfl) (lf49_12_t f2 (lf49_12_s f3))⟩)
    · refine aw49_12 eA (by omega) B cap (by omega) h3 (by omega) (by omega) (fun r J r01 c => ⟨r, J, L, rfl, fun _ => h 0 J (Or.inl rfl) (lf49_12_c c), fun r1 => ?_⟩)
      have f2 := lf49_12_c c
      exact ih (q + 1) (lev + 1) d _ _ J _ (by omega) (by omega) s2 s3 (by omega) (lf49_12_B f2 B) (fun r3 J3 r301 f3 => ⟨r3, J3, L, rfl, fun _ => h 0 J3 (Or.inl rfl) (lf49_12_t f2 (lf49_12_s f3)), fun _ => h 1 J3 (Or.inr rfl) (lf49_12_t f2 (lf49_12_s f3))⟩)
/-- what the asking may change of a state that was gone through -/
def af49_12 (I J : sm_I) : Prop := ∀ p q, p ≠ 76 → p ≠ 81 → ¬ (p = 74 ∧ q = 6) → p ≠ 104 → p ≠ 105 → ¬ (p = 103 ∧ q = 5) → J p q = I p q
def as49_12 (I : sm_I) (L : sm_L) : Prop := kW 49 I ∧ kall 49 (kys 49 I) (KF 49 I) I L ∧ klv 49 I
theorem as49_12_t {I J : sm_I} (f : af49_12 I J) : ∀ p j, (49 ≤ p ∧ p < 49 + 25) ∨ p = 37 ∨ (41 ≤ p ∧ p ≤ 44) → J p j = I p j := fun p j q => f p j (by omega) (by omega) (by omega) (by omega) (by omega) (by omega)
theorem as49_12_k {I J : sm_I} {L : sm_L} (f : af49_12 I J) (k : klv 49 J) (s : as49_12 I L) : as49_12 J L := by
  obtain ⟨s1, s2, -⟩ := s
  have t := as49_12_t f
  refine ⟨kW_cg (by decide) t s1, ?_, k⟩
  rw [kys_cg t, KF_cg (by decide) t]
  exact kall_cg (fun p j q => f p j (by omega) (by omega) (by omega) (by omega) (by omega) (by omega)) (fun _ => rfl) s2
theorem as49_12_l {I : sm_I} {L : sm_L} (s : as49_12 I L) : (kys 49 I).length ≤ 55 ∧ kn 49 I ≤ 11 ∧ (I 74 11).toInt = (kys 49 I).length ∧ (I 74 14).toInt = (KF 49 I).2.2.2.1 ∧ (KF 49 I).2.2.2.1 ≤ 1000 := by
  obtain ⟨hk, ka, lv⟩ := s
  have := kitL_len (set := kdb 49 I) (s := (I 49 3).toNatClampNeg) (m := (I 49 5).toNatClampNeg)
  have := kl_nat hk.2.1.1
  have := kl_nat hk.2.2.1.1
  have := hk.2.1.2
  have := hk.2.2.1.2
  refine ⟨by unfold kys; omega, lv.1.2.2.1, ka.1.1, ka.2.1.2.1, GT_wf.2.2.2.2.1.1⟩
/-- a WAY brought -/
theorem bw49_12 {D w : Nat} {x : Int32} (eA : kA49_12 R = R) (D4 : 4 ≤ D) (s : as49_12 I L) (wf : w < (KF 49 I).2.2.2.1) (hx : x.toInt = w) (h : ∀ J, af49_12 I J → as49_12 J L → Φ (some (.int 1), (xLay, J, L, R))) : sm_wp sm_P S D 222 0 [.ref 74, .ref 45, .int x] [] (xLay, I, L, R) (0, 0) Φ := by
  have eG : kG49_74 R = R := by rw [← eA, kGA49_12]
  obtain ⟨d, rfl⟩ : ∃ d, D = d + 4 := ⟨D - 4, by omega⟩
  rw [← eG] at h ⊢
  refine br49 s.1 s.2.1 s.2.2 wf hx (fun J f b => ?_)
  have af : af49_12 I J := fun p q a1 a2 a3 _ _ _ => f p q a1 a2 a3
  exact h J af (as49_12_k af (klv_br (by decide) f b s.2.2) s)
/-- levels above a WAY's are of no account -/
theorem al49_12 {I J : sm_I} {L : sm_L} (s : as49_12 I L) (f : lf49_12 (kn 49 I) (kys 49 I).length I J) : af49_12 I J ∧ as49_12 J L := by
  have af : af49_12 I J := fun p q a1 a2 a3 _ _ _ => f p q (by omega)
  refine ⟨af, as49_12_k af (klv_cg (by decide) (as49_12_t af) (fun p j q => f p j (by omega)) (fun j hj a b ha hb => lf49_12_T f hj a b ha hb) s.2.2) s⟩
theorem af49_12_tr {I J K : sm_I} (a : af49_12 I J) (b : af49_12 J K) : af49_12 I K := fun p q a1 a2 a3 a4 a5 a6 => (b p q a1 a2 a3 a4 a5 a6).trans (a p q a1 a2 a3 a4 a5 a6)
/-- leftWith -/
theorem lw49_12 {D : Nat} {I0 : sm_I} {x2 x3 : Int32} (eA : kA49_12 R = R) (D9 : 9 ≤ D) (h : ∀ r J, af49_12 I0 J → as49_12 J L → Φ (some (.int r), (xLay, J, L, R))) : ∀ (m w : Nat) (x4 x5 : Int32) (J : sm_I), x5.toInt = w → w + m = (KF 49 I0).2.2.2.1 → af49_12 I0 J → as49_12 J L → sm_wp sm_P S (D + 1) 8 1 [.ref 103, .ref 12, .int x2, .int x3, .int x4, .int x5] [] (xLay, J, L, R) (0, 0) Φ := by
  intro m
  induction m with
  | zero =>
    intro w x4 x5 J h5 hm f s
    obtain ⟨-, -, -, l4, -⟩ := as49_12_l s
    rw [KF_cg (by decide) (as49_12_t f)] at l4
    refine pw49_12_X0_leftWith_1 eA ⟨fun _ => h _ J f s, fun c => ?_⟩
    have c := kl_nle c
    rw [l4] at c
    omega
  | succ m ih =>
    intro w x4 x5 J h5 hm f s
    obtain ⟨-, -, -, l4, l5⟩ := as49_12_l s
    have eK := KF_cg (Q := 49) (by decide) (as49_12_t f)
    rw [eK] at l4 l5
    have s5 := ml_in1 (x := x5) (by omega)
    refine pw49_12_X0_leftWith_1 eA ⟨fun c => ?_, fun _ => bw49_12 (w := w) eA (by omega) s (by rw [eK]; omega) h5 (fun J2 f2 s2 => ⟨_, J2, L, rfl, ?_⟩)⟩
    · have c := kl_le.mp c
      rw [l4] at c
      omega
    obtain ⟨l1, l2, l3, -, -⟩ := as49_12_l s2
    refine isL49_12 (n := kn 49 J2) eA l2 5 0 (kys 49 J2).length D 0 _ J2 _ (by omega) (by omega) kl_0 l3 (by omega) s2.2.2.1 (fun r J3 r01 f3 => ?_)
    obtain ⟨a3, s3⟩ := al49_12 s2 f3
    have f' := af49_12_tr f (af49_12_tr f2 a3)
    exact ⟨r, J3, L, rfl, fun _ => ih (w + 1) _ _ J3 (by omega) (by omega) f' s3, fun _ => ih (w + 1) _ _ J3 (by omega) (by omega) f' s3⟩
/-- answered -/
theorem ad49_12 {D : Nat} {I0 : sm_I} {x2 x3 : Int32} (eA : kA49_12 R = R) (D9 : 5 ≤ D) (q0 : 0 ≤ x2.toInt) (q5 : x2.toInt < 5) (h : ∀ r J, af49_12 I0 J → as49_12 J L → Φ (some (.int r), (xLay, J, L, R))) : ∀ (m w : Nat) (x4 x5 : Int32) (J : sm_I), x5.toInt = w → w + m = (KF 49 I0).2.2.2.1 → af49_12 I0 J → as49_12 J L → sm_wp sm_P S (D + 1) 1 1 [.ref 103, .ref 12, .int x2, .int x3, .int x4, .int x5] [] (xLay, J, L, R) (0, 0) Φ := by
  have eG : kG49_74 R = R := by rw [← eA, kGA49_12]
  have v : vp_in x2 5 := kl_in q0 q5
  intro m
  induction m with
  | zero =>
    intro w x4 x5 J h5 hm f s
    obtain ⟨-, -, -, l4, -⟩ := as49_12_l s
    rw [KF_cg (by decide) (as49_12_t f)] at l4
    refine pw49_12_X0_answered_1 eA ⟨fun _ => h _ J f s, fun c => ?_⟩
    have c := kl_nle c
    rw [l4] at c
    omega
  | succ m ih =>
    intro w x4 x5 J h5 hm f s
    obtain ⟨-, -, -, l4, l5⟩ := as49_12_l s
    have eK := KF_cg (Q := 49) (by decide) (as49_12_t f)
    rw [eK] at l4 l5
    have s5 := ml_in1 (x := x5) (by omega)
    refine pw49_12_X0_answered_1 eA ⟨fun c => ?_, fun _ => bw49_12 (w := w) eA (by omega) s (by rw [eK]; omega) h5 (fun J2 f2 s2 => ⟨_, J2, L, rfl, v, v, ?_⟩)⟩
    · have c := kl_le.mp c
      rw [l4] at c
      omega
    obtain ⟨l1, l2, l3, -, -⟩ := as49_12_l s2
    have f' := af49_12_tr f f2
    have nx : ∀ a : Int32, sm_wp sm_P S (D + 1) 1 17 [.ref 103, .ref 12, .int x2, .int x3, .int a, .int x5] [] (xLay, J2, L, R) (0, 0) Φ := fun a => pw49_12_X0_answered_17 eA (ih (w + 1) _ _ J2 (by omega) (by omega) f' s2)
    have b12 : ∀ a b : Int32, sm_wp sm_P S (D + 1) 1 12 [.ref 103, .ref 12, .int x2, .int x3, .int x4, .int x5, .int a] [.int b] (xLay, J2, L, R) (0, 0) Φ := fun a b => pw49_12_X0_answered_12 eA ⟨fun _ => ⟨fun _ => nx _, fun _ => nx _⟩, fun _ => ⟨fun _ => nx _, fun _ => nx _⟩⟩
    have b8 : ∀ a b c e f : Int32, sm_wp sm_P S (D + 1) 1 8 [.ref 103, .ref 12, .int x2, .int x3, .int x4, .int x5, .int a, .int b, .int c, .int e] [.int f] (xLay, J2, L, R) (0, 0) Φ := fun a b c e f => pw49_12_X0_answered_8 eA ⟨fun _ => b12 _ _, fun _ => ⟨fun _ => b12 _ _, fun _ => b12 _ _⟩⟩
    obtain ⟨D', rfl⟩ : ∃ D', D = D' + 3 := ⟨D - 3, by omega⟩
    refine dwW49 (d := D') (lev := (kys 49 J2).length) eG s2.2.2.1 (cap49 l2 l1) (by omega) l3 (fun r => ⟨r, J2, L, rfl, v, v, dwW49 (d := D') (lev := (kys 49 J2).length) eG s2.2.2.1 (cap49 l2 l1) (by omega) l3 (fun r9 => ⟨r9, J2, L, rfl, v, v, fun _ => b8 _ _ _ _ _, fun _ => ⟨fun _ => b8 _ _ _ _ _, fun _ => ⟨fun _ => b8 _ _ _ _ _, fun _ => b8 _ _ _ _ _⟩⟩⟩)⟩)
/-- spread -/
def sf49_12 (n lev : Nat) (I J : sm_I) : Prop := ∀ p q, ¬ (p = 76 ∧ (lev + 1) * (n * n) ≤ q) → p ≠ 104 → J p q = I p q
theorem sf49_12_l {n lev : Nat} {I J : sm_I} (h : lf49_12 n lev I J) : sf49_12 n lev I J := fun p q a _ => h p q a
theorem sf49_12_t {n lev : Nat} {I J K : sm_I} (a : sf49_12 n lev I J) (b : sf49_12 n lev J K) : sf49_12 n lev I K := fun p q h g => (b p q h g).trans (a p q h g)
theorem sf49_12_s {n lev : Nat} {I J : sm_I} (h : sf49_12 n (lev + 1) I J) : sf49_12 n lev I J := fun p q a b => h p q (fun w => a ⟨w.1, by
  have := w.2
  rw [Nat.succ_mul] at this
  omega⟩) b
theorem sf49_12_T {n lev j : Nat} {I J : sm_I} (a : sf49_12 n lev I J) (hj : j ≤ lev) : ∀ u v, u < n → v < n → g49_74_T J n j u v = g49_74_T I n j u v := fun u v hu hv => by
  have tl := tix_lt hu hv
  unfold g49_74_T
  rw [a 76 _ (fun q => ?_) (by omega)]
  have q := q.2
  unfold tix at q
  have := Nat.mul_le_mul_right (n * n) (show j + 1 ≤ lev + 1 by omega)
  rw [Nat.succ_mul] at this
  omega
theorem sf49_12_B {n lev : Nat} {I J : sm_I} (a : sf49_12 n lev I J) (B : g49_74_B I n) : g49_74_B J n := by
  obtain ⟨b1, b2, b3, b4, b5⟩ := B
  exact ⟨by rw [a 75 4 (by omega) (by omega)]; exact b1, b2, b3, by rw [a 75 5 (by omega) (by omega)]; exact b4, fun i hi => by rw [a 77 i (by omega) (by omega), a 78 i (by omega) (by omega), a 79 i (by omega) (by omega)]; exact b5 i hi⟩
theorem spr49_12 {n : Nat} {x2 : Int32} (eA : kA49_12 R = R) (n11 : n ≤ 11) (v2 : vp_in x2 64) : ∀ (m q lev D : Nat) (x3 x4 x5 : Int32) (I : sm_I) (Φ : sm_Z → Prop), q + m = 5 → m + 4 ≤ D → x3.toInt = q → x4.toInt = lev → lev + m ≤ 60 → g49_74_B I n → (∀ J, sf49_12 n lev I J → Φ (none, (xLay, J, L, R))) → sm_wp sm_P S D 10 0 [.ref 103, .ref 12, .int x2, .int x3, .int x4, .int x5] [] (xLay, I, L, R) (0, 0) Φ := by
  have h5 : (5 : Int32).toInt = 5 := by decide
  have h3' : (3 : Int32).toInt = 3 := by decide
  have o104 : ∀ (n lev : Nat) (I J : sm_I) (i : Nat) (x : Int32), J = sm_up I 104 i x → sf49_12 n lev I J := fun n lev I J i x e p q a b => by rw [e, en_up_ne _ _ _ _ (by omega)]
  intro m
  induction m with
  | zero =>
    intro q lev D x3 x4 x5 I Φ hq hD h3 h4 hl B h
    obtain ⟨d, rfl⟩ : ∃ d, D = d + 1 := ⟨D - 1, by omega⟩
    exact pw49_12_X0_spread_0 eA ⟨v2, fun _ => h I (fun _ _ _ _ => rfl), fun _ => ⟨fun _ => ⟨v2, fun n1 e1 => ⟨v2, fun I2 e2 => h I2 (o104 _ _ _ _ _ _ e2)⟩⟩, fun _ => ⟨fun c => absurd (Int32.lt_iff_toInt_lt.mp c) (by rw [h5]; omega), fun _ => ⟨v2, fun n1 e1 => ⟨v2, fun I2 e2 => h I2 (o104 _ _ _ _ _ _ e2)⟩⟩⟩⟩⟩
  | succ m ih =>
    intro q lev D x3 x4 x5 I Φ hq hD h3 h4 hl B h
    obtain ⟨d, rfl⟩ : ∃ d, D = d + 1 := ⟨D - 1, by omega⟩
    have s3 : (x3 + 1).toInt = ((q + 1 : Nat) : Int) := by rw [ml_in1 (by omega), h3]; omega
    have s4 : (x4 + 1).toInt = ((lev + 1 : Nat) : Int) := by rw [ml_in1 (by omega), h4]; omega
    have cap : (lev + 1) * (n * n) + n * n ≤ 7381 := by
      have nn : n * n ≤ 11 * 11 := Nat.mul_le_mul n11 n11
      have a : (lev + 1) * (n * n) ≤ 60 * (11 * 11) := Nat.mul_le_mul (by omega) nn
      omega
    have v3 : vp_in x3 sm_withyes.length := by rw [wy5]; exact kl_in (by omega) (by omega)
    have lp : ∀ (k i : Nat) (x6 : Int32) (J : sm_I), x6.toInt = i → i + k = 3 → sf49_12 n lev I J → sm_wp sm_P S (d + 1) 10 6 [.ref 103, .ref 12, .int x2, .int x3, .int x4, .int x5, .int x6] [] (xLay, J, L, R) (0, 0) Φ := by
      intro k
      induction k with
      | zero =>
        intro i x6 J h6 hk f
        refine pw49_12_X0_spread_6 eA ⟨fun _ => h J f, fun c => ?_⟩
        have c := kl_nle c
        rw [h3'] at c
        omega
      | succ k ihk =>
        intro i x6 J h6 hk f
        have s6 := ml_in1 (x := x6) (by omega)
        refine pw49_12_X0_spread_6 eA ⟨fun c => ?_, fun _ => aw49_12 eA (by omega) (sf49_12_B f B) cap (by omega) h4 (by omega) (by omega) (fun r J2 r01 c => ⟨r, J2, L, rfl, fun _ => ihk (i + 1) _ J2 (by omega) (by omega) (sf49_12_t f (sf49_12_l (lf49_12_c c))), fun r1 => ?_⟩)⟩
        · have c := kl_le.mp c
          rw [h3'] at c
          omega
        have f2 := sf49_12_t f (sf49_12_l (lf49_12_c c))
        refine ⟨fun _ => ⟨v3, fun n9 _ => ?_⟩, fun _ => ⟨v3, fun n9 _ => ?_⟩⟩
        · exact ih (q + 1) (lev + 1) d _ _ _ J2 _ (by omega) (by omega) s3 s4 (by omega) (sf49_12_B f2 B) (fun J3 f3 => ⟨J3, L, rfl, ihk (i + 1) _ J3 (by omega) (by omega) (sf49_12_t f2 (sf49_12_s f3))⟩)
        · exact ih (q + 1) (lev + 1) d _ _ _ J2 _ (by omega) (by omega) s3 s4 (by omega) (sf49_12_B f2 B) (fun J3 f3 => ⟨J3, L, rfl, ihk (i + 1) _ J3 (by omega) (by omega) (sf49_12_t f2 (sf49_12_s f3))⟩)
    exact pw49_12_X0_spread_0 eA ⟨v2, fun _ => h I (fun _ _ _ _ => rfl), fun _ => ⟨fun _ => ⟨v2, fun n1 e1 => ⟨v2, fun I2 e2 => h I2 (o104 _ _ _ _ _ _ e2)⟩⟩, fun _ => ⟨fun _ => lp 3 0 0 I kl_0 (by omega) (fun _ _ _ _ => rfl), fun _ => ⟨v2, fun n1 e1 => ⟨v2, fun I2 e2 => h I2 (o104 _ _ _ _ _ _ e2)⟩⟩⟩⟩⟩
/-- countStates -/
theorem ao49_12 {x1 : Int32} (eA : kA49_12 R = R) (b4 : 0 ≤ (I 12 4).toInt ∧ (I 12 4).toInt ≤ 5) (h : ∀ r, Φ (some (.int r), (xLay, I, L, R))) : sm_wp sm_P S d 2 0 [.ref 12, .int x1] [] (xLay, I, L, R) (0, 0) Φ := by
  have lp : ∀ (k i : Nat) (x2 x3 : Int32), x3.toInt = i → i + k = 5 → sm_wp sm_P S d 2 1 [.ref 12, .int x1, .int x2, .int x3] [] (xLay, I, L, R) (0, 0) Φ := by
    intro k
    induction k with
    | zero =>
      intro i x2 x3 h3 hk
      refine pw49_12_X0_answersOf_1 eA ⟨fun _ => h _, fun c => ?_⟩
      have c := kl_nle c
      omega
    | succ k ih =>
      intro i x2 x3 h3 hk
      have s3 := ml_in1 (x := x3) (by omega)
      have v3 : vp_in x3 sm_withyes.length := by rw [wy5]; exact kl_in (by omega) (by omega)
      exact pw49_12_X0_answersOf_1 eA ⟨fun _ => h _, fun _ => ⟨fun _ => ⟨fun _ => ih (i + 1) _ _ (by omega) (by omega), fun _ => ⟨v3, fun n1 _ => ih (i + 1) _ _ (by omega) (by omega)⟩⟩, fun _ => ⟨v3, fun n3 _ => ⟨fun _ => ih (i + 1) _ _ (by omega) (by omega), fun _ => ⟨v3, fun n4 _ => ih (i + 1) _ _ (by omega) (by omega)⟩⟩⟩⟩⟩
  exact pw49_12_X0_answersOf_0 eA (lp 5 0 _ 0 kl_0 (by omega))
theorem cl49_12 {x1 x2 : Int32} (eA : kA49_12 R = R) (b1 : 0 ≤ x1.toInt ∧ x1.toInt ≤ 64) (h : ∀ r, Φ (some (.int r), (xLay, I, L, R))) : sm_wp sm_P S d 3 0 [.ref 103, .int x1, .int x2] [] (xLay, I, L, R) (0, 0) Φ := by
  have lp : ∀ (k i : Nat) (x3 x4 : Int32), x4.toInt = i → i + k = 64 → sm_wp sm_P S d 3 1 [.ref 103, .int x1, .int x2, .int x3, .int x4] [] (xLay, I, L, R) (0, 0) Φ := by
    intro k
    induction k with
    | zero =>
      intro i x3 x4 h4 hk
      refine pw49_12_X0_countLeft_1 eA ⟨fun _ => h _, fun c => ?_⟩
      have c := kl_nle c
      omega
    | succ k ih =>
      intro i x3 x4 h4 hk
      have s4 := ml_in1 (x := x4) (by omega)
      have v4 : vp_in x4 64 := kl_in (by omega) (by omega)
      exact pw49_12_X0_countLeft_1 eA ⟨fun _ => h _, fun _ => ⟨fun _ => h _, fun _ => ⟨v4, fun _ => ih (i + 1) _ _ (by omega) (by omega), fun _ => ih (i + 1) _ _ (by omega) (by omega)⟩⟩⟩
  exact pw49_12_X0_countLeft_0 eA (lp 64 0 _ 0 kl_0 (by omega))
theorem af49_12_B {I J : sm_I} {L : sm_L} (k : as49_12 I L) (h : ∀ p q, p ≠ 104 → p ≠ 105 → ¬ (p = 103 ∧ q = 5) → J p q = I p q) : af49_12 I J ∧ as49_12 J L := by
  have af : af49_12 I J := fun p q _ _ _ a4 a5 a6 => h p q a4 a5 a6
  refine ⟨af, as49_12_k af (klv_cg (by decide) (as49_12_t af) (fun p j q => h p j (by omega) (by omega) (by omega)) (fun j _ a b _ _ => ?_) k.2.2) k⟩
  unfold nT
  rw [h 76 _ (by omega) (by omega) (by omega)]
theorem cs49_12 {D : Nat} (eA : kA49_12 R = R) (D9 : 9 ≤ D) (b4 : 0 ≤ (I 12 4).toInt ∧ (I 12 4).toInt ≤ 5) (s0 : as49_12 I L) (h : ∀ J, af49_12 I J → as49_12 J L → Φ (none, (xLay, J, L, R))) : sm_wp sm_P S (D + 1) 4 0 [.ref 103, .ref 12] [] (xLay, I, L, R) (0, 0) Φ := by
  have h64 : (64 : Int32).toInt = 64 := by decide
  have h1024 : (1024 : Int32).toInt = 1024 := by decide
  -- the states
  have lp6 : ∀ (k i : Nat) (x2 x3 : Int32) (J : sm_I), x3.toInt = i → i + k = 1024 → 0 ≤ x2.toInt ∧ x2.toInt ≤ 64 → af49_12 I J → as49_12 J L → sm_wp sm_P S (D + 1) 4 6 [.ref 103, .ref 12, .int x2, .int x3] [] (xLay, J, L, R) (0, 0) Φ := by
    intro k
    induction k with
    | zero =>
      intro i x2 x3 J h3 hk b2 f s
      refine pw49_12_X0_countStates_6 eA ⟨fun _ => h J f s, fun c => ?_⟩
      have c := kl_nle c
      rw [h1024] at c
      omega
    | succ k ih =>
      intro i x2 x3 J h3 hk b2 f s
      have s3 := ml_in1 (x := x3) (by omega)
      refine pw49_12_X0_countStates_6 eA ⟨fun c => ?_, fun _ => ao49_12 eA (by rw [f 12 4 (by omega) (by omega) (by omega) (by omega) (by omega) (by omega)]; exact b4) (fun r => ⟨r, J, L, rfl, cl49_12 eA b2 (fun r6 => ⟨r6, J, L, rfl, kl_in (by omega) (by omega), fun I7 e7 => ?_⟩)⟩)⟩
      · have c := kl_le.mp c
        rw [h1024] at c
        omega
      obtain ⟨a1, a2⟩ := af49_12_B (J := I7) s (fun p q q1 q2 q3 => by rw [e7, en_up_ne _ _ _ _ (by omega)])
      exact ih (i + 1) _ _ I7 (by omega) (by omega) b2 (af49_12_tr f a1) a2
  -- the WAYS
  have lp3 : ∀ (k i : Nat) (x2 x3 : Int32) (J : sm_I), x3.toInt = i → (i + k : Nat) = x2.toInt → x2.toInt ≤ 64 → x2.toInt ≤ (KF 49 I).2.2.2.1 → af49_12 I J → as49_12 J L → sm_wp sm_P S (D + 1) 4 3 [.ref 103, .ref 12, .int x2, .int x3] [] (xLay, J, L, R) (0, 0) Φ := by
    intro k
    induction k with
    | zero =>
      intro i x2 x3 J h3 hk b2 bf f s
      refine pw49_12_X0_countStates_3 eA ⟨fun _ => lp6 1024 0 _ 0 J kl_0 (by omega) ⟨by omega, b2⟩ f s, fun c => ?_⟩
      have c := kl_nle c
      omega
    | succ k ih =>
      intro i x2 x3 J h3 hk b2 bf f s
      have s3 := ml_in1 (x := x3) (by omega)
      have eK := KF_cg (Q := 49) (by decide) (as49_12_t f)
      have v3 : vp_in x3 64 := kl_in (by omega) (by omega)
      refine pw49_12_X0_countStates_3 eA ⟨fun c => ?_, fun _ => bw49_12 (w := i) eA (by omega) s (by rw [eK]; omega) h3 (fun J2 f2 s2 => ⟨_, J2, L, rfl, v3, fun I4 e4 => ?_⟩)⟩
      · have c := kl_le.mp c
        omega
      have o4 : ∀ p q, p ≠ 104 → I4 p q = J2 p q := fun p q a => by rw [e4, en_up_ne _ _ _ _ (by omega)]
      obtain ⟨a4, s4⟩ := af49_12_B (J := I4) s2 (fun p q q1 _ _ => o4 p q q1)
      obtain ⟨l1, l2, l3, -, -⟩ := as49_12_l s4
      refine spr49_12 (n := kn 49 I4) eA l2 v3 5 0 (kys 49 I4).length D 0 _ _ I4 _ (by omega) (by omega) kl_0 l3 (by omega) s4.2.2.1 (fun J5 f5 => ⟨J5, L, rfl, ?_⟩)
      have a5 : af49_12 I4 J5 := fun p q q1 q2 q3 q4 q5 q6 => f5 p q (by omega) q4
      have s5 : as49_12 J5 L := as49_12_k a5 (klv_cg (by decide) (as49_12_t a5) (fun p j q => f5 p j (by omega) (by omega)) (fun j hj a b ha hb => sf49_12_T f5 hj a b ha hb) s4.2.2) s4
      exact ih (i + 1) _ _ J5 (by omega) (by omega) b2 bf (af49_12_tr f (af49_12_tr f2 (af49_12_tr a4 a5))) s5
  obtain ⟨-, -, -, l4, l5⟩ := as49_12_l s0
  refine pw49_12_X0_countStates_0 eA ⟨fun _ n1 e1 n2 e2 => ?_, fun _ => h I (fun _ _ _ _ _ _ _ _ => rfl) s0⟩
  have q1 : n1 = I 74 14 := by rw [e1, en_up_ne _ _ _ _ (by omega)]
  obtain ⟨a1, s1⟩ := af49_12_B (J := sm_up I 103 5 (1 : Int32)) s0 (fun p q _ _ q3 => en_up_ne _ _ _ _ q3)
  have b2 : 0 ≤ n2.toInt ∧ n2.toInt ≤ 64 ∧ n2.toInt ≤ (KF 49 I).2.2.2.1 := by
    rw [e2, q1]
    by_cases c : (64 : Int32) < I 74 14
    · have c' := Int32.lt_iff_toInt_lt.mp c
      rw [h64] at c'
      rw [if_pos c, h64]
      omega
    · have c' : ¬ (64 : Int) < (I 74 14).toInt := fun q => c (Int32.lt_iff_toInt_lt.mpr (by rw [h64]; exact q))
      rw [if_neg c]
      omega
  exact lp3 n2.toInt.toNat 0 n2 0 _ kl_0 (by omega) b2.2.1 b2.2.2 a1 s1
end
end
section
/-! the class's asking leaves the levels of a WAY; told = 49, asked = 49 (wip/pe/mka1.py) -/
theorem kGA49_49_l : ∀ t, t ∈ kG49_74l → kA49_49l.find? (fun s => Nat.beq s.1 t.1 && Nat.beq s.2.1 t.2.1) = some t := by decide +kernel
theorem kGA49_49 (R : sm_R) : kG49_74 (kA49_49 R) = kA49_49 R := by
  funext x j
  unfold kG49_74
  split
  · next t ht =>
    have mem := List.mem_of_find?_eq_some ht
    have pr := List.find?_some ht
    obtain ⟨p1, p2⟩ := Bool.and_eq_true_iff.mp pr
    have e1 : t.1 = x := Nat.eq_of_beq_eq_true p1
    have e2 : t.2.1 = j := Nat.eq_of_beq_eq_true p2
    rw [← e1, ← e2]
    unfold kA49_49
    rw [kGA49_49_l t mem]
  · rfl
theorem kA49_49_r : ∀ t, t ∈ kA49_49l → (t.1 = 0 ∧ t.2.1 = 9 ∧ t.2.2 = 49) ∨ (t.1 = 74 ∧ t.2.1 = 4 ∧ t.2.2 = 49) ∨ en_refs kl_tb t.1 t.2.1 = [t.2.2] := by decide +kernel
theorem kA49_49_eq {w : sm_W} (hm : en_mem kl_tb klX w) (h : w.2.2.2 0 9 = some 49) (h2 : w.2.2.2 74 4 = some 49) : kA49_49 w.2.2.2 = w.2.2.2 := by
  funext x j
  unfold kA49_49
  split
  · next t ht =>
    have mem := List.mem_of_find?_eq_some ht
    have pr := List.find?_some ht
    obtain ⟨p1, p2⟩ := Bool.and_eq_true_iff.mp pr
    have e1 : t.1 = x := Nat.eq_of_beq_eq_true p1
    have e2 : t.2.1 = j := Nat.eq_of_beq_eq_true p2
    rcases kA49_49_r t mem with ⟨q1, q2, q3⟩ | ⟨q1, q2, q3⟩ | q
    · rw [← e1, ← e2, q1, q2, q3]; exact h.symm
    · rw [← e1, ← e2, q1, q2, q3]; exact h2.symm
    · obtain ⟨a, g1, g2⟩ := hm.2.2.1 t.1 t.2.1 (by rw [q]; exact List.cons_ne_nil _ _)
      rw [q] at g1
      rw [← e1, ← e2, g2, List.mem_singleton.mp g1]
  · rfl
section
variable {S : sm_C} {d : Nat} {Φ : sm_Z → Prop} {I : sm_I} {L : sm_L} {R : sm_R}
theorem aw49_49 {n lev D : Nat} {x2 x3 x4 : Int32} (eA : kA49_49 R = R) (D3 : 3 ≤ D) (B : g49_74_B I n) (hl : (lev + 1) * (n * n) + n * n ≤ 7381) (l1 : lev ≤ 80) (h3 : x3.toInt = lev) (q0 : 0 ≤ x2.toInt) (q5 : x2.toInt < 5) (h : ∀ r J, (r = 0 ∨ r = 1) → g49_74_c n (lev + 1) I J → Φ (some (.int r), (xLay, J, L, R))) : sm_wp sm_P S D 0 0 [.ref 103, .ref 49, .int x2, .int x3, .int x4] [] (xLay, I, L, R) (0, 0) Φ := by
  have eG : kG49_74 R = R := by rw [← eA, kGA49_49]
  obtain ⟨d, rfl⟩ : ∃ d, D = d + 3 := ⟨D - 3, by omega⟩
  have v : vp_in x2 5 := kl_in q0 q5
  have s3 : (x3 + 1).toInt = ((lev + 1 : Nat) : Int) := by rw [ml_in1 (by omega), h3]; omega
  refine pw49_49_X0_answer_0 (d := d + 2) eA ⟨v, v, cpW49 (d := d + 1) eG B hl (by omega) h3 (fun J c e => ⟨J, L, rfl, ?_⟩)⟩
  obtain ⟨B2, -⟩ := g49_74_Bc c B
  exact ⟨fun _ => ⟨v, v, bwW49 (d := d) eG B2 hl (by omega) s3 (fun r J2 r01 c2 => ⟨r, J2, L, rfl, r01, h r J2 r01 (g49_74_ct c c2)⟩)⟩, fun _ => ⟨fun _ => ⟨v, fun n11 e11 n12 e12 n13 e13 => twW49 (d := d + 1) eG B2 hl (by omega) s3 (fun r J2 r01 c2 => ⟨r, J2, L, rfl, r01, h r J2 r01 (g49_74_ct c c2)⟩)⟩, fun _ => ⟨v, fun n4 e4 n5 e5 n6 e6 => twW49 (d := d + 1) eG B2 hl (by omega) s3 (fun r J2 r01 c2 => ⟨r, J2, L, rfl, r01, h r J2 r01 (g49_74_ct c c2)⟩)⟩⟩⟩
/-- what is above a level may change -/
def lf49_49 (n lev : Nat) (I J : sm_I) : Prop := ∀ p q, ¬ (p = 76 ∧ (lev + 1) * (n * n) ≤ q) → J p q = I p q
theorem lf49_49_c {n lev : Nat} {I J : sm_I} (h : g49_74_c n (lev + 1) I J) : lf49_49 n lev I J := fun p q a => h p q (fun w => a ⟨w.1, w.2.1⟩)
theorem lf49_49_s {n lev : Nat} {I J : sm_I} (h : lf49_49 n (lev + 1) I J) : lf49_49 n lev I J := fun p q a => h p q (fun w => a ⟨w.1, by
  have := w.2
  rw [Nat.succ_mul] at this
  omega⟩)
theorem lf49_49_t {n lev : Nat} {I J K : sm_I} (a : lf49_49 n lev I J) (b : lf49_49 n lev J K) : lf49_49 n lev I K := fun p q h => (b p q h).trans (a p q h)
theorem lf49_49_T {n lev j : Nat} {I J : sm_I} (a : lf49_49 n lev I J) (hj : j ≤ lev) : ∀ u v, u < n → v < n → g49_74_T J n j u v = g49_74_T I n j u v := fun u v hu hv => by
  have tl := tix_lt hu hv
  unfold g49_74_T
  rw [a 76 _ (fun q => ?_)]
  have q := q.2
  unfold tix at q
  have := Nat.mul_le_mul_right (n * n) (show j + 1 ≤ lev + 1 by omega)
  rw [Nat.succ_mul] at this
  omega
theorem lf49_49_B {n lev : Nat} {I J : sm_I} (a : lf49_49 n lev I J) (B : g49_74_B I n) : g49_74_B J n := by
  obtain ⟨b1, b2, b3, b4, b5⟩ := B
  exact ⟨by rw [a 75 4 (by omega)]; exact b1, b2, b3, by rw [a 75 5 (by omega)]; exact b4, fun i hi => by rw [a 77 i (by omega), a 78 i (by omega), a 79 i (by omega)]; exact b5 i hi⟩
theorem isL49_49 {n : Nat} {x4 x5 : Int32} (eA : kA49_49 R = R) (n11 : n ≤ 11) : ∀ (m q lev D : Nat) (x2 x3 : Int32) (I : sm_I) (Φ : sm_Z → Prop), q + m = 5 → m + 4 ≤ D → x2.toInt = q → x3.toInt = lev → lev + m ≤ 60 → g49_74_B I n → (∀ r J, (r = 0 ∨ r = 1) → lf49_49 n lev I J → Φ (some (.int r), (xLay, J, L, R))) → sm_wp sm_P S D 7 0 [.ref 103, .ref 49, .int x2, .int x3, .int x4, .int x5] [] (xLay, I, L, R) (0, 0) Φ := by
  have h5 : (5 : Int32).toInt = 5 := by decide
  intro m
  induction m with
  | zero =>
    intro q lev D x2 x3 I Φ hq hD h2 h3 hl B h
    obtain ⟨d, rfl⟩ : ∃ d, D = d + 1 := ⟨D - 1, by omega⟩
    have e : Φ (some (.int 1), (xLay, I, L, R)) := h 1 I (Or.inr rfl) (fun _ _ _ => rfl)
    exact pw49_49_X0_isLeft_0 eA ⟨fun _ => e, fun _ => ⟨fun c => absurd (Int32.lt_iff_toInt_lt.mp c) (by rw [h5]; omega), fun _ => e⟩⟩
  | succ m ih =>
    intro q lev D x2 x3 I Φ hq hD h2 h3 hl B h
    obtain ⟨d, rfl⟩ : ∃ d, D = d + 1 := ⟨D - 1, by omega⟩
    have e : Φ (some (.int 1), (xLay, I, L, R)) := h 1 I (Or.inr rfl) (fun _ _ _ => rfl)
    have s2 : (x2 + 1).toInt = ((q + 1 : Nat) : Int) := by rw [ml_in1 (by omega), h2]; omega
    have s3 : (x3 + 1).toInt = ((lev + 1 : Nat) : Int) := by rw [ml_in1 (by omega), h3]; omega
    have cap : (lev + 1) * (n * n) + n * n ≤ 7381 := by
      have nn : n * n ≤ 11 * 11 := Nat.mul_le_mul n11 n11
      have a : (lev + 1) * (n * n) ≤ 60 * (11 * 11) := Nat.mul_le_mul (by omega) nn
      omega
    -- the last block
    have b18 : ∀ (J : sm_I) (s : Int32), (s = 0 ∨ s = 1) → lf49_49 n lev I J → sm_wp sm_P S (d + 1) 7 18 [] [.int s] (xLay, J, L, R) (0, 0) Φ := fun J s s01 f => pw49_49_X0_isLeft_18 eA ⟨s01, h s J s01 f⟩
    have b14 : ∀ J : sm_I, lf49_49 n lev I J → sm_wp sm_P S (d + 1) 7 14 [.ref 103, .ref 49, .int x2, .int x3, .int x4, .int x5] [] (xLay, J, L, R) (0, 0) Φ := fun J f => by
      refine pw49_49_X0_isLeft_14 eA (aw49_49 eA (by omega) (lf49_49_B f B) cap (by omega) h3 (by omega) (by omega) (fun r J2 r01 c => ⟨r, J2, L, rfl, fun _ => b18 J2 0 (Or.inl rfl) (lf49_49_t f (lf49_49_c c)), fun r1 => ?_⟩))
      have f2 := lf49_49_t f (lf49_49_c c)
      exact ih (q + 1) (lev + 1) d _ _ J2 _ (by omega) (by omega) s2 s3 (by omega) (lf49_49_B f2 B) (fun r3 J3 r301 f3 => ⟨r3, J3, L, rfl, fun _ => b18 J3 0 (Or.inl rfl) (lf49_49_t f2 (lf49_49_s f3)), fun _ => b18 J3 1 (Or.inr rfl) (lf49_49_t f2 (lf49_49_s f3))⟩)
    refine pw49_49_X0_isLeft_0 eA ⟨fun _ => e, fun _ => ⟨fun _ => ⟨fun _ => ⟨fun _ => ?_, fun _ => ?_⟩, fun _ => ?_⟩, fun _ => e⟩⟩
    · exact ih (q + 1) lev d _ _ I _ (by omega) (by omega) s2 h3 (by omega) B (fun r J r01 f => ⟨r, J, L, rfl, r01, h r J r01 f⟩)
    · refine aw49_49 eA (by omega) B cap (by omega) h3 (by omega) (by omega) (fun r J r01 c => ⟨r, J, L, rfl, fun _ => b14 J (lf49_49_c c), fun r1 => ?_⟩)
      have f2 := lf49_49_c c
      exact ih (q + 1) (lev + 1) d _ _ J _ (by omega) (by omega) s2 s3 (by omega) (lf49_49_B f2 B) (fun r3 J3 r301 f3 => ⟨r3, J3, L, rfl, fun _ => b14 J3 (lf49_49_t f2 (lf49_49_s f3)), fun _ => h 1 J3 (Or.inr rfl) (lf49_49_t f2 (lf49_49_s f3))⟩)
    · refine aw49_49 eA (by omega) B cap (by omega) h3 (by omega) (by omega) (fun r J r01 c => ⟨r, J, L, rfl, fun _ => h 0 J (Or.inl rfl) (lf49_49_c c), fun r1 => ?_⟩)
      have f2 := lf49_49_c c
      exact ih (q + 1) (lev + 1) d _ _ J _ (by omega) (by omega) s2 s3 (by omega) (lf49_49_B f2 B) (fun r3 J3 r301 f3 => ⟨r3, J3, L, rfl, fun _ => h 0 J3 (Or.inl rfl) (lf49_49_t f2 (lf49_49_s f3)), fun _ => h 1 J3 (Or.inr rfl) (lf49_49_t f2 (lf49_49_s f3))⟩)
/-- what the asking may change of a state that was gone through -/
def af49_49 (I J : sm_I) : Prop := ∀ p q, p ≠ 76 → p ≠ 81 → ¬ (p = 74 ∧ q = 6) → p ≠ 104 → p ≠ 105 → ¬ (p = 103 ∧ q = 5) → J p q = I p q
def as49_49 (I : sm_I) (L : sm_L) : Prop := kW 49 I ∧ kall 49 (kys 49 I) (KF 49 I) I L ∧ klv 49 I
theorem as49_49_t {I J : sm_I} (f : af49_49 I J) : ∀ p j, (49 ≤ p ∧ p < 49 + 25) ∨ p = 37 ∨ (41 ≤ p ∧ p ≤ 44) → J p j = I p j := fun p j q => f p j (by omega) (by omega) (by omega) (by omega) (by omega) (by omega)
theorem as49_49_k {I J : sm_I} {L : sm_L} (f : af49_49 I J) (k : klv 49 J) (s : as49_49 I L) : as49_49 J L := by
  obtain ⟨s1, s2, -⟩ := s
  have t := as49_49_t f
  refine ⟨kW_cg (by decide) t s1, ?_, k⟩
  rw [kys_cg t, KF_cg (by decide) t]
  exact kall_cg (fun p j q => f p j (by omega) (by omega) (by omega) (by omega) (by omega) (by omega)) (fun _ => rfl) s2
theorem as49_49_l {I : sm_I} {L : sm_L} (s : as49_49 I L) : (kys 49 I).length ≤ 55 ∧ kn 49 I ≤ 11 ∧ (I 74 11).toInt = (kys 49 I).length ∧ (I 74 14).toInt = (KF 49 I).2.2.2.1 ∧ (KF 49 I).2.2.2.1 ≤ 1000 := by
  obtain ⟨hk, ka, lv⟩ := s
  have := kitL_len (set := kdb 49 I) (s := (I 49 3).toNatClampNeg) (m := (I 49 5).toNatClampNeg)
  have := kl_nat hk.2.1.1
  have := kl_nat hk.2.2.1.1
  have := hk.2.1.2
  have := hk.2.2.1.2
  refine ⟨by unfold kys; omega, lv.1.2.2.1, ka.1.1, ka.2.1.2.1, GT_wf.2.2.2.2.1.1⟩
/-- a WAY brought -/
theorem bw49_49 {D w : Nat} {x : Int32} (eA : kA49_49 R = R) (D4 : 4 ≤ D) (s : as49_49 I L) (wf : w < (KF 49 I).2.2.2.1) (hx : x.toInt = w) (h : ∀ J, af49_49 I J → as49_49 J L → Φ (some (.int 1), (xLay, J, L, R))) : sm_wp sm_P S D 222 0 [.ref 74, .ref 45, .int x] [] (xLay, I, L, R) (0, 0) Φ := by
  have eG : kG49_74 R = R := by rw [← eA, kGA49_49]
  obtain ⟨d, rfl⟩ : ∃ d, D = d + 4 := ⟨D - 4, by omega⟩
  rw [← eG] at h ⊢
  refine br49 s.1 s.2.1 s.2.2 wf hx (fun J f b => ?_)
  have af : af49_49 I J := fun p q a1 a2 a3 _ _ _ => f p q a1 a2 a3
  exact h J af (as49_49_k af (klv_br (by decide) f b s.2.2) s)
/-- levels above a WAY's are of no account -/
theorem al49_49 {I J : sm_I} {L : sm_L} (s : as49_49 I L) (f : lf49_49 (kn 49 I) (kys 49 I).length I J) : af49_49 I J ∧ as49_49 J L := by
  have af : af49_49 I J := fun p q a1 a2 a3 _ _ _ => f p q (by omega)
  refine ⟨af, as49_49_k af (klv_cg (by decide) (as49_49_t af) (fun p j q => f p j (by omega)) (fun j hj a b ha hb => lf49_49_T f hj a b ha hb) s.2.2) s⟩
theorem af49_49_tr {I J K : sm_I} (a : af49_49 I J) (b : af49_49 J K) : af49_49 I K := fun p q a1 a2 a3 a4 a5 a6 => (b p q a1 a2 a3 a4 a5 a6).trans (a p q a1 a2 a3 a4 a5 a6)
/-- leftWith -/
theorem lw49_49 {D : Nat} {I0 : sm_I} {x2 x3 : Int32} (eA : kA49_49 R = R) (D9 : 9 ≤ D) (h : ∀ r J, af49_49 I0 J → as49_49 J L → Φ (some (.int r), (xLay, J, L, R))) : ∀ (m w : Nat) (x4 x5 : Int32) (J : sm_I), x5.toInt = w → w + m = (KF 49 I0).2.2.2.1 → af49_49 I0 J → as49_49 J L → sm_wp sm_P S (D + 1) 8 1 [.ref 103, .ref 49, .int x2, .int x3, .int x4, .int x5] [] (xLay, J, L, R) (0, 0) Φ := by
  intro m
  induction m with
  | zero =>
    intro w x4 x5 J h5 hm f s
    obtain ⟨-, -, -, l4, -⟩ := as49_49_l s
    rw [KF_cg (by decide) (as49_49_t f)] at l4
    refine pw49_49_X0_leftWith_1 eA ⟨fun _ => h _ J f s, fun c => ?_⟩
    have c := kl_nle c
    rw [l4] at c
    omega
  | succ m ih =>
    intro w x4 x5 J h5 hm f s
    obtain ⟨-, -, -, l4, l5⟩ := as49_49_l s
    have eK := KF_cg (Q := 49) (by decide) (as49_49_t f)
    rw [eK] at l4 l5
    have s5 := ml_in1 (x := x5) (by omega)
    refine pw49_49_X0_leftWith_1 eA ⟨fun c => ?_, fun _ => bw49_49 (w := w) eA (by omega) s (by rw [eK]; omega) h5 (fun J2 f2 s2 => ⟨_, J2, L, rfl, ?_⟩)⟩
    · have c := kl_le.mp c
      rw [l4] at c
      omega
    obtain ⟨l1, l2, l3, -, -⟩ := as49_49_l s2
    refine isL49_49 (n := kn 49 J2) eA l2 5 0 (kys 49 J2).length D 0 _ J2 _ (by omega) (by omega) kl_0 l3 (by omega) s2.2.2.1 (fun r J3 r01 f3 => ?_)
    obtain ⟨a3, s3⟩ := al49_49 s2 f3
    have f' := af49_49_tr f (af49_49_tr f2 a3)
    exact ⟨r, J3, L, rfl, fun _ => ih (w + 1) _ _ J3 (by omega) (by omega) f' s3, fun _ => ih (w + 1) _ _ J3 (by omega) (by omega) f' s3⟩
/-- answered -/
theorem ad49_49 {D : Nat} {I0 : sm_I} {x2 x3 : Int32} (eA : kA49_49 R = R) (D9 : 5 ≤ D) (q0 : 0 ≤ x2.toInt) (q5 : x2.toInt < 5) (h : ∀ r J, af49_49 I0 J → as49_49 J L → Φ (some (.int r), (xLay, J, L, R))) : ∀ (m w : Nat) (x4 x5 : Int32) (J : sm_I), x5.toInt = w → w + m = (KF 49 I0).2.2.2.1 → af49_49 I0 J → as49_49 J L → sm_wp sm_P S (D + 1) 1 1 [.ref 103, .ref 49, .int x2, .int x3, .int x4, .int x5] [] (xLay, J, L, R) (0, 0) Φ := by
  have eG : kG49_74 R = R := by rw [← eA, kGA49_49]
  have v : vp_in x2 5 := kl_in q0 q5
  intro m
  induction m with
  | zero =>
    intro w x4 x5 J h5 hm f s
    obtain ⟨-, -, -, l4, -⟩ := as49_49_l s
    rw [KF_cg (by decide) (as49_49_t f)] at l4
    refine pw49_49_X0_answered_1 eA ⟨fun _ => h _ J f s, fun c => ?_⟩
    have c := kl_nle c
    rw [l4] at c
    omega
  | succ m ih =>
    intro w x4 x5 J h5 hm f s
    obtain ⟨-, -, -, l4, l5⟩ := as49_49_l s
    have eK := KF_cg (Q := 49) (by decide) (as49_49_t f)
    rw [eK] at l4 l5
    have s5 := ml_in1 (x := x5) (by omega)
    refine pw49_49_X0_answered_1 eA ⟨fun c => ?_, fun _ => bw49_49 (w := w) eA (by omega) s (by rw [eK]; omega) h5 (fun J2 f2 s2 => ⟨_, J2, L, rfl, v, v, ?_⟩)⟩
    · have c := kl_le.mp c
      rw [l4] at c
      omega
    obtain ⟨l1, l2, l3, -, -⟩ := as49_49_l s2
    have f' := af49_49_tr f f2
    have nx : ∀ a : Int32, sm_wp sm_P S (D + 1) 1 17 [.ref 103, .ref 49, .int x2, .int x3, .int a, .int x5] [] (xLay, J2, L, R) (0, 0) Φ := fun a => pw49_49_X0_answered_17 eA (ih (w + 1) _ _ J2 (by omega) (by omega) f' s2)
    have b12 : ∀ a b : Int32, sm_wp sm_P S (D + 1) 1 12 [.ref 103, .ref 49, .int x2, .int x3, .int x4, .int x5, .int a] [.int b] (xLay, J2, L, R) (0, 0) Φ := fun a b => pw49_49_X0_answered_12 eA ⟨fun _ => ⟨fun _ => nx _, fun _ => nx _⟩, fun _ => ⟨fun _ => nx _, fun _ => nx _⟩⟩
    have b8 : ∀ a b c e f : Int32, sm_wp sm_P S (D + 1) 1 8 [.ref 103, .ref 49, .int x2, .int x3, .int x4, .int x5, .int a, .int b, .int c, .int e] [.int f] (xLay, J2, L, R) (0, 0) Φ := fun a b c e f => pw49_49_X0_answered_8 eA ⟨fun _ => b12 _ _, fun _ => ⟨fun _ => b12 _ _, fun _ => b12 _ _⟩⟩
    obtain ⟨D', rfl⟩ : ∃ D', D = D' + 3 := ⟨D - 3, by omega⟩
    refine dwW49 (d := D') (lev := (kys 49 J2).length) eG s2.2.2.1 (cap49 l2 l1) (by omega) l3 (fun r => ⟨r, J2, L, rfl, v, v, dwW49 (d := D') (lev := (kys 49 J2).length) eG s2.2.2.1 (cap49 l2 l1) (by omega) l3 (fun r9 => ⟨r9, J2, L, rfl, v, v, fun _ => b8 _ _ _ _ _, fun _ => ⟨fun _ => b8 _ _ _ _ _, fun _ => ⟨fun _ => b8 _ _ _ _ _, fun _ => b8 _ _ _ _ _⟩⟩⟩)⟩)
/-- spread -/
def sf49_49 (n lev : Nat) (I J : sm_I) : Prop := ∀ p q, ¬ (p = 76 ∧ (lev + 1) * (n * n) ≤ q) → p ≠ 104 → J p q = I p q
theorem sf49_49_l {n lev : Nat} {I J : sm_I} (h : lf49_49 n lev I J) : sf49_49 n lev I J := fun p q a _ => h p q a
theorem sf49_49_t {n lev : Nat} {I J K : sm_I} (a : sf49_49 n lev I J) (b : sf49_49 n lev J K) : sf49_49 n lev I K := fun p q h g => (b p q h g).trans (a p q h g)
theorem sf49_49_s {n lev : Nat} {I J : sm_I} (h : sf49_49 n (lev + 1) I J) : sf49_49 n lev I J := fun p q a b => h p q (fun w => a ⟨w.1, by
  have := w.2
  rw [Nat.succ_mul] at this
  omega⟩) b
theorem sf49_49_T {n lev j : Nat} {I J : sm_I} (a : sf49_49 n lev I J) (hj : j ≤ lev) : ∀ u v, u < n → v < n → g49_74_T J n j u v = g49_74_T I n j u v := fun u v hu hv => by
  have tl := tix_lt hu hv
  unfold g49_74_T
  rw [a 76 _ (fun q => ?_) (by omega)]
  have q := q.2
  unfold tix at q
  have := Nat.mul_le_mul_right (n * n) (show j + 1 ≤ lev + 1 by omega)
  rw [Nat.succ_mul] at this
  omega
theorem sf49_49_B {n lev : Nat} {I J : sm_I} (a : sf49_49 n lev I J) (B : g49_74_B I n) : g49_74_B J n := by
  obtain ⟨b1, b2, b3, b4, b5⟩ := B
  exact ⟨by rw [a 75 4 (by omega) (by omega)]; exact b1, b2, b3, by rw [a 75 5 (by omega) (by omega)]; exact b4, fun i hi => by rw [a 77 i (by omega) (by omega), a 78 i (by omega) (by omega), a 79 i (by omega) (by omega)]; exact b5 i hi⟩
theorem spr49_49 {n : Nat} {x2 : Int32} (eA : kA49_49 R = R) (n11 : n ≤ 11) (v2 : vp_in x2 64) : ∀ (m q lev D : Nat) (x3 x4 x5 : Int32) (I : sm_I) (Φ : sm_Z → Prop), q + m = 5 → m + 4 ≤ D → x3.toInt = q → x4.toInt = lev → lev + m ≤ 60 → g49_74_B I n → (∀ J, sf49_49 n lev I J → Φ (none, (xLay, J, L, R))) → sm_wp sm_P S D 10 0 [.ref 103, .ref 49, .int x2, .int x3, .int x4, .int x5] [] (xLay, I, L, R) (0, 0) Φ := by
  have h5 : (5 : Int32).toInt = 5 := by decide
  have h3' : (3 : Int32).toInt = 3 := by decide
  have o104 : ∀ (n lev : Nat) (I J : sm_I) (i : Nat) (x : Int32), J = sm_up I 104 i x → sf49_49 n lev I J := fun n lev I J i x e p q a b => by rw [e, en_up_ne _ _ _ _ (by omega)]
  intro m
  induction m with
  | zero =>
    intro q lev D x3 x4 x5 I Φ hq hD h3 h4 hl B h
    obtain ⟨d, rfl⟩ : ∃ d, D = d + 1 := ⟨D - 1, by omega⟩
    exact pw49_49_X0_spread_0 eA ⟨v2, fun _ => h I (fun _ _ _ _ => rfl), fun _ => ⟨fun _ => ⟨v2, fun n1 e1 => ⟨v2, fun I2 e2 => h I2 (o104 _ _ _ _ _ _ e2)⟩⟩, fun _ => ⟨fun c => absurd (Int32.lt_iff_toInt_lt.mp c) (by rw [h5]; omega), fun _ => ⟨v2, fun n1 e1 => ⟨v2, fun I2 e2 => h I2 (o104 _ _ _ _ _ _ e2)⟩⟩⟩⟩⟩
  | succ m ih =>
    intro q lev D x3 x4 x5 I Φ hq hD h3 h4 hl B h
    obtain ⟨d, rfl⟩ : ∃ d, D = d + 1 := ⟨D - 1, by omega⟩
    have s3 : (x3 + 1).toInt = ((q + 1 : Nat) : Int) := by rw [ml_in1 (by omega), h3]; omega
    have s4 : (x4 + 1).toInt = ((lev + 1 : Nat) : Int) := by rw [ml_in1 (by omega), h4]; omega
    have cap : (lev + 1) * (n * n) + n * n ≤ 7381 := by
      have nn : n * n ≤ 11 * 11 := Nat.mul_le_mul n11 n11
      have a : (lev + 1) * (n * n) ≤ 60 * (11 * 11) := Nat.mul_le_mul (by omega) nn
      omega
    have v3 : vp_in x3 sm_withyes.length := by rw [wy5]; exact kl_in (by omega) (by omega)
    have lp : ∀ (k i : Nat) (x6 : Int32) (J : sm_I), x6.toInt = i → i + k = 3 → sf49_49 n lev I J → sm_wp sm_P S (d + 1) 10 6 [.ref 103, .ref 49, .int x2, .int x3, .int x4, .int x5, .int x6] [] (xLay, J, L, R) (0, 0) Φ := by
      intro k
      induction k with
      | zero =>
        intro i x6 J h6 hk f
        refine pw49_49_X0_spread_6 eA ⟨fun _ => h J f, fun c => ?_⟩
        have c := kl_nle c
        rw [h3'] at c
        omega
      | succ k ihk =>
        intro i x6 J h6 hk f
        have s6 := ml_in1 (x := x6) (by omega)
        refine pw49_49_X0_spread_6 eA ⟨fun c => ?_, fun _ => aw49_49 eA (by omega) (sf49_49_B f B) cap (by omega) h4 (by omega) (by omega) (fun r J2 r01 c => ⟨r, J2, L, rfl, fun _ => ihk (i + 1) _ J2 (by omega) (by omega) (sf49_49_t f (sf49_49_l (lf49_49_c c))), fun r1 => ?_⟩)⟩
        · have c := kl_le.mp c
          rw [h3'] at c
          omega
        have f2 := sf49_49_t f (sf49_49_l (lf49_49_c c))
        refine ⟨fun _ => ⟨v3, fun n9 _ => ?_⟩, fun _ => ⟨v3, fun n9 _ => ?_⟩⟩
        · exact ih (q + 1) (lev + 1) d _ _ _ J2 _ (by omega) (by omega) s3 s4 (by omega) (sf49_49_B f2 B) (fun J3 f3 => ⟨J3, L, rfl, ihk (i + 1) _ J3 (by omega) (by omega) (sf49_49_t f2 (sf49_49_s f3))⟩)
        · exact ih (q + 1) (lev + 1) d _ _ _ J2 _ (by omega) (by omega) s3 s4 (by omega) (sf49_49_B f2 B) (fun J3 f3 => ⟨J3, L, rfl, ihk (i + 1) _ J3 (by omega) (by omega) (sf49_49_t f2 (sf49_49_s f3))⟩)
    exact pw49_49_X0_spread_0 eA ⟨v2, fun _ => h I (fun _ _ _ _ => rfl), fun _ => ⟨fun _ => ⟨v2, fun n1 e1 => ⟨v2, fun I2 e2 => h I2 (o104 _ _ _ _ _ _ e2)⟩⟩, fun _ => ⟨fun _ => lp 3 0 0 I kl_0 (by omega) (fun _ _ _ _ => rfl), fun _ => ⟨v2, fun n1 e1 => ⟨v2, fun I2 e2 => h I2 (o104 _ _ _ _ _ _ e2)⟩⟩⟩⟩⟩
/-- countStates -/
theorem ao49_49 {x1 : Int32} (eA : kA49_49 R = R) (b4 : 0 ≤ (I 49 4).toInt ∧ (I 49 4).toInt ≤ 5) (h : ∀ r, Φ (some (.int r), (xLay, I, L, R))) : sm_wp sm_P S d 2 0 [.ref 49, .int x1] [] (xLay, I, L, R) (0, 0) Φ := by
  have lp : ∀ (k i : Nat) (x2 x3 : Int32), x3.toInt = i → i + k = 5 → sm_wp sm_P S d 2 1 [.ref 49, .int x1, .int x2, .int x3] [] (xLay, I, L, R) (0, 0) Φ := by
    intro k
    induction k with
    | zero =>
      intro i x2 x3 h3 hk
      refine pw49_49_X0_answersOf_1 eA ⟨fun _ => h _, fun c => ?_⟩
      have c := kl_nle c
      omega
    | succ k ih =>
      intro i x2 x3 h3 hk
      have s3 := ml_in1 (x := x3) (by omega)
      have v3 : vp_in x3 sm_withyes.length := by rw [wy5]; exact kl_in (by omega) (by omega)
      exact pw49_49_X0_answersOf_1 eA ⟨fun _ => h _, fun _ => ⟨fun _ => ⟨fun _ => ih (i + 1) _ _ (by omega) (by omega), fun _ => ⟨v3, fun n1 _ => ih (i + 1) _ _ (by omega) (by omega)⟩⟩, fun _ => ⟨v3, fun n3 _ => ⟨fun _ => ih (i + 1) _ _ (by omega) (by omega), fun _ => ⟨v3, fun n4 _ => ih (i + 1) _ _ (by omega) (by omega)⟩⟩⟩⟩⟩
  exact pw49_49_X0_answersOf_0 eA (lp 5 0 _ 0 kl_0 (by omega))
theorem cl49_49 {x1 x2 : Int32} (eA : kA49_49 R = R) (b1 : 0 ≤ x1.toInt ∧ x1.toInt ≤ 64) (h : ∀ r, Φ (some (.int r), (xLay, I, L, R))) : sm_wp sm_P S d 3 0 [.ref 103, .int x1, .int x2] [] (xLay, I, L, R) (0, 0) Φ := by
  have lp : ∀ (k i : Nat) (x3 x4 : Int32), x4.toInt = i → i + k = 64 → sm_wp sm_P S d 3 1 [.ref 103, .int x1, .int x2, .int x3, .int x4] [] (xLay, I, L, R) (0, 0) Φ := by
    intro k
    induction k with
    | zero =>
      intro i x3 x4 h4 hk
      refine pw49_49_X0_countLeft_1 eA ⟨fun _ => h _, fun c => ?_⟩
      have c := kl_nle c
      omega
    | succ k ih =>
      intro i x3 x4 h4 hk
      have s4 := ml_in1 (x := x4) (by omega)
      have v4 : vp_in x4 64 := kl_in (by omega) (by omega)
      exact pw49_49_X0_countLeft_1 eA ⟨fun _ => h _, fun _ => ⟨fun _ => h _, fun _ => ⟨v4, fun _ => ih (i + 1) _ _ (by omega) (by omega), fun _ => ih (i + 1) _ _ (by omega) (by omega)⟩⟩⟩
  exact pw49_49_X0_countLeft_0 eA (lp 64 0 _ 0 kl_0 (by omega))
theorem af49_49_B {I J : sm_I} {L : sm_L} (k : as49_49 I L) (h : ∀ p q, p ≠ 104 → p ≠ 105 → ¬ (p = 103 ∧ q = 5) → J p q = I p q) : af49_49 I J ∧ as49_49 J L := by
  have af : af49_49 I J := fun p q _ _ _ a4 a5 a6 => h p q a4 a5 a6
  refine ⟨af, as49_49_k af (klv_cg (by decide) (as49_49_t af) (fun p j q => h p j (by omega) (by omega) (by omega)) (fun j _ a b _ _ => ?_) k.2.2) k⟩
  unfold nT
  rw [h 76 _ (by omega) (by omega) (by omega)]
theorem cs49_49 {D : Nat} (eA : kA49_49 R = R) (D9 : 9 ≤ D) (b4 : 0 ≤ (I 49 4).toInt ∧ (I 49 4).toInt ≤ 5) (s0 : as49_49 I L) (h : ∀ J, af49_49 I J → as49_49 J L → Φ (none, (xLay, J, L, R))) : sm_wp sm_P S (D + 1) 4 0 [.ref 103, .ref 49] [] (xLay, I, L, R) (0, 0) Φ := by
  have h64 : (64 : Int32).toInt = 64 := by decide
  have h1024 : (1024 : Int32).toInt = 1024 := by decide
  -- the states
  have lp6 : ∀ (k i : Nat) (x2 x3 : Int32) (J : sm_I), x3.toInt = i → i + k = 1024 → 0 ≤ x2.toInt ∧ x2.toInt ≤ 64 → af49_49 I J → as49_49 J L → sm_wp sm_P S (D + 1) 4 6 [.ref 103, .ref 49, .int x2, .int x3] [] (xLay, J, L, R) (0, 0) Φ := by
    intro k
    induction k with
    | zero =>
      intro i x2 x3 J h3 hk b2 f s
      refine pw49_49_X0_countStates_6 eA ⟨fun _ => h J f s, fun c => ?_⟩
      have c := kl_nle c
      rw [h1024] at c
      omega
    | succ k ih =>
      intro i x2 x3 J h3 hk b2 f s
      have s3 := ml_in1 (x := x3) (by omega)
      refine pw49_49_X0_countStates_6 eA ⟨fun c => ?_, fun _ => ao49_49 eA (by rw [f 49 4 (by omega) (by omega) (by omega) (by omega) (by omega) (by omega)]; exact b4) (fun r => ⟨r, J, L, rfl, cl49_49 eA b2 (fun r6 => ⟨r6, J, L, rfl, kl_in (by omega) (by omega), fun I7 e7 => ?_⟩)⟩)⟩
      · have c := kl_le.mp c
        rw [h1024] at c
        omega
      obtain ⟨a1, a2⟩ := af49_49_B (J := I7) s (fun p q q1 q2 q3 => by rw [e7, en_up_ne _ _ _ _ (by omega)])
      exact ih (i + 1) _ _ I7 (by omega) (by omega) b2 (af49_49_tr f a1) a2
  -- the WAYS
  have lp3 : ∀ (k i : Nat) (x2 x3 : Int32) (J : sm_I), x3.toInt = i → (i + k : Nat) = x2.toInt → x2.toInt ≤ 64 → x2.toInt ≤ (KF 49 I).2.2.2.1 → af49_49 I J → as49_49 J L → sm_wp sm_P S (D + 1) 4 3 [.ref 103, .ref 49, .int x2, .int x3] [] (xLay, J, L, R) (0, 0) Φ := by
    intro k
    induction k with
    | zero =>
      intro i x2 x3 J h3 hk b2 bf f s
      refine pw49_49_X0_countStates_3 eA ⟨fun _ => lp6 1024 0 _ 0 J kl_0 (by omega) ⟨by omega, b2⟩ f s, fun c => ?_⟩
      have c := kl_nle c
      omega
    | succ k ih =>
      intro i x2 x3 J h3 hk b2 bf f s
      have s3 := ml_in1 (x := x3) (by omega)
      have eK := KF_cg (Q := 49) (by decide) (as49_49_t f)
      have v3 : vp_in x3 64 := kl_in (by omega) (by omega)
      refine pw49_49_X0_countStates_3 eA ⟨fun c => ?_, fun _ => bw49_49 (w := i) eA (by omega) s (by rw [eK]; omega) h3 (fun J2 f2 s2 => ⟨_, J2, L, rfl, v3, fun I4 e4 => ?_⟩)⟩
      · have c := kl_le.mp c
        omega
      have o4 : ∀ p q, p ≠ 104 → I4 p q = J2 p q := fun p q a => by rw [e4, en_up_ne _ _ _ _ (by omega)]
      obtain ⟨a4, s4⟩ := af49_49_B (J := I4) s2 (fun p q q1 _ _ => o4 p q q1)
      obtain ⟨l1, l2, l3, -, -⟩ := as49_49_l s4
      refine spr49_49 (n := kn 49 I4) eA l2 v3 5 0 (kys 49 I4).length D 0 _ _ I4 _ (by omega) (by omega) kl_0 l3 (by omega) s4.2.2.1 (fun J5 f5 => ⟨J5, L, rfl, ?_⟩)
      have a5 : af49_49 I4 J5 := fun p q q1 q2 q3 q4 q5 q6 => f5 p q (by omega) q4
      have s5 : as49_49 J5 L := as49_49_k a5 (klv_cg (by decide) (as49_49_t a5) (fun p j q => f5 p j (by omega) (by omega)) (fun j hj a b ha hb => sf49_49_T f5 hj a b ha hb) s4.2.2) s4
      exact ih (i + 1) _ _ J5 (by omega) (by omega) b2 bf (af49_49_tr f (af49_49_tr f2 (af49_49_tr a4 a5))) s5
  obtain ⟨-, -, -, l4, l5⟩ := as49_49_l s0
  refine pw49_49_X0_countStates_0 eA ⟨fun _ n1 e1 n2 e2 => ?_, fun _ => h I (fun _ _ _ _ _ _ _ _ => rfl) s0⟩
  have q1 : n1 = I 74 14 := by rw [e1, en_up_ne _ _ _ _ (by omega)]
  obtain ⟨a1, s1⟩ := af49_49_B (J := sm_up I 103 5 (1 : Int32)) s0 (fun p q _ _ q3 => en_up_ne _ _ _ _ q3)
  have b2 : 0 ≤ n2.toInt ∧ n2.toInt ≤ 64 ∧ n2.toInt ≤ (KF 49 I).2.2.2.1 := by
    rw [e2, q1]
    by_cases c : (64 : Int32) < I 74 14
    · have c' := Int32.lt_iff_toInt_lt.mp c
      rw [h64] at c'
      rw [if_pos c, h64]
      omega
    · have c' : ¬ (64 : Int) < (I 74 14).toInt := fun q => c (Int32.lt_iff_toInt_lt.mpr (by rw [h64]; exact q))
      rw [if_neg c]
      omega
  exact lp3 n2.toInt.toNat 0 n2 0 _ kl_0 (by omega) b2.2.1 b2.2.2 a1 s1
end
end
section
/-! the class's contracts by hand, with what was gone through (made of 29d) -/
theorem klw_20 {Sc : sm_C} : ∀ (d : Nat), klc_20.2.2.2.2.2 ≤ d → ∀ (vs : List Value) (w : sm_W), en_pvs klc_20.2.1 vs → en_mem kl_tb klX w → sm_wp sm_P Sc d klc_20.1 0 vs [] w (0, 0) (fun z => z.2.2.2.1 = w.2.2.1) := by
  intro d hd vs w hv hm
  obtain ⟨lay, I, L, R⟩ := w
  obtain ⟨vs1, rfl, hv1⟩ := kl_vr (q := 75) rfl hv
  obtain ⟨x1, vs2, rfl, b1, hv2⟩ := kl_vi hv1
  obtain ⟨x2, vs3, rfl, b2, hv3⟩ := kl_vi hv2
  obtain ⟨x3, vs4, rfl, b3, hv4⟩ := kl_vi hv3
  obtain rfl := kl_v0 hv4
  obtain rfl : lay = xLay := hm.2.2.2.2.1
  have e : kR 75 R = R := m75_R hm
  obtain ⟨d, rfl⟩ : ∃ d', d = d' + 1 := ⟨d - 1, by have : 2 ≤ d := hd; omega⟩
  show sm_wp sm_P Sc (d + 1) 255 0 _ [] (xLay, I, L, R) (0, 0) _
  rw [← e]
  exact n75_reach (m75_nb hm) b1.2 (fun r => rfl)
theorem klk_20 {Sc : sm_C} : en_hold kl_tb2 klY sm_P Sc klc_20 := ky_lift klh_20 (by decide +kernel) klw_20
theorem klw_90 {Sc : sm_C} : ∀ (d : Nat), klc_90.2.2.2.2.2 ≤ d → ∀ (vs : List Value) (w : sm_W), en_pvs klc_90.2.1 vs → en_mem kl_tb klX w → sm_wp sm_P Sc d klc_90.1 0 vs [] w (0, 0) (fun z => z.2.2.2.1 = w.2.2.1) := by
  intro d hd vs w hv hm
  obtain ⟨lay, I, L, R⟩ := w
  obtain ⟨vs1, rfl, hv1⟩ := kl_vr (q := 83) rfl hv
  obtain ⟨x1, vs2, rfl, b1, hv2⟩ := kl_vi hv1
  obtain ⟨x2, vs3, rfl, b2, hv3⟩ := kl_vi hv2
  obtain ⟨x3, vs4, rfl, b3, hv4⟩ := kl_vi hv3
  obtain ⟨x4, vs5, rfl, b4, hv5⟩ := kl_vi hv4
  obtain rfl := kl_v0 hv5
  obtain rfl : lay = xLay := hm.2.2.2.2.1
  have e : kR 83 R = R := m83_R hm
  obtain ⟨d, rfl⟩ : ∃ d', d = d' + 1 := ⟨d - 1, by have : 2 ≤ d := hd; omega⟩
  show sm_wp sm_P Sc (d + 1) 256 0 _ [] (xLay, I, L, R) (0, 0) _
  rw [← e]
  exact n83_tighten (m83_nb hm) (m83_w hm).2 (m83_X hm) b1.2 (fun r I' hr o => rfl)
theorem klk_90 {Sc : sm_C} : en_hold kl_tb2 klY sm_P Sc klc_90 := ky_lift klh_90 (by decide +kernel) klw_90
theorem klw_105 {Sc : sm_C} : ∀ (d : Nat), klc_105.2.2.2.2.2 ≤ d → ∀ (vs : List Value) (w : sm_W), en_pvs klc_105.2.1 vs → en_mem kl_tb klX w → sm_wp sm_P Sc d klc_105.1 0 vs [] w (0, 0) (fun z => z.2.2.2.1 = w.2.2.1) := by
  intro d hd vs w hv hm
  obtain ⟨lay, I, L, R⟩ := w
  obtain ⟨vs1, rfl, hv1⟩ := kl_vr (q := 83) rfl hv
  obtain ⟨x1, vs2, rfl, b1, hv2⟩ := kl_vi hv1
  obtain rfl := kl_v0 hv2
  obtain rfl : lay = xLay := hm.2.2.2.2.1
  have e : kR 83 R = R := m83_R hm
  obtain ⟨d, rfl⟩ : ∃ d', d = d' + 1 := ⟨d - 1, by have : 2 ≤ d := hd; omega⟩
  show sm_wp sm_P Sc (d + 1) 248 0 _ [] (xLay, I, L, R) (0, 0) _
  rw [← e]
  exact n83_copyUp (m83_nb hm) b1.2 (fun I' o => rfl)
theorem klk_105 {Sc : sm_C} : en_hold kl_tb2 klY sm_P Sc klc_105 := ky_lift klh_105 (by decide +kernel) klw_105
theorem klw_113 {Sc : sm_C} : ∀ (d : Nat), klc_113.2.2.2.2.2 ≤ d → ∀ (vs : List Value) (w : sm_W), en_pvs klc_113.2.1 vs → en_mem kl_tb klX w → sm_wp sm_P Sc d klc_113.1 0 vs [] w (0, 0) (fun z => z.2.2.2.1 = w.2.2.1) := by
  intro d hd vs w hv hm
  obtain ⟨lay, I, L, R⟩ := w
  obtain ⟨vs1, rfl, hv1⟩ := kl_vr (q := 83) rfl hv
  obtain ⟨x1, vs2, rfl, b1, hv2⟩ := kl_vi hv1
  obtain ⟨x2, vs3, rfl, b2, hv3⟩ := kl_vi hv2
  obtain ⟨x3, vs4, rfl, b3, hv4⟩ := kl_vi hv3
  obtain rfl := kl_v0 hv4
  obtain rfl : lay = xLay := hm.2.2.2.2.1
  have e : kR 83 R = R := m83_R hm
  obtain ⟨d, rfl⟩ : ∃ d', d = d' + 1 := ⟨d - 1, by have : 2 ≤ d := hd; omega⟩
  show sm_wp sm_P Sc (d + 1) 255 0 _ [] (xLay, I, L, R) (0, 0) _
  rw [← e]
  exact n83_reach (m83_nb hm) b1.2 (fun r => rfl)
theorem klk_113 {Sc : sm_C} : en_hold kl_tb2 klY sm_P Sc klc_113 := ky_lift klh_113 (by decide +kernel) klw_113
theorem klw_92 {Sc : sm_C} : ∀ (d : Nat), klc_92.2.2.2.2.2 ≤ d → ∀ (vs : List Value) (w : sm_W), en_pvs klc_92.2.1 vs → en_mem kl_tb klX w → sm_wp sm_P Sc d klc_92.1 0 vs [] w (0, 0) (fun z => z.2.2.2.1 = w.2.2.1) := by
  intro d hd vs w hv hm
  obtain ⟨lay, I, L, R⟩ := w
  obtain ⟨vs1, rfl, hv1⟩ := kl_vr (q := 83) rfl hv
  obtain ⟨x1, vs2, rfl, b1, hv2⟩ := kl_vi hv1
  obtain rfl := kl_v0 hv2
  obtain rfl : lay = xLay := hm.2.2.2.2.1
  have e : kR 83 R = R := m83_R hm
  show sm_wp sm_P Sc d 247 0 _ [] (xLay, I, L, R) (0, 0) _
  rw [← e]
  exact n83_blank (m83_S hm) (by first | rfl | exact fun _ => rfl) (fun I' hb hn hw hs h2 => rfl)
theorem klk_92 {Sc : sm_C} : en_hold kl_tb2 klY sm_P Sc klc_92 := ky_lift klh_92 (by decide +kernel) klw_92
theorem klw_93 {Sc : sm_C} : ∀ (d : Nat), klc_93.2.2.2.2.2 ≤ d → ∀ (vs : List Value) (w : sm_W), en_pvs klc_93.2.1 vs → en_mem kl_tb klX w → sm_wp sm_P Sc d klc_93.1 0 vs [] w (0, 0) (fun z => z.2.2.2.1 = w.2.2.1) := by
  intro d hd vs w hv hm
  obtain ⟨lay, I, L, R⟩ := w
  obtain ⟨vs1, rfl, hv1⟩ := kl_vr (q := 83) rfl hv
  obtain ⟨x1, vs2, rfl, b1, hv2⟩ := kl_vi hv1
  obtain ⟨x2, vs3, rfl, b2, hv3⟩ := kl_vi hv2
  obtain ⟨x3, vs4, rfl, b3, hv4⟩ := kl_vi hv3
  obtain ⟨x4, vs5, rfl, b4, hv5⟩ := kl_vi hv4
  obtain rfl := kl_v0 hv5
  obtain rfl : lay = xLay := hm.2.2.2.2.1
  have e : kR 83 R = R := m83_R hm
  obtain ⟨d, rfl⟩ : ∃ d', d = d' + 1 := ⟨d - 1, by have : 1 ≤ d := hd; omega⟩
  show sm_wp sm_P Sc (d + 1) 254 0 _ [] (xLay, I, L, R) (0, 0) _
  rw [← e]
  exact n83_loose (m83_w hm).2 (fun I' hb h4 h5 hO hS => rfl)
theorem klk_93 {Sc : sm_C} : en_hold kl_tb2 klY sm_P Sc klc_93 := ky_lift klh_93 (by decide +kernel) klw_93
theorem klw_97 {Sc : sm_C} : ∀ (d : Nat), klc_97.2.2.2.2.2 ≤ d → ∀ (vs : List Value) (w : sm_W), en_pvs klc_97.2.1 vs → en_mem kl_tb klX w → sm_wp sm_P Sc d klc_97.1 0 vs [] w (0, 0) (fun z => z.2.2.2.1 = w.2.2.1) := by
  intro d hd vs w hv hm
  obtain ⟨lay, I, L, R⟩ := w
  obtain ⟨vs1, rfl, hv1⟩ := kl_vr (q := 91) rfl hv
  obtain ⟨x1, vs2, rfl, b1, hv2⟩ := kl_vi hv1
  obtain ⟨x2, vs3, rfl, b2, hv3⟩ := kl_vi hv2
  obtain ⟨x3, vs4, rfl, b3, hv4⟩ := kl_vi hv3
  obtain ⟨x4, vs5, rfl, b4, hv5⟩ := kl_vi hv4
  obtain rfl := kl_v0 hv5
  obtain rfl : lay = xLay := hm.2.2.2.2.1
  have e : kR 91 R = R := m91_R hm
  obtain ⟨d, rfl⟩ : ∃ d', d = d' + 1 := ⟨d - 1, by have : 2 ≤ d := hd; omega⟩
  show sm_wp sm_P Sc (d + 1) 256 0 _ [] (xLay, I, L, R) (0, 0) _
  rw [← e]
  exact n91_tighten (m91_nb hm) (m91_w hm).2 (m91_X hm) b1.2 (fun r I' hr o => rfl)
theorem klk_97 {Sc : sm_C} : en_hold kl_tb2 klY sm_P Sc klc_97 := ky_lift klh_97 (by decide +kernel) klw_97
theorem klw_120 {Sc : sm_C} : ∀ (d : Nat), klc_120.2.2.2.2.2 ≤ d → ∀ (vs : List Value) (w : sm_W), en_pvs klc_120.2.1 vs → en_mem kl_tb klX w → sm_wp sm_P Sc d klc_120.1 0 vs [] w (0, 0) (fun z => z.2.2.2.1 = w.2.2.1) := by
  intro d hd vs w hv hm
  obtain ⟨lay, I, L, R⟩ := w
  obtain ⟨vs1, rfl, hv1⟩ := kl_vr (q := 91) rfl hv
  obtain ⟨x1, vs2, rfl, b1, hv2⟩ := kl_vi hv1
  obtain rfl := kl_v0 hv2
  obtain rfl : lay = xLay := hm.2.2.2.2.1
  have e : kR 91 R = R := m91_R hm
  obtain ⟨d, rfl⟩ : ∃ d', d = d' + 1 := ⟨d - 1, by have : 2 ≤ d := hd; omega⟩
  show sm_wp sm_P Sc (d + 1) 248 0 _ [] (xLay, I, L, R) (0, 0) _
  rw [← e]
  exact n91_copyUp (m91_nb hm) b1.2 (fun I' o => rfl)
theorem klk_120 {Sc : sm_C} : en_hold kl_tb2 klY sm_P Sc klc_120 := ky_lift klh_120 (by decide +kernel) klw_120
theorem klw_117 {Sc : sm_C} : ∀ (d : Nat), klc_117.2.2.2.2.2 ≤ d → ∀ (vs : List Value) (w : sm_W), en_pvs klc_117.2.1 vs → en_mem kl_tb klX w → sm_wp sm_P Sc d klc_117.1 0 vs [] w (0, 0) (fun z => z.2.2.2.1 = w.2.2.1) := by
  intro d hd vs w hv hm
  obtain ⟨lay, I, L, R⟩ := w
  obtain ⟨vs1, rfl, hv1⟩ := kl_vr (q := 91) rfl hv
  obtain ⟨x1, vs2, rfl, b1, hv2⟩ := kl_vi hv1
  obtain ⟨x2, vs3, rfl, b2, hv3⟩ := kl_vi hv2
  obtain ⟨x3, vs4, rfl, b3, hv4⟩ := kl_vi hv3
  obtain rfl := kl_v0 hv4
  obtain rfl : lay = xLay := hm.2.2.2.2.1
  have e : kR 91 R = R := m91_R hm
  obtain ⟨d, rfl⟩ : ∃ d', d = d' + 1 := ⟨d - 1, by have : 2 ≤ d := hd; omega⟩
  show sm_wp sm_P Sc (d + 1) 255 0 _ [] (xLay, I, L, R) (0, 0) _
  rw [← e]
  exact n91_reach (m91_nb hm) b1.2 (fun r => rfl)
theorem klk_117 {Sc : sm_C} : en_hold kl_tb2 klY sm_P Sc klc_117 := ky_lift klh_117 (by decide +kernel) klw_117
theorem klw_99 {Sc : sm_C} : ∀ (d : Nat), klc_99.2.2.2.2.2 ≤ d → ∀ (vs : List Value) (w : sm_W), en_pvs klc_99.2.1 vs → en_mem kl_tb klX w → sm_wp sm_P Sc d klc_99.1 0 vs [] w (0, 0) (fun z => z.2.2.2.1 = w.2.2.1) := by
  intro d hd vs w hv hm
  obtain ⟨lay, I, L, R⟩ := w
  obtain ⟨vs1, rfl, hv1⟩ := kl_vr (q := 91) rfl hv
  obtain ⟨x1, vs2, rfl, b1, hv2⟩ := kl_vi hv1
  obtain rfl := kl_v0 hv2
  obtain rfl : lay = xLay := hm.2.2.2.2.1
  have e : kR 91 R = R := m91_R hm
  show sm_wp sm_P Sc d 247 0 _ [] (xLay, I, L, R) (0, 0) _
  rw [← e]
  exact n91_blank (m91_S hm) (by first | rfl | exact fun _ => rfl) (fun I' hb hn hw hs h2 => rfl)
theorem klk_99 {Sc : sm_C} : en_hold kl_tb2 klY sm_P Sc klc_99 := ky_lift klh_99 (by decide +kernel) klw_99
end
section
/-! isGoneThrough by contract, with what was gone through (wip/pe/mkY.py) -/
theorem kF12_74_r : ∀ t, t ∈ kF12_74l → (t.1 = 0 ∧ t.2.1 = 9 ∧ t.2.2 = 12) ∨ en_refs kl_tb t.1 t.2.1 = [t.2.2] := by decide +kernel
theorem kF12_74_eq {w : sm_W} (hm : en_mem kl_tb klX w) (h : w.2.2.2 0 9 = some 12) : kF12_74 w.2.2.2 = w.2.2.2 := by
  funext x j
  unfold kF12_74
  split
  · next t ht =>
    have mem := List.mem_of_find?_eq_some ht
    have pr := List.find?_some ht
    obtain ⟨p1, p2⟩ := Bool.and_eq_true_iff.mp pr
    have e1 : t.1 = x := Nat.eq_of_beq_eq_true p1
    have e2 : t.2.1 = j := Nat.eq_of_beq_eq_true p2
    rcases kF12_74_r t mem with ⟨q1, q2, q3⟩ | q
    · rw [← e1, ← e2, q1, q2, q3]; exact h.symm
    · obtain ⟨a, g1, g2⟩ := hm.2.2.1 t.1 t.2.1 (by rw [q]; exact List.cons_ne_nil _ _)
      rw [q] at g1
      rw [← e1, ← e2, g2, List.mem_singleton.mp g1]
  · rfl
theorem ig2_12_74 {Sc : sm_C} {d : Nat} {I : sm_I} {L : sm_L} {R : sm_R} {Φ : sm_Z → Prop} (m : en_mem kl_tb klX (xLay, I, L, R)) (g1 : R 0 9 = some 12) (g2 : kW 12 I) (g3 : GC 12 I L R) (h : ∀ (J : sm_I) (L' : sm_L) (R' : sm_R), R' 0 9 = some 12 → kW 12 J → R' 74 4 = some 12 → kall 12 (kys 12 J) (KF 12 J) J L' → KF 12 J = KF 12 I → kys 12 J = kys 12 I → ((I 0 12 ≠ 0 ∧ J = I ∧ L' = L ∧ R' = R) ∨ (I 0 12 = 0 ∧ g12_74_ifr I J ∧ g12_74_lfr L L' ∧ J 0 12 = 1 ∧ R' = kG12_74 R ∧ g12_74_l0 ((I 12 2).toNatClampNeg + 1) J)) → klv 12 J → Φ (some (.int (if (KF 12 I).2.2.2.2.1 = true then 0 else 1)), (xLay, J, L', R'))) : sm_wp sm_P Sc (d + 6) 56 0 [.ref 0] [] (xLay, I, L, R) (0, 0) Φ := by
  have s1 : I 74 1 = 0 := en_ofI (by
    have := m.2.1 74 1 (0, 0) (by decide +kernel)
    have a : (0 : Int) ≤ (I 74 1).toInt := this.1
    have b : (I 74 1).toInt ≤ 0 := this.2
    rw [kl_0]; omega)
  have eF : kF12_74 R = R := kF12_74_eq (w := (xLay, I, L, R)) m g1
  have g := g12_74_ig (S := Sc) (d := d) (I := I) (L := L) (R := R) (Φ := Φ) g2 s1 (fun e0 => by
    rcases g3 with e | ⟨-, k⟩
    · exact absurd e e0
    · exact k.1.2.1.2.2) (fun e0 => by
    rw [eF]
    rcases g3 with e | ⟨r4, k⟩
    · exact absurd e e0
    · exact h I L R g1 g2 r4 k.1 rfl rfl (Or.inl ⟨e0, rfl, rfl, rfl⟩) k.2) (fun e0 J L' fr lf j12 ka l0 => by
    have t : ∀ p j, (12 ≤ p ∧ p < 12 + 25) ∨ p = 37 ∨ (41 ≤ p ∧ p ≤ 44) → J p j = I p j := fun p j q => fr p j (by omega) (by omega) (by omega) (by omega) (by omega)
    refine h J L' (kG12_74 R) rfl (kW_cg (by decide) t g2) rfl ?_ (KF_cg (by decide) t) (kys_cg t) (Or.inr ⟨e0, fr, lf, j12, rfl, l0⟩) ?_
    · rw [kys_cg t, KF_cg (by decide) t]
      exact ka
    · have e3 : kn 12 J = (I 12 2).toNatClampNeg + 1 := by
        unfold kn
        rw [t 12 2 (by omega)]
      obtain ⟨l1, l2, ⟨l3, l4, l5, l6⟩, l7⟩ := l0
      unfold klv
      rw [e3]
      refine ⟨l1, l2, ⟨l4, l5, l6⟩, ?_⟩
      rcases l7 with ⟨-, l7⟩ | ⟨-, l7⟩
      · exact Or.inl ⟨l3, l7⟩
      · exact Or.inr ⟨0, fun _ => 0, Nat.zero_le _, by rw [l3]; rfl, fun k hk => absurd hk (Nat.not_lt_zero k), fun j hj => by
          rw [Nat.le_zero.mp hj]
          exact l7⟩)
  rw [eF] at g
  exact g
theorem ig_12_74 {Sc : sm_C} {d : Nat} {I : sm_I} {L : sm_L} {R : sm_R} {Φ : sm_Z → Prop} (m : en_mem kl_tb klX (xLay, I, L, R)) (g1 : R 0 9 = some 12) (g2 : kW 12 I) (g3 : GC 12 I L R) (h : ∀ (J : sm_I) (L' : sm_L) (R' : sm_R), R' 0 9 = some 12 → kW 12 J → R' 74 4 = some 12 → kall 12 (kys 12 J) (KF 12 J) J L' → KF 12 J = KF 12 I → kys 12 J = kys 12 I → ((I 0 12 ≠ 0 ∧ J = I ∧ L' = L ∧ R' = R) ∨ (I 0 12 = 0 ∧ g12_74_ifr I J ∧ g12_74_lfr L L' ∧ J 0 12 = 1 ∧ R' = kG12_74 R ∧ g12_74_l0 ((I 12 2).toNatClampNeg + 1) J)) → Φ (some (.int (if (KF 12 I).2.2.2.2.1 = true then 0 else 1)), (xLay, J, L', R'))) : sm_wp sm_P Sc (d + 6) 56 0 [.ref 0] [] (xLay, I, L, R) (0, 0) Φ := ig2_12_74 m g1 g2 g3 (fun J L' R' a1 a2 a3 a4 a5 a6 a7 _ => h J L' R' a1 a2 a3 a4 a5 a6 a7)
theorem kF49_74_r : ∀ t, t ∈ kF49_74l → (t.1 = 0 ∧ t.2.1 = 9 ∧ t.2.2 = 49) ∨ en_refs kl_tb t.1 t.2.1 = [t.2.2] := by decide +kernel
theorem kF49_74_eq {w : sm_W} (hm : en_mem kl_tb klX w) (h : w.2.2.2 0 9 = some 49) : kF49_74 w.2.2.2 = w.2.2.2 := by
  funext x j
  unfold kF49_74
  split
  · next t ht =>
    have mem := List.mem_of_find?_eq_some ht
    have pr := List.find?_some ht
    obtain ⟨p1, p2⟩ := Bool.and_eq_true_iff.mp pr
    have e1 : t.1 = x := Nat.eq_of_beq_eq_true p1
    have e2 : t.2.1 = j := Nat.eq_of_beq_eq_true p2
    rcases kF49_74_r t mem with ⟨q1, q2, q3⟩ | q
    · rw [← e1, ← e2, q1, q2, q3]; exact h.symm
    · obtain ⟨a, g1, g2⟩ := hm.2.2.1 t.1 t.2.1 (by rw [q]; exact List.cons_ne_nil _ _)
      rw [q] at g1
      rw [← e1, ← e2, g2, List.mem_singleton.mp g1]
  · rfl
theorem ig2_49_74 {Sc : sm_C} {d : Nat} {I : sm_I} {L : sm_L} {R : sm_R} {Φ : sm_Z → Prop} (m : en_mem kl_tb klX (xLay, I, L, R)) (g1 : R 0 9 = some 49) (g2 : kW 49 I) (g3 : GC 49 I L R) (h : ∀ (J : sm_I) (L' : sm_L) (R' : sm_R), R' 0 9 = some 49 → kW 49 J → R' 74 4 = some 49 → kall 49 (kys 49 J) (KF 49 J) J L' → KF 49 J = KF 49 I → kys 49 J = kys 49 I → ((I 0 12 ≠ 0 ∧ J = I ∧ L' = L ∧ R' = R) ∨ (I 0 12 = 0 ∧ g49_74_ifr I J ∧ g49_74_lfr L L' ∧ J 0 12 = 1 ∧ R' = kG49_74 R ∧ g49_74_l0 ((I 49 2).toNatClampNeg + 1) J)) → klv 49 J → Φ (some (.int (if (KF 49 I).2.2.2.2.1 = true then 0 else 1)), (xLay, J, L', R'))) : sm_wp sm_P Sc (d + 6) 56 0 [.ref 0] [] (xLay, I, L, R) (0, 0) Φ := by
  have s1 : I 74 1 = 0 := en_ofI (by
    have := m.2.1 74 1 (0, 0) (by decide +kernel)
    have a : (0 : Int) ≤ (I 74 1).toInt := this.1
    have b : (I 74 1).toInt ≤ 0 := this.2
    rw [kl_0]; omega)
  have eF : kF49_74 R = R := kF49_74_eq (w := (xLay, I, L, R)) m g1
  have g := g49_74_ig (S := Sc) (d := d) (I := I) (L := L) (R := R) (Φ := Φ) g2 s1 (fun e0 => by
    rcases g3 with e | ⟨-, k⟩
    · exact absurd e e0
    · exact k.1.2.1.2.2) (fun e0 => by
    rw [eF]
    rcases g3 with e | ⟨r4, k⟩
    · exact absurd e e0
    · exact h I L R g1 g2 r4 k.1 rfl rfl (Or.inl ⟨e0, rfl, rfl, rfl⟩) k.2) (fun e0 J L' fr lf j12 ka l0 => by
    have t : ∀ p j, (49 ≤ p ∧ p < 49 + 25) ∨ p = 37 ∨ (41 ≤ p ∧ p ≤ 44) → J p j = I p j := fun p j q => fr p j (by omega) (by omega) (by omega) (by omega) (by omega)
    refine h J L' (kG49_74 R) rfl (kW_cg (by decide) t g2) rfl ?_ (KF_cg (by decide) t) (kys_cg t) (Or.inr ⟨e0, fr, lf, j12, rfl, l0⟩) ?_
    · rw [kys_cg t, KF_cg (by decide) t]
      exact ka
    · have e3 : kn 49 J = (I 49 2).toNatClampNeg + 1 := by
        unfold kn
        rw [t 49 2 (by omega)]
      obtain ⟨l1, l2, ⟨l3, l4, l5, l6⟩, l7⟩ := l0
      unfold klv
      rw [e3]
      refine ⟨l1, l2, ⟨l4, l5, l6⟩, ?_⟩
      rcases l7 with ⟨-, l7⟩ | ⟨-, l7⟩
      · exact Or.inl ⟨l3, l7⟩
      · exact Or.inr ⟨0, fun _ => 0, Nat.zero_le _, by rw [l3]; rfl, fun k hk => absurd hk (Nat.not_lt_zero k), fun j hj => by
          rw [Nat.le_zero.mp hj]
          exact l7⟩)
  rw [eF] at g
  exact g
theorem ig_49_74 {Sc : sm_C} {d : Nat} {I : sm_I} {L : sm_L} {R : sm_R} {Φ : sm_Z → Prop} (m : en_mem kl_tb klX (xLay, I, L, R)) (g1 : R 0 9 = some 49) (g2 : kW 49 I) (g3 : GC 49 I L R) (h : ∀ (J : sm_I) (L' : sm_L) (R' : sm_R), R' 0 9 = some 49 → kW 49 J → R' 74 4 = some 49 → kall 49 (kys 49 J) (KF 49 J) J L' → KF 49 J = KF 49 I → kys 49 J = kys 49 I → ((I 0 12 ≠ 0 ∧ J = I ∧ L' = L ∧ R' = R) ∨ (I 0 12 = 0 ∧ g49_74_ifr I J ∧ g49_74_lfr L L' ∧ J 0 12 = 1 ∧ R' = kG49_74 R ∧ g49_74_l0 ((I 49 2).toNatClampNeg + 1) J)) → Φ (some (.int (if (KF 49 I).2.2.2.2.1 = true then 0 else 1)), (xLay, J, L', R'))) : sm_wp sm_P Sc (d + 6) 56 0 [.ref 0] [] (xLay, I, L, R) (0, 0) Φ := ig2_49_74 m g1 g2 g3 (fun J L' R' a1 a2 a3 a4 a5 a6 a7 _ => h J L' R' a1 a2 a3 a4 a5 a6 a7)
theorem klk_205 {Sc : sm_C} : en_hold kl_tb2 klY sm_P Sc klc_205 := by
  intro d hd vs w hv hm hp
  have m := ky_dn hm
  have hv0 := hv
  obtain ⟨qt, hq, g1, g2, g3⟩ := ky_gk hm
  obtain ⟨lay, I, L, R⟩ := w
  obtain ⟨vs1, rfl, hv1⟩ := kl_vr (q := 0) rfl hv
  obtain rfl := kl_v0 hv1
  obtain rfl : lay = xLay := m.2.2.2.2.1
  have hd6 : 6 ≤ d := hd
  obtain ⟨d, rfl⟩ : ∃ d', d = d' + 6 := ⟨d - 6, by omega⟩
  have A : sm_wp sm_P Sc (d + 6) 56 0 [.ref 0] [] (xLay, I, L, R) (0, 0) (fun z => GK z.2.2.1 z.2.2.2.1 z.2.2.2.2) := by
    rcases hq with e | e <;> subst e
    · exact ig2_12_74 m g1 g2 g3 (fun J L' R' a1 a2 a3 a4 _ _ _ a8 => ⟨12, Or.inl rfl, a1, a2, Or.inr ⟨a3, a4, a8⟩⟩)
    · exact ig2_49_74 m g1 g2 g3 (fun J L' R' a1 a2 a3 a4 _ _ _ a8 => ⟨49, Or.inr rfl, a1, a2, Or.inr ⟨a3, a4, a8⟩⟩)
  exact sm_wp_mono (sm_wp_and (klh_205 (d + 6) hd _ _ hv0 m hp) A) (fun z q => ⟨q.1.1, ky_up q.1.2.1 q.2, q.1.2.2⟩)
end
section
/-! levelOf and the asking by contract, with what was gone through (wip/pe/mkl2.py) -/
theorem sm_ciV {P : Nat → sm_M} {S : sm_C} {d g : Nat} {as : List Value} {w : sm_W} {cs : Nat × Nat} {lay : List (Nat × Nat)} {F : sm_R → sm_R} {C : Int32 → sm_I → sm_L → sm_R → Prop} {K : sm_Z → Prop} (h : sm_wp P S d g 0 as [] w cs (fun z => ∃ (r : Int32) (I2 : sm_I) (L2 : sm_L) (R2 : sm_R), z = (some (.int r), (lay, I2, L2, F R2)) ∧ C r I2 L2 R2)) (hC : ∀ (r : Int32) (I2 : sm_I) (L2 : sm_L) (R2 : sm_R), C r I2 L2 R2 → K (some (.int r), (lay, I2, L2, F R2))) : sm_wp P S d g 0 as [] w cs K := sm_wp_mono h (fun z q => by
  obtain ⟨r, I2, L2, R2, e, c⟩ := q
  rw [e]; exact hC r I2 L2 R2 c)
theorem pv12_X11_levelOf_0 {S : sm_C} {d : Nat} {Φ : sm_Z → Prop} {I : sm_I} {L : sm_L} {R : sm_R} {x1 : Int32} (h : ((0 ≤ x1 → sm_wp sm_P S d 56 0 [.ref 0] [] (xLay, I, L, (kF12_74 R)) (0, 0) (fun z => ∃ (r4 : Int32) (I1 : sm_I) (L2 : sm_L) (R3 : sm_R), z = (some (.int r4), (xLay, I1, L2, (kG12_74 R3))) ∧ ((r4 = 0 → Φ (some (.int (-3 : Int32)), (xLay, I1, L2, (kG12_74 R3)))) ∧ (¬ r4 = 0 → ((x1 < (I1 74 14) → sm_wp sm_P S d 222 0 [.ref 74, .ref 45, .int x1] [] (xLay, I1, L2, (kG12_74 R3)) (0, 0) (fun z => ∃ (r8 : Int32) (I5 : sm_I) (L6 : sm_L) (R7 : sm_R), z = (some (.int r8), (xLay, I5, L6, (kG12_74 R7))) ∧ Φ (some (.int (I5 74 11)), (xLay, I5, L6, (kG12_74 R7))))) ∧ (¬ x1 < (I1 74 14) → Φ (some (.int (-1 : Int32)), (xLay, I1, L2, (kG12_74 R3))))))))) ∧ (¬ 0 ≤ x1 → Φ (some (.int (-1 : Int32)), (xLay, I, L, (kF12_74 R)))))) : sm_wp sm_P S (d + 1) 68 0 [.ref 0, .int x1] [] (xLay, I, L, (kF12_74 R)) (0, 0) Φ := sm_wp_step (⟨fun q13 => sm_ciV (((h).1 q13)) (fun r4 I1 L2 R3 q12 => ⟨fun q11 => ((q12).1 q11), fun q11 => ⟨fun q10 => sm_ciV (((((q12).2 q11)).1 q10)) (fun r8 I5 L6 R7 q9 => q9), fun q10 => ((((q12).2 q11)).2 q10)⟩⟩), fun q13 => ((h).2 q13)⟩)
theorem pv49_X11_levelOf_0 {S : sm_C} {d : Nat} {Φ : sm_Z → Prop} {I : sm_I} {L : sm_L} {R : sm_R} {x1 : Int32} (h : ((0 ≤ x1 → sm_wp sm_P S d 56 0 [.ref 0] [] (xLay, I, L, (kF49_74 R)) (0, 0) (fun z => ∃ (r4 : Int32) (I1 : sm_I) (L2 : sm_L) (R3 : sm_R), z = (some (.int r4), (xLay, I1, L2, (kG49_74 R3))) ∧ ((r4 = 0 → Φ (some (.int (-3 : Int32)), (xLay, I1, L2, (kG49_74 R3)))) ∧ (¬ r4 = 0 → ((x1 < (I1 74 14) → sm_wp sm_P S d 222 0 [.ref 74, .ref 45, .int x1] [] (xLay, I1, L2, (kG49_74 R3)) (0, 0) (fun z => ∃ (r8 : Int32) (I5 : sm_I) (L6 : sm_L) (R7 : sm_R), z = (some (.int r8), (xLay, I5, L6, (kG49_74 R7))) ∧ Φ (some (.int (I5 74 11)), (xLay, I5, L6, (kG49_74 R7))))) ∧ (¬ x1 < (I1 74 14) → Φ (some (.int (-1 : Int32)), (xLay, I1, L2, (kG49_74 R3))))))))) ∧ (¬ 0 ≤ x1 → Φ (some (.int (-1 : Int32)), (xLay, I, L, (kF49_74 R)))))) : sm_wp sm_P S (d + 1) 68 0 [.ref 0, .int x1] [] (xLay, I, L, (kF49_74 R)) (0, 0) Φ := sm_wp_step (⟨fun q13 => sm_ciV (((h).1 q13)) (fun r4 I1 L2 R3 q12 => ⟨fun q11 => ((q12).1 q11), fun q11 => ⟨fun q10 => sm_ciV (((((q12).2 q11)).1 q10)) (fun r8 I5 L6 R7 q9 => q9), fun q10 => ((((q12).2 q11)).2 q10)⟩⟩), fun q13 => ((h).2 q13)⟩)
theorem kGG12_l : ∀ t, t ∈ kG12_74l → kG12_74l.find? (fun s => Nat.beq s.1 t.1 && Nat.beq s.2.1 t.2.1) = some t := by decide +kernel
theorem kGG12 (R : sm_R) : kG12_74 (kG12_74 R) = kG12_74 R := by
  funext x j
  show (match kG12_74l.find? (fun t => Nat.beq t.1 x && Nat.beq t.2.1 j) with
    | some t => some t.2.2
    | none => kG12_74 R x j) = kG12_74 R x j
  split
  · next t ht =>
    have mem := List.mem_of_find?_eq_some ht
    have pr := List.find?_some ht
    obtain ⟨p1, p2⟩ := Bool.and_eq_true_iff.mp pr
    have e1 : t.1 = x := Nat.eq_of_beq_eq_true p1
    have e2 : t.2.1 = j := Nat.eq_of_beq_eq_true p2
    rw [← e1, ← e2]
    unfold kG12_74
    rw [kGG12_l t mem]
  · rfl
/-- what levelOf leaves -/
def XV12 (I : sm_I) (R : sm_R) (J : sm_I) (L' : sm_L) (R' : sm_R) : Prop := R' 0 9 = R 0 9 ∧ R' 2 6 = R 2 6 ∧ (∀ p j, lkC p j → J p j = I p j) ∧ kall 12 (kys 12 I) (KF 12 I) J L' ∧ klv 12 J ∧ kG12_74 R' = R' ∧ J 0 12 ≠ 0 ∧ R' 74 4 = some 12
theorem lkC_t {Q : Nat} (hQ : Q = 12 ∨ Q = 49) {p j : Nat} (q : (Q ≤ p ∧ p < Q + 25) ∨ p = 37 ∨ (41 ≤ p ∧ p ≤ 44)) : lkC p j := by unfold lkC; omega
theorem lvX12 {S : sm_C} {d : Nat} {I : sm_I} {L : sm_L} {R : sm_R} {Φ : sm_Z → Prop} {x : Int32} (m : en_mem kl_tb klX (xLay, I, L, R)) (g1 : R 0 9 = some 12) (g2 : kW 12 I) (g3 : GC 12 I L R) (h0 : x.toInt < 0 → Φ (some (.int (-1)), (xLay, I, L, R))) (h1 : ∀ (r : Int32) (J : sm_I) (L' : sm_L) (R' : sm_R), 0 ≤ x.toInt → XV12 I R J L' R' → (((KF 12 I).2.2.2.2.1 = true ∧ r = -3) ∨ ((KF 12 I).2.2.2.2.1 = false ∧ (((KF 12 I).2.2.2.1 ≤ x.toInt ∧ r = -1) ∨ (x.toInt < (KF 12 I).2.2.2.1 ∧ r.toInt = (kys 12 I).length ∧ ttop (kn 12 I) (cl (kB0 12 I) (kC0 12 I) (kwy 12 I x.toNatClampNeg) (kys 12 I).length) (nT J (kn 12 I) (kys 12 I).length))))) → Φ (some (.int r), (xLay, J, L', R'))) : sm_wp sm_P S (d + 6 + 1) 68 0 [.ref 0, .int x] [] (xLay, I, L, R) (0, 0) Φ := by
  have eF : kF12_74 R = R := kF12_74_eq (w := (xLay, I, L, R)) m g1
  have go : sm_wp sm_P S (d + 6) 56 0 [.ref 0] [] (xLay, I, L, R) (0, 0) (fun z => ∃ (J : sm_I) (L' : sm_L) (R' : sm_R), z = (some (.int (if (KF 12 I).2.2.2.2.1 = true then 0 else 1)), (xLay, J, L', R')) ∧ XV12 I R J L' R') := by
    refine ig2_12_74 m g1 g2 g3 (fun J L' R' a1 a2 a3 a4 a5 a6 a7 a8 => ⟨J, L', R', rfl, ?_⟩)
    rw [a5, a6] at a4
    rcases a7 with ⟨b1, b2, b3, b4⟩ | ⟨b1, b2, b3, b4, b5, b6⟩
    · subst b2
      subst b3
      subst b4
      exact ⟨rfl, rfl, fun _ _ _ => rfl, a4, a8, kG12_74_eq (w := (xLay, J, L', R')) m g1 a3, b1, a3⟩
    · have eG : kG12_74 (kG12_74 R) = kG12_74 R := by
        funext p j
        have e := congrFun (congrFun (kGG12 R) p) j
        exact e
      refine ⟨by rw [b5]; exact g1.symm, by rw [b5]; rfl, fun p j q => b2 p j ?_ ?_ ?_ ?_ ?_, a4, a8, by rw [b5]; exact eG, by rw [b4]; decide, a3⟩
      · unfold lkC at q; omega
      · unfold lkC at q; omega
      · unfold lkC at q; omega
      · unfold lkC at q; omega
      · unfold lkC at q; omega
  have g : sm_wp sm_P S (d + 6 + 1) 68 0 [.ref 0, .int x] [] (xLay, I, L, kF12_74 R) (0, 0) Φ := by
    refine pv12_X11_levelOf_0 ⟨fun c => ?_, fun c => ?_⟩
    · have c0 : 0 ≤ x.toInt := by have := kl_le.mp c; rw [kl_0] at this; exact this
      rw [eF]
      refine sm_wp_mono go (fun z q => ?_)
      obtain ⟨J, L', R', ez, xv⟩ := q
      subst ez
      obtain ⟨x1, x2, x3, x4, x5, x6, x7, x8⟩ := id xv
      refine ⟨_, J, L', R', by rw [x6], fun u => ?_, fun u => ⟨fun c2 => ?_, fun c2 => ?_⟩⟩
      · rw [x6]
        refine h1 _ J L' R' c0 xv (Or.inl ⟨?_, rfl⟩)
        cases v : (KF 12 I).2.2.2.2.1 with
        | true => rfl
        | false => rw [v] at u; exact absurd u (by decide)
      · have v : (KF 12 I).2.2.2.2.1 = false := by
          cases v : (KF 12 I).2.2.2.2.1 with
          | true => rw [if_pos v] at u; exact absurd rfl u
          | false => rfl
        have cf := Int32.lt_iff_toInt_lt.mp c2
        rw [x4.2.1.2.1] at cf
        have nx := kl_nat c0
        have t : ∀ p j, (12 ≤ p ∧ p < 12 + 25) ∨ p = 37 ∨ (41 ≤ p ∧ p ≤ 44) → J p j = I p j := fun p j q => x3 p j (lkC_t (by decide) q)
        obtain ⟨e1, e2, e3⟩ := kB0_cg (Q := 12) (by decide) t
        have eK := KF_cg (Q := 12) (by decide) t
        have ey := kys_cg (Q := 12) t
        refine br12 (d := d + 2) (w := x.toNatClampNeg) (kW_cg (by decide) t g2) (by rw [ey, eK]; exact x4) x5 (by rw [eK]; omega) nx.symm (fun J2 f b => ⟨_, J2, L', R', by rw [x6], ?_⟩)
        rw [x6]
        have lv2 : klv 12 J2 := klv_br (by decide) f b x5
        have a11 : J2 74 11 = J 74 11 := f 74 11 (by omega) (by omega) (by omega)
        refine h1 _ J2 L' R' c0 ⟨x1, x2, fun p j q => (f p j (by unfold lkC at q; omega) (by unfold lkC at q; omega) (by unfold lkC at q; omega)).trans (x3 p j q), ?_, lv2, x6, by rw [f 0 12 (by omega) (by omega) (by omega)]; exact x7, x8⟩ (Or.inr ⟨v, Or.inr ⟨cf, by rw [a11]; exact x4.1.1, ?_⟩⟩)
        · exact kall_cg (fun p j q => f p j (by omega) (by omega) (by omega)) (fun _ => rfl) x4
        · have bt := b.2.2 _ (Nat.le_refl _)
          unfold kwy at bt ⊢
          rw [e1, e2, e3, ey, eK] at bt
          exact bt
      · rw [x6]
        refine h1 _ J L' R' c0 xv (Or.inr ⟨?_, Or.inl ⟨?_, rfl⟩⟩)
        · cases v : (KF 12 I).2.2.2.2.1 with
          | true => rw [if_pos v] at u; exact absurd rfl u
          | false => rfl
        · rw [← x4.2.1.2.1]
          exact kl_nlt c2
    · rw [eF]
      exact h0 (by have := kl_nle c; rw [kl_0] at this; exact this)
  rw [eF] at g
  exact g
theorem kGG49_l : ∀ t, t ∈ kG49_74l → kG49_74l.find? (fun s => Nat.beq s.1 t.1 && Nat.beq s.2.1 t.2.1) = some t := by decide +kernel
theorem kGG49 (R : sm_R) : kG49_74 (kG49_74 R) = kG49_74 R := by
  funext x j
  show (match kG49_74l.find? (fun t => Nat.beq t.1 x && Nat.beq t.2.1 j) with
    | some t => some t.2.2
    | none => kG49_74 R x j) = kG49_74 R x j
  split
  · next t ht =>
    have mem := List.mem_of_find?_eq_some ht
    have pr := List.find?_some ht
    obtain ⟨p1, p2⟩ := Bool.and_eq_true_iff.mp pr
    have e1 : t.1 = x := Nat.eq_of_beq_eq_true p1
    have e2 : t.2.1 = j := Nat.eq_of_beq_eq_true p2
    rw [← e1, ← e2]
    unfold kG49_74
    rw [kGG49_l t mem]
  · rfl
/-- what levelOf leaves -/
def XV49 (I : sm_I) (R : sm_R) (J : sm_I) (L' : sm_L) (R' : sm_R) : Prop := R' 0 9 = R 0 9 ∧ R' 2 6 = R 2 6 ∧ (∀ p j, lkC p j → J p j = I p j) ∧ kall 49 (kys 49 I) (KF 49 I) J L' ∧ klv 49 J ∧ kG49_74 R' = R' ∧ J 0 12 ≠ 0 ∧ R' 74 4 = some 49
theorem lvX49 {S : sm_C} {d : Nat} {I : sm_I} {L : sm_L} {R : sm_R} {Φ : sm_Z → Prop} {x : Int32} (m : en_mem kl_tb klX (xLay, I, L, R)) (g1 : R 0 9 = some 49) (g2 : kW 49 I) (g3 : GC 49 I L R) (h0 : x.toInt < 0 → Φ (some (.int (-1)), (xLay, I, L, R))) (h1 : ∀ (r : Int32) (J : sm_I) (L' : sm_L) (R' : sm_R), 0 ≤ x.toInt → XV49 I R J L' R' → (((KF 49 I).2.2.2.2.1 = true ∧ r = -3) ∨ ((KF 49 I).2.2.2.2.1 = false ∧ (((KF 49 I).2.2.2.1 ≤ x.toInt ∧ r = -1) ∨ (x.toInt < (KF 49 I).2.2.2.1 ∧ r.toInt = (kys 49 I).length ∧ ttop (kn 49 I) (cl (kB0 49 I) (kC0 49 I) (kwy 49 I x.toNatClampNeg) (kys 49 I).length) (nT J (kn 49 I) (kys 49 I).length))))) → Φ (some (.int r), (xLay, J, L', R'))) : sm_wp sm_P S (d + 6 + 1) 68 0 [.ref 0, .int x] [] (xLay, I, L, R) (0, 0) Φ := by
  have eF : kF49_74 R = R := kF49_74_eq (w := (xLay, I, L, R)) m g1
  have go : sm_wp sm_P S (d + 6) 56 0 [.ref 0] [] (xLay, I, L, R) (0, 0) (fun z => ∃ (J : sm_I) (L' : sm_L) (R' : sm_R), z = (some (.int (if (KF 49 I).2.2.2.2.1 = true then 0 else 1)), (xLay, J, L', R')) ∧ XV49 I R J L' R') := by
    refine ig2_49_74 m g1 g2 g3 (fun J L' R' a1 a2 a3 a4 a5 a6 a7 a8 => ⟨J, L', R', rfl, ?_⟩)
    rw [a5, a6] at a4
    rcases a7 with ⟨b1, b2, b3, b4⟩ | ⟨b1, b2, b3, b4, b5, b6⟩
    · subst b2
      subst b3
      subst b4
      exact ⟨rfl, rfl, fun _ _ _ => rfl, a4, a8, kG49_74_eq (w := (xLay, J, L', R')) m g1 a3, b1, a3⟩
    · have eG : kG49_74 (kG49_74 R) = kG49_74 R := by
        funext p j
        have e := congrFun (congrFun (kGG49 R) p) j
        exact e
      refine ⟨by rw [b5]; exact g1.symm, by rw [b5]; rfl, fun p j q => b2 p j ?_ ?_ ?_ ?_ ?_, a4, a8, by rw [b5]; exact eG, by rw [b4]; decide, a3⟩
      · unfold lkC at q; omega
      · unfold lkC at q; omega
      · unfold lkC at q; omega
      · unfold lkC at q; omega
      · unfold lkC at q; omega
  have g : sm_wp sm_P S (d + 6 + 1) 68 0 [.ref 0, .int x] [] (xLay, I, L, kF49_74 R) (0, 0) Φ := by
    refine pv49_X11_levelOf_0 ⟨fun c => ?_, fun c => ?_⟩
    · have c0 : 0 ≤ x.toInt := by have := kl_le.mp c; rw [kl_0] at this; exact this
      rw [eF]
      refine sm_wp_mono go (fun z q => ?_)
      obtain ⟨J, L', R', ez, xv⟩ := q
      subst ez
      obtain ⟨x1, x2, x3, x4, x5, x6, x7, x8⟩ := id xv
      refine ⟨_, J, L', R', by rw [x6], fun u => ?_, fun u => ⟨fun c2 => ?_, fun c2 => ?_⟩⟩
      · rw [x6]
        refine h1 _ J L' R' c0 xv (Or.inl ⟨?_, rfl⟩)
        cases v : (KF 49 I).2.2.2.2.1 with
        | true => rfl
        | false => rw [v] at u; exact absurd u (by decide)
      · have v : (KF 49 I).2.2.2.2.1 = false := by
          cases v : (KF 49 I).2.2.2.2.1 with
          | true => rw [if_pos v] at u; exact absurd rfl u
          | false => rfl
        have cf := Int32.lt_iff_toInt_lt.mp c2
        rw [x4.2.1.2.1] at cf
        have nx := kl_nat c0
        have t : ∀ p j, (49 ≤ p ∧ p < 49 + 25) ∨ p = 37 ∨ (41 ≤ p ∧ p ≤ 44) → J p j = I p j := fun p j q => x3 p j (lkC_t (by decide) q)
        obtain ⟨e1, e2, e3⟩ := kB0_cg (Q := 49) (by decide) t
        have eK := KF_cg (Q := 49) (by decide) t
        have ey := kys_cg (Q := 49) t
        refine br49 (d := d + 2) (w := x.toNatClampNeg) (kW_cg (by decide) t g2) (by rw [ey, eK]; exact x4) x5 (by rw [eK]; omega) nx.symm (fun J2 f b => ⟨_, J2, L', R', by rw [x6], ?_⟩)
        rw [x6]
        have lv2 : klv 49 J2 := klv_br (by decide) f b x5
        have a11 : J2 74 11 = J 74 11 := f 74 11 (by omega) (by omega) (by omega)
        refine h1 _ J2 L' R' c0 ⟨x1, x2, fun p j q => (f p j (by unfold lkC at q; omega) (by unfold lkC at q; omega) (by unfold lkC at q; omega)).trans (x3 p j q), ?_, lv2, x6, by rw [f 0 12 (by omega) (by omega) (by omega)]; exact x7, x8⟩ (Or.inr ⟨v, Or.inr ⟨cf, by rw [a11]; exact x4.1.1, ?_⟩⟩)
        · exact kall_cg (fun p j q => f p j (by omega) (by omega) (by omega)) (fun _ => rfl) x4
        · have bt := b.2.2 _ (Nat.le_refl _)
          unfold kwy at bt ⊢
          rw [e1, e2, e3, ey, eK] at bt
          exact bt
      · rw [x6]
        refine h1 _ J L' R' c0 xv (Or.inr ⟨?_, Or.inl ⟨?_, rfl⟩⟩)
        · cases v : (KF 49 I).2.2.2.2.1 with
          | true => rw [if_pos v] at u; exact absurd rfl u
          | false => rfl
        · rw [← x4.2.1.2.1]
          exact kl_nlt c2
    · rw [eF]
      exact h0 (by have := kl_nle c; rw [kl_0] at this; exact this)
  rw [eF] at g
  exact g
theorem klk_216 {Sc : sm_C} : en_hold kl_tb2 klY sm_P Sc klc_216 := by
  intro d hd vs w hv hm hp
  have m := ky_dn hm
  have hv0 := hv
  obtain ⟨qt, hq, g1, g2, g3⟩ := ky_gk hm
  obtain ⟨lay, I, L, R⟩ := w
  obtain ⟨vs1, rfl, hv1⟩ := kl_vr (q := 0) rfl hv
  obtain ⟨x1, vs2, rfl, b1, hv2⟩ := kl_vi hv1
  obtain rfl := kl_v0 hv2
  obtain rfl : lay = xLay := m.2.2.2.2.1
  have hd7 : 7 ≤ d := hd
  obtain ⟨d, rfl⟩ : ∃ d', d = d' + 6 + 1 := ⟨d - 7, by omega⟩
  have A : sm_wp sm_P Sc (d + 6 + 1) 68 0 [.ref 0, .int x1] [] (xLay, I, L, R) (0, 0) (fun z => GK z.2.2.1 z.2.2.2.1 z.2.2.2.2) := by
    rcases hq with e | e <;> subst e
    · exact lvX12 m g1 g2 g3 (fun _ => ⟨12, Or.inl rfl, g1, g2, g3⟩) (fun r J L' R' _ xv _ => by
        obtain ⟨y1, y2, y3, y4, y5, y6, y7, y8⟩ := xv
        have t : ∀ p j, (12 ≤ p ∧ p < 12 + 25) ∨ p = 37 ∨ (41 ≤ p ∧ p ≤ 44) → J p j = I p j := fun p j q => y3 p j (lkC_t (by decide) q)
        exact ⟨12, Or.inl rfl, y1.trans g1, kW_cg (by decide) t g2, Or.inr ⟨y8, by rw [kys_cg t, KF_cg (by decide) t]; exact y4, y5⟩⟩)
    · exact lvX49 m g1 g2 g3 (fun _ => ⟨49, Or.inr rfl, g1, g2, g3⟩) (fun r J L' R' _ xv _ => by
        obtain ⟨y1, y2, y3, y4, y5, y6, y7, y8⟩ := xv
        have t : ∀ p j, (49 ≤ p ∧ p < 49 + 25) ∨ p = 37 ∨ (41 ≤ p ∧ p ≤ 44) → J p j = I p j := fun p j q => y3 p j (lkC_t (by decide) q)
        exact ⟨49, Or.inr rfl, y1.trans g1, kW_cg (by decide) t g2, Or.inr ⟨y8, by rw [kys_cg t, KF_cg (by decide) t]; exact y4, y5⟩⟩)
  exact sm_wp_mono (sm_wp_and (klh_216 (d + 6 + 1) hd _ _ hv0 m hp) A) (fun z q => ⟨q.1.1, ky_up q.1.2.1 q.2, q.1.2.2⟩)
theorem nw_22 : ∀ p j, ((12 ≤ p ∧ p < 37) ∨ (49 ≤ p ∧ p < 74) ∨ p = 37 ∨ (41 ≤ p ∧ p ≤ 44) ∨ (p = 0 ∧ (j = 9 ∨ j = 12))) → en_wok klc_22.2.2.2.2.1 p j = false := fun p j h => by
  cases w : en_wok klc_22.2.2.2.2.1 p j with
  | false => rfl
  | true =>
    obtain ⟨q, q1, q2⟩ := List.any_eq_true.mp w
    have e : q.1 = p := Nat.eq_of_beq_eq_true (Bool.and_eq_true_iff.mp q2).1
    have z : ∀ q, q ∈ klc_22.2.2.2.2.1 → 74 ≤ q.1 := by decide
    have := z q q1
    omega
theorem klk_22 {Sc : sm_C} : en_hold kl_tb2 klY sm_P Sc klc_22 := by
  intro d hd vs w hv hm hp
  have m := ky_dn hm
  have hv0 := hv
  obtain ⟨qt, hq, g1, g2, g3⟩ := ky_gk hm
  obtain ⟨lay, I, L, R⟩ := w
  obtain ⟨vs1, rfl, hv1⟩ := kl_vr (q := 103) rfl hv
  obtain ⟨vs2, rfl, hv2⟩ := kl_vr (q := 12) rfl hv1
  obtain ⟨x2, vs3, rfl, b2, hv3⟩ := kl_vi hv2
  obtain ⟨x3, vs4, rfl, b3, hv4⟩ := kl_vi hv3
  obtain rfl := kl_v0 hv4
  obtain rfl : lay = xLay := m.2.2.2.2.1
  have hd7 : 6 ≤ d := hd
  obtain ⟨d, rfl⟩ : ∃ d', d = d' + 5 + 1 := ⟨d - 6, by omega⟩
  have K := klh_22 (Sc := Sc) (d + 5 + 1) hd _ _ hv0 m hp
  have A : GC qt I L R → sm_wp sm_P Sc (d + 5 + 1) 1 0 [.ref 103, .ref 12, .int x2, .int x3] [] (xLay, I, L, R) (0, 0) (fun z => en_fr klc_22.2.2.2.2.1 (xLay, I, L, R) z.2 → GK z.2.2.1 z.2.2.2.1 z.2.2.2.2) := fun g => by
    rcases g with e0 | ⟨r4, ka, kv⟩
    · refine sm_wp_mono K (fun z _ fr => ?_)
      have t : ∀ p j, (qt ≤ p ∧ p < qt + 25) ∨ p = 37 ∨ (41 ≤ p ∧ p ≤ 44) → z.2.2.1 p j = I p j := fun p j q => (fr.2 p j (nw_22 p j (by omega))).1
      exact ⟨qt, hq, (fr.2 0 9 (nw_22 0 9 (by omega))).2.trans g1, kW_cg hq t g2, Or.inl ((fr.2 0 12 (nw_22 0 12 (by omega))).1.trans e0)⟩
    · rcases hq with e | e <;> subst e
      · have eA : kA12_12 R = R := kA12_12_eq (w := (xLay, I, L, R)) m g1 r4
        have fin : ∀ (J : sm_I) (o : Option Value), af12_12 I J → as12_12 J L → (fun z : sm_Z => en_fr klc_22.2.2.2.2.1 (xLay, I, L, R) z.2 → GK z.2.2.1 z.2.2.2.1 z.2.2.2.2) (o, (xLay, J, L, R)) := fun J o af as _ => by
          have t := as12_12_t af
          exact ⟨12, Or.inl rfl, g1, as.1, Or.inr ⟨r4, as.2.1, as.2.2⟩⟩
        have s0 : as12_12 I L := ⟨g2, ka, kv⟩
        exact pw12_12_X0_answered_0 (d := d + 5) eA (ad12_12 (D := d + 5) eA (by omega) b2.1 (by have := b2.2; have e : x2.toInt ≤ 4 := this; omega) (fun r J af as => fin J _ af as) (KF 12 I).2.2.2.1 0 0 0 I kl_0 (by omega) (fun _ _ _ _ _ _ _ _ => rfl) s0)
      · have eA : kA49_12 R = R := kA49_12_eq (w := (xLay, I, L, R)) m g1 r4
        have fin : ∀ (J : sm_I) (o : Option Value), af49_12 I J → as49_12 J L → (fun z : sm_Z => en_fr klc_22.2.2.2.2.1 (xLay, I, L, R) z.2 → GK z.2.2.1 z.2.2.2.1 z.2.2.2.2) (o, (xLay, J, L, R)) := fun J o af as _ => by
          have t := as49_12_t af
          exact ⟨49, Or.inr rfl, g1, as.1, Or.inr ⟨r4, as.2.1, as.2.2⟩⟩
        have s0 : as49_12 I L := ⟨g2, ka, kv⟩
        exact pw49_12_X0_answered_0 (d := d + 5) eA (ad49_12 (D := d + 5) eA (by omega) b2.1 (by have := b2.2; have e : x2.toInt ≤ 4 := this; omega) (fun r J af as => fin J _ af as) (KF 49 I).2.2.2.1 0 0 0 I kl_0 (by omega) (fun _ _ _ _ _ _ _ _ => rfl) s0)
  exact sm_wp_mono (sm_wp_and K (A g3)) (fun z q => ⟨q.1.1, ky_up q.1.2.1 (q.2 q.1.2.2), q.1.2.2⟩)
theorem nw_23 : ∀ p j, ((12 ≤ p ∧ p < 37) ∨ (49 ≤ p ∧ p < 74) ∨ p = 37 ∨ (41 ≤ p ∧ p ≤ 44) ∨ (p = 0 ∧ (j = 9 ∨ j = 12))) → en_wok klc_23.2.2.2.2.1 p j = false := fun p j h => by
  cases w : en_wok klc_23.2.2.2.2.1 p j with
  | false => rfl
  | true =>
    obtain ⟨q, q1, q2⟩ := List.any_eq_true.mp w
    have e : q.1 = p := Nat.eq_of_beq_eq_true (Bool.and_eq_true_iff.mp q2).1
    have z : ∀ q, q ∈ klc_23.2.2.2.2.1 → 74 ≤ q.1 := by decide
    have := z q q1
    omega
theorem klk_23 {Sc : sm_C} : en_hold kl_tb2 klY sm_P Sc klc_23 := by
  intro d hd vs w hv hm hp
  have m := ky_dn hm
  have hv0 := hv
  obtain ⟨qt, hq, g1, g2, g3⟩ := ky_gk hm
  obtain ⟨lay, I, L, R⟩ := w
  obtain ⟨vs1, rfl, hv1⟩ := kl_vr (q := 103) rfl hv
  obtain ⟨vs2, rfl, hv2⟩ := kl_vr (q := 49) rfl hv1
  obtain ⟨x2, vs3, rfl, b2, hv3⟩ := kl_vi hv2
  obtain ⟨x3, vs4, rfl, b3, hv4⟩ := kl_vi hv3
  obtain rfl := kl_v0 hv4
  obtain rfl : lay = xLay := m.2.2.2.2.1
  have hd7 : 6 ≤ d := hd
  obtain ⟨d, rfl⟩ : ∃ d', d = d' + 5 + 1 := ⟨d - 6, by omega⟩
  have K := klh_23 (Sc := Sc) (d + 5 + 1) hd _ _ hv0 m hp
  have A : GC qt I L R → sm_wp sm_P Sc (d + 5 + 1) 1 0 [.ref 103, .ref 49, .int x2, .int x3] [] (xLay, I, L, R) (0, 0) (fun z => en_fr klc_23.2.2.2.2.1 (xLay, I, L, R) z.2 → GK z.2.2.1 z.2.2.2.1 z.2.2.2.2) := fun g => by
    rcases g with e0 | ⟨r4, ka, kv⟩
    · refine sm_wp_mono K (fun z _ fr => ?_)
      have t : ∀ p j, (qt ≤ p ∧ p < qt + 25) ∨ p = 37 ∨ (41 ≤ p ∧ p ≤ 44) → z.2.2.1 p j = I p j := fun p j q => (fr.2 p j (nw_23 p j (by omega))).1
      exact ⟨qt, hq, (fr.2 0 9 (nw_23 0 9 (by omega))).2.trans g1, kW_cg hq t g2, Or.inl ((fr.2 0 12 (nw_23 0 12 (by omega))).1.trans e0)⟩
    · rcases hq with e | e <;> subst e
      · have eA : kA12_49 R = R := kA12_49_eq (w := (xLay, I, L, R)) m g1 r4
        have fin : ∀ (J : sm_I) (o : Option Value), af12_49 I J → as12_49 J L → (fun z : sm_Z => en_fr klc_23.2.2.2.2.1 (xLay, I, L, R) z.2 → GK z.2.2.1 z.2.2.2.1 z.2.2.2.2) (o, (xLay, J, L, R)) := fun J o af as _ => by
          have t := as12_49_t af
          exact ⟨12, Or.inl rfl, g1, as.1, Or.inr ⟨r4, as.2.1, as.2.2⟩⟩
        have s0 : as12_49 I L := ⟨g2, ka, kv⟩
        exact pw12_49_X0_answered_0 (d := d + 5) eA (ad12_49 (D := d + 5) eA (by omega) b2.1 (by have := b2.2; have e : x2.toInt ≤ 4 := this; omega) (fun r J af as => fin J _ af as) (KF 12 I).2.2.2.1 0 0 0 I kl_0 (by omega) (fun _ _ _ _ _ _ _ _ => rfl) s0)
      · have eA : kA49_49 R = R := kA49_49_eq (w := (xLay, I, L, R)) m g1 r4
        have fin : ∀ (J : sm_I) (o : Option Value), af49_49 I J → as49_49 J L → (fun z : sm_Z => en_fr klc_23.2.2.2.2.1 (xLay, I, L, R) z.2 → GK z.2.2.1 z.2.2.2.1 z.2.2.2.2) (o, (xLay, J, L, R)) := fun J o af as _ => by
          have t := as49_49_t af
          exact ⟨49, Or.inr rfl, g1, as.1, Or.inr ⟨r4, as.2.1, as.2.2⟩⟩
        have s0 : as49_49 I L := ⟨g2, ka, kv⟩
        exact pw49_49_X0_answered_0 (d := d + 5) eA (ad49_49 (D := d + 5) eA (by omega) b2.1 (by have := b2.2; have e : x2.toInt ≤ 4 := this; omega) (fun r J af as => fin J _ af as) (KF 49 I).2.2.2.1 0 0 0 I kl_0 (by omega) (fun _ _ _ _ _ _ _ _ => rfl) s0)
  exact sm_wp_mono (sm_wp_and K (A g3)) (fun z q => ⟨q.1.1, ky_up q.1.2.1 (q.2 q.1.2.2), q.1.2.2⟩)
theorem nw_253 : ∀ p j, ((12 ≤ p ∧ p < 37) ∨ (49 ≤ p ∧ p < 74) ∨ p = 37 ∨ (41 ≤ p ∧ p ≤ 44) ∨ (p = 0 ∧ (j = 9 ∨ j = 12))) → en_wok klc_253.2.2.2.2.1 p j = false := fun p j h => by
  cases w : en_wok klc_253.2.2.2.2.1 p j with
  | false => rfl
  | true =>
    obtain ⟨q, q1, q2⟩ := List.any_eq_true.mp w
    have e : q.1 = p := Nat.eq_of_beq_eq_true (Bool.and_eq_true_iff.mp q2).1
    have z : ∀ q, q ∈ klc_253.2.2.2.2.1 → 74 ≤ q.1 := by decide
    have := z q q1
    omega
theorem klk_253 {Sc : sm_C} : en_hold kl_tb2 klY sm_P Sc klc_253 := by
  intro d hd vs w hv hm hp
  have m := ky_dn hm
  have hv0 := hv
  obtain ⟨qt, hq, g1, g2, g3⟩ := ky_gk hm
  obtain ⟨lay, I, L, R⟩ := w
  obtain ⟨vs1, rfl, hv1⟩ := kl_vr (q := 103) rfl hv
  obtain ⟨vs2, rfl, hv2⟩ := kl_vr (q := 12) rfl hv1
  obtain ⟨x2, vs3, rfl, b2, hv3⟩ := kl_vi hv2
  obtain ⟨x3, vs4, rfl, b3, hv4⟩ := kl_vi hv3
  obtain rfl := kl_v0 hv4
  obtain rfl : lay = xLay := m.2.2.2.2.1
  have hd7 : 10 ≤ d := hd
  obtain ⟨d, rfl⟩ : ∃ d', d = d' + 9 + 1 := ⟨d - 10, by omega⟩
  have K := klh_253 (Sc := Sc) (d + 9 + 1) hd _ _ hv0 m hp
  have A : GC qt I L R → sm_wp sm_P Sc (d + 9 + 1) 8 0 [.ref 103, .ref 12, .int x2, .int x3] [] (xLay, I, L, R) (0, 0) (fun z => en_fr klc_253.2.2.2.2.1 (xLay, I, L, R) z.2 → GK z.2.2.1 z.2.2.2.1 z.2.2.2.2) := fun g => by
    rcases g with e0 | ⟨r4, ka, kv⟩
    · refine sm_wp_mono K (fun z _ fr => ?_)
      have t : ∀ p j, (qt ≤ p ∧ p < qt + 25) ∨ p = 37 ∨ (41 ≤ p ∧ p ≤ 44) → z.2.2.1 p j = I p j := fun p j q => (fr.2 p j (nw_253 p j (by omega))).1
      exact ⟨qt, hq, (fr.2 0 9 (nw_253 0 9 (by omega))).2.trans g1, kW_cg hq t g2, Or.inl ((fr.2 0 12 (nw_253 0 12 (by omega))).1.trans e0)⟩
    · rcases hq with e | e <;> subst e
      · have eA : kA12_12 R = R := kA12_12_eq (w := (xLay, I, L, R)) m g1 r4
        have fin : ∀ (J : sm_I) (o : Option Value), af12_12 I J → as12_12 J L → (fun z : sm_Z => en_fr klc_253.2.2.2.2.1 (xLay, I, L, R) z.2 → GK z.2.2.1 z.2.2.2.1 z.2.2.2.2) (o, (xLay, J, L, R)) := fun J o af as _ => by
          have t := as12_12_t af
          exact ⟨12, Or.inl rfl, g1, as.1, Or.inr ⟨r4, as.2.1, as.2.2⟩⟩
        have s0 : as12_12 I L := ⟨g2, ka, kv⟩
        exact pw12_12_X0_leftWith_0 (d := d + 9) eA (lw12_12 (D := d + 9) eA (by omega) (fun r J af as => fin J _ af as) (KF 12 I).2.2.2.1 0 0 0 I kl_0 (by omega) (fun _ _ _ _ _ _ _ _ => rfl) s0)
      · have eA : kA49_12 R = R := kA49_12_eq (w := (xLay, I, L, R)) m g1 r4
        have fin : ∀ (J : sm_I) (o : Option Value), af49_12 I J → as49_12 J L → (fun z : sm_Z => en_fr klc_253.2.2.2.2.1 (xLay, I, L, R) z.2 → GK z.2.2.1 z.2.2.2.1 z.2.2.2.2) (o, (xLay, J, L, R)) := fun J o af as _ => by
          have t := as49_12_t af
          exact ⟨49, Or.inr rfl, g1, as.1, Or.inr ⟨r4, as.2.1, as.2.2⟩⟩
        have s0 : as49_12 I L := ⟨g2, ka, kv⟩
        exact pw49_12_X0_leftWith_0 (d := d + 9) eA (lw49_12 (D := d + 9) eA (by omega) (fun r J af as => fin J _ af as) (KF 49 I).2.2.2.1 0 0 0 I kl_0 (by omega) (fun _ _ _ _ _ _ _ _ => rfl) s0)
  exact sm_wp_mono (sm_wp_and K (A g3)) (fun z q => ⟨q.1.1, ky_up q.1.2.1 (q.2 q.1.2.2), q.1.2.2⟩)
theorem nw_260 : ∀ p j, ((12 ≤ p ∧ p < 37) ∨ (49 ≤ p ∧ p < 74) ∨ p = 37 ∨ (41 ≤ p ∧ p ≤ 44) ∨ (p = 0 ∧ (j = 9 ∨ j = 12))) → en_wok klc_260.2.2.2.2.1 p j = false := fun p j h => by
  cases w : en_wok klc_260.2.2.2.2.1 p j with
  | false => rfl
  | true =>
    obtain ⟨q, q1, q2⟩ := List.any_eq_true.mp w
    have e : q.1 = p := Nat.eq_of_beq_eq_true (Bool.and_eq_true_iff.mp q2).1
    have z : ∀ q, q ∈ klc_260.2.2.2.2.1 → 74 ≤ q.1 := by decide
    have := z q q1
    omega
theorem klk_260 {Sc : sm_C} : en_hold kl_tb2 klY sm_P Sc klc_260 := by
  intro d hd vs w hv hm hp
  have m := ky_dn hm
  have hv0 := hv
  obtain ⟨qt, hq, g1, g2, g3⟩ := ky_gk hm
  obtain ⟨lay, I, L, R⟩ := w
  obtain ⟨vs1, rfl, hv1⟩ := kl_vr (q := 103) rfl hv
  obtain ⟨vs2, rfl, hv2⟩ := kl_vr (q := 49) rfl hv1
  obtain ⟨x2, vs3, rfl, b2, hv3⟩ := kl_vi hv2
  obtain ⟨x3, vs4, rfl, b3, hv4⟩ := kl_vi hv3
  obtain rfl := kl_v0 hv4
  obtain rfl : lay = xLay := m.2.2.2.2.1
  have hd7 : 10 ≤ d := hd
  obtain ⟨d, rfl⟩ : ∃ d', d = d' + 9 + 1 := ⟨d - 10, by omega⟩
  have K := klh_260 (Sc := Sc) (d + 9 + 1) hd _ _ hv0 m hp
  have A : GC qt I L R → sm_wp sm_P Sc (d + 9 + 1) 8 0 [.ref 103, .ref 49, .int x2, .int x3] [] (xLay, I, L, R) (0, 0) (fun z => en_fr klc_260.2.2.2.2.1 (xLay, I, L, R) z.2 → GK z.2.2.1 z.2.2.2.1 z.2.2.2.2) := fun g => by
    rcases g with e0 | ⟨r4, ka, kv⟩
    · refine sm_wp_mono K (fun z _ fr => ?_)
      have t : ∀ p j, (qt ≤ p ∧ p < qt + 25) ∨ p = 37 ∨ (41 ≤ p ∧ p ≤ 44) → z.2.2.1 p j = I p j := fun p j q => (fr.2 p j (nw_260 p j (by omega))).1
      exact ⟨qt, hq, (fr.2 0 9 (nw_260 0 9 (by omega))).2.trans g1, kW_cg hq t g2, Or.inl ((fr.2 0 12 (nw_260 0 12 (by omega))).1.trans e0)⟩
    · rcases hq with e | e <;> subst e
      · have eA : kA12_49 R = R := kA12_49_eq (w := (xLay, I, L, R)) m g1 r4
        have fin : ∀ (J : sm_I) (o : Option Value), af12_49 I J → as12_49 J L → (fun z : sm_Z => en_fr klc_260.2.2.2.2.1 (xLay, I, L, R) z.2 → GK z.2.2.1 z.2.2.2.1 z.2.2.2.2) (o, (xLay, J, L, R)) := fun J o af as _ => by
          have t := as12_49_t af
          exact ⟨12, Or.inl rfl, g1, as.1, Or.inr ⟨r4, as.2.1, as.2.2⟩⟩
        have s0 : as12_49 I L := ⟨g2, ka, kv⟩
        exact pw12_49_X0_leftWith_0 (d := d + 9) eA (lw12_49 (D := d + 9) eA (by omega) (fun r J af as => fin J _ af as) (KF 12 I).2.2.2.1 0 0 0 I kl_0 (by omega) (fun _ _ _ _ _ _ _ _ => rfl) s0)
      · have eA : kA49_49 R = R := kA49_49_eq (w := (xLay, I, L, R)) m g1 r4
        have fin : ∀ (J : sm_I) (o : Option Value), af49_49 I J → as49_49 J L → (fun z : sm_Z => en_fr klc_260.2.2.2.2.1 (xLay, I, L, R) z.2 → GK z.2.2.1 z.2.2.2.1 z.2.2.2.2) (o, (xLay, J, L, R)) := fun J o af as _ => by
          have t := as49_49_t af
          exact ⟨49, Or.inr rfl, g1, as.1, Or.inr ⟨r4, as.2.1, as.2.2⟩⟩
        have s0 : as49_49 I L := ⟨g2, ka, kv⟩
        exact pw49_49_X0_leftWith_0 (d := d + 9) eA (lw49_49 (D := d + 9) eA (by omega) (fun r J af as => fin J _ af as) (KF 49 I).2.2.2.1 0 0 0 I kl_0 (by omega) (fun _ _ _ _ _ _ _ _ => rfl) s0)
  exact sm_wp_mono (sm_wp_and K (A g3)) (fun z q => ⟨q.1.1, ky_up q.1.2.1 (q.2 q.1.2.2), q.1.2.2⟩)
theorem nw_224 : ∀ p j, ((12 ≤ p ∧ p < 37) ∨ (49 ≤ p ∧ p < 74) ∨ p = 37 ∨ (41 ≤ p ∧ p ≤ 44) ∨ (p = 0 ∧ (j = 9 ∨ j = 12))) → en_wok klc_224.2.2.2.2.1 p j = false := fun p j h => by
  cases w : en_wok klc_224.2.2.2.2.1 p j with
  | false => rfl
  | true =>
    obtain ⟨q, q1, q2⟩ := List.any_eq_true.mp w
    have e : q.1 = p := Nat.eq_of_beq_eq_true (Bool.and_eq_true_iff.mp q2).1
    have z : ∀ q, q ∈ klc_224.2.2.2.2.1 → 74 ≤ q.1 := by decide
    have := z q q1
    omega
theorem klk_224 {Sc : sm_C} : en_hold kl_tb2 klY sm_P Sc klc_224 := by
  intro d hd vs w hv hm hp
  have m := ky_dn hm
  have hv0 := hv
  obtain ⟨qt, hq, g1, g2, g3⟩ := ky_gk hm
  obtain ⟨lay, I, L, R⟩ := w
  obtain ⟨vs1, rfl, hv1⟩ := kl_vr (q := 103) rfl hv
  obtain ⟨vs2, rfl, hv2⟩ := kl_vr (q := 12) rfl hv1
  obtain rfl := kl_v0 hv2
  obtain rfl : lay = xLay := m.2.2.2.2.1
  have hd7 : 10 ≤ d := hd
  obtain ⟨d, rfl⟩ : ∃ d', d = d' + 9 + 1 := ⟨d - 10, by omega⟩
  have K := klh_224 (Sc := Sc) (d + 9 + 1) hd _ _ hv0 m hp
  have A : GC qt I L R → sm_wp sm_P Sc (d + 9 + 1) 4 0 [.ref 103, .ref 12] [] (xLay, I, L, R) (0, 0) (fun z => en_fr klc_224.2.2.2.2.1 (xLay, I, L, R) z.2 → GK z.2.2.1 z.2.2.2.1 z.2.2.2.2) := fun g => by
    rcases g with e0 | ⟨r4, ka, kv⟩
    · refine sm_wp_mono K (fun z _ fr => ?_)
      have t : ∀ p j, (qt ≤ p ∧ p < qt + 25) ∨ p = 37 ∨ (41 ≤ p ∧ p ≤ 44) → z.2.2.1 p j = I p j := fun p j q => (fr.2 p j (nw_224 p j (by omega))).1
      exact ⟨qt, hq, (fr.2 0 9 (nw_224 0 9 (by omega))).2.trans g1, kW_cg hq t g2, Or.inl ((fr.2 0 12 (nw_224 0 12 (by omega))).1.trans e0)⟩
    · rcases hq with e | e <;> subst e
      · have eA : kA12_12 R = R := kA12_12_eq (w := (xLay, I, L, R)) m g1 r4
        have fin : ∀ (J : sm_I) (o : Option Value), af12_12 I J → as12_12 J L → (fun z : sm_Z => en_fr klc_224.2.2.2.2.1 (xLay, I, L, R) z.2 → GK z.2.2.1 z.2.2.2.1 z.2.2.2.2) (o, (xLay, J, L, R)) := fun J o af as _ => by
          have t := as12_12_t af
          exact ⟨12, Or.inl rfl, g1, as.1, Or.inr ⟨r4, as.2.1, as.2.2⟩⟩
        have s0 : as12_12 I L := ⟨g2, ka, kv⟩
        exact cs12_12 (D := d + 9) eA (by omega) (m.2.1 12 4 (0, 5) (by decide +kernel)) s0 (fun J af as => fin J _ af as)
      · have eA : kA49_12 R = R := kA49_12_eq (w := (xLay, I, L, R)) m g1 r4
        have fin : ∀ (J : sm_I) (o : Option Value), af49_12 I J → as49_12 J L → (fun z : sm_Z => en_fr klc_224.2.2.2.2.1 (xLay, I, L, R) z.2 → GK z.2.2.1 z.2.2.2.1 z.2.2.2.2) (o, (xLay, J, L, R)) := fun J o af as _ => by
          have t := as49_12_t af
          exact ⟨49, Or.inr rfl, g1, as.1, Or.inr ⟨r4, as.2.1, as.2.2⟩⟩
        have s0 : as49_12 I L := ⟨g2, ka, kv⟩
        exact cs49_12 (D := d + 9) eA (by omega) (m.2.1 12 4 (0, 5) (by decide +kernel)) s0 (fun J af as => fin J _ af as)
  exact sm_wp_mono (sm_wp_and K (A g3)) (fun z q => ⟨q.1.1, ky_up q.1.2.1 (q.2 q.1.2.2), q.1.2.2⟩)
theorem nw_225 : ∀ p j, ((12 ≤ p ∧ p < 37) ∨ (49 ≤ p ∧ p < 74) ∨ p = 37 ∨ (41 ≤ p ∧ p ≤ 44) ∨ (p = 0 ∧ (j = 9 ∨ j = 12))) → en_wok klc_225.2.2.2.2.1 p j = false := fun p j h => by
  cases w : en_wok klc_225.2.2.2.2.1 p j with
  | false => rfl
  | true =>
    obtain ⟨q, q1, q2⟩ := List.any_eq_true.mp w
    have e : q.1 = p := Nat.eq_of_beq_eq_true (Bool.and_eq_true_iff.mp q2).1
    have z : ∀ q, q ∈ klc_225.2.2.2.2.1 → 74 ≤ q.1 := by decide
    have := z q q1
    omega
theorem klk_225 {Sc : sm_C} : en_hold kl_tb2 klY sm_P Sc klc_225 := by
  intro d hd vs w hv hm hp
  have m := ky_dn hm
  have hv0 := hv
  obtain ⟨qt, hq, g1, g2, g3⟩ := ky_gk hm
  obtain ⟨lay, I, L, R⟩ := w
  obtain ⟨vs1, rfl, hv1⟩ := kl_vr (q := 103) rfl hv
  obtain ⟨vs2, rfl, hv2⟩ := kl_vr (q := 49) rfl hv1
  obtain rfl := kl_v0 hv2
  obtain rfl : lay = xLay := m.2.2.2.2.1
  have hd7 : 10 ≤ d := hd
  obtain ⟨d, rfl⟩ : ∃ d', d = d' + 9 + 1 := ⟨d - 10, by omega⟩
  have K := klh_225 (Sc := Sc) (d + 9 + 1) hd _ _ hv0 m hp
  have A : GC qt I L R → sm_wp sm_P Sc (d + 9 + 1) 4 0 [.ref 103, .ref 49] [] (xLay, I, L, R) (0, 0) (fun z => en_fr klc_225.2.2.2.2.1 (xLay, I, L, R) z.2 → GK z.2.2.1 z.2.2.2.1 z.2.2.2.2) := fun g => by
    rcases g with e0 | ⟨r4, ka, kv⟩
    · refine sm_wp_mono K (fun z _ fr => ?_)
      have t : ∀ p j, (qt ≤ p ∧ p < qt + 25) ∨ p = 37 ∨ (41 ≤ p ∧ p ≤ 44) → z.2.2.1 p j = I p j := fun p j q => (fr.2 p j (nw_225 p j (by omega))).1
      exact ⟨qt, hq, (fr.2 0 9 (nw_225 0 9 (by omega))).2.trans g1, kW_cg hq t g2, Or.inl ((fr.2 0 12 (nw_225 0 12 (by omega))).1.trans e0)⟩
    · rcases hq with e | e <;> subst e
      · have eA : kA12_49 R = R := kA12_49_eq (w := (xLay, I, L, R)) m g1 r4
        have fin : ∀ (J : sm_I) (o : Option Value), af12_49 I J → as12_49 J L → (fun z : sm_Z => en_fr klc_225.2.2.2.2.1 (xLay, I, L, R) z.2 → GK z.2.2.1 z.2.2.2.1 z.2.2.2.2) (o, (xLay, J, L, R)) := fun J o af as _ => by
          have t := as12_49_t af
          exact ⟨12, Or.inl rfl, g1, as.1, Or.inr ⟨r4, as.2.1, as.2.2⟩⟩
        have s0 : as12_49 I L := ⟨g2, ka, kv⟩
        exact cs12_49 (D := d + 9) eA (by omega) (m.2.1 49 4 (0, 5) (by decide +kernel)) s0 (fun J af as => fin J _ af as)
      · have eA : kA49_49 R = R := kA49_49_eq (w := (xLay, I, L, R)) m g1 r4
        have fin : ∀ (J : sm_I) (o : Option Value), af49_49 I J → as49_49 J L → (fun z : sm_Z => en_fr klc_225.2.2.2.2.1 (xLay, I, L, R) z.2 → GK z.2.2.1 z.2.2.2.1 z.2.2.2.2) (o, (xLay, J, L, R)) := fun J o af as _ => by
          have t := as49_49_t af
          exact ⟨49, Or.inr rfl, g1, as.1, Or.inr ⟨r4, as.2.1, as.2.2⟩⟩
        have s0 : as49_49 I L := ⟨g2, ka, kv⟩
        exact cs49_49 (D := d + 9) eA (by omega) (m.2.1 49 4 (0, 5) (by decide +kernel)) s0 (fun J af as => fin J _ af as)
  exact sm_wp_mono (sm_wp_and K (A g3)) (fun z q => ⟨q.1.1, ky_up q.1.2.1 (q.2 q.1.2.2), q.1.2.2⟩)
end
