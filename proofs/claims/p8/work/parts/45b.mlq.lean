/-! sets: as many QUARRELS as sets seen -/
theorem ml_and {x y : Int32} {m : Int} (h0 : 0 ≤ x.toInt) (h1 : x.toInt ≤ m) : 0 ≤ (x &&& y).toInt ∧ (x &&& y).toInt ≤ m := by
  have r := en_crange (x := x)
  have hb := en_bits h0
  have : (x &&& y).toBitVec.toNat ≤ x.toBitVec.toNat := by
    rw [Int32.toBitVec_and, BitVec.toNat_and]; exact Nat.and_le_left
  have h5 := en_bits2 this (by omega)
  omega
theorem ml_and' {x y : Int32} {m : Int} (h0 : 0 ≤ y.toInt) (h1 : y.toInt ≤ m) : 0 ≤ (x &&& y).toInt ∧ (x &&& y).toInt ≤ m := by
  have r := en_crange (x := y)
  have hb := en_bits h0
  have : (x &&& y).toBitVec.toNat ≤ y.toBitVec.toNat := by
    rw [Int32.toBitVec_and, BitVec.toNat_and]; exact Nat.and_le_right
  have h5 := en_bits2 this (by omega)
  omega
theorem ml_or {x y : Int32} (h1 : 0 ≤ x.toInt ∧ x.toInt ≤ 1023) (h2 : 0 ≤ y.toInt ∧ y.toInt ≤ 1023) : 0 ≤ (x ||| y).toInt ∧ (x ||| y).toInt ≤ 1023 := by
  have b1 := en_bits (x := x) h1.1
  have b2 := en_bits (x := y) h2.1
  have : (x ||| y).toBitVec.toNat < 2 ^ 10 := by
    rw [Int32.toBitVec_or, BitVec.toNat_or]
    exact Nat.or_lt_two_pow (by show _ < 1024; omega) (by show _ < 1024; omega)
  exact en_bits2 (m := 1023) (Nat.le_of_lt_succ this) (by decide)
theorem ml_shl9 : ∀ k : Nat, k ≤ 9 → 0 ≤ ((1 : Int32) <<< (Int32.ofNat k &&& 31)).toInt ∧ ((1 : Int32) <<< (Int32.ofNat k &&& 31)).toInt ≤ 1023 := by decide
theorem ml_ofN {y : Int32} (h : 0 ≤ y.toInt) : y = Int32.ofNat y.toNatClampNeg := by
  have n := kl_nat h
  have r := en_crange (x := y)
  refine en_ofI ?_
  rw [Int32.toInt_ofNat_of_lt (by omega)]
  exact n.symm
theorem ml_shl {y : Int32} (h0 : 0 ≤ y.toInt) (h1 : y.toInt ≤ 9) : 0 ≤ ((1 : Int32) <<< (y &&& 31)).toInt ∧ ((1 : Int32) <<< (y &&& 31)).toInt ≤ 1023 := by
  have n := kl_nat h0
  rw [ml_ofN h0]
  exact ml_shl9 _ (by omega)
def ml_bt (x : Int32) : Nat → Int32 → Int32 → Int32
  | 0, a, _ => a
  | m + 1, a, k => ml_bt x m (a + ((x >>> (k &&& 31)) &&& 1)) (k + 1)
theorem ml_bt_le (x : Int32) : ∀ (m : Nat) (a k : Int32), 0 ≤ a.toInt → a.toInt + m ≤ 1000 → 0 ≤ (ml_bt x m a k).toInt ∧ (ml_bt x m a k).toInt ≤ a.toInt + m
  | 0, a, k, h0, h1 => ⟨h0, by show a.toInt ≤ a.toInt + 0; omega⟩
  | m + 1, a, k, h0, h1 => by
    have b := ml_and' (x := x >>> (k &&& 31)) (y := 1) (m := 1) (by decide) (by decide)
    have s : (a + ((x >>> (k &&& 31)) &&& 1)).toInt = a.toInt + ((x >>> (k &&& 31)) &&& 1).toInt := ml_ad rfl rfl (by omega) (by omega)
    have r := ml_bt_le x m (a + ((x >>> (k &&& 31)) &&& 1)) (k + 1) (by omega) (by omega)
    show 0 ≤ (ml_bt x m (a + ((x >>> (k &&& 31)) &&& 1)) (k + 1)).toInt ∧ (ml_bt x m (a + ((x >>> (k &&& 31)) &&& 1)) (k + 1)).toInt ≤ _
    omega
theorem mx_bits1 {S : sm_C} {d : Nat} {Φ : sm_Z → Prop} {I : sm_I} {L : sm_L} {R : sm_R} {x0 : Int32} : ∀ (m : Nat) (x1 x2 : Int32), 0 ≤ x2.toInt → x2.toInt + m = 10 → Φ (some (.int (ml_bt x0 m x1 x2)), (xLay, I, L, kM R)) → sm_wp sm_P S d 105 1 [.int x0, .int x1, .int x2] [] (xLay, I, L, kM R) (0, 0) Φ := by
  have c10 : (10 : Int32).toInt = 10 := by decide
  intro m
  induction m with
  | zero =>
    intro x1 x2 h0 h1 h
    refine v_X12_bits_1 ⟨fun _ => h, fun a => ?_⟩
    have := kl_nle a
    omega
  | succ m ih =>
    intro x1 x2 h0 h1 h
    have s := ml_in1 (x := x2) (by omega)
    refine v_X12_bits_1 ⟨fun a => ?_, fun a n1 e1 => ?_⟩
    · have := kl_le.mp a
      omega
    · rw [e1]
      exact ih _ _ (by omega) (by omega) h
theorem mx_bits {S : sm_C} {d : Nat} {Φ : sm_Z → Prop} {I : sm_I} {L : sm_L} {R : sm_R} {x0 : Int32} (h : Φ (some (.int (ml_bt x0 10 0 0)), (xLay, I, L, kM R))) : sm_wp sm_P S d 105 0 [.int x0] [] (xLay, I, L, kM R) (0, 0) Φ := v_X12_bits_0 (mx_bits1 10 0 0 (by decide) (by decide) h)
def ml_f (i : Nat) : Int := (ml_bt (Int32.ofInt i) 10 0 0).toInt
def ml_C (n : Int) (s : Nat) : Nat := (List.range 1024).countP (fun i => decide (ml_f i < n ∨ (ml_f i = n ∧ i < s)))
theorem ml_cnt {p q : Nat → Bool} (h : ∀ a, p a = true → q a = true) {a : Nat} (ha : q a = true) (hn : p a = false) : ∀ l : List Nat, a ∈ l → l.countP p + 1 ≤ l.countP q
  | [], hl => absurd hl List.not_mem_nil
  | b :: l, hl => by
    have m : l.countP p ≤ l.countP q := List.countP_mono_left (fun x _ => h x)
    rw [List.countP_cons, List.countP_cons]
    by_cases e : a = b
    · subst e
      rw [ha, hn]; simp; omega
    · have hl : a ∈ l := by
        rcases List.mem_cons.mp hl with e2 | e2
        · exact absurd e2 e
        · exact e2
      have r := ml_cnt h ha hn l hl
      cases pb : p b with
      | true => rw [h b pb]; simp; omega
      | false => cases q b <;> simp <;> omega
theorem ml_C_le (n : Int) (s : Nat) : ml_C n s ≤ 1024 := by
  unfold ml_C
  have := List.countP_le_length (p := fun i => decide (ml_f i < n ∨ (ml_f i = n ∧ i < s))) (l := List.range 1024)
  rw [List.length_range] at this
  exact this
theorem ml_C_st {n : Int} {s : Nat} (hs : s < 1024) (h : ml_f s = n) : ml_C n s + 1 ≤ ml_C n (s + 1) := by
  unfold ml_C
  refine ml_cnt (a := s) (fun a ha => ?_) ?_ ?_ _ (List.mem_range.mpr hs)
  · have := of_decide_eq_true ha
    exact decide_eq_true (by omega)
  · exact decide_eq_true (by omega)
  · exact decide_eq_false (by omega)
theorem ml_C_mo (n : Int) (s : Nat) : ml_C n s ≤ ml_C n (s + 1) := by
  unfold ml_C
  refine List.countP_mono_left (fun a _ ha => ?_)
  have := of_decide_eq_true ha
  exact decide_eq_true (by omega)
theorem ml_C_nx (n : Int) (s : Nat) : ml_C n s ≤ ml_C (n + 1) 0 := by
  unfold ml_C
  refine List.countP_mono_left (fun a _ ha => ?_)
  have := of_decide_eq_true ha
  exact decide_eq_true (by omega)
theorem ml_f_eq {x : Int32} (h : 0 ≤ x.toInt) : ml_f x.toNatClampNeg = (ml_bt x 10 0 0).toInt := by
  unfold ml_f
  rw [kl_nat h, Int32.ofInt_toInt]
/-- how many are kept -/
def ml_Q (I : sm_I) (c : Nat) : Prop := (I 107 82).toInt ≤ c ∧ (I 107 84).toInt ≤ c
theorem ml_qadd {I J K : sm_I} {L : sm_L} {R : sm_R} {w0 : sm_W} {p q : Nat} {v : Int32} (hp : (p = 158 ∧ q = 82) ∨ (p = 159 ∧ q = 84)) (hm : en_mem ml_tb mlX (xLay, I, L, R)) (hf : en_fr ml_SW w0 (xLay, I, L, R)) (hn : (I 107 q).toInt ≤ 1023) (hv : 0 ≤ v.toInt ∧ v.toInt ≤ 1023) (e1 : J = sm_up I p (I 107 q).toNatClampNeg v) (e2 : K = sm_up J 107 q (J 107 q + 1)) : en_mem ml_tb mlX (xLay, K, L, R) ∧ en_fr ml_SW w0 (xLay, K, L, R) ∧ (K 107 q).toInt = (I 107 q).toInt + 1 ∧ (∀ j, j ≠ q → K 107 j = I 107 j) := by
  have hp7 : p ≠ 107 := by omega
  have g : J 107 q = I 107 q := by rw [e1, en_up_ne _ _ _ _ (fun c => hp7 c.1.symm)]
  have bq : 0 ≤ (I 107 q).toInt ∧ (I 107 q).toInt ≤ 1024 := by
    rcases hp with ⟨-, e⟩ | ⟨-, e⟩ <;> subst e
    · exact hm.2.1 107 82 (0, 1024) (by decide +kernel)
    · exact hm.2.1 107 84 (0, 1024) (by decide +kernel)
  have s := ml_in1 (x := I 107 q) (by omega)
  have mJ : en_mem ml_tb mlX (xLay, J, L, R) := by
    rw [e1]
    rcases hp with ⟨e, -⟩ | ⟨e, -⟩ <;> subst e
    · exact ml_we2 hm rfl (n := 1024) (q := (0, 1023)) rfl hv
    · exact ml_we2 hm rfl (n := 1024) (q := (0, 1023)) rfl hv
  refine ⟨?_, ?_, ?_, fun j hj => ?_⟩
  · rw [e2, g]
    rcases hp with ⟨-, e⟩ | ⟨-, e⟩ <;> subst e
    · exact ml_wf mJ (by decide +kernel) (q := (0, 1024)) (by decide +kernel) (by show 0 ≤ _ ∧ _ ≤ (1024 : Int); omega)
    · exact ml_wf mJ (by decide +kernel) (q := (0, 1024)) (by decide +kernel) (by show 0 ≤ _ ∧ _ ≤ (1024 : Int); omega)
  · rw [e2, e1]
    rcases hp with ⟨e, e'⟩ | ⟨e, e'⟩ <;> subst e <;> subst e'
    · exact ml_fr (ml_fr hf rfl) (by decide)
    · exact ml_fr (ml_fr hf rfl) (by decide)
  · rw [e2, g, en_up_eq]; exact s
  · rw [e2, en_up_ne _ _ _ _ (fun c => hj c.2), e1, en_up_ne _ _ _ _ (fun c => hp7 c.1.symm)]
theorem mx_sets22 {S : sm_C} {d : Nat} {Φ : sm_Z → Prop} {w0 : sm_W} {L : sm_L} {R : sm_R} {x2 x3 x4 : Int32} (b2 : 0 ≤ x2.toInt ∧ x2.toInt ≤ 1023) (b4 : 0 ≤ x4.toInt ∧ x4.toInt ≤ 1023) (hfx : ml_f x4.toNatClampNeg = x3.toInt) (I : sm_I) (hm : en_mem ml_tb mlX (xLay, I, L, R)) (hf : en_fr ml_SW w0 (xLay, I, L, R)) (hq : ml_Q I (ml_C x3.toInt x4.toNatClampNeg)) (hk : ∀ J : sm_I, en_mem ml_tb mlX (xLay, J, L, R) → en_fr ml_SW w0 (xLay, J, L, R) → ml_Q J (ml_C x3.toInt (x4.toNatClampNeg + 1)) → sm_wp sm_P S (d + 1) 190 14 [.ref 107, .int x2, .int x3, .int (x4 + 1)] [] (xLay, J, L, kM R) (0, 0) Φ) : ∀ (m : Nat) (x5 x6 x7 : Int32), 0 ≤ x7.toInt → 10 - x7.toInt ≤ m → sm_wp sm_P S (d + 1) 190 22 [.ref 107, .int x2, .int x3, .int x4, .int x5, .int x6, .int x7] [] (xLay, I, L, kM R) (0, 0) Φ := by
  have c10 : (10 : Int32).toInt = 10 := by decide
  have n4 := kl_nat b4.1
  have cs := ml_C_st (n := x3.toInt) (s := x4.toNatClampNeg) (by omega) hfx
  have cl := ml_C_le x3.toInt (x4.toNatClampNeg + 1)
  have b82 : 0 ≤ (I 107 82).toInt ∧ (I 107 82).toInt ≤ 1024 := hm.2.1 107 82 (0, 1024) (by decide +kernel)
  have b84 : 0 ≤ (I 107 84).toInt ∧ (I 107 84).toInt ≤ 1024 := hm.2.1 107 84 (0, 1024) (by decide +kernel)
  obtain ⟨hq1, hq2⟩ := hq
  have fin : ∀ x5 x6 : Int32, ((x5 = 0 → ((x6 = 0 → sm_wp sm_P S (d + 1) 190 14 [.ref 107, .int x2, .int x3, .int (x4 + (1 : Int32))] [] (xLay, I, L, (kM R)) (0, 0) Φ) ∧ (¬ x6 = 0 → (vp_in (I 107 84) 1024) ∧ ∀ I1 : sm_I, I1 = (sm_up I 159 (I 107 84).toNatClampNeg x4) → ∀ I2 : sm_I, I2 = (sm_up I1 107 84 ((I1 107 84) + (1 : Int32))) → sm_wp sm_P S (d + 1) 190 14 [.ref 107, .int x2, .int x3, .int (x4 + (1 : Int32))] [] (xLay, I2, L, (kM R)) (0, 0) Φ))) ∧ (¬ x5 = 0 → (vp_in (I 107 82) 1024) ∧ ∀ I4 : sm_I, I4 = (sm_up I 158 (I 107 82).toNatClampNeg x4) → ∀ I5 : sm_I, I5 = (sm_up I4 107 82 ((I4 107 82) + (1 : Int32))) → ((x6 = 0 → sm_wp sm_P S (d + 1) 190 14 [.ref 107, .int x2, .int x3, .int (x4 + (1 : Int32))] [] (xLay, I5, L, (kM R)) (0, 0) Φ) ∧ (¬ x6 = 0 → (vp_in (I5 107 84) 1024) ∧ ∀ I6 : sm_I, I6 = (sm_up I5 159 (I5 107 84).toNatClampNeg x4) → ∀ I7 : sm_I, I7 = (sm_up I6 107 84 ((I6 107 84) + (1 : Int32))) → sm_wp sm_P S (d + 1) 190 14 [.ref 107, .int x2, .int x3, .int (x4 + (1 : Int32))] [] (xLay, I7, L, (kM R)) (0, 0) Φ)))) := by
    intro x5 x6
    refine ⟨fun _ => ⟨fun _ => hk I hm hf ⟨by omega, by omega⟩, fun _ => ⟨kl_in b84.1 (by omega), fun I1 e1 I2 e2 => ?_⟩⟩, fun _ => ⟨kl_in b82.1 (by omega), fun I4 e4 I5 e5 => ?_⟩⟩
    · obtain ⟨q1, q2, q3, q4⟩ := ml_qadd (Or.inr ⟨rfl, rfl⟩) hm hf (by omega) b4 e1 e2
      exact hk I2 q1 q2 ⟨by rw [q4 82 (by decide)]; omega, by omega⟩
    · obtain ⟨q1, q2, q3, q4⟩ := ml_qadd (Or.inl ⟨rfl, rfl⟩) hm hf (by omega) b4 e4 e5
      have q84 : I5 107 84 = I 107 84 := q4 84 (by decide)
      refine ⟨fun _ => hk I5 q1 q2 ⟨by omega, by rw [q84]; omega⟩, fun _ => ⟨by rw [q84]; exact kl_in b84.1 (by omega), fun I6 e6 I7 e7 => ?_⟩⟩
      obtain ⟨p1, p2, p3, p4⟩ := ml_qadd (Or.inr ⟨rfl, rfl⟩) q1 q2 (by rw [q84]; omega) b4 e6 e7
      exact hk I7 p1 p2 ⟨by rw [p4 82 (by decide)]; omega, by rw [q84] at p3; omega⟩
  intro m
  induction m with
  | zero =>
    intro x5 x6 x7 h0 hM
    refine u_X12_sets_22 ⟨fun _ => fin x5 x6, fun a => ?_⟩
    have := kl_nle a
    omega
  | succ m ih =>
    intro x5 x6 x7 h0 hM
    refine u_X12_sets_22 ⟨fun _ => fin x5 x6, fun a => ?_⟩
    have a := kl_nle a
    rw [c10] at a
    have s := ml_in1 (x := x7) (by omega)
    have go : ∀ x5 x6 : Int32, sm_wp sm_P S (d + 1) 190 34 [.ref 107, .int x2, .int x3, .int x4, .int x5, .int x6, .int x7] [] (xLay, I, L, kM R) (0, 0) Φ := fun x5 x6 => u_X12_sets_34 (ih x5 x6 _ (by omega) (by omega))
    have g33 : ∀ x5 s0 : Int32, sm_wp sm_P S (d + 1) 190 33 [.ref 107, .int x2, .int x3, .int x4, .int x5, .int x7] [.int s0] (xLay, I, L, kM R) (0, 0) Φ := fun x5 s0 => u_X12_sets_33 (go x5 s0)
    have g29 : ∀ s0 : Int32, sm_wp sm_P S (d + 1) 190 29 [.ref 107, .int x2, .int x3, .int x4, .int x6, .int x7] [.int s0] (xLay, I, L, kM R) (0, 0) Φ := fun s0 => u_X12_sets_29 ⟨fun _ => g33 _ _, fun _ n1 e1 => by
      have b := ml_or (ml_and (y := x4 ^^^ (-1 : Int32)) b2.1 b2.2) (ml_shl h0 (by omega))
      rw [← e1] at b
      exact ⟨kl_in b.1 (by omega), fun _ => g33 _ _, fun _ => g33 _ _⟩⟩
    refine ⟨fun _ => go _ _, fun _ => ⟨fun _ => g29 _, fun _ n10 e10 => ?_⟩⟩
    have b := ml_and (x := x4) (y := ((1 : Int32) <<< (x7 &&& 31)) ^^^ (-1 : Int32)) b4.1 b4.2
    rw [← e10] at b
    exact ⟨kl_in b.1 (by omega), fun _ => g29 _, fun _ => g29 _⟩
theorem mx_sets14 {S : sm_C} {d : Nat} {Φ : sm_Z → Prop} {w0 : sm_W} {L : sm_L} {R : sm_R} {x2 x3 : Int32} (b2 : 0 ≤ x2.toInt ∧ x2.toInt ≤ 1023) (hk : ∀ J : sm_I, en_mem ml_tb mlX (xLay, J, L, R) → en_fr ml_SW w0 (xLay, J, L, R) → ml_Q J (ml_C (x3.toInt + 1) 0) → sm_wp sm_P S (d + 1) 190 12 [.ref 107, .int x2, .int (x3 + 1)] [] (xLay, J, L, kM R) (0, 0) Φ) : ∀ (m : Nat) (I : sm_I) (x4 : Int32), en_mem ml_tb mlX (xLay, I, L, R) → en_fr ml_SW w0 (xLay, I, L, R) → 0 ≤ x4.toInt → ml_Q I (ml_C x3.toInt x4.toNatClampNeg) → 1024 - x4.toInt ≤ m → sm_wp sm_P S (d + 1) 190 14 [.ref 107, .int x2, .int x3, .int x4] [] (xLay, I, L, kM R) (0, 0) Φ := by
  have c : (1024 : Int32).toInt = 1024 := by decide
  have done : ∀ (I : sm_I) (x4 : Int32), en_mem ml_tb mlX (xLay, I, L, R) → en_fr ml_SW w0 (xLay, I, L, R) → ml_Q I (ml_C x3.toInt x4.toNatClampNeg) → sm_wp sm_P S (d + 1) 190 12 [.ref 107, .int x2, .int (x3 + 1)] [] (xLay, I, L, kM R) (0, 0) Φ := fun I x4 hm hf hq => hk I hm hf (by
    have := ml_C_nx x3.toInt x4.toNatClampNeg
    exact ⟨by have := hq.1; omega, by have := hq.2; omega⟩)
  intro m
  induction m with
  | zero =>
    intro I x4 hm hf h0 hq hM
    refine u_X12_sets_14 ⟨fun _ => done I x4 hm hf hq, fun a => ?_⟩
    have := kl_nle a
    omega
  | succ m ih =>
    intro I x4 hm hf h0 hq hM
    refine u_X12_sets_14 ⟨fun _ => done I x4 hm hf hq, fun a => ?_⟩
    have a := kl_nle a
    rw [c] at a
    have s := ml_in1 (x := x4) (by omega)
    have n4 := kl_nat h0
    have n41 := kl_nat (i := x4 + 1) (by omega)
    have e41 : (x4 + 1).toNatClampNeg = x4.toNatClampNeg + 1 := by omega
    have go : ∀ J : sm_I, en_mem ml_tb mlX (xLay, J, L, R) → en_fr ml_SW w0 (xLay, J, L, R) → ml_Q J (ml_C x3.toInt (x4.toNatClampNeg + 1)) → sm_wp sm_P S (d + 1) 190 14 [.ref 107, .int x2, .int x3, .int (x4 + 1)] [] (xLay, J, L, kM R) (0, 0) Φ := fun J mJ fJ qJ => ih J _ mJ fJ (by omega) (by rw [e41]; exact qJ) (by omega)
    have hq' : ml_Q I (ml_C x3.toInt (x4.toNatClampNeg + 1)) := by
      have := ml_C_mo x3.toInt x4.toNatClampNeg
      exact ⟨by have := hq.1; omega, by have := hq.2; omega⟩
    refine ⟨fun _ => mx_bits ⟨_, I, L, R, rfl, fun e => ⟨kl_in h0 (by omega), fun _ n5 e5 => ?_, fun _ n5 e5 => ?_⟩, fun _ => go I hm hf hq'⟩, fun _ => go I hm hf hq'⟩
    all_goals
      have b := ml_and (x := x2) (y := x4 ^^^ (-1 : Int32)) b2.1 b2.2
      rw [← e5] at b
      refine ⟨kl_in b.1 (by omega), mx_sets22 b2 ⟨h0, by omega⟩ (by rw [ml_f_eq h0, e]) I hm hf hq go 10 _ _ 0 (by decide) (by decide)⟩
theorem mx_sets12 {S : sm_C} {d : Nat} {Φ : sm_Z → Prop} {w0 : sm_W} {L : sm_L} {R : sm_R} {x2 : Int32} (b2 : 0 ≤ x2.toInt ∧ x2.toInt ≤ 1023) (hΦ : ∀ (I : sm_I), en_mem ml_tb mlX (xLay, I, L, R) → en_fr ml_SW w0 (xLay, I, L, R) → Φ (none, (xLay, I, L, kM R))) : ∀ (m : Nat) (I : sm_I) (x3 : Int32), en_mem ml_tb mlX (xLay, I, L, R) → en_fr ml_SW w0 (xLay, I, L, R) → 0 ≤ x3.toInt → ml_Q I (ml_C x3.toInt 0) → 11 - x3.toInt < m → sm_wp sm_P S (d + 1) 190 12 [.ref 107, .int x2, .int x3] [] (xLay, I, L, kM R) (0, 0) Φ := by
  have bb := ml_bt_le x2 10 0 0 (by decide) (by decide)
  rw [kl_0] at bb
  intro m
  induction m with
  | zero =>
    intro I x3 hm hf h0 hq hM
    refine u_X12_sets_12 (mx_bits ⟨_, I, L, R, rfl, fun _ => hΦ I hm hf, fun a => ?_⟩)
    have := kl_nlt a
    omega
  | succ m ih =>
    intro I x3 hm hf h0 hq hM
    refine u_X12_sets_12 (mx_bits ⟨_, I, L, R, rfl, fun _ => hΦ I hm hf, fun a => ?_⟩)
    have a := kl_nlt a
    have s := ml_in1 (x := x3) (by omega)
    refine mx_sets14 b2 (fun J mJ fJ qJ => ih J _ mJ fJ (by omega) (by rw [s]; exact qJ) (by omega)) 1024 I 0 hm hf (by decide) ?_ (by decide)
    have z : (0 : Int32).toNatClampNeg = 0 := by decide
    rw [z]; exact hq
theorem ml_boo (r : Int32) : 0 ≤ (vp_nar .boolean r).toInt ∧ (vp_nar .boolean r).toInt ≤ 1 := by
  have b := ml_and' (x := r) (y := 1) (m := 1) (by decide) (by decide)
  exact b
theorem mx_sets3 {S : sm_C} {d : Nat} {Φ : sm_Z → Prop} {w0 : sm_W} {x1 x2 : Int32} (hd : mlc_21.2.2.2.2.2 ≤ d) (b2 : 0 ≤ x2.toInt ∧ x2.toInt ≤ 1023) (hΦ : ∀ (I : sm_I) (L : sm_L) (R : sm_R), en_mem ml_tb mlX (xLay, I, L, R) → en_fr ml_SW w0 (xLay, I, L, R) → Φ (none, (xLay, I, L, kM R))) : ∀ (m : Nat) (I : sm_I) (L : sm_L) (R : sm_R) (x3 : Int32), en_mem ml_tb mlX (xLay, I, L, R) → en_fr ml_SW w0 (xLay, I, L, R) → 0 ≤ x3.toInt → I 107 82 = 0 → I 107 84 = 0 → 1024 - x3.toInt ≤ m → sm_wp sm_P S (d + 1) 190 3 [.ref 107, .int x1, .int x2, .int x3] [] (xLay, I, L, kM R) (0, 0) Φ := by
  have c : (1024 : Int32).toInt = 1024 := by decide
  have done : ∀ (I : sm_I) (L : sm_L) (R : sm_R), en_mem ml_tb mlX (xLay, I, L, R) → en_fr ml_SW w0 (xLay, I, L, R) → I 107 82 = 0 → I 107 84 = 0 → sm_wp sm_P S (d + 1) 190 12 [.ref 107, .int x2, .int (0 : Int32)] [] (xLay, I, L, kM R) (0, 0) Φ := fun I L R hm hf q1 q2 => mx_sets12 b2 (fun J mJ fJ => hΦ J L R mJ fJ) 12 I 0 hm hf (by decide) ⟨by rw [q1, kl_0]; omega, by rw [q2, kl_0]; omega⟩ (by decide)
  intro m
  induction m with
  | zero =>
    intro I L R x3 hm hf h0 q1 q2 hM
    refine u_X12_sets_3 ⟨fun _ => ⟨fun _ => done I L R hm hf q1 q2, fun _ => hΦ I L R hm hf⟩, fun a => ?_⟩
    have := kl_nle a
    omega
  | succ m ih =>
    intro I L R x3 hm hf h0 q1 q2 hM
    refine u_X12_sets_3 ⟨fun _ => ⟨fun _ => done I L R hm hf q1 q2, fun _ => hΦ I L R hm hf⟩, fun a => ⟨fun _ => ⟨fun _ => ?_, fun _ => ?_⟩, fun _ => ⟨fun _ => done I L R hm hf q1 q2, fun _ => hΦ I L R hm hf⟩⟩⟩
    all_goals
      have a := kl_nle a
      rw [c] at a
      have s := ml_in1 (x := x3) (by omega)
    · refine ml_ci (c := mlc_21) mlh_21 hd ⟨⟨rfl, rfl⟩, ⟨rfl, en_crange.1, en_crange.2⟩, trivial⟩ hm ml_pf0 rfl (fun r I3 L3 R3 r0 r1 m3 f3 => ⟨kl_in h0 (by omega), fun I6 e6 => ?_⟩)
      have m6 : en_mem ml_tb mlX (xLay, I6, L3, R3) := by
        rw [e6]
        exact ml_we2 m3 rfl (n := 1024) (q := (0, 1)) rfl (ml_boo r)
      have b64 : 0 ≤ (I6 107 64).toInt ∧ (I6 107 64).toInt ≤ 1 := m6.2.1 107 64 (0, 1) (by decide +kernel)
      refine ⟨?_, fun I7 e7 => ?_⟩
      · rcases ml_i3 b64.1 (by omega) with e | e | e | e
        · exact Or.inl e
        · exact Or.inr e
        · rw [e] at b64; exact absurd b64.2 (by decide)
        · rw [e] at b64; exact absurd b64.2 (by decide)
      · have hf3 : en_fr ml_SW w0 (xLay, I3, L3, R3) := ml_frt hf f3 (by decide +kernel)
        refine ih I7 L3 R3 _ ?_ ?_ (by omega) ?_ ?_ (by omega)
        · rw [e7]
          exact ml_wf m6 (by decide +kernel) (q := (0, 1)) (by decide +kernel) b64
        · rw [e7, e6]
          exact ml_fr (ml_fr hf3 rfl) (by decide)
        · rw [e7, en_up_ne _ _ _ _ (by omega), e6, en_up_ne _ _ _ _ (by omega), ml_g f3 (by decide), q1]
        · rw [e7, en_up_ne _ _ _ _ (by omega), e6, en_up_ne _ _ _ _ (by omega), ml_g f3 (by decide), q2]
    · exact ih I L R _ hm hf (by omega) q1 q2 (by omega)
theorem mlh_23 {Sc : sm_C} : en_hold ml_tb mlX sm_P Sc mlc_23 := by
  intro d hd vs w hv hm _
  obtain ⟨vs1, rfl, hv1⟩ := kl_vr (q := 107) rfl hv
  obtain rfl := kl_v0 hv1
  have hd : 9 ≤ d := hd
  obtain ⟨d, rfl⟩ : ∃ d', d = d' + 1 := ⟨d - 1, by omega⟩
  refine ml_top hm (fun I L R hw hm => ?_)
  have fin : ∀ (I2 : sm_I) (L2 : sm_L) (R2 : sm_R), en_mem ml_tb mlX (xLay, I2, L2, R2) → en_fr ml_SW (xLay, I, L, R) (xLay, I2, L2, R2) → ∃ (o : Option Value) (I3 : sm_I) (L3 : sm_L) (R3 : sm_R), ((none : Option Value), ((xLay, I2, L2, kM R2) : sm_W)) = (o, (xLay, I3, L3, kM R3)) ∧ en_pr mlc_23.2.2.2.1 o ∧ en_mem ml_tb mlX (xLay, I3, L3, R3) ∧ en_fr mlc_23.2.2.2.2.1 (xLay, I, L, R) (xLay, I3, L3, R3) := fun I2 L2 R2 m f => ⟨none, I2, L2, R2, rfl, rfl, m, f⟩
  refine u_X12_sets_0 ⟨fun _ I1 e1 I2 e2 I3 e3 I4 e4 I5 e5 => ?_, fun _ => fin _ _ _ hm en_fr_rf⟩
  have m5 : en_mem ml_tb mlX (xLay, I5, L, R) := by
    rw [e5, e4, e3, e2, e1]
    exact ml_wf (ml_wf (ml_wf (ml_wf (ml_wf (ml_wf hm (by decide +kernel) (q := (0, 1)) (by decide +kernel) (by decide)) (by decide +kernel) (q := (0, 1)) (by decide +kernel) (by decide)) (by decide +kernel) (q := (0, 1024)) (by decide +kernel) (by decide)) (by decide +kernel) (q := (0, 1024)) (by decide +kernel) (by decide)) (by decide +kernel) (q := (-2147483648, 2147483647)) (by decide +kernel) (by decide)) (by decide +kernel) (q := (0, 10)) (by decide +kernel) (by decide)
  have f5 : en_fr ml_SW (xLay, I, L, R) (xLay, I5, L, R) := by
    rw [e5, e4, e3, e2, e1]
    exact ml_fr (ml_fr (ml_fr (ml_fr (ml_fr (ml_fr en_fr_rf (by decide +kernel)) (by decide +kernel)) (by decide +kernel)) (by decide +kernel)) (by decide +kernel)) (by decide)
  have z82 : I5 107 82 = 0 := by rw [e5, en_up_ne _ _ _ _ (by omega), e4, en_up_ne _ _ _ _ (by omega), e3, en_up_ne _ _ _ _ (by omega), e2, en_up_eq]
  have z84 : I5 107 84 = 0 := by rw [e5, en_up_ne _ _ _ _ (by omega), e4, en_up_ne _ _ _ _ (by omega), e3, en_up_eq]
  refine ml_ci (c := mlc_22) mlh_22 (Nat.zero_le _) ⟨⟨rfl, rfl⟩, trivial⟩ m5 ml_pf0 rfl (fun r8 I6 L6 R6 r0 r1 m6 f6 => ?_)
  refine ml_ci (c := mlc_10) mlh_10 (Nat.zero_le _) ⟨⟨rfl, rfl⟩, trivial⟩ m6 ml_pf0 rfl (fun r9 I7 L7 R7 q0 q1 m7 f7 => ?_)
  intro n12 e12
  have b := ml_and (x := r9) (y := r8 ^^^ (-1 : Int32)) q0 q1
  rw [← e12] at b
  refine mx_sets3 (by exact Nat.le_trans (by decide : _ ≤ 8) (by omega)) b fin 1024 I7 L7 R7 0 m7 (ml_frt (ml_frt f5 f6 (by decide +kernel)) f7 (by decide +kernel)) (by decide) ?_ ?_ (by decide)
  · rw [ml_g f7 rfl, ml_g f6 rfl, z82]
  · rw [ml_g f7 rfl, ml_g f6 rfl, z84]
