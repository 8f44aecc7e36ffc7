section
/-! both tapes hold the same bytes -/
theorem pt_b0 (x : BitVec 32) (k : Nat) (hk : k ≤ 24) : (x.sshiftRight k).signExtend 8 = (x >>> k).signExtend 8 := by
  apply BitVec.eq_of_getLsbD_eq
  intro i hi
  rw [BitVec.getLsbD_signExtend, BitVec.getLsbD_signExtend, BitVec.getLsbD_sshiftRight, BitVec.getLsbD_ushiftRight]
  have h1 : i < 32 := by omega
  have h2 : ¬ 32 ≤ i := by omega
  have h3 : k + i < 32 := by omega
  simp [hi, h1, h2, h3]
theorem pt_by (x k : Int32) (hk : k = 24 ∨ k = 16 ∨ k = 8 ∨ k = 0) : (((x).toUInt32 >>> ((k).toUInt32 &&& Int32.toUInt32 31)).toInt32).toInt8.toInt32 = ((x >>> (k &&& 31))).toInt8.toInt32 := by
  have key : ∀ n : Nat, n ≤ 24 → ∀ y z : Int32, y.toBitVec = x.toBitVec >>> n → z.toBitVec = x.toBitVec.sshiftRight n → y.toInt8.toInt32 = z.toInt8.toInt32 := by
    intro n hn y z hy hz
    have : y.toInt8 = z.toInt8 := by
      apply Int8.toBitVec_inj.mp
      rw [Int32.toBitVec_toInt8, Int32.toBitVec_toInt8, hy, hz, pt_b0 _ _ hn]
    rw [this]
  rcases hk with e | e | e | e <;> subst e
  · exact key 24 (by decide) _ _ rfl rfl
  · exact key 16 (by decide) _ _ rfl rfl
  · exact key 8 (by decide) _ _ rfl rfl
  · exact key 0 (by decide) _ _ rfl rfl
/-! four bytes, as both sides write them -/
def pt_sh : Nat → Int32
  | 0 => 0
  | 1 => 8
  | 2 => 16
  | _ => 24
def pt_c (x : Int32) (m : Nat) : Int32 := vp_nar .byte (((x).toUInt32 >>> ((pt_sh m).toUInt32 &&& Int32.toUInt32 31)).toInt32).toInt8.toInt32
theorem pt_c_m (x : Int32) (m : Nat) : vp_nar .byte ((x >>> (pt_sh m &&& 31))).toInt8.toInt32 = pt_c x m := by
  unfold pt_c
  rw [pt_by x (pt_sh m) (by
    match m with
    | 0 => exact Or.inr (Or.inr (Or.inr rfl))
    | 1 => exact Or.inr (Or.inr (Or.inl rfl))
    | 2 => exact Or.inr (Or.inl rfl)
    | _ + 3 => exact Or.inl rfl)]
theorem pt_sh_of {x : Int32} {k : Nat} (hk : k ≤ 3) (h : x.toInt = 8 * (k : Int)) : x = pt_sh k := by
  apply en_ofI
  rw [h]
  have : k = 0 ∨ k = 1 ∨ k = 2 ∨ k = 3 := by omega
  rcases this with e | e | e | e <;> subst e <;> decide
/-- k bytes of x, from n on; the last is the lowest -/
def pt_w (x : Int32) (k : Nat) (n : Int) (r : Nat → Int32) (j : Nat) : Int32 := if n ≤ (j : Int) ∧ (j : Int) < n + k then pt_c x (k - 1 - ((j : Int) - n).toNat) else r j
theorem pt_w_eq {x : Int32} {k : Nat} {n : Int} {r s : Nat → Int32} (h : ∀ j : Nat, (j : Int) < n → r j = s j) (j : Nat) (hj : (j : Int) < n + k) : pt_w x k n r j = pt_w x k n s j := by
  unfold pt_w
  by_cases c : n ≤ (j : Int) ∧ (j : Int) < n + k
  · rw [if_pos c, if_pos c]
  · rw [if_neg c, if_neg c]; exact h j (by omega)
theorem pt_w_0 {x : Int32} {n : Int} {r : Nat → Int32} (j : Nat) : pt_w x 0 n r j = r j := by
  unfold pt_w
  rw [if_neg (by omega)]
theorem pt_w_s {x : Int32} {k : Nat} {n : Int} {r s : Nat → Int32} {m : Nat} (hm : (m : Int) = n) (h : ∀ j, j ≠ m → s j = r j) (h2 : s m = pt_c x k) (j : Nat) : pt_w x k (n + 1) s j = pt_w x (k + 1) n r j := by
  unfold pt_w
  by_cases c : n + 1 ≤ (j : Int) ∧ (j : Int) < n + 1 + k
  · rw [if_pos c, if_pos (by omega), show k - 1 - ((j : Int) - (n + 1)).toNat = k + 1 - 1 - ((j : Int) - n).toNat by omega]
  · rw [if_neg c]
    by_cases e : j = m
    · subst e
      rw [if_pos (by omega), h2, show k + 1 - 1 - ((j : Int) - n).toNat = k by omega]
    · rw [if_neg (by omega), h j e]
/-- five ints -/
def pt_f (x1 x2 x3 x4 x5 : Int32) (n : Int) (r : Nat → Int32) : Nat → Int32 := pt_w x5 4 (n + 16) (pt_w x4 4 (n + 12) (pt_w x3 4 (n + 8) (pt_w x2 4 (n + 4) (pt_w x1 4 n r))))
theorem pt_f_eq {x1 x2 x3 x4 x5 : Int32} {n : Int} {r s : Nat → Int32} (h : ∀ j : Nat, (j : Int) < n → r j = s j) (j : Nat) (hj : (j : Int) < n + 20) : pt_f x1 x2 x3 x4 x5 n r j = pt_f x1 x2 x3 x4 x5 n s j := by
  refine pt_w_eq (fun j hj => ?_) j (by omega)
  refine pt_w_eq (fun j hj => ?_) j (by omega)
  refine pt_w_eq (fun j hj => ?_) j (by omega)
  refine pt_w_eq (fun j hj => ?_) j (by omega)
  exact pt_w_eq h j (by omega)
theorem kp_put {S : sm_C} {d q : Nat} {Φ : sm_Z → Prop} {w0 : sm_W} {L : sm_L} {R : sm_R} {x1 : Int32} (n : Int) (hn : n ≤ 2000) (eR : kO q R = R) : ∀ (k : Nat) (I : sm_I) (x2 : Int32), (k ≤ 4 ∧ x2.toInt = 8 * k - 8) → en_mem kl_tb klX (xLay, I, L, R) → (I 0 10).toInt + k = n → en_fr [(0, [10]), (1, [])] w0 (xLay, I, L, R) → (∀ I' : sm_I, en_mem kl_tb klX (xLay, I', L, R) → (I' 0 10).toInt = n → en_fr [(0, [10]), (1, [])] w0 (xLay, I', L, R) → (∀ j, I' 1 j = pt_w x1 k (I 0 10).toInt (I 1) j) → Φ (none, (xLay, I', L, kO q R))) → sm_wp sm_P S d 77 1 [.ref 0, .int x1, .int x2] [] (xLay, I, L, kO q R) (0, 0) Φ := by
  intro k
  induction k with
  | zero =>
    intro I x2 hx hm hi hf h
    refine o_X11_putFour_1 ⟨fun _ => h I hm (by omega) hf (fun j => (pt_w_0 j).symm), fun a => ?_⟩
    have := kl_nlt0 a
    omega
  | succ k ih =>
    intro I x2 hx hm hi hf h
    have b : 0 ≤ (I 0 10).toInt ∧ (I 0 10).toInt ≤ 2000 := kx_len hm
    have c2k : (2000 : Int32).toInt = 2000 := by decide
    have hs : x2 = pt_sh k := pt_sh_of (by omega) (by omega)
    refine o_X11_putFour_1 ⟨fun a => ?_, fun _ => ⟨fun c => ?_, fun c n1 en1 => ⟨?_, fun I2 e2 I3 e3 => ?_⟩⟩⟩
    · rw [kl_lt, kl_0] at a; omega
    · have c := kl_le.mp c
      rw [c2k] at c
      omega
    · exact kl_in b.1 (by omega)
    · skip
      have m8 : (-8 : Int32).toInt = -8 := by decide
      obtain ⟨y, hy, s⟩ : ∃ y, y = x2 + (-8 : Int32) ∧ y.toInt = x2.toInt - 8 := ⟨_, rfl, by rw [kl_add (by rw [m8]; omega) (by rw [m8]; omega), m8]; omega⟩
      rw [← hy]
      clear m8
      have hm2 : en_mem kl_tb klX (xLay, I2, L, R) := by rw [e2]; exact kx_tape hm
      have g2 : I2 0 10 = I 0 10 := by rw [e2, en_up_ne _ _ _ _ (fun c => absurd c.1 (by decide))]
      have s1 : (I 0 10 + 1).toInt = (I 0 10).toInt + 1 := ml_in1 (by omega)
      have hm3 : en_mem kl_tb klX (xLay, I3, L, R) := by
        rw [e3, g2]
        exact kx_10 hm2 (by omega)
      have g3 : I3 0 10 = I 0 10 + 1 := by rw [e3, g2, en_up_eq]
      have nn := kl_nat b.1
      refine ih I3 y ⟨by omega, by omega⟩ hm3 (by rw [g3]; omega) ?_ (fun I' a1 a2 a3 a4 => h I' a1 a2 a3 (fun j => ?_))
      · rw [e3]
        refine ml_fr ?_ (by decide)
        rw [e2]
        exact ml_fr hf rfl
      · rw [a4 j, g3, s1]
        refine pt_w_s (m := (I 0 10).toNatClampNeg) nn (fun j hj => ?_) ?_ j
        · rw [e3, en_up_ne _ _ _ _ (fun c => absurd c.1 (by decide)), e2, en_up_ne _ _ _ _ (fun c => hj c.2)]
        · rw [e3, en_up_ne _ _ _ _ (fun c => absurd c.1 (by decide)), e2, en_up_eq, en1, hs]; rfl
theorem kp_feed {S : sm_C} {d : Nat} {Φ : sm_Z → Prop} {I : sm_I} {L : sm_L} {R : sm_R} {x1 x2 x3 x4 x5 : Int32} (hm : en_mem kl_tb klX (xLay, I, L, R)) (h0 : 1980 < (I 0 10).toInt → Φ (some (.int (-1)), (xLay, I, L, R))) (h1 : ∀ I' : sm_I, (I 0 10).toInt ≤ 1980 → en_mem kl_tb klX (xLay, I', L, R) → (I' 0 10).toInt = (I 0 10).toInt + 20 → en_fr [(0, [10]), (1, [])] (xLay, I, L, R) (xLay, I', L, R) → (∀ j, I' 1 j = pt_f x1 x2 x3 x4 x5 (I 0 10).toInt (I 1) j) → Φ (some (.int (I' 0 10)), (xLay, I', L, R))) : sm_wp sm_P S (d + 1) 42 0 [.ref 0, .int x1, .int x2, .int x3, .int x4, .int x5] [] (xLay, I, L, R) (0, 0) Φ := by
  obtain ⟨q, -, e⟩ := kO_of hm
  have e : kO q R = R := e
  have b : 0 ≤ (I 0 10).toInt ∧ (I 0 10).toInt ≤ 2000 := kx_len hm
  have c20 : (20 : Int32).toInt = 20 := by decide
  have c24 : (24 : Int32).toInt = 8 * (4 : Nat) - 8 := by decide
  have c2k : (2000 : Int32).toInt = 2000 := by decide
  have s : (I 0 10 + 20).toInt = (I 0 10).toInt + 20 := by rw [kl_add (by rw [c20]; omega) (by rw [c20]; omega), c20]
  rw [← e]
  refine o_X11_feed_0 ⟨fun a => ?_, fun a => ?_⟩
  · have a := kl_le.mp a
    rw [s, c2k] at a
    have p0 : ∀ {x : Int32} {Φ : sm_Z → Prop} {I1 : sm_I}, en_mem kl_tb klX (xLay, I1, L, R) → (I1 0 10).toInt ≤ 1996 → en_fr [(0, [10]), (1, [])] (xLay, I, L, R) (xLay, I1, L, R) → (∀ I2 : sm_I, en_mem kl_tb klX (xLay, I2, L, R) → (I2 0 10).toInt = (I1 0 10).toInt + 4 → en_fr [(0, [10]), (1, [])] (xLay, I, L, R) (xLay, I2, L, R) → (I2 1 = pt_w x 4 (I1 0 10).toInt (I1 1)) → Φ (none, (xLay, I2, L, kO q R))) → sm_wp sm_P S d 77 0 [.ref 0, .int x] [] (xLay, I1, L, kO q R) (0, 0) Φ := by
      intro x Φ I1 m1 n1 f1 k1
      refine o_X11_putFour_0 ?_
      exact kp_put ((I1 0 10).toInt + 4) (by omega) e 4 I1 24 ⟨by decide, c24⟩ m1 (by omega) f1 (fun I' a1 a2 a3 a4 => k1 I' a1 a2 a3 (funext a4))
    refine p0 hm (by omega) en_fr_rf (fun I1 m1 t1 f1 r1 => ⟨I1, L, R, q, rfl, ?_⟩)
    refine p0 m1 (by omega) f1 (fun I2 m2 t2 f2 r2 => ⟨I2, L, R, q, rfl, ?_⟩)
    refine p0 m2 (by omega) f2 (fun I3 m3 t3 f3 r3 => ⟨I3, L, R, q, rfl, ?_⟩)
    refine p0 m3 (by omega) f3 (fun I4 m4 t4 f4 r4 => ⟨I4, L, R, q, rfl, ?_⟩)
    refine p0 m4 (by omega) f4 (fun I5 m5 t5 f5 r5 => ⟨I5, L, R, q, rfl, ?_⟩)
    rw [e]
    refine h1 I5 (by omega) m5 (by omega) f5 (fun j => ?_)
    rw [r5, r4, r3, r2, r1]
    unfold pt_f
    rw [show (I4 0 10).toInt = (I 0 10).toInt + 16 by omega, show (I3 0 10).toInt = (I 0 10).toInt + 12 by omega, show (I2 0 10).toInt = (I 0 10).toInt + 8 by omega, show (I1 0 10).toInt = (I 0 10).toInt + 4 by omega]
  · have a := kl_nle a
    rw [s, c2k] at a
    rw [e]
    exact h0 (by omega)
theorem mp_put {S : sm_C} {d : Nat} {Φ : sm_Z → Prop} {w0 : sm_W} {L : sm_L} {R : sm_R} {x1 : Int32} (n : Int) (hn : n ≤ 2000) (eR : kM R = R) : ∀ (k : Nat) (I : sm_I) (x2 : Int32), (k ≤ 4 ∧ x2.toInt = 8 * k - 8) → en_mem ml_tb mlX (xLay, I, L, R) → (I 107 2).toInt + k = n → en_fr [(107, [2]), (108, [])] w0 (xLay, I, L, R) → (∀ I' : sm_I, en_mem ml_tb mlX (xLay, I', L, R) → (I' 107 2).toInt = n → en_fr [(107, [2]), (108, [])] w0 (xLay, I', L, R) → (∀ j, I' 108 j = pt_w x1 k (I 107 2).toInt (I 108) j) → Φ (none, (xLay, I', L, kM R))) → sm_wp sm_P S d 179 1 [.ref 107, .int x1, .int x2] [] (xLay, I, L, kM R) (0, 0) Φ := by
  intro k
  induction k with
  | zero =>
    intro I x2 hx hm hi hf h
    refine v_X12_put_1 ⟨fun _ => h I hm (by omega) hf (fun j => (pt_w_0 j).symm), fun a => ?_⟩
    have := kl_nlt0 a
    omega
  | succ k ih =>
    intro I x2 hx hm hi hf h
    have b : 0 ≤ (I 107 2).toInt ∧ (I 107 2).toInt ≤ 2000 := ml_taped hm
    have c2k : (2000 : Int32).toInt = 2000 := by decide
    have hs : x2 = pt_sh k := pt_sh_of (by omega) (by omega)
    refine v_X12_put_1 ⟨fun a => ?_, fun a n1 en1 => ⟨kl_in b.1 (by omega), fun I2 e2 I3 e3 => ?_⟩⟩
    · rw [kl_lt, kl_0] at a; omega
    · skip
      have m8 : (-8 : Int32).toInt = -8 := by decide
      obtain ⟨y, hy, s⟩ : ∃ y, y = x2 + (-8 : Int32) ∧ y.toInt = x2.toInt - 8 := ⟨_, rfl, by rw [kl_add (by rw [m8]; omega) (by rw [m8]; omega), m8]; omega⟩
      rw [← hy]
      clear m8
      have hm2 : en_mem ml_tb mlX (xLay, I2, L, R) := by rw [e2]; exact ml_we hm (mlX_ok.1 _ (I, L, R) _ _ _ rfl hm.2.2.2.2) (n := 2000) (q := (-128, 127)) rfl (ml_byte n1)
      have g2 : I2 107 2 = I 107 2 := by rw [e2, en_up_ne _ _ _ _ (fun c => absurd c.1 (by decide))]
      have s1 : (I 107 2 + 1).toInt = (I 107 2).toInt + 1 := ml_in1 (by omega)
      have hm3 : en_mem ml_tb mlX (xLay, I3, L, R) := by
        rw [e3, g2]
        exact ml_wf hm2 (by decide +kernel) (q := (0, 2000)) (by decide +kernel) (by show 0 ≤ _ ∧ _ ≤ (2000 : Int); omega)
      have g3 : I3 107 2 = I 107 2 + 1 := by rw [e3, g2, en_up_eq]
      have nn := kl_nat b.1
      refine ih I3 y ⟨by omega, by omega⟩ hm3 (by rw [g3]; omega) ?_ (fun I' a1 a2 a3 a4 => h I' a1 a2 a3 (fun j => ?_))
      · rw [e3]
        refine ml_fr ?_ (by decide)
        rw [e2]
        exact ml_fr hf rfl
      · rw [a4 j, g3, s1]
        refine pt_w_s (m := (I 107 2).toNatClampNeg) nn (fun j hj => ?_) ?_ j
        · rw [e3, en_up_ne _ _ _ _ (fun c => absurd c.1 (by decide)), e2, en_up_ne _ _ _ _ (fun c => hj c.2)]
        · rw [e3, en_up_ne _ _ _ _ (fun c => absurd c.1 (by decide)), e2, en_up_eq, en1, hs]; exact pt_c_m x1 k
theorem mp_feed {S : sm_C} {d : Nat} {Φ : sm_Z → Prop} {I : sm_I} {L : sm_L} {R : sm_R} {x1 x2 x3 x4 x5 : Int32} (hm : en_mem ml_tb mlX (xLay, I, L, R)) (h0 : 1980 < (I 107 2).toInt → Φ (some (.int (-1)), (xLay, I, L, R))) (h1 : ∀ I' : sm_I, (I 107 2).toInt ≤ 1980 → en_mem ml_tb mlX (xLay, I', L, R) → (I' 107 2).toInt = (I 107 2).toInt + 20 → en_fr [(107, [2]), (108, [])] (xLay, I, L, R) (xLay, I', L, R) → (∀ j, I' 108 j = pt_f x1 x2 x3 x4 x5 (I 107 2).toInt (I 108) j) → Φ (some (.int (I' 107 2)), (xLay, I', L, R))) : sm_wp sm_P S (d + 1) 124 0 [.ref 107, .int x1, .int x2, .int x3, .int x4, .int x5] [] (xLay, I, L, R) (0, 0) Φ := by
  have e : kM R = R := ml_R hm
  have b : 0 ≤ (I 107 2).toInt ∧ (I 107 2).toInt ≤ 2000 := ml_taped hm
  have c20 : (20 : Int32).toInt = 20 := by decide
  have c24 : (24 : Int32).toInt = 8 * (4 : Nat) - 8 := by decide
  have c2k : (2000 : Int32).toInt = 2000 := by decide
  have s : (I 107 2 + 20).toInt = (I 107 2).toInt + 20 := by rw [kl_add (by rw [c20]; omega) (by rw [c20]; omega), c20]
  rw [← e]
  refine v_X12_feed_0 ⟨fun a => ?_, fun a => ?_⟩
  · have a := kl_le.mp a
    rw [s, c2k] at a
    have p0 : ∀ {x : Int32} {Φ : sm_Z → Prop} {I1 : sm_I}, en_mem ml_tb mlX (xLay, I1, L, R) → (I1 107 2).toInt ≤ 1996 → en_fr [(107, [2]), (108, [])] (xLay, I, L, R) (xLay, I1, L, R) → (∀ I2 : sm_I, en_mem ml_tb mlX (xLay, I2, L, R) → (I2 107 2).toInt = (I1 107 2).toInt + 4 → en_fr [(107, [2]), (108, [])] (xLay, I, L, R) (xLay, I2, L, R) → (I2 108 = pt_w x 4 (I1 107 2).toInt (I1 108)) → Φ (none, (xLay, I2, L, kM R))) → sm_wp sm_P S d 179 0 [.ref 107, .int x] [] (xLay, I1, L, kM R) (0, 0) Φ := by
      intro x Φ I1 m1 n1 f1 k1
      refine v_X12_put_0 ?_
      exact mp_put ((I1 107 2).toInt + 4) (by omega) e 4 I1 24 ⟨by decide, c24⟩ m1 (by omega) f1 (fun I' a1 a2 a3 a4 => k1 I' a1 a2 a3 (funext a4))
    refine p0 hm (by omega) en_fr_rf (fun I1 m1 t1 f1 r1 => ⟨I1, L, rfl, ?_⟩)
    refine p0 m1 (by omega) f1 (fun I2 m2 t2 f2 r2 => ⟨I2, L, rfl, ?_⟩)
    refine p0 m2 (by omega) f2 (fun I3 m3 t3 f3 r3 => ⟨I3, L, rfl, ?_⟩)
    refine p0 m3 (by omega) f3 (fun I4 m4 t4 f4 r4 => ⟨I4, L, rfl, ?_⟩)
    refine p0 m4 (by omega) f4 (fun I5 m5 t5 f5 r5 => ⟨I5, L, rfl, ?_⟩)
    rw [e]
    refine h1 I5 (by omega) m5 (by omega) f5 (fun j => ?_)
    rw [r5, r4, r3, r2, r1]
    unfold pt_f
    rw [show (I4 107 2).toInt = (I 107 2).toInt + 16 by omega, show (I3 107 2).toInt = (I 107 2).toInt + 12 by omega, show (I2 107 2).toInt = (I 107 2).toInt + 8 by omega, show (I1 107 2).toInt = (I 107 2).toInt + 4 by omega]
  · have a := kl_nle a
    rw [s, c2k] at a
    rw [e]
    exact h0 (by omega)
end
section
/-! conditions of the class's reader (wip/pe/symt.py) -/
def kTl (p : Nat) : List (Option Nat) := bif Nat.beq p 2 then [some 3, some 7, some 9, some 10, some 11, none, none] else bif Nat.beq p 3 then [some 4, some 5, some 6] else bif Nat.beq p 7 then [some 8] else []
def kT (q : Nat) (R : sm_R) : sm_R := fun x j => bif Nat.beq x 2 && Nat.beq j 6 then some q else match (kTl x)[j]? with
  | some (some p) => some p
  | _ => R x j
theorem t_X9_isBlank_0 {S : sm_C} {d : Nat} {Φ : sm_Z → Prop} {I : sm_I} {L : sm_L} {R : sm_R} {q : Nat} {x0 : Int32} (h : ((x0 = (9 : Int32) → Φ (some (.int (1 : Int32)), (xLay, I, L, (kT q R)))) ∧ (¬ x0 = (9 : Int32) → ((x0 = (10 : Int32) → Φ (some (.int (1 : Int32)), (xLay, I, L, (kT q R)))) ∧ (¬ x0 = (10 : Int32) → ((x0 = (13 : Int32) → Φ (some (.int (1 : Int32)), (xLay, I, L, (kT q R)))) ∧ (¬ x0 = (13 : Int32) → ((x0 = (32 : Int32) → Φ (some (.int (1 : Int32)), (xLay, I, L, (kT q R)))) ∧ (¬ x0 = (32 : Int32) → Φ (some (.int (0 : Int32)), (xLay, I, L, (kT q R)))))))))))) : sm_wp sm_P S d 298 0 [.int x0] [] (xLay, I, L, (kT q R)) (0, 0) Φ := sm_wp_step (⟨fun q4 => ⟨Or.inr rfl, ((h).1 q4)⟩, fun q4 => ⟨fun q3 => ⟨Or.inr rfl, ((((h).2 q4)).1 q3)⟩, fun q3 => ⟨fun q2 => ⟨Or.inr rfl, ((((((h).2 q4)).2 q3)).1 q2)⟩, fun q2 => ⟨fun q1 => ⟨Or.inr rfl, ((((((((h).2 q4)).2 q3)).2 q2)).1 q1)⟩, fun q1 => ⟨Or.inl rfl, ((((((((h).2 q4)).2 q3)).2 q2)).2 q1)⟩⟩⟩⟩⟩)
theorem t_X9_isLetter_0 {S : sm_C} {d : Nat} {Φ : sm_Z → Prop} {I : sm_I} {L : sm_L} {R : sm_R} {q : Nat} {x0 : Int32} (h : ((x0 < (97 : Int32) → Φ (some (.int (0 : Int32)), (xLay, I, L, (kT q R)))) ∧ (¬ x0 < (97 : Int32) → (((122 : Int32) < x0 → Φ (some (.int (0 : Int32)), (xLay, I, L, (kT q R)))) ∧ (¬ (122 : Int32) < x0 → Φ (some (.int (1 : Int32)), (xLay, I, L, (kT q R)))))))) : sm_wp sm_P S d 300 0 [.int x0] [] (xLay, I, L, (kT q R)) (0, 0) Φ := sm_wp_step (⟨fun q2 => ⟨Or.inl rfl, ((h).1 q2)⟩, fun q2 => ⟨fun q1 => ⟨Or.inl rfl, ((((h).2 q2)).1 q1)⟩, fun q1 => ⟨Or.inr rfl, ((((h).2 q2)).2 q1)⟩⟩⟩)
theorem t_X9_isDigit_0 {S : sm_C} {d : Nat} {Φ : sm_Z → Prop} {I : sm_I} {L : sm_L} {R : sm_R} {q : Nat} {x0 : Int32} (h : ((x0 < (48 : Int32) → Φ (some (.int (0 : Int32)), (xLay, I, L, (kT q R)))) ∧ (¬ x0 < (48 : Int32) → (((57 : Int32) < x0 → Φ (some (.int (0 : Int32)), (xLay, I, L, (kT q R)))) ∧ (¬ (57 : Int32) < x0 → Φ (some (.int (1 : Int32)), (xLay, I, L, (kT q R)))))))) : sm_wp sm_P S d 299 0 [.int x0] [] (xLay, I, L, (kT q R)) (0, 0) Φ := sm_wp_step (⟨fun q2 => ⟨Or.inl rfl, ((h).1 q2)⟩, fun q2 => ⟨fun q1 => ⟨Or.inl rfl, ((((h).2 q2)).1 q1)⟩, fun q1 => ⟨Or.inr rfl, ((((h).2 q2)).2 q1)⟩⟩⟩)
theorem t_X9_sign_0 {S : sm_C} {d : Nat} {Φ : sm_Z → Prop} {I : sm_I} {L : sm_L} {R : sm_R} {q : Nat} {x0 : Int32} (h : (((x0).toInt = 45 → Φ (some (.int (19 : Int32)), (xLay, I, L, (kT q R)))) ∧ (¬ (x0).toInt = 45 → (((x0).toInt = 58 → Φ (some (.int (18 : Int32)), (xLay, I, L, (kT q R)))) ∧ (¬ (x0).toInt = 58 → (((x0).toInt = 59 → Φ (some (.int (17 : Int32)), (xLay, I, L, (kT q R)))) ∧ (¬ (x0).toInt = 59 → Φ (some (.int (20 : Int32)), (xLay, I, L, (kT q R)))))))))) : sm_wp sm_P S d 303 0 [.int x0] [] (xLay, I, L, (kT q R)) (0, 0) Φ := sm_wp_step (⟨fun q3 => ((h).1 q3), fun q3 => ⟨fun q2 => ((((h).2 q3)).1 q2), fun q2 => ⟨fun q1 => ((((((h).2 q3)).2 q2)).1 q1), fun q1 => ((((((h).2 q3)).2 q2)).2 q1)⟩⟩⟩)
theorem t_X9_wordOrName_0 {S : sm_C} {d : Nat} {Φ : sm_Z → Prop} {I : sm_I} {L : sm_L} {R : sm_R} {q : Nat} {y0 : Int64} (h : sm_wp sm_P S d 304 1 [.long y0, .int (0 : Int32)] [] (xLay, I, L, (kT q R)) (0, 0) Φ) : sm_wp sm_P S d 304 0 [.long y0] [] (xLay, I, L, (kT q R)) (0, 0) Φ := sm_wp_step (h)
theorem t_X9_wordOrName_1 {S : sm_C} {d : Nat} {Φ : sm_Z → Prop} {I : sm_I} {L : sm_L} {R : sm_R} {q : Nat} {y0 : Int64} {x2 : Int32} (h : (((Int32.ofNat sm_words.length) ≤ x2 → Φ (some (.int (15 : Int32)), (xLay, I, L, (kT q R)))) ∧ (¬ (Int32.ofNat sm_words.length) ≤ x2 → (vp_in x2 sm_words.length) ∧ (((lg_cmp (sm_words.getD x2.toNatClampNeg 0) y0) = 0 → Φ (some (.int x2), (xLay, I, L, (kT q R)))) ∧ (¬ (lg_cmp (sm_words.getD x2.toNatClampNeg 0) y0) = 0 → sm_wp sm_P S d 304 1 [.long y0, .int (x2 + (1 : Int32))] [] (xLay, I, L, (kT q R)) (0, 0) Φ))))) : sm_wp sm_P S d 304 1 [.long y0, .int x2] [] (xLay, I, L, (kT q R)) (0, 0) Φ := sm_wp_step (⟨fun q2 => ((h).1 q2), fun q2 => ⟨(((h).2 q2)).1, ⟨fun q1 => (((((h).2 q2)).2).1 q1), fun q1 => (((((h).2 q2)).2).2 q1)⟩⟩⟩)
theorem t_X9_endOfDigits_0 {S : sm_C} {d : Nat} {Φ : sm_Z → Prop} {I : sm_I} {L : sm_L} {R : sm_R} {q : Nat} {x1 : Int32} {x2 : Int32} (h : sm_wp sm_P S (d + 1) 295 1 [.ref 1, .int x2, .int x1] [] (xLay, I, L, (kT q R)) (0, 0) Φ) : sm_wp sm_P S (d + 1) 295 0 [.ref 1, .int x1, .int x2] [] (xLay, I, L, (kT q R)) (0, 0) Φ := sm_wp_step (h)
theorem t_X9_endOfDigits_1 {S : sm_C} {d : Nat} {Φ : sm_Z → Prop} {I : sm_I} {L : sm_L} {R : sm_R} {q : Nat} {x2 : Int32} {x3 : Int32} (h : ((x2 ≤ x3 → Φ (some (.int x3), (xLay, I, L, (kT q R)))) ∧ (¬ x2 ≤ x3 → (vp_in x3 2000) ∧ sm_wp sm_P S d 299 0 [.int (I 1 x3.toNatClampNeg)] [] (xLay, I, L, (kT q R)) (0, 0) (fun z => ∃ (r3 : Int32) (I1 : sm_I) (L2 : sm_L), z = (some (.int r3), (xLay, I1, L2, (kT q R))) ∧ ((r3 = 0 → Φ (some (.int x3), (xLay, I1, L2, (kT q R)))) ∧ (¬ r3 = 0 → sm_wp sm_P S (d + 1) 295 1 [.ref 1, .int x2, .int (x3 + (1 : Int32))] [] (xLay, I1, L2, (kT q R)) (0, 0) Φ)))))) : sm_wp sm_P S (d + 1) 295 1 [.ref 1, .int x2, .int x3] [] (xLay, I, L, (kT q R)) (0, 0) Φ := sm_wp_step (⟨fun q6 => ((h).1 q6), fun q6 => ⟨(((h).2 q6)).1, sm_ci0 ((((h).2 q6)).2) (fun r3 I1 L2 q5 => ⟨fun q4 => ((q5).1 q4), fun q4 => ((q5).2 q4)⟩)⟩⟩)
theorem t_X9_endOfLetters_0 {S : sm_C} {d : Nat} {Φ : sm_Z → Prop} {I : sm_I} {L : sm_L} {R : sm_R} {q : Nat} {x1 : Int32} {x2 : Int32} (h : sm_wp sm_P S (d + 1) 296 1 [.ref 1, .int x2, .int x1] [] (xLay, I, L, (kT q R)) (0, 0) Φ) : sm_wp sm_P S (d + 1) 296 0 [.ref 1, .int x1, .int x2] [] (xLay, I, L, (kT q R)) (0, 0) Φ := sm_wp_step (h)
theorem t_X9_endOfLetters_1 {S : sm_C} {d : Nat} {Φ : sm_Z → Prop} {I : sm_I} {L : sm_L} {R : sm_R} {q : Nat} {x2 : Int32} {x3 : Int32} (h : ((x2 ≤ x3 → Φ (some (.int x3), (xLay, I, L, (kT q R)))) ∧ (¬ x2 ≤ x3 → (vp_in x3 2000) ∧ sm_wp sm_P S d 300 0 [.int (I 1 x3.toNatClampNeg)] [] (xLay, I, L, (kT q R)) (0, 0) (fun z => ∃ (r3 : Int32) (I1 : sm_I) (L2 : sm_L), z = (some (.int r3), (xLay, I1, L2, (kT q R))) ∧ ((r3 = 0 → Φ (some (.int x3), (xLay, I1, L2, (kT q R)))) ∧ (¬ r3 = 0 → sm_wp sm_P S (d + 1) 296 1 [.ref 1, .int x2, .int (x3 + (1 : Int32))] [] (xLay, I1, L2, (kT q R)) (0, 0) Φ)))))) : sm_wp sm_P S (d + 1) 296 1 [.ref 1, .int x2, .int x3] [] (xLay, I, L, (kT q R)) (0, 0) Φ := sm_wp_step (⟨fun q6 => ((h).1 q6), fun q6 => ⟨(((h).2 q6)).1, sm_ci0 ((((h).2 q6)).2) (fun r3 I1 L2 q5 => ⟨fun q4 => ((q5).1 q4), fun q4 => ((q5).2 q4)⟩)⟩⟩)
theorem t_X9_scanOne_0 {S : sm_C} {d : Nat} {Φ : sm_Z → Prop} {I : sm_I} {L : sm_L} {R : sm_R} {q : Nat} {x2 : Int32} {x3 : Int32} (h : (vp_in (I 3 3) 502) ∧ ∀ I1 : sm_I, I1 = (sm_up I 5 (I 3 3).toNatClampNeg x2) → (vp_in x2 2000) ∧ sm_wp sm_P S d 300 0 [.int (I1 1 x2.toNatClampNeg)] [] (xLay, I1, L, (kT q R)) (0, 0) (fun z => ∃ (r4 : Int32) (I2 : sm_I) (L3 : sm_L), z = (some (.int r4), (xLay, I2, L3, (kT q R))) ∧ ((r4 = 0 → (vp_in x2 2000) ∧ sm_wp sm_P S d 299 0 [.int (I2 1 x2.toNatClampNeg)] [] (xLay, I2, L3, (kT q R)) (0, 0) (fun z => ∃ (r7 : Int32) (I5 : sm_I) (L6 : sm_L), z = (some (.int r7), (xLay, I5, L6, (kT q R))) ∧ ((r7 = 0 → (vp_in x2 2000) ∧ sm_wp sm_P S d 303 0 [.int (I5 1 x2.toNatClampNeg)] [] (xLay, I5, L6, (kT q R)) (0, 0) (fun z => ∃ (r10 : Int32) (I8 : sm_I) (L9 : sm_L), z = (some (.int r10), (xLay, I8, L9, (kT q R))) ∧ (vp_in (I5 3 3) 502) ∧ ∀ I11 : sm_I, I11 = (sm_up I8 4 (I5 3 3).toNatClampNeg r10) → (vp_in (I11 3 3) 502) ∧ ∀ L12 : sm_L, L12 = (sm_up L9 6 (I11 3 3).toNatClampNeg (0 : Int64)) → ∀ I13 : sm_I, I13 = (sm_up I11 3 3 ((I11 3 3) + (1 : Int32))) → Φ (some (.int (x2 + (1 : Int32))), (xLay, I13, L12, (kT q R))))) ∧ (¬ r7 = 0 → sm_wp sm_P S d 295 0 [.ref 1, .int x2, .int x3] [] (xLay, I5, L6, (kT q R)) (0, 0) (fun z => ∃ (r17 : Int32) (I15 : sm_I) (L16 : sm_L), z = (some (.int r17), (xLay, I15, L16, (kT q R))) ∧ sm_wp sm_P S (d + 1) 302 10 [.ref 3, .ref 1, .int x2, .int r17, .long (0 : Int64), .int x2] [] (xLay, I15, L16, (kT q R)) (0, 0) Φ))))) ∧ (¬ r4 = 0 → sm_wp sm_P S d 296 0 [.ref 1, .int x2, .int x3] [] (xLay, I2, L3, (kT q R)) (0, 0) (fun z => ∃ (r23 : Int32) (I21 : sm_I) (L22 : sm_L), z = (some (.int r23), (xLay, I21, L22, (kT q R))) ∧ sm_wp sm_P S (d + 1) 302 2 [.ref 3, .ref 1, .int x2, .int r23, .long (0 : Int64), .int x2] [] (xLay, I21, L22, (kT q R)) (0, 0) Φ))))) : sm_wp sm_P S (d + 1) 302 0 [.ref 3, .ref 1, .int x2, .int x3] [] (xLay, I, L, (kT q R)) (0, 0) Φ := sm_wp_step (⟨(h).1, ⟨(((h).2 _ rfl)).1, sm_ci0 ((((h).2 _ rfl)).2) (fun r4 I2 L3 q26 => ⟨fun q25 => ⟨(((q26).1 q25)).1, sm_ci0 ((((q26).1 q25)).2) (fun r7 I5 L6 q20 => ⟨fun q19 => ⟨(((q20).1 q19)).1, sm_ci0 ((((q20).1 q19)).2) (fun r10 I8 L9 q14 => ⟨(q14).1, ⟨(((q14).2 _ rfl)).1, (((((q14).2 _ rfl)).2 _ rfl) _ rfl)⟩⟩)⟩, fun q19 => sm_ci0 (((q20).2 q19)) (fun r17 I15 L16 q18 => q18)⟩)⟩, fun q25 => sm_ci0 (((q26).2 q25)) (fun r23 I21 L22 q24 => q24)⟩)⟩⟩)
theorem t_X9_scanOne_2 {S : sm_C} {d : Nat} {Φ : sm_Z → Prop} {I : sm_I} {L : sm_L} {R : sm_R} {q : Nat} {x2 : Int32} {x4 : Int32} {y5 : Int64} {x7 : Int32} (h : ((x4 ≤ x7 → (((x4 - x2) ≤ (8 : Int32) → sm_wp sm_P S d 304 0 [.long y5] [] (xLay, I, L, (kT q R)) (0, 0) (fun z => ∃ (r3 : Int32) (I1 : sm_I) (L2 : sm_L), z = (some (.int r3), (xLay, I1, L2, (kT q R))) ∧ (vp_in (I 3 3) 502) ∧ ∀ I4 : sm_I, I4 = (sm_up I1 4 (I 3 3).toNatClampNeg r3) → (vp_in (I4 3 3) 502) ∧ ∀ L5 : sm_L, L5 = (sm_up L2 6 (I4 3 3).toNatClampNeg y5) → ∀ I6 : sm_I, I6 = (sm_up I4 3 3 ((I4 3 3) + (1 : Int32))) → Φ (some (.int x4), (xLay, I6, L5, (kT q R))))) ∧ (¬ (x4 - x2) ≤ (8 : Int32) → (vp_in (I 3 3) 502) ∧ ∀ I8 : sm_I, I8 = (sm_up I 4 (I 3 3).toNatClampNeg (20 : Int32)) → (vp_in (I8 3 3) 502) ∧ ∀ L9 : sm_L, L9 = (sm_up L 6 (I8 3 3).toNatClampNeg y5) → ∀ I10 : sm_I, I10 = (sm_up I8 3 3 ((I8 3 3) + (1 : Int32))) → Φ (some (.int x4), (xLay, I10, L9, (kT q R)))))) ∧ (¬ x4 ≤ x7 → (vp_in x7 2000) ∧ ∀ n12 : Int64, n12 = ((y5 <<< (((8 : Int32)).toInt64 &&& 63)) ||| ((I 1 x7.toNatClampNeg)).toInt64) → sm_wp sm_P S (d + 1) 302 2 [.ref 3, .ref 1, .int x2, .int x4, .long n12, .int (x7 + (1 : Int32))] [] (xLay, I, L, (kT q R)) (0, 0) Φ))) : sm_wp sm_P S (d + 1) 302 2 [.ref 3, .ref 1, .int x2, .int x4, .long y5, .int x7] [] (xLay, I, L, (kT q R)) (0, 0) Φ := sm_wp_step (⟨fun q13 => ⟨fun q11 => sm_ci0 (((((h).1 q13)).1 q11)) (fun r3 I1 L2 q7 => ⟨(q7).1, ⟨(((q7).2 _ rfl)).1, (((((q7).2 _ rfl)).2 _ rfl) _ rfl)⟩⟩), fun q11 => ⟨(((((h).1 q13)).2 q11)).1, ⟨(((((((h).1 q13)).2 q11)).2 _ rfl)).1, (((((((((h).1 q13)).2 q11)).2 _ rfl)).2 _ rfl) _ rfl)⟩⟩⟩, fun q13 => ⟨(((h).2 q13)).1, ((((h).2 q13)).2 _ rfl)⟩⟩)
theorem t_X9_scanOne_10 {S : sm_C} {d : Nat} {Φ : sm_Z → Prop} {I : sm_I} {L : sm_L} {R : sm_R} {q : Nat} {x2 : Int32} {x4 : Int32} {y5 : Int64} {x7 : Int32} (h : ((x4 ≤ x7 → (((x4 - x2) ≤ (4 : Int32) → (vp_in (I 3 3) 502) ∧ ∀ I1 : sm_I, I1 = (sm_up I 4 (I 3 3).toNatClampNeg (16 : Int32)) → (vp_in (I1 3 3) 502) ∧ ∀ L2 : sm_L, L2 = (sm_up L 6 (I1 3 3).toNatClampNeg y5) → ∀ I3 : sm_I, I3 = (sm_up I1 3 3 ((I1 3 3) + (1 : Int32))) → Φ (some (.int x4), (xLay, I3, L2, (kT q R)))) ∧ (¬ (x4 - x2) ≤ (4 : Int32) → (vp_in (I 3 3) 502) ∧ ∀ I4 : sm_I, I4 = (sm_up I 4 (I 3 3).toNatClampNeg (20 : Int32)) → (vp_in (I4 3 3) 502) ∧ ∀ L5 : sm_L, L5 = (sm_up L 6 (I4 3 3).toNatClampNeg y5) → ∀ I6 : sm_I, I6 = (sm_up I4 3 3 ((I4 3 3) + (1 : Int32))) → Φ (some (.int x4), (xLay, I6, L5, (kT q R)))))) ∧ (¬ x4 ≤ x7 → (vp_in x7 2000) ∧ ∀ n8 : Int64, n8 = (((y5 * (10 : Int64)) + ((I 1 x7.toNatClampNeg)).toInt64) - (48 : Int64)) → sm_wp sm_P S (d + 1) 302 10 [.ref 3, .ref 1, .int x2, .int x4, .long n8, .int (x7 + (1 : Int32))] [] (xLay, I, L, (kT q R)) (0, 0) Φ))) : sm_wp sm_P S (d + 1) 302 10 [.ref 3, .ref 1, .int x2, .int x4, .long y5, .int x7] [] (xLay, I, L, (kT q R)) (0, 0) Φ := sm_wp_step (⟨fun q9 => ⟨fun q7 => ⟨(((((h).1 q9)).1 q7)).1, ⟨(((((((h).1 q9)).1 q7)).2 _ rfl)).1, (((((((((h).1 q9)).1 q7)).2 _ rfl)).2 _ rfl) _ rfl)⟩⟩, fun q7 => ⟨(((((h).1 q9)).2 q7)).1, ⟨(((((((h).1 q9)).2 q7)).2 _ rfl)).1, (((((((((h).1 q9)).2 q7)).2 _ rfl)).2 _ rfl) _ rfl)⟩⟩⟩, fun q9 => ⟨(((h).2 q9)).1, ((((h).2 q9)).2 _ rfl)⟩⟩)
theorem t_X9_scan_0 {S : sm_C} {d : Nat} {Φ : sm_Z → Prop} {I : sm_I} {L : sm_L} {R : sm_R} {q : Nat} {x2 : Int32} (h : sm_wp sm_P S (d + 1) 301 1 [.ref 3, .ref 1, .int x2, .int (0 : Int32), .int (0 : Int32)] [] (xLay, (sm_up I 3 3 (0 : Int32)), L, (kT q R)) (0, 0) Φ) : sm_wp sm_P S (d + 1) 301 0 [.ref 3, .ref 1, .int x2] [] (xLay, I, L, (kT q R)) (0, 0) Φ := sm_wp_step (h)
theorem t_X9_scan_1 {S : sm_C} {d : Nat} {Φ : sm_Z → Prop} {I : sm_I} {L : sm_L} {R : sm_R} {q : Nat} {x2 : Int32} {x3 : Int32} {x4 : Int32} (h : (((2000 : Int32) ≤ x4 → (vp_in (I 3 3) 502) ∧ ∀ I1 : sm_I, I1 = (sm_up I 4 (I 3 3).toNatClampNeg (21 : Int32)) → (vp_in (I1 3 3) 502) ∧ ∀ I2 : sm_I, I2 = (sm_up I1 5 (I1 3 3).toNatClampNeg x2) → Φ (none, (xLay, I2, L, (kT q R)))) ∧ (¬ (2000 : Int32) ≤ x4 → ((x2 ≤ x3 → (vp_in (I 3 3) 502) ∧ ∀ I3 : sm_I, I3 = (sm_up I 4 (I 3 3).toNatClampNeg (21 : Int32)) → (vp_in (I3 3 3) 502) ∧ ∀ I4 : sm_I, I4 = (sm_up I3 5 (I3 3 3).toNatClampNeg x2) → Φ (none, (xLay, I4, L, (kT q R)))) ∧ (¬ x2 ≤ x3 → (((500 : Int32) < (I 3 3) → (vp_in (I 3 3) 502) ∧ ∀ I5 : sm_I, I5 = (sm_up I 4 (I 3 3).toNatClampNeg (21 : Int32)) → (vp_in (I5 3 3) 502) ∧ ∀ I6 : sm_I, I6 = (sm_up I5 5 (I5 3 3).toNatClampNeg x2) → Φ (none, (xLay, I6, L, (kT q R)))) ∧ (¬ (500 : Int32) < (I 3 3) → (vp_in x3 2000) ∧ sm_wp sm_P S d 298 0 [.int (I 1 x3.toNatClampNeg)] [] (xLay, I, L, (kT q R)) (0, 0) (fun z => ∃ (r9 : Int32) (I7 : sm_I) (L8 : sm_L), z = (some (.int r9), (xLay, I7, L8, (kT q R))) ∧ ((r9 = 0 → sm_wp sm_P S d 302 0 [.ref 3, .ref 1, .int x3, .int x2] [] (xLay, I7, L8, (kT q R)) (0, 0) (fun z => ∃ (r12 : Int32) (I10 : sm_I) (L11 : sm_L), z = (some (.int r12), (xLay, I10, L11, (kT q R))) ∧ sm_wp sm_P S (d + 1) 301 1 [.ref 3, .ref 1, .int x2, .int r12, .int (x4 + (1 : Int32))] [] (xLay, I10, L11, (kT q R)) (0, 0) Φ)) ∧ (¬ r9 = 0 → sm_wp sm_P S (d + 1) 301 1 [.ref 3, .ref 1, .int x2, .int (x3 + (1 : Int32)), .int (x4 + (1 : Int32))] [] (xLay, I7, L8, (kT q R)) (0, 0) Φ)))))))))) : sm_wp sm_P S (d + 1) 301 1 [.ref 3, .ref 1, .int x2, .int x3, .int x4] [] (xLay, I, L, (kT q R)) (0, 0) Φ := sm_wp_step (⟨fun q18 => ⟨(((h).1 q18)).1, ⟨(((((h).1 q18)).2 _ rfl)).1, ((((((h).1 q18)).2 _ rfl)).2 _ rfl)⟩⟩, fun q18 => ⟨fun q17 => ⟨(((((h).2 q18)).1 q17)).1, ⟨(((((((h).2 q18)).1 q17)).2 _ rfl)).1, ((((((((h).2 q18)).1 q17)).2 _ rfl)).2 _ rfl)⟩⟩, fun q17 => ⟨fun q16 => ⟨(((((((h).2 q18)).2 q17)).1 q16)).1, ⟨(((((((((h).2 q18)).2 q17)).1 q16)).2 _ rfl)).1, ((((((((((h).2 q18)).2 q17)).1 q16)).2 _ rfl)).2 _ rfl)⟩⟩, fun q16 => ⟨(((((((h).2 q18)).2 q17)).2 q16)).1, sm_ci0 ((((((((h).2 q18)).2 q17)).2 q16)).2) (fun r9 I7 L8 q15 => ⟨fun q14 => sm_ci0 (((q15).1 q14)) (fun r12 I10 L11 q13 => q13), fun q14 => ((q15).2 q14)⟩)⟩⟩⟩⟩)
theorem t_X3_follow_0 {S : sm_C} {d : Nat} {Φ : sm_Z → Prop} {I : sm_I} {L : sm_L} {R : sm_R} {q : Nat} {x0 : Int32} {x1 : Int32} (h : sm_wp sm_P S d 241 1 [.int x0, .int x1, .int (0 : Int32)] [] (xLay, I, L, (kT q R)) (0, 0) Φ) : sm_wp sm_P S d 241 0 [.int x0, .int x1] [] (xLay, I, L, (kT q R)) (0, 0) Φ := sm_wp_step (h)
theorem t_X3_follow_1 {S : sm_C} {d : Nat} {Φ : sm_Z → Prop} {I : sm_I} {L : sm_L} {R : sm_R} {q : Nat} {x0 : Int32} {x1 : Int32} {x2 : Int32} (h : (((Int32.ofNat sm_steps.length) ≤ (x2 + (2 : Int32)) → Φ (some (.int (-1 : Int32)), (xLay, I, L, (kT q R)))) ∧ (¬ (Int32.ofNat sm_steps.length) ≤ (x2 + (2 : Int32)) → (vp_in x2 sm_steps.length) ∧ (((sm_steps.getD x2.toNatClampNeg 0) = x0 → (vp_in (x2 + (1 : Int32)) sm_steps.length) ∧ (((sm_steps.getD (x2 + (1 : Int32)).toNatClampNeg 0) = x1 → (vp_in (x2 + (2 : Int32)) sm_steps.length) ∧ Φ (some (.int (sm_steps.getD (x2 + (2 : Int32)).toNatClampNeg 0)), (xLay, I, L, (kT q R)))) ∧ (¬ (sm_steps.getD (x2 + (1 : Int32)).toNatClampNeg 0) = x1 → sm_wp sm_P S d 241 1 [.int x0, .int x1, .int (x2 + (3 : Int32))] [] (xLay, I, L, (kT q R)) (0, 0) Φ))) ∧ (¬ (sm_steps.getD x2.toNatClampNeg 0) = x0 → sm_wp sm_P S d 241 1 [.int x0, .int x1, .int (x2 + (3 : Int32))] [] (xLay, I, L, (kT q R)) (0, 0) Φ))))) : sm_wp sm_P S d 241 1 [.int x0, .int x1, .int x2] [] (xLay, I, L, (kT q R)) (0, 0) Φ := sm_wp_step (⟨fun q3 => ((h).1 q3), fun q3 => ⟨(((h).2 q3)).1, ⟨fun q2 => ⟨((((((h).2 q3)).2).1 q2)).1, ⟨fun q1 => ⟨(((((((((h).2 q3)).2).1 q2)).2).1 q1)).1, (((((((((h).2 q3)).2).1 q2)).2).1 q1)).2⟩, fun q1 => ((((((((h).2 q3)).2).1 q2)).2).2 q1)⟩⟩, fun q2 => (((((h).2 q3)).2).2 q2)⟩⟩⟩)
theorem t_X3_isBehindMinus_0 {S : sm_C} {d : Nat} {Φ : sm_Z → Prop} {I : sm_I} {L : sm_L} {R : sm_R} {q : Nat} {x0 : Int32} (h : ((x0 = (22 : Int32) → Φ (some (.int (1 : Int32)), (xLay, I, L, (kT q R)))) ∧ (¬ x0 = (22 : Int32) → ((x0 = (24 : Int32) → Φ (some (.int (1 : Int32)), (xLay, I, L, (kT q R)))) ∧ (¬ x0 = (24 : Int32) → Φ (some (.int (0 : Int32)), (xLay, I, L, (kT q R)))))))) : sm_wp sm_P S d 244 0 [.int x0] [] (xLay, I, L, (kT q R)) (0, 0) Φ := sm_wp_step (⟨fun q2 => ⟨Or.inr rfl, ((h).1 q2)⟩, fun q2 => ⟨fun q1 => ⟨Or.inr rfl, ((((h).2 q2)).1 q1)⟩, fun q1 => ⟨Or.inl rfl, ((((h).2 q2)).2 q1)⟩⟩⟩)
theorem t_X3_hasRoom_0 {S : sm_C} {d : Nat} {Φ : sm_Z → Prop} {I : sm_I} {L : sm_L} {R : sm_R} {q : Nat} {x1 : Int32} {x2 : Int32} (h : ((x1 = 0 → (((Int32.ofNat 15) ≤ x2 → ((x2 = (9 : Int32) → ∀ I7 : sm_I, I7 = (sm_up I 7 2 ((I 7 2) + (1 : Int32))) → sm_wp sm_P S d 242 13 [.ref 7] [] (xLay, (sm_up I7 7 3 (1 : Int32)), L, (kT q R)) (0, 0) Φ) ∧ (¬ x2 = (9 : Int32) → ((x2 = (13 : Int32) → ∀ I5 : sm_I, I5 = (sm_up I 7 3 ((I 7 3) + (1 : Int32))) → sm_wp sm_P S d 242 13 [.ref 7] [] (xLay, I5, L, (kT q R)) (0, 0) Φ) ∧ (¬ x2 = (13 : Int32) → sm_wp sm_P S d 242 13 [.ref 7] [] (xLay, I, L, (kT q R)) (0, 0) Φ))))) ∧ (¬ (Int32.ofNat 15) ≤ x2 → ((x2 = (8 : Int32) → ∀ I13 : sm_I, I13 = (sm_up (sm_up I 7 1 x2) 7 2 (1 : Int32)) → (vp_in (6 : Int32) 15) ∧ ∀ n14 : Int32, n14 = (((sm_up I13 7 3 (1 : Int32)) 8 (6 : Int32).toNatClampNeg) + (1 : Int32)) → (vp_in (6 : Int32) 15) ∧ ∀ I15 : sm_I, I15 = (sm_up (sm_up I13 7 3 (1 : Int32)) 8 (6 : Int32).toNatClampNeg n14) → (vp_in (6 : Int32) 15) ∧ (vp_in (6 : Int32) sm_room.length) ∧ (((sm_room.getD (6 : Int32).toNatClampNeg 0) < (I15 8 (6 : Int32).toNatClampNeg) → Φ (some (.int (0 : Int32)), (xLay, I15, L, (kT q R)))) ∧ (¬ (sm_room.getD (6 : Int32).toNatClampNeg 0) < (I15 8 (6 : Int32).toNatClampNeg) → Φ (some (.int (1 : Int32)), (xLay, I15, L, (kT q R)))))) ∧ (¬ x2 = (8 : Int32) → ∀ I9 : sm_I, I9 = (sm_up (sm_up I 7 1 x2) 7 2 (1 : Int32)) → (vp_in x2 15) ∧ ∀ n10 : Int32, n10 = (((sm_up I9 7 3 (1 : Int32)) 8 x2.toNatClampNeg) + (1 : Int32)) → (vp_in x2 15) ∧ ∀ I11 : sm_I, I11 = (sm_up (sm_up I9 7 3 (1 : Int32)) 8 x2.toNatClampNeg n10) → (vp_in x2 15) ∧ (vp_in x2 sm_room.length) ∧ (((sm_room.getD x2.toNatClampNeg 0) < (I11 8 x2.toNatClampNeg) → Φ (some (.int (0 : Int32)), (xLay, I11, L, (kT q R)))) ∧ (¬ (sm_room.getD x2.toNatClampNeg 0) < (I11 8 x2.toNatClampNeg) → Φ (some (.int (1 : Int32)), (xLay, I11, L, (kT q R)))))))))) ∧ (¬ x1 = 0 → ((x2 = (9 : Int32) → ∀ I3 : sm_I, I3 = (sm_up I 7 2 ((I 7 2) + (1 : Int32))) → sm_wp sm_P S d 242 13 [.ref 7] [] (xLay, (sm_up I3 7 3 (1 : Int32)), L, (kT q R)) (0, 0) Φ) ∧ (¬ x2 = (9 : Int32) → ((x2 = (13 : Int32) → ∀ I1 : sm_I, I1 = (sm_up I 7 3 ((I 7 3) + (1 : Int32))) → sm_wp sm_P S d 242 13 [.ref 7] [] (xLay, I1, L, (kT q R)) (0, 0) Φ) ∧ (¬ x2 = (13 : Int32) → sm_wp sm_P S d 242 13 [.ref 7] [] (xLay, I, L, (kT q R)) (0, 0) Φ))))))) : sm_wp sm_P S d 242 0 [.ref 7, .int x1, .int x2] [] (xLay, I, L, (kT q R)) (0, 0) Φ := sm_wp_step (⟨fun q19 => ⟨fun q18 => ⟨fun q8 => (((((((h).1 q19)).1 q18)).1 q8) _ rfl), fun q8 => ⟨fun q6 => (((((((((h).1 q19)).1 q18)).2 q8)).1 q6) _ rfl), fun q6 => ((((((((h).1 q19)).1 q18)).2 q8)).2 q6)⟩⟩, fun q18 => ⟨fun q17 => ⟨((((((((h).1 q19)).2 q18)).1 q17) _ rfl)).1, ⟨((((((((((h).1 q19)).2 q18)).1 q17) _ rfl)).2 _ rfl)).1, ⟨((((((((((((h).1 q19)).2 q18)).1 q17) _ rfl)).2 _ rfl)).2 _ rfl)).1, ⟨(((((((((((((h).1 q19)).2 q18)).1 q17) _ rfl)).2 _ rfl)).2 _ rfl)).2).1, ⟨fun q16 => ⟨Or.inl rfl, (((((((((((((((h).1 q19)).2 q18)).1 q17) _ rfl)).2 _ rfl)).2 _ rfl)).2).2).1 q16)⟩, fun q16 => ⟨Or.inr rfl, (((((((((((((((h).1 q19)).2 q18)).1 q17) _ rfl)).2 _ rfl)).2 _ rfl)).2).2).2 q16)⟩⟩⟩⟩⟩⟩, fun q17 => ⟨((((((((h).1 q19)).2 q18)).2 q17) _ rfl)).1, ⟨((((((((((h).1 q19)).2 q18)).2 q17) _ rfl)).2 _ rfl)).1, ⟨((((((((((((h).1 q19)).2 q18)).2 q17) _ rfl)).2 _ rfl)).2 _ rfl)).1, ⟨(((((((((((((h).1 q19)).2 q18)).2 q17) _ rfl)).2 _ rfl)).2 _ rfl)).2).1, ⟨fun q12 => ⟨Or.inl rfl, (((((((((((((((h).1 q19)).2 q18)).2 q17) _ rfl)).2 _ rfl)).2 _ rfl)).2).2).1 q12)⟩, fun q12 => ⟨Or.inr rfl, (((((((((((((((h).1 q19)).2 q18)).2 q17) _ rfl)).2 _ rfl)).2 _ rfl)).2).2).2 q12)⟩⟩⟩⟩⟩⟩⟩⟩, fun q19 => ⟨fun q4 => (((((h).2 q19)).1 q4) _ rfl), fun q4 => ⟨fun q2 => (((((((h).2 q19)).2 q4)).1 q2) _ rfl), fun q2 => ((((((h).2 q19)).2 q4)).2 q2)⟩⟩⟩)
theorem t_X3_hasRoom_13 {S : sm_C} {d : Nat} {Φ : sm_Z → Prop} {I : sm_I} {L : sm_L} {R : sm_R} {q : Nat} (h : (((4 : Int32) < (I 7 2) → sm_wp sm_P S d 242 17 [] [.int (0 : Int32)] (xLay, I, L, (kT q R)) (0, 0) Φ) ∧ (¬ (4 : Int32) < (I 7 2) → (((3 : Int32) < (I 7 3) → sm_wp sm_P S d 242 17 [] [.int (0 : Int32)] (xLay, I, L, (kT q R)) (0, 0) Φ) ∧ (¬ (3 : Int32) < (I 7 3) → sm_wp sm_P S d 242 17 [] [.int (1 : Int32)] (xLay, I, L, (kT q R)) (0, 0) Φ))))) : sm_wp sm_P S d 242 13 [.ref 7] [] (xLay, I, L, (kT q R)) (0, 0) Φ := sm_wp_step (⟨fun q2 => ((h).1 q2), fun q2 => ⟨fun q1 => ((((h).2 q2)).1 q1), fun q1 => ((((h).2 q2)).2 q1)⟩⟩)
theorem t_X3_hasRoom_17 {S : sm_C} {d : Nat} {Φ : sm_Z → Prop} {I : sm_I} {L : sm_L} {R : sm_R} {q : Nat} {s0 : Int32} (h : (s0 = 0 ∨ s0 = 1) ∧ Φ (some (.int s0), (xLay, I, L, (kT q R)))) : sm_wp sm_P S d 242 17 [] [.int s0] (xLay, I, L, (kT q R)) (0, 0) Φ := sm_wp_step (⟨(h).1, (h).2⟩)
theorem t_X3_faultOf_0 {S : sm_C} {d : Nat} {Φ : sm_Z → Prop} {I : sm_I} {L : sm_L} {R : sm_R} {q : Nat} {x1 : Int32} {x2 : Int32} {x3 : Int32} (h : ((x2 = (9 : Int32) → sm_wp sm_P S (d + 1) 240 4 [.ref 7, .int x1, .int x2, .int x3] [.int (1 : Int32)] (xLay, I, L, (kT q R)) (0, 0) Φ) ∧ (¬ x2 = (9 : Int32) → ((x2 = (13 : Int32) → sm_wp sm_P S (d + 1) 240 4 [.ref 7, .int x1, .int x2, .int x3] [.int (1 : Int32)] (xLay, I, L, (kT q R)) (0, 0) Φ) ∧ (¬ x2 = (13 : Int32) → sm_wp sm_P S (d + 1) 240 4 [.ref 7, .int x1, .int x2, .int x3] [.int (0 : Int32)] (xLay, I, L, (kT q R)) (0, 0) Φ))))) : sm_wp sm_P S (d + 1) 240 0 [.ref 7, .int x1, .int x2, .int x3] [] (xLay, I, L, (kT q R)) (0, 0) Φ := sm_wp_step (⟨fun q2 => ((h).1 q2), fun q2 => ⟨fun q1 => ((((h).2 q2)).1 q1), fun q1 => ((((h).2 q2)).2 q1)⟩⟩)
theorem t_X3_faultOf_4 {S : sm_C} {d : Nat} {Φ : sm_Z → Prop} {I : sm_I} {L : sm_L} {R : sm_R} {q : Nat} {x1 : Int32} {x2 : Int32} {x3 : Int32} {s0 : Int32} (h : sm_wp sm_P S d 241 0 [.int x1, .int x2] [] (xLay, I, L, (kT q R)) (0, 0) (fun z => ∃ (r3 : Int32) (I1 : sm_I) (L2 : sm_L), z = (some (.int r3), (xLay, I1, L2, (kT q R))) ∧ ((r3 = (-1 : Int32) → Φ (some (.int (1 : Int32)), (xLay, I1, L2, (kT q R)))) ∧ (¬ r3 = (-1 : Int32) → ((s0 = 0 → ((x2 = (21 : Int32) → Φ (some (.int (0 : Int32)), (xLay, I1, L2, (kT q R)))) ∧ (¬ x2 = (21 : Int32) → (((500 : Int32) ≤ x3 → Φ (some (.int (2 : Int32)), (xLay, I1, L2, (kT q R)))) ∧ (¬ (500 : Int32) ≤ x3 → sm_wp sm_P S d 242 0 [.ref 7, .int x1, .int x2] [] (xLay, I1, L2, (kT q R)) (0, 0) (fun z => ∃ (r6 : Int32) (I4 : sm_I) (L5 : sm_L), z = (some (.int r6), (xLay, I4, L5, (kT q R))) ∧ ((r6 = 0 → Φ (some (.int (2 : Int32)), (xLay, I4, L5, (kT q R)))) ∧ (¬ r6 = 0 → Φ (some (.int (0 : Int32)), (xLay, I4, L5, (kT q R))))))))))) ∧ (¬ s0 = 0 → (((I1 7 1) = (12 : Int32) → Φ (some (.int (1 : Int32)), (xLay, I1, L2, (kT q R)))) ∧ (¬ (I1 7 1) = (12 : Int32) → ((x2 = (21 : Int32) → Φ (some (.int (0 : Int32)), (xLay, I1, L2, (kT q R)))) ∧ (¬ x2 = (21 : Int32) → (((500 : Int32) ≤ x3 → Φ (some (.int (2 : Int32)), (xLay, I1, L2, (kT q R)))) ∧ (¬ (500 : Int32) ≤ x3 → sm_wp sm_P S d 242 0 [.ref 7, .int x1, .int x2] [] (xLay, I1, L2, (kT q R)) (0, 0) (fun z => ∃ (r13 : Int32) (I11 : sm_I) (L12 : sm_L), z = (some (.int r13), (xLay, I11, L12, (kT q R))) ∧ ((r13 = 0 → Φ (some (.int (2 : Int32)), (xLay, I11, L12, (kT q R)))) ∧ (¬ r13 = 0 → Φ (some (.int (0 : Int32)), (xLay, I11, L12, (kT q R)))))))))))))))))) : sm_wp sm_P S (d + 1) 240 4 [.ref 7, .int x1, .int x2, .int x3] [.int s0] (xLay, I, L, (kT q R)) (0, 0) Φ := sm_wp_step (sm_ci0 (h) (fun r3 I1 L2 q21 => ⟨fun q20 => ((q21).1 q20), fun q20 => ⟨fun q19 => ⟨fun q10 => ((((((q21).2 q20)).1 q19)).1 q10), fun q10 => ⟨fun q9 => ((((((((q21).2 q20)).1 q19)).2 q10)).1 q9), fun q9 => sm_ci0 (((((((((q21).2 q20)).1 q19)).2 q10)).2 q9)) (fun r6 I4 L5 q8 => ⟨fun q7 => ((q8).1 q7), fun q7 => ((q8).2 q7)⟩)⟩⟩, fun q19 => ⟨fun q18 => ((((((q21).2 q20)).2 q19)).1 q18), fun q18 => ⟨fun q17 => ((((((((q21).2 q20)).2 q19)).2 q18)).1 q17), fun q17 => ⟨fun q16 => ((((((((((q21).2 q20)).2 q19)).2 q18)).2 q17)).1 q16), fun q16 => sm_ci0 (((((((((((q21).2 q20)).2 q19)).2 q18)).2 q17)).2 q16)) (fun r13 I11 L12 q15 => ⟨fun q14 => ((q15).1 q14), fun q14 => ((q15).2 q14)⟩)⟩⟩⟩⟩⟩))
theorem t_X3_clear_0 {S : sm_C} {d : Nat} {Φ : sm_Z → Prop} {I : sm_I} {L : sm_L} {R : sm_R} {q : Nat} (h : sm_wp sm_P S d 306 0 [.ref 8, .int (0 : Int32)] [] (xLay, I, L, (kT q R)) (0, 0) (fun z => ∃ (I1 : sm_I) (L2 : sm_L), z = (none, (xLay, I1, L2, (kT q R))) ∧ Φ (none, (xLay, (sm_up I1 7 1 (0 : Int32)), L2, (kT q R))))) : sm_wp sm_P S (d + 1) 239 0 [.ref 7] [] (xLay, I, L, (kT q R)) (0, 0) Φ := sm_wp_step (sm_cv0 (h) (fun I1 L2 q4 => q4))
theorem t_X7_syntaxFault_0 {S : sm_C} {d : Nat} {Φ : sm_Z → Prop} {I : sm_I} {L : sm_L} {R : sm_R} {q : Nat} (h : sm_wp sm_P S d 239 0 [.ref 7] [] (xLay, I, L, (kT q R)) (0, 0) (fun z => ∃ (I1 : sm_I) (L2 : sm_L), z = (none, (xLay, I1, L2, (kT q R))) ∧ sm_wp sm_P S (d + 1) 277 1 [.ref 2, .int (0 : Int32), .int (0 : Int32)] [] (xLay, I1, L2, (kT q R)) (0, 0) Φ)) : sm_wp sm_P S (d + 1) 277 0 [.ref 2] [] (xLay, I, L, (kT q R)) (0, 0) Φ := sm_wp_step (sm_cv0 (h) (fun I1 L2 q4 => q4))
theorem t_X7_syntaxFault_1 {S : sm_C} {d : Nat} {Φ : sm_Z → Prop} {I : sm_I} {L : sm_L} {R : sm_R} {q : Nat} {x1 : Int32} {x2 : Int32} (h : (((I 3 3) < x2 → Φ (some (.int (0 : Int32)), (xLay, I, L, (kT q R)))) ∧ (¬ (I 3 3) < x2 → (vp_in x2 502) ∧ sm_wp sm_P S d 240 0 [.ref 7, .int x1, .int (I 4 x2.toNatClampNeg), .int x2] [] (xLay, I, L, (kT q R)) (0, 0) (fun z => ∃ (r3 : Int32) (I1 : sm_I) (L2 : sm_L), z = (some (.int r3), (xLay, I1, L2, (kT q R))) ∧ ((r3 = 0 → (vp_in x2 502) ∧ sm_wp sm_P S d 241 0 [.int x1, .int (I1 4 x2.toNatClampNeg)] [] (xLay, I1, L2, (kT q R)) (0, 0) (fun z => ∃ (r6 : Int32) (I4 : sm_I) (L5 : sm_L), z = (some (.int r6), (xLay, I4, L5, (kT q R))) ∧ sm_wp sm_P S (d + 1) 277 1 [.ref 2, .int r6, .int (x2 + (1 : Int32))] [] (xLay, I4, L5, (kT q R)) (0, 0) Φ)) ∧ (¬ r3 = 0 → (vp_in x2 502) ∧ ∀ I8 : sm_I, I8 = (sm_up I1 2 11 (I1 5 x2.toNatClampNeg)) → Φ (some (.int r3), (xLay, I8, L2, (kT q R))))))))) : sm_wp sm_P S (d + 1) 277 1 [.ref 2, .int x1, .int x2] [] (xLay, I, L, (kT q R)) (0, 0) Φ := sm_wp_step (⟨fun q11 => ((h).1 q11), fun q11 => ⟨(((h).2 q11)).1, sm_ci0 ((((h).2 q11)).2) (fun r3 I1 L2 q10 => ⟨fun q9 => ⟨(((q10).1 q9)).1, sm_ci0 ((((q10).1 q9)).2) (fun r6 I4 L5 q7 => q7)⟩, fun q9 => ⟨(((q10).2 q9)).1, ((((q10).2 q9)).2 _ rfl)⟩⟩)⟩⟩)
theorem t_X7_find_0 {S : sm_C} {d : Nat} {Φ : sm_Z → Prop} {I : sm_I} {L : sm_L} {R : sm_R} {q : Nat} {y1 : Int64} {x3 : Int32} (h : sm_wp sm_P S d 272 1 [.ref 2, .long y1, .int x3, .int (0 : Int32)] [] (xLay, I, L, (kT q R)) (0, 0) Φ) : sm_wp sm_P S d 272 0 [.ref 2, .long y1, .int x3] [] (xLay, I, L, (kT q R)) (0, 0) Φ := sm_wp_step (h)
theorem t_X7_find_1 {S : sm_C} {d : Nat} {Φ : sm_Z → Prop} {I : sm_I} {L : sm_L} {R : sm_R} {q : Nat} {y1 : Int64} {x3 : Int32} {x4 : Int32} (h : (((I 2 5) ≤ x4 → Φ (some (.int (-1 : Int32)), (xLay, I, L, (kT q R)))) ∧ (¬ (I 2 5) ≤ x4 → (vp_in x4 35) ∧ (((lg_cmp (L 9 x4.toNatClampNeg) y1) = 0 → (vp_in x4 35) ∧ (((I 10 x4.toNatClampNeg) = x3 → (vp_in x4 35) ∧ Φ (some (.int (I 11 x4.toNatClampNeg)), (xLay, I, L, (kT q R)))) ∧ (¬ (I 10 x4.toNatClampNeg) = x3 → sm_wp sm_P S d 272 1 [.ref 2, .long y1, .int x3, .int (x4 + (1 : Int32))] [] (xLay, I, L, (kT q R)) (0, 0) Φ))) ∧ (¬ (lg_cmp (L 9 x4.toNatClampNeg) y1) = 0 → sm_wp sm_P S d 272 1 [.ref 2, .long y1, .int x3, .int (x4 + (1 : Int32))] [] (xLay, I, L, (kT q R)) (0, 0) Φ))))) : sm_wp sm_P S d 272 1 [.ref 2, .long y1, .int x3, .int x4] [] (xLay, I, L, (kT q R)) (0, 0) Φ := sm_wp_step (⟨fun q3 => ((h).1 q3), fun q3 => ⟨(((h).2 q3)).1, ⟨fun q2 => ⟨((((((h).2 q3)).2).1 q2)).1, ⟨fun q1 => ⟨(((((((((h).2 q3)).2).1 q2)).2).1 q1)).1, (((((((((h).2 q3)).2).1 q2)).2).1 q1)).2⟩, fun q1 => ((((((((h).2 q3)).2).1 q2)).2).2 q1)⟩⟩, fun q2 => (((((h).2 q3)).2).2 q2)⟩⟩⟩)
theorem t_X7_takeNew_0 {S : sm_C} {d : Nat} {Φ : sm_Z → Prop} {I : sm_I} {L : sm_L} {R : sm_R} {q : Nat} {y1 : Int64} (h : sm_wp sm_P S (d + 1) 280 1 [.ref 2, .long y1, .int (0 : Int32)] [] (xLay, I, L, (kT q R)) (0, 0) Φ) : sm_wp sm_P S (d + 1) 280 0 [.ref 2, .long y1] [] (xLay, I, L, (kT q R)) (0, 0) Φ := sm_wp_step (h)
theorem t_X7_takeNew_1 {S : sm_C} {d : Nat} {Φ : sm_Z → Prop} {I : sm_I} {L : sm_L} {R : sm_R} {q : Nat} {y1 : Int64} {x3 : Int32} (h : (((I 2 5) ≤ x3 → (((I 2 7) = (8 : Int32) → (((35 : Int32) ≤ (I 2 5) → Φ (some (.int (0 : Int32)), (xLay, I, L, (kT q R)))) ∧ (¬ (35 : Int32) ≤ (I 2 5) → (vp_in (I 2 5) 35) ∧ ∀ L10 : sm_L, L10 = (sm_up L 9 (I 2 5).toNatClampNeg y1) → (vp_in (I 2 5) 35) ∧ ∀ I11 : sm_I, I11 = (sm_up I 10 (I 2 5).toNatClampNeg (6 : Int32)) → sm_wp sm_P S d 275 0 [.ref 2, .int (6 : Int32)] [] (xLay, I11, L10, (kT q R)) (0, 0) (fun z => ∃ (r14 : Int32) (I12 : sm_I) (L13 : sm_L), z = (some (.int r14), (xLay, I12, L13, (kT q R))) ∧ (vp_in (I11 2 5) 35) ∧ ∀ I15 : sm_I, I15 = (sm_up I12 11 (I11 2 5).toNatClampNeg r14) → ∀ I16 : sm_I, I16 = (sm_up I15 2 5 ((I15 2 5) + (1 : Int32))) → Φ (some (.int (0 : Int32)), (xLay, I16, L13, (kT q R))))))) ∧ (¬ (I 2 7) = (8 : Int32) → (((35 : Int32) ≤ (I 2 5) → Φ (some (.int (0 : Int32)), (xLay, I, L, (kT q R)))) ∧ (¬ (35 : Int32) ≤ (I 2 5) → (vp_in (I 2 5) 35) ∧ ∀ L1 : sm_L, L1 = (sm_up L 9 (I 2 5).toNatClampNeg y1) → (vp_in (I 2 5) 35) ∧ ∀ I2 : sm_I, I2 = (sm_up I 10 (I 2 5).toNatClampNeg (I 2 7)) → sm_wp sm_P S d 275 0 [.ref 2, .int (I 2 7)] [] (xLay, I2, L1, (kT q R)) (0, 0) (fun z => ∃ (r5 : Int32) (I3 : sm_I) (L4 : sm_L), z = (some (.int r5), (xLay, I3, L4, (kT q R))) ∧ (vp_in (I2 2 5) 35) ∧ ∀ I6 : sm_I, I6 = (sm_up I3 11 (I2 2 5).toNatClampNeg r5) → ∀ I7 : sm_I, I7 = (sm_up I6 2 5 ((I6 2 5) + (1 : Int32))) → Φ (some (.int (0 : Int32)), (xLay, I7, L4, (kT q R))))))))) ∧ (¬ (I 2 5) ≤ x3 → (vp_in x3 35) ∧ (((lg_cmp (L 9 x3.toNatClampNeg) y1) = 0 → Φ (some (.int (3 : Int32)), (xLay, I, L, (kT q R)))) ∧ (¬ (lg_cmp (L 9 x3.toNatClampNeg) y1) = 0 → sm_wp sm_P S (d + 1) 280 1 [.ref 2, .long y1, .int (x3 + (1 : Int32))] [] (xLay, I, L, (kT q R)) (0, 0) Φ))))) : sm_wp sm_P S (d + 1) 280 1 [.ref 2, .long y1, .int x3] [] (xLay, I, L, (kT q R)) (0, 0) Φ := sm_wp_step (⟨fun q21 => ⟨fun q19 => ⟨fun q18 => ((((((h).1 q21)).1 q19)).1 q18), fun q18 => ⟨(((((((h).1 q21)).1 q19)).2 q18)).1, ⟨(((((((((h).1 q21)).1 q19)).2 q18)).2 _ rfl)).1, sm_ci0 (((((((((((h).1 q21)).1 q19)).2 q18)).2 _ rfl)).2 _ rfl)) (fun r14 I12 L13 q17 => ⟨(q17).1, (((q17).2 _ rfl) _ rfl)⟩)⟩⟩⟩, fun q19 => ⟨fun q9 => ((((((h).1 q21)).2 q19)).1 q9), fun q9 => ⟨(((((((h).1 q21)).2 q19)).2 q9)).1, ⟨(((((((((h).1 q21)).2 q19)).2 q9)).2 _ rfl)).1, sm_ci0 (((((((((((h).1 q21)).2 q19)).2 q9)).2 _ rfl)).2 _ rfl)) (fun r5 I3 L4 q8 => ⟨(q8).1, (((q8).2 _ rfl) _ rfl)⟩)⟩⟩⟩⟩, fun q21 => ⟨(((h).2 q21)).1, ⟨fun q20 => (((((h).2 q21)).2).1 q20), fun q20 => (((((h).2 q21)).2).2 q20)⟩⟩⟩)
end
section
/-! THE TOKENS of a tape, as a function of its bytes -/
def tk_bl (x : Int32) : Bool := decide (x = 9) || decide (x = 10) || decide (x = 13) || decide (x = 32)
def tk_le (x : Int32) : Bool := decide (97 ≤ x.toInt) && decide (x.toInt ≤ 122)
def tk_di (x : Int32) : Bool := decide (48 ≤ x.toInt) && decide (x.toInt ≤ 57)
def tk_run (f : Int32 → Bool) (b : Nat → Int32) (n : Nat) : Nat → Nat → Nat
  | 0, p => p
  | k + 1, p => if p < n ∧ f (b p) = true then tk_run f b n k (p + 1) else p
/-- the end of a run of such bytes -/
def tk_end (f : Int32 → Bool) (b : Nat → Int32) (n p : Nat) : Nat := tk_run f b n (n - p) p
theorem tk_end_s {f : Int32 → Bool} {b : Nat → Int32} {n p : Nat} (h : p < n) (hf : f (b p) = true) : tk_end f b n p = tk_end f b n (p + 1) := by
  unfold tk_end
  rw [show n - p = (n - (p + 1)) + 1 by omega]
  show (if p < n ∧ f (b p) = true then _ else _) = _
  rw [if_pos ⟨h, hf⟩]
theorem tk_end_n {f : Int32 → Bool} {b : Nat → Int32} {n p : Nat} (h : ¬ (p < n ∧ f (b p) = true)) : tk_end f b n p = p := by
  unfold tk_end
  cases n - p with
  | zero => rfl
  | succ k =>
    show (if p < n ∧ f (b p) = true then _ else _) = _
    rw [if_neg h]
theorem tk_run_le {f : Int32 → Bool} {b : Nat → Int32} {n : Nat} : ∀ (k p : Nat), p ≤ tk_run f b n k p ∧ tk_run f b n k p ≤ p + k := by
  intro k
  induction k with
  | zero => intro p; exact ⟨Nat.le_refl _, Nat.le_refl _⟩
  | succ k ih =>
    intro p
    show p ≤ (if p < n ∧ f (b p) = true then tk_run f b n k (p + 1) else p) ∧ (if p < n ∧ f (b p) = true then tk_run f b n k (p + 1) else p) ≤ p + (k + 1)
    by_cases c : p < n ∧ f (b p) = true
    · rw [if_pos c]; have := ih (p + 1); omega
    · rw [if_neg c]; omega
theorem tk_end_le {f : Int32 → Bool} {b : Nat → Int32} {n p : Nat} : p ≤ tk_end f b n p := (tk_run_le _ _).1
theorem tk_end_n2 {f : Int32 → Bool} {b : Nat → Int32} {n p : Nat} (h : p ≤ n) : tk_end f b n p ≤ n := by
  have := (tk_run_le (f := f) (b := b) (n := n) (n - p) p).2
  unfold tk_end; omega
/-- the bytes from p on, k of them, in a number -/
def tk_cd (f : Int64 → Int32 → Int64) (b : Nat → Int32) (p : Nat) : Nat → Int64
  | 0 => 0
  | k + 1 => f (tk_cd f b p k) (b (p + k))
def tk_f8 (s : Int64) (x : Int32) : Int64 := (s <<< (((8 : Int32)).toInt64 &&& 63)) ||| (x).toInt64
def tk_f10 (s : Int64) (x : Int32) : Int64 := ((s * (10 : Int64)) + (x).toInt64) - (48 : Int64)
def tk_wd (y : Int64) : Nat → Nat → Int32
  | 0, _ => 15
  | k + 1, i => if sm_words.getD i 0 = y then Int32.ofNat i else tk_wd y k (i + 1)
def tk_sg (x : Int32) : Int32 := if x.toInt = 45 then 19 else if x.toInt = 58 then 18 else if x.toInt = 59 then 17 else 20
/-- where the TOKEN at p ends -/
def tk_nx (b : Nat → Int32) (n p : Nat) : Nat := if tk_le (b p) = true then tk_end tk_le b n p else if tk_di (b p) = true then tk_end tk_di b n p else p + 1
def tk_kd (b : Nat → Int32) (n p : Nat) : Int32 := if tk_le (b p) = true then (if tk_end tk_le b n p - p ≤ 8 then tk_wd (tk_cd tk_f8 b p (tk_end tk_le b n p - p)) 15 0 else 20) else if tk_di (b p) = true then (if tk_end tk_di b n p - p ≤ 4 then 16 else 20) else tk_sg (b p)
def tk_vl (b : Nat → Int32) (n p : Nat) : Int64 := if tk_le (b p) = true then tk_cd tk_f8 b p (tk_end tk_le b n p - p) else if tk_di (b p) = true then tk_cd tk_f10 b p (tk_end tk_di b n p - p) else 0
def tk_sk (b : Nat → Int32) (n p : Nat) : Nat := tk_end tk_bl b n p
/-- where the TOKEN of that number begins; the length, where there is none -/
def tk_at (b : Nat → Int32) (n : Nat) : Nat → Nat
  | 0 => tk_sk b n 0
  | i + 1 => if tk_at b n i < n then tk_sk b n (tk_nx b n (tk_at b n i)) else n
theorem tk_end_gt {f : Int32 → Bool} {b : Nat → Int32} {n p : Nat} (h : p < n) (hf : f (b p) = true) : p < tk_end f b n p := by
  rw [tk_end_s h hf]; exact tk_end_le
theorem tk_nx_gt {b : Nat → Int32} {n p : Nat} (h : p < n) : p < tk_nx b n p ∧ tk_nx b n p ≤ n := by
  unfold tk_nx
  by_cases c : tk_le (b p) = true
  · rw [if_pos c]; exact ⟨tk_end_gt h c, tk_end_n2 (by omega)⟩
  · rw [if_neg c]
    by_cases c2 : tk_di (b p) = true
    · rw [if_pos c2]; exact ⟨tk_end_gt h c2, tk_end_n2 (by omega)⟩
    · rw [if_neg c2]; omega
theorem tk_at_le {b : Nat → Int32} {n : Nat} : ∀ i, tk_at b n i ≤ n := by
  intro i
  induction i with
  | zero => exact tk_end_n2 (Nat.zero_le _)
  | succ i ih =>
    show (if tk_at b n i < n then tk_sk b n (tk_nx b n (tk_at b n i)) else n) ≤ n
    by_cases c : tk_at b n i < n
    · rw [if_pos c]; exact tk_end_n2 (tk_nx_gt c).2
    · rw [if_neg c]; exact Nat.le_refl _
/-! the class's scanner: single bytes -/
theorem ks_isBlank {S : sm_C} {d q : Nat} {Φ : sm_Z → Prop} {I : sm_I} {L : sm_L} {R : sm_R} {x : Int32} (h : Φ (some (.int (if tk_bl x = true then 1 else 0)), (xLay, I, L, kT q R))) : sm_wp sm_P S d 298 0 [.int x] [] (xLay, I, L, kT q R) (0, 0) Φ := by
  unfold tk_bl at h
  refine t_X9_isBlank_0 ⟨fun a => ?_, fun a => ⟨fun b => ?_, fun b => ⟨fun c => ?_, fun c => ⟨fun e => ?_, fun e => ?_⟩⟩⟩⟩
  · rw [if_pos (by simp [a])] at h; exact h
  · rw [if_pos (by simp [b])] at h; exact h
  · rw [if_pos (by simp [c])] at h; exact h
  · rw [if_pos (by simp [e])] at h; exact h
  · rw [if_neg (by simp [a, b, c, e])] at h; exact h
theorem ks_isLetter {S : sm_C} {d q : Nat} {Φ : sm_Z → Prop} {I : sm_I} {L : sm_L} {R : sm_R} {x : Int32} (h : Φ (some (.int (if tk_le x = true then 1 else 0)), (xLay, I, L, kT q R))) : sm_wp sm_P S d 300 0 [.int x] [] (xLay, I, L, kT q R) (0, 0) Φ := by
  have c1 : (97 : Int32).toInt = 97 := by decide
  have c2 : (122 : Int32).toInt = 122 := by decide
  unfold tk_le at h
  refine t_X9_isLetter_0 ⟨fun a => ?_, fun a => ⟨fun b => ?_, fun b => ?_⟩⟩
  · rw [kl_lt, c1] at a
    rw [if_neg (by simp; omega)] at h; exact h
  · rw [kl_lt, c2] at b
    rw [if_neg (by simp; omega)] at h; exact h
  · have a := kl_nlt a
    have b := kl_nlt b
    rw [c1] at a
    rw [c2] at b
    rw [if_pos (by simp; omega)] at h; exact h
theorem ks_isDigit {S : sm_C} {d q : Nat} {Φ : sm_Z → Prop} {I : sm_I} {L : sm_L} {R : sm_R} {x : Int32} (h : Φ (some (.int (if tk_di x = true then 1 else 0)), (xLay, I, L, kT q R))) : sm_wp sm_P S d 299 0 [.int x] [] (xLay, I, L, kT q R) (0, 0) Φ := by
  have c1 : (48 : Int32).toInt = 48 := by decide
  have c2 : (57 : Int32).toInt = 57 := by decide
  unfold tk_di at h
  refine t_X9_isDigit_0 ⟨fun a => ?_, fun a => ⟨fun b => ?_, fun b => ?_⟩⟩
  · rw [kl_lt, c1] at a
    rw [if_neg (by simp; omega)] at h; exact h
  · rw [kl_lt, c2] at b
    rw [if_neg (by simp; omega)] at h; exact h
  · have a := kl_nlt a
    have b := kl_nlt b
    rw [c1] at a
    rw [c2] at b
    rw [if_pos (by simp; omega)] at h; exact h
theorem ks_sign {S : sm_C} {d q : Nat} {Φ : sm_Z → Prop} {I : sm_I} {L : sm_L} {R : sm_R} {x : Int32} (h : Φ (some (.int (tk_sg x)), (xLay, I, L, kT q R))) : sm_wp sm_P S d 303 0 [.int x] [] (xLay, I, L, kT q R) (0, 0) Φ := by
  unfold tk_sg at h
  refine t_X9_sign_0 ⟨fun a => ?_, fun a => ⟨fun b => ?_, fun b => ⟨fun c => ?_, fun c => ?_⟩⟩⟩
  · rw [if_pos a] at h; exact h
  · rw [if_neg a, if_pos b] at h; exact h
  · rw [if_neg a, if_neg b, if_pos c] at h; exact h
  · rw [if_neg a, if_neg b, if_neg c] at h; exact h
end
section
/-! the class's scanner: words, runs, one TOKEN, all TOKENS -/
theorem tk_nat {x : Int32} {p : Nat} (h : x.toInt = p) : x.toNatClampNeg = p := by
  have := kl_nat (i := x) (by omega)
  omega
theorem tk_if (c : Bool) : ((if c = true then (1 : Int32) else 0) = 0) ↔ c = false := by cases c <;> decide
theorem tk_lg {x y : Int64} : lg_cmp x y = 0 ↔ x = y := by
  unfold lg_cmp
  constructor
  · intro h
    split at h
    · exact absurd h (by decide)
    · split at h
      · assumption
      · exact absurd h (by decide)
  · intro h
    subst h
    simp
theorem ks_word {S : sm_C} {d q : Nat} {Φ : sm_Z → Prop} {I : sm_I} {L : sm_L} {R : sm_R} {y : Int64} : ∀ (m i : Nat) (x2 : Int32), x2.toInt = i → i + m = 15 → Φ (some (.int (tk_wd y m i)), (xLay, I, L, kT q R)) → sm_wp sm_P S d 304 1 [.long y, .int x2] [] (xLay, I, L, kT q R) (0, 0) Φ := by
  have w15 : (Int32.ofNat sm_words.length).toInt = 15 := by decide
  have l15 : sm_words.length = 15 := rfl
  intro m
  induction m with
  | zero =>
    intro i x2 hx hm h
    refine t_X9_wordOrName_1 ⟨fun _ => h, fun a => ?_⟩
    have := kl_nle a
    omega
  | succ m ih =>
    intro i x2 hx hm h
    have np := tk_nat hx
    refine t_X9_wordOrName_1 ⟨fun a => ?_, fun _ => ⟨kl_in (by omega) (by omega), fun e => ?_, fun e => ?_⟩⟩
    · have := kl_le.mp a
      omega
    · have e := tk_lg.mp e
      rw [np] at e
      have h : Φ (some (.int (if sm_words.getD i 0 = y then Int32.ofNat i else tk_wd y m (i + 1))), (xLay, I, L, kT q R)) := h
      rw [if_pos e] at h
      have : x2 = Int32.ofNat i := en_ofI (by rw [hx, Int32.toInt_ofNat_of_lt (by omega)])
      rw [this]; exact h
    · have e : ¬ sm_words.getD i 0 = y := fun c => e (tk_lg.mpr (by rw [np]; exact c))
      have h : Φ (some (.int (if sm_words.getD i 0 = y then Int32.ofNat i else tk_wd y m (i + 1))), (xLay, I, L, kT q R)) := h
      rw [if_neg e] at h
      have s := ml_in1 (x := x2) (by omega)
      exact ih (i + 1) _ (by omega) (by omega) h
theorem ks_eol {S : sm_C} {d q : Nat} {Φ : sm_Z → Prop} {I : sm_I} {L : sm_L} {R : sm_R} {x2 : Int32} {n e : Nat} (hn : n ≤ 2000) (h2 : x2.toInt = n) (h : ∀ r : Int32, r.toInt = e → Φ (some (.int r), (xLay, I, L, kT q R))) : ∀ (m p : Nat) (x3 : Int32), x3.toInt = p → tk_end tk_le (I 1) n p = e → n - p < m → sm_wp sm_P S (d + 1) 296 1 [.ref 1, .int x2, .int x3] [] (xLay, I, L, kT q R) (0, 0) Φ := by
  intro m
  induction m with
  | zero => intro p x3 _ _ hM; omega
  | succ m ih =>
    intro p x3 hx he hM
    have np := tk_nat hx
    refine t_X9_endOfLetters_1 ⟨fun a => h x3 ?_, fun a => ⟨?_, ks_isLetter ⟨_, I, L, rfl, fun c => h x3 ?_, fun c => ?_⟩⟩⟩
    · have := kl_le.mp a
      rw [tk_end_n (by omega)] at he; omega
    · have := kl_nle a
      exact kl_in (by omega) (by omega)
    · rw [np] at c
      have c := (tk_if _).mp c
      rw [tk_end_n (by rw [c]; simp)] at he; omega
    · have a := kl_nle a
      rw [np, tk_if] at c
      have s := ml_in1 (x := x3) (by omega)
      rw [tk_end_s (by omega) (by simpa using c)] at he
      exact ih (p + 1) _ (by omega) he (by omega)
theorem ks_eod {S : sm_C} {d q : Nat} {Φ : sm_Z → Prop} {I : sm_I} {L : sm_L} {R : sm_R} {x2 : Int32} {n e : Nat} (hn : n ≤ 2000) (h2 : x2.toInt = n) (h : ∀ r : Int32, r.toInt = e → Φ (some (.int r), (xLay, I, L, kT q R))) : ∀ (m p : Nat) (x3 : Int32), x3.toInt = p → tk_end tk_di (I 1) n p = e → n - p < m → sm_wp sm_P S (d + 1) 295 1 [.ref 1, .int x2, .int x3] [] (xLay, I, L, kT q R) (0, 0) Φ := by
  intro m
  induction m with
  | zero => intro p x3 _ _ hM; omega
  | succ m ih =>
    intro p x3 hx he hM
    have np := tk_nat hx
    refine t_X9_endOfDigits_1 ⟨fun a => h x3 ?_, fun a => ⟨?_, ks_isDigit ⟨_, I, L, rfl, fun c => h x3 ?_, fun c => ?_⟩⟩⟩
    · have := kl_le.mp a
      rw [tk_end_n (by omega)] at he; omega
    · have := kl_nle a
      exact kl_in (by omega) (by omega)
    · rw [np] at c
      have c := (tk_if _).mp c
      rw [tk_end_n (by rw [c]; simp)] at he; omega
    · have a := kl_nle a
      rw [np, tk_if] at c
      have s := ml_in1 (x := x3) (by omega)
      rw [tk_end_s (by omega) (by simpa using c)] at he
      exact ih (p + 1) _ (by omega) he (by omega)
theorem tk_sub {x y : Int32} {e p : Nat} (hx : x.toInt = e) (hy : y.toInt = p) (h : p ≤ e) (h2 : e ≤ 2000) : (x - y).toInt = ((e - p : Nat) : Int) := by
  have q : (x - y).toInt = x.toInt - y.toInt := by
    rw [Int32.toInt_sub]; exact en_bmod (by omega) (by omega) (Or.inl rfl)
  rw [q, hx, hy]; omega
theorem ks_let {S : sm_C} {d q : Nat} {Φ : sm_Z → Prop} {I : sm_I} {L : sm_L} {R : sm_R} {x2 x4 : Int32} {b : Nat → Int32} {p e c : Nat} (hb : I 1 = b) (hc : (I 3 3).toInt = c) (c5 : c ≤ 500) (hp : x2.toInt = p) (he : x4.toInt = e) (pe : p ≤ e) (e2 : e ≤ 2000) (h : ∀ (J : sm_I) (Lj : sm_L), J = sm_up (sm_up I 4 c (if e - p ≤ 8 then tk_wd (tk_cd tk_f8 b p (e - p)) 15 0 else 20)) 3 3 (I 3 3 + 1) → Lj = sm_up L 6 c (tk_cd tk_f8 b p (e - p)) → Φ (some (.int x4), (xLay, J, Lj, kT q R))) : ∀ (m k : Nat) (x7 : Int32) (y5 : Int64), x7.toInt = ((p + k : Nat) : Int) → y5 = tk_cd tk_f8 b p k → p + k ≤ e → e - (p + k) < m → sm_wp sm_P S (d + 1) 302 2 [.ref 3, .ref 1, .int x2, .int x4, .long y5, .int x7] [] (xLay, I, L, kT q R) (0, 0) Φ := by
  have nc := tk_nat hc
  have c8 : (8 : Int32).toInt = 8 := by decide
  intro m
  induction m with
  | zero => intro k x7 y5 _ _ _ hM; omega
  | succ m ih =>
    intro k x7 y5 hx hy hk hM
    have np := tk_nat hx
    refine t_X9_scanOne_2 ⟨fun a => ?_, fun a => ?_⟩
    · have a := kl_le.mp a
      have ek : k = e - p := by omega
      subst ek
      subst hy
      have sb := tk_sub he hp pe e2
      have v : vp_in (I 3 3) 502 := kl_in (by omega) (by omega)
      refine ⟨fun g => ?_, fun g => ?_⟩
      · have g := kl_le.mp g
        rw [sb, c8] at g
        refine t_X9_wordOrName_0 (ks_word 15 0 0 (by decide) (by decide) ⟨_, I, L, rfl, v, fun I4 e4 => ?_⟩)
        rw [nc] at e4
        have g4 : I4 3 3 = I 3 3 := by rw [e4, en_up_ne _ _ _ _ (by omega)]
        rw [g4]
        refine ⟨v, fun L5 e5 I6 e6 => h I6 L5 ?_ ?_⟩
        · rw [e6, e4, if_pos (by omega)]
        · rw [e5, nc]
      · have g := kl_nle g
        rw [sb, c8] at g
        refine ⟨v, fun I4 e4 => ?_⟩
        rw [nc] at e4
        have g4 : I4 3 3 = I 3 3 := by rw [e4, en_up_ne _ _ _ _ (by omega)]
        rw [g4]
        refine ⟨v, fun L5 e5 I6 e6 => h I6 L5 ?_ ?_⟩
        · rw [e6, e4, if_neg (by omega)]
        · rw [e5, nc]
    · have a := kl_nle a
      have s := ml_in1 (x := x7) (by omega)
      refine ⟨kl_in (by omega) (by omega), fun n12 en => ih (k + 1) _ n12 (by omega) ?_ (by omega) (by omega)⟩
      rw [en, hy, np, hb]
      rfl
theorem ks_dig {S : sm_C} {d q : Nat} {Φ : sm_Z → Prop} {I : sm_I} {L : sm_L} {R : sm_R} {x2 x4 : Int32} {b : Nat → Int32} {p e c : Nat} (hb : I 1 = b) (hc : (I 3 3).toInt = c) (c5 : c ≤ 500) (hp : x2.toInt = p) (he : x4.toInt = e) (pe : p ≤ e) (e2 : e ≤ 2000) (h : ∀ (J : sm_I) (Lj : sm_L), J = sm_up (sm_up I 4 c (if e - p ≤ 4 then 16 else 20)) 3 3 (I 3 3 + 1) → Lj = sm_up L 6 c (tk_cd tk_f10 b p (e - p)) → Φ (some (.int x4), (xLay, J, Lj, kT q R))) : ∀ (m k : Nat) (x7 : Int32) (y5 : Int64), x7.toInt = ((p + k : Nat) : Int) → y5 = tk_cd tk_f10 b p k → p + k ≤ e → e - (p + k) < m → sm_wp sm_P S (d + 1) 302 10 [.ref 3, .ref 1, .int x2, .int x4, .long y5, .int x7] [] (xLay, I, L, kT q R) (0, 0) Φ := by
  have nc := tk_nat hc
  have c4 : (4 : Int32).toInt = 4 := by decide
  intro m
  induction m with
  | zero => intro k x7 y5 _ _ _ hM; omega
  | succ m ih =>
    intro k x7 y5 hx hy hk hM
    have np := tk_nat hx
    refine t_X9_scanOne_10 ⟨fun a => ?_, fun a => ?_⟩
    · have a := kl_le.mp a
      have ek : k = e - p := by omega
      subst ek
      subst hy
      have sb := tk_sub he hp pe e2
      have v : vp_in (I 3 3) 502 := kl_in (by omega) (by omega)
      refine ⟨fun g => ⟨v, fun I4 e4 => ?_⟩, fun g => ⟨v, fun I4 e4 => ?_⟩⟩
      · have g := kl_le.mp g
        rw [sb, c4] at g
        rw [nc] at e4
        have g4 : I4 3 3 = I 3 3 := by rw [e4, en_up_ne _ _ _ _ (by omega)]
        rw [g4]
        refine ⟨v, fun L5 e5 I6 e6 => h I6 L5 ?_ ?_⟩
        · rw [e6, e4, if_pos (by omega)]
        · rw [e5, nc]
      · have g := kl_nle g
        rw [sb, c4] at g
        rw [nc] at e4
        have g4 : I4 3 3 = I 3 3 := by rw [e4, en_up_ne _ _ _ _ (by omega)]
        rw [g4]
        refine ⟨v, fun L5 e5 I6 e6 => h I6 L5 ?_ ?_⟩
        · rw [e6, e4, if_neg (by omega)]
        · rw [e5, nc]
    · have a := kl_nle a
      have s := ml_in1 (x := x7) (by omega)
      refine ⟨kl_in (by omega) (by omega), fun n12 en => ih (k + 1) _ n12 (by omega) ?_ (by omega) (by omega)⟩
      rw [en, hy, np, hb]
      rfl
end
section
/-! the class's scanner: one TOKEN, all TOKENS -/
theorem ks_one {S : sm_C} {d q : Nat} {Φ : sm_Z → Prop} {I : sm_I} {L : sm_L} {R : sm_R} {x2 x3 : Int32} {n p c : Nat} (hn : n ≤ 2000) (h3 : x3.toInt = n) (hp : x2.toInt = p) (pn : p < n) (hc : (I 3 3).toInt = c) (c5 : c ≤ 500) (h : ∀ (r : Int32) (J : sm_I) (Lj : sm_L), r.toInt = tk_nx (I 1) n p → J = sm_up (sm_up (sm_up I 5 c x2) 4 c (tk_kd (I 1) n p)) 3 3 (I 3 3 + 1) → Lj = sm_up L 6 c (tk_vl (I 1) n p) → Φ (some (.int r), (xLay, J, Lj, kT q R))) : sm_wp sm_P S (d + 2) 302 0 [.ref 3, .ref 1, .int x2, .int x3] [] (xLay, I, L, kT q R) (0, 0) Φ := by
  have nc := tk_nat hc
  have np := tk_nat hp
  have v : vp_in (I 3 3) 502 := kl_in (by omega) (by omega)
  have v2 : vp_in x2 2000 := kl_in (by omega) (by omega)
  refine t_X9_scanOne_0 ⟨v, fun I1 e1 => ⟨v2, ?_⟩⟩
  rw [nc] at e1
  have r1 : I1 1 = I 1 := by funext j; rw [e1, en_up_ne _ _ _ _ (by omega)]
  have g1 : I1 3 3 = I 3 3 := by rw [e1, en_up_ne _ _ _ _ (by omega)]
  rw [np, r1]
  refine ks_isLetter ⟨_, I1, L, rfl, fun a => ⟨v2, ?_⟩, fun a => ?_⟩
  · have a := (tk_if _).mp a
    have na : ¬ tk_le (I 1 p) = true := by rw [a]; decide
    unfold tk_nx tk_kd tk_vl at h
    rw [if_neg na, if_neg na, if_neg na] at h
    rw [r1]
    refine ks_isDigit ⟨_, I1, L, rfl, fun z => ⟨v2, ?_⟩, fun z => ?_⟩
    · have z := (tk_if _).mp z
      have nz : ¬ tk_di (I 1 p) = true := by rw [z]; decide
      rw [if_neg nz, if_neg nz, if_neg nz] at h
      rw [r1]
      refine ks_sign ⟨_, I1, L, rfl, by rw [g1]; exact v, fun I2 e2 => ?_⟩
      rw [g1, nc] at e2
      have g2 : I2 3 3 = I 3 3 := by rw [e2, en_up_ne _ _ _ _ (by omega), g1]
      rw [g2]
      refine ⟨v, fun L5 e5 I6 e6 => h _ I6 L5 ?_ ?_ ?_⟩
      · rw [ml_in1 (by omega)]; omega
      · rw [e6, e2, e1]
      · rw [e5, nc]
    · rw [tk_if] at z
      have z : tk_di (I 1 p) = true := by simpa using z
      rw [if_pos z, if_pos z, if_pos z] at h
      refine t_X9_endOfDigits_0 (ks_eod hn h3 (e := tk_end tk_di (I 1) n p) (fun r hr => ⟨r, I1, L, rfl, ?_⟩) (n - p + 1) p x2 hp (by rw [r1]) (by omega))
      refine ks_dig (b := I 1) (c := c) (p := p) (e := tk_end tk_di (I 1) n p) r1 (by rw [g1]; exact hc) c5 hp hr tk_end_le (Nat.le_trans (tk_end_n2 (by omega)) hn) (fun J Lj eJ eL => h r J Lj hr ?_ eL) (tk_end tk_di (I 1) n p - p + 1) 0 x2 0 (by omega) rfl tk_end_le (by omega)
      rw [eJ, g1, e1]
  · rw [tk_if] at a
    have a : tk_le (I 1 p) = true := by simpa using a
    unfold tk_nx tk_kd tk_vl at h
    rw [if_pos a, if_pos a, if_pos a] at h
    refine t_X9_endOfLetters_0 (ks_eol hn h3 (e := tk_end tk_le (I 1) n p) (fun r hr => ⟨r, I1, L, rfl, ?_⟩) (n - p + 1) p x2 hp (by rw [r1]) (by omega))
    refine ks_let (b := I 1) (c := c) (p := p) (e := tk_end tk_le (I 1) n p) r1 (by rw [g1]; exact hc) c5 hp hr tk_end_le (Nat.le_trans (tk_end_n2 (by omega)) hn) (fun J Lj eJ eL => h r J Lj hr ?_ eL) (tk_end tk_le (I 1) n p - p + 1) 0 x2 0 (by omega) rfl tk_end_le (by omega)
    rw [eJ, g1, e1]
/-- the rows of the TOKENS below c -/
def tk_rows (b : Nat → Int32) (n c : Nat) (I : sm_I) (L : sm_L) : Prop := ∀ i, i < c → tk_at b n i < n ∧ I 4 i = tk_kd b n (tk_at b n i) ∧ (I 5 i).toInt = tk_at b n i ∧ L 6 i = tk_vl b n (tk_at b n i)
def ks_fr (I J : sm_I) (L K : sm_L) : Prop := (∀ a j, a ≠ 4 → a ≠ 5 → ¬ (a = 3 ∧ j = 3) → J a j = I a j) ∧ ∀ a j, a ≠ 6 → K a j = L a j
theorem ks_scan1 {S : sm_C} {d q : Nat} {Φ : sm_Z → Prop} {I0 : sm_I} {L0 : sm_L} {R : sm_R} {x2 : Int32} {b : Nat → Int32} {n : Nat} (hn : n ≤ 2000) (h2 : x2.toInt = n) (hb : I0 1 = b) (h : ∀ (c : Nat) (J : sm_I) (K : sm_L), c ≤ 501 → (J 3 3).toInt = c → tk_rows b n c J K → J 4 c = 21 → (J 5 c).toInt = n → (c ≤ 500 → tk_at b n c = n) → ks_fr I0 J L0 K → Φ (none, (xLay, J, K, kT q R))) : ∀ (m : Nat) (I : sm_I) (L : sm_L) (x3 x4 : Int32) (p c : Nat), x3.toInt = p → p ≤ n → 0 ≤ x4.toInt → x4.toInt ≤ p → (I 3 3).toInt = c → c ≤ 501 → tk_rows b n c I L → tk_sk b n p = tk_at b n c → ks_fr I0 I L0 L → n - p < m → sm_wp sm_P S (d + 3) 301 1 [.ref 3, .ref 1, .int x2, .int x3, .int x4] [] (xLay, I, L, kT q R) (0, 0) Φ := by
  have c2k : (2000 : Int32).toInt = 2000 := by decide
  have c500 : (500 : Int32).toInt = 500 := by decide
  intro m
  induction m with
  | zero => intro I L x3 x4 p c _ _ _ _ _ _ _ _ _ hM; omega
  | succ m ih =>
    intro I L x3 x4 p c hx pn h40 h4 hc c5 hr hs hf hM
    have nc := tk_nat hc
    have np := tk_nat hx
    have v : vp_in (I 3 3) 502 := kl_in (by omega) (by omega)
    have rb : I 1 = b := by funext j; rw [hf.1 1 j (by decide) (by decide) (by omega), hb]
    have out : (c ≤ 500 → tk_at b n c = n) → (vp_in (I 3 3) 502) ∧ ∀ I1 : sm_I, I1 = (sm_up I 4 (I 3 3).toNatClampNeg (21 : Int32)) → (vp_in (I1 3 3) 502) ∧ ∀ I2 : sm_I, I2 = (sm_up I1 5 (I1 3 3).toNatClampNeg x2) → Φ (none, (xLay, I2, L, (kT q R))) := by
      intro ha
      refine ⟨v, fun I1 e1 => ?_⟩
      rw [nc] at e1
      have g1 : I1 3 3 = I 3 3 := by rw [e1, en_up_ne _ _ _ _ (by omega)]
      rw [g1, nc]
      refine ⟨v, fun I2 e2 => h c I2 L c5 ?_ (fun i hi => ?_) ?_ ?_ ha ⟨fun a j a1 a2 a3 => ?_, hf.2⟩⟩
      · rw [e2, en_up_ne _ _ _ _ (by omega), g1]; exact hc
      · rw [e2, en_up_ne _ _ _ _ (by omega), e1, en_up_ne _ _ _ _ (by omega), en_up_ne _ _ _ _ (by omega), en_up_ne _ _ _ _ (by omega)]
        exact hr i hi
      · rw [e2, en_up_ne _ _ _ _ (by omega), e1, en_up_eq]
      · rw [e2, en_up_eq]; exact h2
      · rw [e2, en_up_ne _ _ _ _ (by omega), e1, en_up_ne _ _ _ _ (by omega)]; exact hf.1 a j a1 a2 a3
    have en : p = n → tk_at b n c = n := fun e => by
      rw [← hs, e]; unfold tk_sk; exact tk_end_n (by omega)
    refine t_X9_scan_1 ⟨fun a => out (fun _ => ?_), fun a => ⟨fun a2 => out (fun _ => ?_), fun a2 => ⟨fun a3 => out (fun _ => ?_), fun a3 => ⟨?_, ?_⟩⟩⟩⟩
    · have := kl_le.mp a
      exact en (by omega)
    · have := kl_le.mp a2
      exact en (by omega)
    · rw [kl_lt, c500] at a3; omega
    · have := kl_nle a2
      exact kl_in (by omega) (by omega)
    · have a2 := kl_nle a2
      have a3 := kl_nlt a3
      have a := kl_nle a
      have s4 := ml_in1 (x := x4) (by omega)
      have s3 := ml_in1 (x := x3) (by omega)
      rw [np, rb]
      refine ks_isBlank ⟨_, I, L, rfl, fun z => ?_, fun z => ?_⟩
      · have z := (tk_if _).mp z
        have sp : tk_at b n c = p := by
          rw [← hs]; unfold tk_sk; exact tk_end_n (by rw [z]; simp)
        refine ks_one hn h2 hx (by omega) hc (by omega) (fun r J K er eJ eK => ⟨r, J, K, rfl, ?_⟩)
        rw [rb] at er eJ eK
        have nx := tk_nx_gt (b := b) (n := n) (p := p) (by omega)
        have s := ml_in1 (x := I 3 3) (by omega)
        refine ih J K r _ (tk_nx b n p) (c + 1) er nx.2 (by omega) (by omega) ?_ (by omega) (fun i hi => ?_) ?_ ⟨fun a j a1 a2 a3 => ?_, fun a j a1 => ?_⟩ (by omega)
        · rw [eJ, en_up_eq, s]; omega
        · by_cases e : i = c
          · subst e
            rw [sp, eJ, eK, en_up_ne _ _ _ _ (by omega), en_up_eq, en_up_ne _ _ _ _ (by omega), en_up_ne _ _ _ _ (by omega), en_up_eq, en_up_eq]
            exact ⟨by omega, rfl, hx, rfl⟩
          · rw [eJ, eK, en_up_ne _ _ _ _ (by omega), en_up_ne _ _ _ _ (by omega), en_up_ne _ _ _ _ (by omega), en_up_ne _ _ _ _ (by omega), en_up_ne _ _ _ _ (by omega), en_up_ne _ _ _ _ (by omega), en_up_ne _ _ _ _ (by omega)]
            exact hr i (by omega)
        · show tk_sk b n (tk_nx b n p) = (if tk_at b n c < n then tk_sk b n (tk_nx b n (tk_at b n c)) else n)
          rw [sp, if_pos (by omega)]
        · rw [eJ, en_up_ne _ _ _ _ (by omega), en_up_ne _ _ _ _ (by omega), en_up_ne _ _ _ _ (by omega)]; exact hf.1 a j a1 a2 a3
        · rw [eK, en_up_ne _ _ _ _ (by omega)]; exact hf.2 a j a1
      · rw [tk_if] at z
        have z : tk_bl (b p) = true := by simpa using z
        refine ih I L _ _ (p + 1) c (by omega) (by omega) (by omega) (by omega) hc c5 hr ?_ hf (by omega)
        rw [← hs]; unfold tk_sk; exact (tk_end_s (by omega) z).symm
theorem ks_scan {S : sm_C} {d q : Nat} {Φ : sm_Z → Prop} {I : sm_I} {L : sm_L} {R : sm_R} {x2 : Int32} {n : Nat} (hn : n ≤ 2000) (h2 : x2.toInt = n) (h : ∀ (c : Nat) (J : sm_I) (K : sm_L), c ≤ 501 → (J 3 3).toInt = c → tk_rows (I 1) n c J K → J 4 c = 21 → (J 5 c).toInt = n → (c ≤ 500 → tk_at (I 1) n c = n) → ks_fr I J L K → Φ (none, (xLay, J, K, kT q R))) : sm_wp sm_P S (d + 3) 301 0 [.ref 3, .ref 1, .int x2] [] (xLay, I, L, kT q R) (0, 0) Φ := by
  refine t_X9_scan_0 (ks_scan1 (I0 := I) (L0 := L) (b := I 1) hn h2 rfl h (n + 1) _ L 0 0 0 0 (by decide) (by omega) (by decide) (by decide) (by rw [en_up_eq]; decide) (by omega) (fun i hi => absurd hi (Nat.not_lt_zero i)) rfl ⟨fun a j a1 a2 a3 => ?_, fun _ _ _ => rfl⟩ (by omega))
  rw [en_up_ne _ _ _ _ (by omega)]
end
section
/-! the reference's cut, exact: single bytes -/
theorem mt_and : ∀ i : Fin 256, ((Int32.ofInt ((i.val : Int) - 128)) &&& 255).toInt = if 128 ≤ i.val then (i.val : Int) - 128 else (i.val : Int) + 128 := by decide +kernel
theorem mt_bt {x : Int32} (h0 : -128 ≤ x.toInt) (h1 : x.toInt ≤ 127) : (0 ≤ x.toInt → x &&& 255 = x) ∧ (x.toInt < 0 → 128 ≤ (x &&& 255).toInt) := by
  have q := mt_and ⟨(x.toInt + 128).toNat, by omega⟩
  have e : (((x.toInt + 128).toNat : Nat) : Int) - 128 = x.toInt := by omega
  simp only at q
  rw [e, Int32.ofInt_toInt] at q
  refine ⟨fun a => ?_, fun a => ?_⟩
  · rw [if_pos (by omega)] at q
    exact en_ofI (by rw [q])
  · rw [if_neg (by omega)] at q
    omega
/-- every byte is one -/
def mt_B (b : Nat → Int32) : Prop := ∀ j, j < 2000 → -128 ≤ (b j).toInt ∧ (b j).toInt ≤ 127
theorem mt_eq {x c : Int32} (h0 : -128 ≤ x.toInt) (h1 : x.toInt ≤ 127) (c0 : 0 ≤ c.toInt) (c1 : c.toInt ≤ 127) : x &&& 255 = c ↔ x = c := by
  have q := mt_bt h0 h1
  by_cases a : 0 ≤ x.toInt
  · rw [q.1 a]
  · have q := q.2 (by omega)
    constructor
    · intro e; rw [e] at q; omega
    · intro e; rw [e] at a; omega
theorem mt_le {x : Int32} (h0 : -128 ≤ x.toInt) (h1 : x.toInt ≤ 127) : tk_le (x &&& 255) = tk_le x := by
  have q := mt_bt h0 h1
  by_cases a : 0 ≤ x.toInt
  · rw [q.1 a]
  · have q := q.2 (by omega)
    unfold tk_le
    rw [show decide ((x &&& 255).toInt ≤ 122) = false from decide_eq_false (by omega), show decide (97 ≤ x.toInt) = false from decide_eq_false (by omega)]
    simp
theorem mt_di {x : Int32} (h0 : -128 ≤ x.toInt) (h1 : x.toInt ≤ 127) : tk_di (x &&& 255) = tk_di x := by
  have q := mt_bt h0 h1
  by_cases a : 0 ≤ x.toInt
  · rw [q.1 a]
  · have q := q.2 (by omega)
    unfold tk_di
    rw [show decide ((x &&& 255).toInt ≤ 57) = false from decide_eq_false (by omega), show decide (48 ≤ x.toInt) = false from decide_eq_false (by omega)]
    simp
def mt_by (b : Nat → Int32) (n p : Nat) : Int32 := if p < n then b p &&& 255 else 0
theorem mt_byteAt {S : sm_C} {d : Nat} {Φ : sm_Z → Prop} {I : sm_I} {L : sm_L} {R : sm_R} {x : Int32} {n p : Nat} (hz : (I 107 4).toInt = n) (hn : n ≤ 2000) (hx : x.toInt = p) (h : Φ (some (.int (mt_by (I 109) n p)), (xLay, I, L, kM R))) : sm_wp sm_P S d 108 0 [.ref 107, .int x] [] (xLay, I, L, kM R) (0, 0) Φ := by
  have np := tk_nat hx
  unfold mt_by at h
  refine u_X12_byteAt_0 ⟨fun a => ?_, fun a => ⟨?_, ?_⟩⟩
  · have := kl_le.mp a
    rw [if_neg (by omega)] at h; exact h
  · have := kl_nle a
    exact kl_in (by omega) (by omega)
  · have := kl_nle a
    rw [if_pos (by omega)] at h
    rw [np]; exact h
theorem mt_isLetter {S : sm_C} {d : Nat} {Φ : sm_Z → Prop} {I : sm_I} {L : sm_L} {R : sm_R} {x : Int32} (h : Φ (some (.int (if tk_le x = true then 1 else 0)), (xLay, I, L, kM R))) : sm_wp sm_P S d 146 0 [.int x] [] (xLay, I, L, kM R) (0, 0) Φ := by
  have c1 : (97 : Int32).toInt = 97 := by decide
  have c2 : (122 : Int32).toInt = 122 := by decide
  unfold tk_le at h
  refine u_X12_isLetter_0 ⟨fun a => ?_, fun a => ⟨fun b => ?_, fun b => ?_⟩⟩
  · rw [kl_lt, c1] at a
    rw [if_neg (by simp; omega)] at h; exact h
  · rw [kl_lt, c2] at b
    rw [if_neg (by simp; omega)] at h; exact h
  · have a := kl_nlt a
    have b := kl_nlt b
    rw [c1] at a
    rw [c2] at b
    rw [if_pos (by simp; omega)] at h; exact h
theorem mt_isDigit {S : sm_C} {d : Nat} {Φ : sm_Z → Prop} {I : sm_I} {L : sm_L} {R : sm_R} {x : Int32} (h : Φ (some (.int (if tk_di x = true then 1 else 0)), (xLay, I, L, kM R))) : sm_wp sm_P S d 144 0 [.int x] [] (xLay, I, L, kM R) (0, 0) Φ := by
  have c1 : (48 : Int32).toInt = 48 := by decide
  have c2 : (57 : Int32).toInt = 57 := by decide
  unfold tk_di at h
  refine u_X12_isDigit_0 ⟨fun a => ?_, fun a => ⟨fun b => ?_, fun b => ?_⟩⟩
  · rw [kl_lt, c1] at a
    rw [if_neg (by simp; omega)] at h; exact h
  · rw [kl_lt, c2] at b
    rw [if_neg (by simp; omega)] at h; exact h
  · have a := kl_nlt a
    have b := kl_nlt b
    rw [c1] at a
    rw [c2] at b
    rw [if_pos (by simp; omega)] at h; exact h
def mt_sg (x : Int32) : Int32 := if x = 59 then 4 else if x = 58 then 5 else if x = 45 then 9 else 3
theorem mt_sign {S : sm_C} {d : Nat} {Φ : sm_Z → Prop} {I : sm_I} {L : sm_L} {R : sm_R} {x : Int32} (h : Φ (some (.int (mt_sg x)), (xLay, I, L, kM R))) : sm_wp sm_P S d 191 0 [.int x] [] (xLay, I, L, kM R) (0, 0) Φ := by
  unfold mt_sg at h
  refine u_X12_sign_0 ⟨fun a => ?_, fun a => ⟨fun b => ?_, fun b => ⟨fun c => ?_, fun c => ?_⟩⟩⟩
  · rw [if_pos a] at h; exact h
  · rw [if_neg a, if_pos b] at h; exact h
  · rw [if_neg a, if_neg b, if_pos c] at h; exact h
  · rw [if_neg a, if_neg b, if_neg c] at h; exact h
theorem mt_token {S : sm_C} {d : Nat} {Φ : sm_Z → Prop} {I : sm_I} {L : sm_L} {R : sm_R} {x1 x2 x3 : Int32} {y4 : Int64} {c : Nat} (hc : (I 107 10).toInt = c) (c5 : c ≤ 502) (h : ∀ (J : sm_I) (K : sm_L), J = sm_up (sm_up (sm_up (sm_up I 110 c x1) 111 c x2) 112 c x3) 107 10 (I 107 10 + 1) → K = sm_up L 113 c y4 → Φ (none, (xLay, J, K, kM R))) : sm_wp sm_P S d 204 0 [.ref 107, .int x1, .int x2, .int x3, .long y4] [] (xLay, I, L, kM R) (0, 0) Φ := by
  have nc := tk_nat hc
  have v : vp_in (I 107 10) 503 := kl_in (by omega) (by omega)
  refine u_X12_token_0 ⟨v, fun I1 e1 => ?_⟩
  have g1 : I1 107 10 = I 107 10 := by rw [e1, en_up_ne _ _ _ _ (by omega)]
  refine ⟨by rw [g1]; exact v, fun I2 e2 => ?_⟩
  have g2 : I2 107 10 = I 107 10 := by rw [e2, en_up_ne _ _ _ _ (by omega), g1]
  refine ⟨by rw [g2]; exact v, fun I3 e3 => ?_⟩
  have g3 : I3 107 10 = I 107 10 := by rw [e3, en_up_ne _ _ _ _ (by omega), g2]
  refine ⟨by rw [g3]; exact v, fun L4 eL I5 e5 => h I5 L4 ?_ ?_⟩
  · rw [e5, g3, e3, g2, e2, g1, e1, nc]
  · rw [eL, g3, nc]
/-! its words and numbers -/
def mt_f27 (s : Int64) (x : Int32) : Int64 := ((27 : Int64) * s) + (((x - (97 : Int32)) + (1 : Int32))).toInt64
def mt_f10 (s : Int32) (x : Int32) : Int32 := (((10 : Int32) * s) + x) - (48 : Int32)
def mt_cd (f : Int32 → Int32 → Int32) (b : Nat → Int32) (p : Nat) : Nat → Int32
  | 0 => 0
  | k + 1 => f (mt_cd f b p k) (b (p + k))
def mt_ky (y : Int64) : Nat → Nat → Int32 → Int32
  | 0, _, c => c
  | m + 1, i, c => mt_ky y m (i + 1) (if pk_key.getD i 0 = y then (20 : Int32) + Int32.ofNat i else c)
def mt_kd (b : Nat → Int32) (n p : Nat) : Int32 := if tk_le (b p) = true then (if tk_end tk_le b n p - p ≤ 8 then (if tk_end tk_le b n p - p ≤ 7 then mt_ky (tk_cd mt_f27 b p (tk_end tk_le b n p - p)) 15 0 1 else 1) else 3) else if tk_di (b p) = true then (if tk_end tk_di b n p - p ≤ 4 then 2 else 3) else mt_sg (b p)
def mt_nm (b : Nat → Int32) (n p : Nat) : Int64 := if tk_le (b p) = true then tk_cd mt_f27 b p (min (tk_end tk_le b n p - p) 8) else 0
def mt_vl (b : Nat → Int32) (n p : Nat) : Int32 := if tk_le (b p) = true then 0 else if tk_di (b p) = true then mt_cd mt_f10 b p (min (tk_end tk_di b n p - p) 4) else 0
theorem mt_key {S : sm_C} {d : Nat} {Φ : sm_Z → Prop} {I : sm_I} {L : sm_L} {R : sm_R} {x1 x3 : Int32} {y : Int64} (hk : pk_ok L) {kd : Int32} (h : sm_wp sm_P S d 204 0 [.ref 107, .int kd, .int x1, .int (0 : Int32), .long y] [] (xLay, I, L, (kM R)) (0, 0) (fun z => ∃ (I1 : sm_I) (L2 : sm_L) (R3 : sm_R), z = (none, (xLay, I1, L2, (kM R3))) ∧ sm_wp sm_P S (d + 1) 119 1 [.ref 107, .int (x1 + x3)] [] (xLay, I1, L2, (kM R3)) (0, 0) Φ)) : ∀ (m i : Nat) (x6 x7 : Int32), x7.toInt = i → i + m = 15 → mt_ky y m i x6 = kd → sm_wp sm_P S (d + 1) 119 20 [.ref 107, .int x1, .int x3, .long y, .int x6, .int x7] [] (xLay, I, L, kM R) (0, 0) Φ := by
  have c15 : (15 : Int32).toInt = 15 := by decide
  intro m
  induction m with
  | zero =>
    intro i x6 x7 hx hm he
    have he : x6 = kd := he
    subst he
    refine u_X12_cut_20 ⟨fun _ => h, fun a => ?_⟩
    have := kl_nle a
    omega
  | succ m ih =>
    intro i x6 x7 hx hm he
    have np := tk_nat hx
    have s := ml_in1 (x := x7) (by omega)
    have e7 : x7 = Int32.ofNat i := en_ofI (by rw [hx, Int32.toInt_ofNat_of_lt (by omega)])
    have he : mt_ky y m (i + 1) (if pk_key.getD i 0 = y then (20 : Int32) + Int32.ofNat i else x6) = kd := he
    refine u_X12_cut_20 ⟨fun a => ?_, fun _ => ⟨kl_in (by omega) (by omega), fun e => ?_, fun e => ?_⟩⟩
    · have := kl_le.mp a
      omega
    · have e := tk_lg.mp e
      rw [np, hk i (by omega)] at e
      rw [if_pos e, ← e7] at he
      exact ih (i + 1) _ _ (by omega) (by omega) he
    · have e : ¬ pk_key.getD i 0 = y := fun c => e (tk_lg.mpr (by rw [np, hk i (by omega)]; exact c))
      rw [if_neg e] at he
      exact ih (i + 1) _ _ (by omega) (by omega) he
end
section
/-! the reference's cut, exact: runs and all TOKENS -/
theorem tk_add {x y : Int32} {p k : Nat} (hx : x.toInt = p) (hy : y.toInt = k) (h : p + k ≤ 4000) : (x + y).toInt = ((p + k : Nat) : Int) := by
  rw [kl_add (by omega) (by omega), hx, hy]; omega
theorem mt_by_t {b : Nat → Int32} {n p : Nat} {f : Int32 → Bool} (hB : mt_B b) (hn : n ≤ 2000) (f0 : f 0 = false) (hf : ∀ x : Int32, -128 ≤ x.toInt → x.toInt ≤ 127 → f (x &&& 255) = f x) : f (mt_by b n p) = true ↔ (p < n ∧ f (b p) = true) := by
  unfold mt_by
  by_cases c : p < n
  · rw [if_pos c, hf _ (hB p (by omega)).1 (hB p (by omega)).2]
    exact ⟨fun h => ⟨c, h⟩, fun h => h.2⟩
  · rw [if_neg c, f0]
    exact ⟨fun h => (by cases h), fun h => absurd h.1 c⟩
theorem mt_by_e {b : Nat → Int32} {n p : Nat} (hB : mt_B b) (hn : n ≤ 2000) (c : p < n) (h : 0 ≤ (b p).toInt) : mt_by b n p = b p := by
  unfold mt_by
  rw [if_pos c]; exact (mt_bt (hB p (by omega)).1 (hB p (by omega)).2).1 h
theorem tk_if1 (c : Bool) : (¬ (if c = true then (1 : Int32) else 0) = 0) ↔ c = true := by cases c <;> decide
theorem tk_le_r {x : Int32} (h : tk_le x = true) : 97 ≤ x.toInt ∧ x.toInt ≤ 122 := by
  unfold tk_le at h; simpa using h
theorem tk_di_r {x : Int32} (h : tk_di x = true) : 48 ≤ x.toInt ∧ x.toInt ≤ 57 := by
  unfold tk_di at h; simpa using h
theorem mt_let {S : sm_C} {d : Nat} {Φ : sm_Z → Prop} {I : sm_I} {L : sm_L} {R : sm_R} {x1 : Int32} {b : Nat → Int32} {n p e c : Nat} (hk : pk_ok L) (hB : mt_B b) (hb : I 109 = b) (hz : (I 107 4).toInt = n) (hn : n ≤ 2000) (hp : x1.toInt = p) (hc : (I 107 10).toInt = c) (c5 : c ≤ 502) (e2 : e ≤ n) (h : ∀ (x : Int32) (J : sm_I) (K : sm_L), x.toInt = e → J = sm_up (sm_up (sm_up (sm_up I 110 c (if e - p ≤ 8 then (if e - p ≤ 7 then mt_ky (tk_cd mt_f27 b p (e - p)) 15 0 1 else 1) else 3)) 111 c x1) 112 c 0) 107 10 (I 107 10 + 1) → K = sm_up L 113 c (tk_cd mt_f27 b p (min (e - p) 8)) → sm_wp sm_P S (d + 1) 119 1 [.ref 107, .int x] [] (xLay, J, K, kM R) (0, 0) Φ) : ∀ (m k : Nat) (x3 : Int32) (y4 : Int64), x3.toInt = k → y4 = tk_cd mt_f27 b p (min k 8) → p + k ≤ e → tk_end tk_le b n (p + k) = e → e - (p + k) < m → sm_wp sm_P S (d + 1) 119 11 [.ref 107, .int x1, .int x3, .long y4] [] (xLay, I, L, kM R) (0, 0) Φ := by
  have c8 : (8 : Int32).toInt = 8 := by decide
  have c7 : (7 : Int32).toInt = 7 := by decide
  intro m
  induction m with
  | zero => intro k x3 y4 _ _ _ _ hM; omega
  | succ m ih =>
    intro k x3 y4 hx hy hk2 he hM
    have sx := tk_add hp hx (by omega)
    have fl := mt_by_t (b := b) (n := n) (p := p + k) (f := tk_le) hB hn (by decide) (fun x => mt_le)
    refine u_X12_cut_11 (mt_byteAt hz hn sx ⟨_, I, L, R, rfl, mt_isLetter ⟨_, I, L, R, rfl, fun a => ?_, fun a => ?_⟩⟩)
    · rw [hb] at a
      have a := (tk_if _).mp a
      have en : ¬ (p + k < n ∧ tk_le (b (p + k)) = true) := fun q => by rw [fl.mpr q] at a; cases a
      rw [tk_end_n en] at he
      have ek : k = e - p := by omega
      subst ek
      have tok : ∀ kd : Int32, kd = (if e - p ≤ 8 then (if e - p ≤ 7 then mt_ky (tk_cd mt_f27 b p (e - p)) 15 0 1 else 1) else 3) → sm_wp sm_P S d 204 0 [.ref 107, .int kd, .int x1, .int (0 : Int32), .long y4] [] (xLay, I, L, (kM R)) (0, 0) (fun z => ∃ (I1 : sm_I) (L2 : sm_L) (R3 : sm_R), z = (none, (xLay, I1, L2, (kM R3))) ∧ sm_wp sm_P S (d + 1) 119 1 [.ref 107, .int (x1 + x3)] [] (xLay, I1, L2, (kM R3)) (0, 0) Φ) := fun kd ekd => mt_token hc c5 (fun J K eJ eK => ⟨J, K, R, rfl, h _ J K (by rw [sx]; omega) (by rw [eJ, ekd]) (by rw [eK, hy])⟩)
      refine ⟨fun g => ⟨fun g7 => tok 1 ?_, fun g7 => ?_⟩, fun g => ⟨fun g7 => tok 3 ?_, fun g7 => ?_⟩⟩
      · have g := kl_le.mp g
        rw [kl_lt] at g7
        rw [if_pos (by omega), if_neg (by omega)]
      · have g7 := kl_nlt g7
        refine mt_key hk (tok _ rfl) 15 0 1 0 (by decide) (by decide) ?_
        rw [if_pos (by omega), if_pos (by omega), hy, Nat.min_eq_left (by omega)]
      · have g := kl_nle g
        rw [if_neg (by omega)]
      · have g := kl_nle g
        have g7 := kl_nlt g7
        omega
    · rw [hb] at a
      have a := fl.mp ((tk_if1 _).mp a)
      have r := tk_le_r a.2
      have se := tk_end_s a.1 a.2
      rw [se] at he
      have hle : p + k + 1 ≤ e := by rw [← he]; exact tk_end_le
      have s := ml_in1 (x := x3) (by omega)
      refine ⟨fun g => ?_, fun g => ?_⟩
      · have g := kl_le.mp g
        exact ih (k + 1) _ _ (by omega) (by rw [hy, Nat.min_eq_right (by omega), Nat.min_eq_right (by omega)]) (by omega) he (by omega)
      · have g := kl_nle g
        have eb : mt_by b n (p + k) = b (p + k) := mt_by_e hB hn a.1 (by omega)
        refine mt_byteAt hz hn sx ⟨_, I, L, R, rfl, u_X12_appends_0 ⟨fun z => ?_, fun _ => ⟨_, I, L, R, rfl, ?_⟩⟩⟩
        · rw [hb, eb] at z
          rw [z] at r
          have z0 : (0 : Int32).toInt = 0 := by decide
          omega
        · rw [hb, eb]
          refine ih (k + 1) _ _ (by omega) ?_ (by omega) he (by omega)
          rw [hy, Nat.min_eq_left (by omega), Nat.min_eq_left (by omega)]
          rfl
theorem mt_dig {S : sm_C} {d : Nat} {Φ : sm_Z → Prop} {I : sm_I} {L : sm_L} {R : sm_R} {x1 : Int32} {b : Nat → Int32} {n p e c : Nat} (hB : mt_B b) (hb : I 109 = b) (hz : (I 107 4).toInt = n) (hn : n ≤ 2000) (hp : x1.toInt = p) (hc : (I 107 10).toInt = c) (c5 : c ≤ 502) (e2 : e ≤ n) (h : ∀ (x : Int32) (J : sm_I) (K : sm_L), x.toInt = e → J = sm_up (sm_up (sm_up (sm_up I 110 c (if e - p ≤ 4 then 2 else 3)) 111 c x1) 112 c (mt_cd mt_f10 b p (min (e - p) 4))) 107 10 (I 107 10 + 1) → K = sm_up L 113 c 0 → sm_wp sm_P S (d + 1) 119 1 [.ref 107, .int x] [] (xLay, J, K, kM R) (0, 0) Φ) : ∀ (m k : Nat) (x3 : Int32) (x4 : Int32), x3.toInt = k → x4 = mt_cd mt_f10 b p (min k 4) → p + k ≤ e → tk_end tk_di b n (p + k) = e → e - (p + k) < m → sm_wp sm_P S (d + 1) 119 27 [.ref 107, .int x1, .int x3, .int x4] [] (xLay, I, L, kM R) (0, 0) Φ := by
  have c4 : (4 : Int32).toInt = 4 := by decide
  intro m
  induction m with
  | zero => intro k x3 x4 _ _ _ _ hM; omega
  | succ m ih =>
    intro k x3 x4 hx hy hk2 he hM
    have sx := tk_add hp hx (by omega)
    have fl := mt_by_t (b := b) (n := n) (p := p + k) (f := tk_di) hB hn (by decide) (fun x => mt_di)
    refine u_X12_cut_27 (mt_byteAt hz hn sx ⟨_, I, L, R, rfl, mt_isDigit ⟨_, I, L, R, rfl, fun a => ?_, fun a => ?_⟩⟩)
    · rw [hb] at a
      have a := (tk_if _).mp a
      have en : ¬ (p + k < n ∧ tk_di (b (p + k)) = true) := fun q => by rw [fl.mpr q] at a; cases a
      rw [tk_end_n en] at he
      have ek : k = e - p := by omega
      subst ek
      refine ⟨fun g => mt_token hc c5 (fun J K eJ eK => ⟨J, K, R, rfl, h _ J K (by rw [sx]; omega) ?_ eK⟩), fun g => mt_token hc c5 (fun J K eJ eK => ⟨J, K, R, rfl, h _ J K (by rw [sx]; omega) ?_ eK⟩)⟩
      · have g := kl_le.mp g
        rw [eJ, hy, if_pos (by omega)]
      · have g := kl_nle g
        rw [eJ, hy, if_neg (by omega)]
    · rw [hb] at a
      have a := fl.mp ((tk_if1 _).mp a)
      have r := tk_di_r a.2
      have se := tk_end_s a.1 a.2
      rw [se] at he
      have hle : p + k + 1 ≤ e := by rw [← he]; exact tk_end_le
      have s := ml_in1 (x := x3) (by omega)
      refine ⟨fun g => ?_, fun g => ?_⟩
      · have g := kl_le.mp g
        exact ih (k + 1) _ _ (by omega) (by rw [hy, Nat.min_eq_right (by omega), Nat.min_eq_right (by omega)]) (by omega) he (by omega)
      · have g := kl_nle g
        have eb : mt_by b n (p + k) = b (p + k) := mt_by_e hB hn a.1 (by omega)
        refine mt_byteAt hz hn sx ⟨_, I, L, R, rfl, fun n24 e24 => ?_⟩
        rw [hb, eb] at e24
        refine ih (k + 1) _ _ (by omega) ?_ (by omega) he (by omega)
        rw [e24, hy, Nat.min_eq_left (by omega), Nat.min_eq_left (by omega)]
        rfl
end
section
/-! the reference's cut, exact: all TOKENS -/
def mt_rows (b : Nat → Int32) (n c : Nat) (I : sm_I) (L : sm_L) : Prop := ∀ i, i < c → tk_at b n i < n ∧ I 110 i = mt_kd b n (tk_at b n i) ∧ (I 111 i).toInt = tk_at b n i ∧ I 112 i = mt_vl b n (tk_at b n i) ∧ L 113 i = mt_nm b n (tk_at b n i)
def mt_fr (I J : sm_I) (L K : sm_L) : Prop := (∀ a j, a ≠ 110 → a ≠ 111 → a ≠ 112 → ¬ (a = 107 ∧ j = 10) → J a j = I a j) ∧ ∀ a j, a ≠ 113 → K a j = L a j
/-- the TOKENS are cut: 501 of them, or fewer and the end -/
def mt_fin (b : Nat → Int32) (n c : Nat) (J : sm_I) : Prop := (c = 501 ∧ (J 107 10).toInt = 501) ∨ (c ≤ 500 ∧ (J 107 10).toInt = c + 1 ∧ tk_at b n c = n ∧ J 110 c = 0 ∧ (J 111 c).toInt = n)
theorem mt_cut1 {S : sm_C} {d : Nat} {Φ : sm_Z → Prop} {I0 : sm_I} {L0 : sm_L} {R : sm_R} {b : Nat → Int32} {n : Nat} (hk : pk_ok L0) (hB : mt_B b) (hb : I0 109 = b) (hz : (I0 107 4).toInt = n) (hn : n ≤ 2000) (h : ∀ (c : Nat) (J : sm_I) (K : sm_L), c ≤ 501 → mt_rows b n c J K → mt_fin b n c J → mt_fr I0 J L0 K → Φ (none, (xLay, J, K, kM R))) : ∀ (m : Nat) (I : sm_I) (L : sm_L) (x1 : Int32) (p c : Nat), x1.toInt = p → p ≤ n → (I 107 10).toInt = c → c ≤ 501 → mt_rows b n c I L → tk_sk b n p = tk_at b n c → mt_fr I0 I L0 L → n - p < m → sm_wp sm_P S (d + 1) 119 1 [.ref 107, .int x1] [] (xLay, I, L, kM R) (0, 0) Φ := by
  have c500 : (500 : Int32).toInt = 500 := by decide
  intro m
  induction m with
  | zero => intro I L x1 p c _ _ _ _ _ _ _ hM; omega
  | succ m ih =>
    intro I L x1 p c hx pn hc c5 hr hs hf hM
    have rb : I 109 = b := by funext j; rw [hf.1 109 j (by decide) (by decide) (by decide) (by omega), hb]
    have rz : (I 107 4).toInt = n := by rw [hf.1 107 4 (by decide) (by decide) (by decide) (by omega), hz]
    have rk : pk_ok L := pk_cg (fun j => hf.2 114 j (by decide)) hk
    have s1 := ml_in1 (x := x1) (by omega)
    refine u_X12_cut_1 ⟨fun a => ?_, fun a => ?_⟩
    · rw [kl_lt, c500] at a
      have : c = 501 := by omega
      exact h c I L c5 hr (Or.inl ⟨this, by omega⟩) hf
    · have a := kl_nlt a
      refine mt_byteAt rz hn hx ⟨_, I, L, R, rfl, fun g => ?_, fun g => ?_⟩
      · rw [kl_lt] at g
        have pn : p < n := by omega
        have eb : mt_by (I 109) n p = b p &&& 255 := by unfold mt_by; rw [if_pos pn, rb]
        rw [eb]
        have bl : ∀ c : Int32, 0 ≤ c.toInt → c.toInt ≤ 127 → (b p &&& 255 = c ↔ b p = c) := fun c c0 c1 => mt_eq (hB p (by omega)).1 (hB p (by omega)).2 c0 c1
        have blank : tk_bl (b p) = true → sm_wp sm_P S (d + 1) 119 1 [.ref 107, .int (x1 + (1 : Int32))] [] (xLay, I, L, (kM R)) (0, 0) Φ := fun z => by
          refine ih I L _ (p + 1) c (by omega) (by omega) hc c5 hr ?_ hf (by omega)
          rw [← hs]; unfold tk_sk; exact (tk_end_s pn z).symm
        refine ⟨fun z => blank ?_, fun z1 => ⟨fun z => blank ?_, fun z2 => ⟨fun z => blank ?_, fun z3 => ⟨fun z => blank ?_, fun z4 => ?_⟩⟩⟩⟩
        · have := (bl 9 (by decide) (by decide)).mp z
          unfold tk_bl; rw [this]; decide
        · have := (bl 10 (by decide) (by decide)).mp z
          unfold tk_bl; rw [this]; decide
        · have := (bl 13 (by decide) (by decide)).mp z
          unfold tk_bl; rw [this]; decide
        · have := (bl 32 (by decide) (by decide)).mp z
          unfold tk_bl; rw [this]; decide
        · have nb : tk_bl (b p) = false := by
            unfold tk_bl
            rw [show decide (b p = 9) = false from decide_eq_false (fun q => z1 ((bl 9 (by decide) (by decide)).mpr q)), show decide (b p = 10) = false from decide_eq_false (fun q => z2 ((bl 10 (by decide) (by decide)).mpr q)), show decide (b p = 13) = false from decide_eq_false (fun q => z3 ((bl 13 (by decide) (by decide)).mpr q)), show decide (b p = 32) = false from decide_eq_false (fun q => z4 ((bl 32 (by decide) (by decide)).mpr q))]
            rfl
          have sp : tk_at b n c = p := by
            rw [← hs]; unfold tk_sk; exact tk_end_n (by rw [nb]; simp)
          have nx := tk_nx_gt (b := b) (n := n) (p := p) pn
          have s := ml_in1 (x := I 107 10) (by omega)
          have go : ∀ (x : Int32) (J : sm_I) (K : sm_L), x.toInt = tk_nx b n p → J = sm_up (sm_up (sm_up (sm_up I 110 c (mt_kd b n p)) 111 c x1) 112 c (mt_vl b n p)) 107 10 (I 107 10 + 1) → K = sm_up L 113 c (mt_nm b n p) → sm_wp sm_P S (d + 1) 119 1 [.ref 107, .int x] [] (xLay, J, K, kM R) (0, 0) Φ := by
            intro x J K ex eJ eK
            refine ih J K x (tk_nx b n p) (c + 1) ex nx.2 ?_ (by omega) (fun i hi => ?_) ?_ ⟨fun a j a1 a2 a3 a4 => ?_, fun a j a1 => ?_⟩ (by omega)
            · rw [eJ, en_up_eq, s]; omega
            · by_cases e : i = c
              · subst e
                rw [sp, eJ, eK, en_up_ne _ _ _ _ (by omega), en_up_ne _ _ _ _ (by omega), en_up_ne _ _ _ _ (by omega), en_up_eq, en_up_ne _ _ _ _ (by omega), en_up_ne _ _ _ _ (by omega), en_up_eq, en_up_ne _ _ _ _ (by omega), en_up_eq, en_up_eq]
                exact ⟨pn, rfl, hx, rfl, rfl⟩
              · have q := hr i (by omega)
                refine ⟨q.1, ?_, ?_, ?_, ?_⟩
                · rw [eJ, en_up_ne _ _ _ _ (by omega), en_up_ne _ _ _ _ (by omega), en_up_ne _ _ _ _ (by omega), en_up_ne _ _ _ _ (by omega)]; exact q.2.1
                · rw [eJ, en_up_ne _ _ _ _ (by omega), en_up_ne _ _ _ _ (by omega), en_up_ne _ _ _ _ (by omega), en_up_ne _ _ _ _ (by omega)]; exact q.2.2.1
                · rw [eJ, en_up_ne _ _ _ _ (by omega), en_up_ne _ _ _ _ (by omega), en_up_ne _ _ _ _ (by omega), en_up_ne _ _ _ _ (by omega)]; exact q.2.2.2.1
                · rw [eK, en_up_ne _ _ _ _ (by omega)]; exact q.2.2.2.2
            · show tk_sk b n (tk_nx b n p) = (if tk_at b n c < n then tk_sk b n (tk_nx b n (tk_at b n c)) else n)
              rw [sp, if_pos pn]
            · rw [eJ, en_up_ne _ _ _ _ (by omega), en_up_ne _ _ _ _ (by omega), en_up_ne _ _ _ _ (by omega), en_up_ne _ _ _ _ (by omega)]; exact hf.1 a j a1 a2 a3 a4
            · rw [eK, en_up_ne _ _ _ _ (by omega)]; exact hf.2 a j a1
          refine mt_isLetter ⟨_, I, L, R, rfl, fun y => ?_, fun y => ?_⟩
          · have y := (tk_if _).mp y
            rw [mt_le (hB p (by omega)).1 (hB p (by omega)).2] at y
            have ny : ¬ tk_le (b p) = true := by rw [y]; decide
            refine mt_isDigit ⟨_, I, L, R, rfl, fun u => ?_, fun u => ?_⟩
            · have u := (tk_if _).mp u
              rw [mt_di (hB p (by omega)).1 (hB p (by omega)).2] at u
              have nu : ¬ tk_di (b p) = true := by rw [u]; decide
              refine mt_sign ⟨_, I, L, R, rfl, mt_token hc (by omega) (fun J K eJ eK => ⟨J, K, R, rfl, go _ J K ?_ ?_ ?_⟩)⟩
              · unfold tk_nx; rw [if_neg ny, if_neg nu]; omega
              · have e1 : mt_kd b n p = mt_sg (b p &&& 255) := by
                  unfold mt_kd; rw [if_neg ny, if_neg nu]
                  unfold mt_sg
                  simp only [bl 59 (by decide) (by decide), bl 58 (by decide) (by decide), bl 45 (by decide) (by decide)]
                have e2 : mt_vl b n p = 0 := by unfold mt_vl; rw [if_neg ny, if_neg nu]
                rw [eJ, e1, e2]
              · have e3 : mt_nm b n p = 0 := by unfold mt_nm; rw [if_neg ny]
                rw [eK, e3]
            · have u := (tk_if1 _).mp u
              rw [mt_di (hB p (by omega)).1 (hB p (by omega)).2] at u
              refine mt_dig (b := b) (n := n) (p := p) (c := c) (e := tk_end tk_di b n p) hB rb rz hn hx hc (by omega) (tk_end_n2 (by omega)) (fun x J K ex eJ eK => go x J K ?_ ?_ ?_) (tk_end tk_di b n p - p + 1) 0 0 0 (by decide) (by rfl) tk_end_le rfl (by omega)
              · unfold tk_nx; rw [if_neg ny, if_pos u]; exact ex
              · unfold mt_kd mt_vl; rw [if_neg ny, if_neg ny, if_pos u, if_pos u]; exact eJ
              · unfold mt_nm; rw [if_neg ny]; exact eK
          · have y := (tk_if1 _).mp y
            rw [mt_le (hB p (by omega)).1 (hB p (by omega)).2] at y
            refine mt_let (b := b) (n := n) (p := p) (c := c) (e := tk_end tk_le b n p) rk hB rb rz hn hx hc (by omega) (tk_end_n2 (by omega)) (fun x J K ex eJ eK => go x J K ?_ ?_ ?_) (tk_end tk_le b n p - p + 1) 0 0 0 (by decide) (by rfl) tk_end_le rfl (by omega)
            · unfold tk_nx; rw [if_pos y]; exact ex
            · unfold mt_kd mt_vl; rw [if_pos y, if_pos y]; exact eJ
            · unfold mt_nm; rw [if_pos y]; exact eK
      · have g := kl_nlt g
        have e : p = n := by omega
        have an : tk_at b n c = n := by rw [← hs, e]; unfold tk_sk; exact tk_end_n (by omega)
        have s := ml_in1 (x := I 107 10) (by omega)
        refine mt_token hc (by omega) (fun J K eJ eK => ⟨J, K, R, rfl, h c J K c5 (fun i hi => ?_) (Or.inr ⟨by omega, ?_, an, ?_, ?_⟩) ⟨fun a j a1 a2 a3 a4 => ?_, fun a j a1 => ?_⟩⟩)
        · have q := hr i hi
          refine ⟨q.1, ?_, ?_, ?_, ?_⟩
          · rw [eJ, en_up_ne _ _ _ _ (by omega), en_up_ne _ _ _ _ (by omega), en_up_ne _ _ _ _ (by omega), en_up_ne _ _ _ _ (by omega)]; exact q.2.1
          · rw [eJ, en_up_ne _ _ _ _ (by omega), en_up_ne _ _ _ _ (by omega), en_up_ne _ _ _ _ (by omega), en_up_ne _ _ _ _ (by omega)]; exact q.2.2.1
          · rw [eJ, en_up_ne _ _ _ _ (by omega), en_up_ne _ _ _ _ (by omega), en_up_ne _ _ _ _ (by omega), en_up_ne _ _ _ _ (by omega)]; exact q.2.2.2.1
          · rw [eK, en_up_ne _ _ _ _ (by omega)]; exact q.2.2.2.2
        · rw [eJ, en_up_eq, s]; omega
        · rw [eJ, en_up_ne _ _ _ _ (by omega), en_up_ne _ _ _ _ (by omega), en_up_ne _ _ _ _ (by omega), en_up_eq]
        · rw [eJ, en_up_ne _ _ _ _ (by omega), en_up_ne _ _ _ _ (by omega), en_up_eq]; exact rz
        · rw [eJ, en_up_ne _ _ _ _ (by omega), en_up_ne _ _ _ _ (by omega), en_up_ne _ _ _ _ (by omega), en_up_ne _ _ _ _ (by omega)]; exact hf.1 a j a1 a2 a3 a4
        · rw [eK, en_up_ne _ _ _ _ (by omega)]; exact hf.2 a j a1
theorem mt_cut {S : sm_C} {d : Nat} {Φ : sm_Z → Prop} {I : sm_I} {L : sm_L} {R : sm_R} {n : Nat} (hk : pk_ok L) (hB : mt_B (I 109)) (hz : (I 107 4).toInt = n) (hn : n ≤ 2000) (h : ∀ (c : Nat) (J : sm_I) (K : sm_L), c ≤ 501 → mt_rows (I 109) n c J K → mt_fin (I 109) n c J → mt_fr I J L K → Φ (none, (xLay, J, K, kM R))) : sm_wp sm_P S (d + 1) 119 0 [.ref 107] [] (xLay, I, L, kM R) (0, 0) Φ := by
  refine u_X12_cut_0 (mt_cut1 (I0 := I) (L0 := L) (b := I 109) hk hB rfl hz hn h (n + 1) _ L 0 0 0 (by decide) (by omega) (by rw [en_up_eq]; decide) (by omega) (fun i hi => absurd hi (Nat.not_lt_zero i)) rfl ⟨fun a j a1 a2 a3 a4 => ?_, fun _ _ _ => rfl⟩ (by omega))
  rw [en_up_ne _ _ _ _ (by omega)]
end
section
/-! names: both codings tell the same names apart -/
def nc (B : Nat) (g : Int32 → Nat) (b : Nat → Int32) (p : Nat) : Nat → Nat
  | 0 => 0
  | k + 1 => B * nc B g b p k + g (b (p + k))
theorem nc_inj {B : Nat} {g : Int32 → Nat} {b b' : Nat → Int32} {p p' : Nat} : ∀ (k k' : Nat), (∀ i, i < k → 1 ≤ g (b (p + i)) ∧ g (b (p + i)) < B) → (∀ i, i < k' → 1 ≤ g (b' (p' + i)) ∧ g (b' (p' + i)) < B) → nc B g b p k = nc B g b' p' k' → k = k' ∧ ∀ i, i < k → g (b (p + i)) = g (b' (p' + i)) := by
  intro k
  induction k with
  | zero =>
    intro k' _ h2 h
    cases k' with
    | zero => exact ⟨rfl, fun i hi => absurd hi (Nat.not_lt_zero i)⟩
    | succ k' =>
      have h : 0 = B * nc B g b' p' k' + g (b' (p' + k')) := h
      have := h2 k' (Nat.lt_succ_self _)
      omega
  | succ k ih =>
    intro k' h1 h2 h
    cases k' with
    | zero =>
      have h : B * nc B g b p k + g (b (p + k)) = 0 := h
      have := h1 k (Nat.lt_succ_self _)
      omega
    | succ k' =>
      have h : B * nc B g b p k + g (b (p + k)) = B * nc B g b' p' k' + g (b' (p' + k')) := h
      have a := h1 k (Nat.lt_succ_self _)
      have a' := h2 k' (Nat.lt_succ_self _)
      have m1 : (B * nc B g b p k + g (b (p + k))) % B = g (b (p + k)) := by rw [Nat.mul_add_mod, Nat.mod_eq_of_lt a.2]
      have m2 : (B * nc B g b' p' k' + g (b' (p' + k'))) % B = g (b' (p' + k')) := by rw [Nat.mul_add_mod, Nat.mod_eq_of_lt a'.2]
      have d1 : (B * nc B g b p k + g (b (p + k))) / B = nc B g b p k := by rw [Nat.mul_add_div (by omega), Nat.div_eq_of_lt a.2]; rfl
      have d2 : (B * nc B g b' p' k' + g (b' (p' + k'))) / B = nc B g b' p' k' := by rw [Nat.mul_add_div (by omega), Nat.div_eq_of_lt a'.2]; rfl
      have e : g (b (p + k)) = g (b' (p' + k')) := by rw [← m1, ← m2, h]
      have e2 : nc B g b p k = nc B g b' p' k' := by rw [← d1, ← d2, h]
      obtain ⟨q1, q2⟩ := ih k' (fun i hi => h1 i (by omega)) (fun i hi => h2 i (by omega)) e2
      subst q1
      refine ⟨rfl, fun i hi => ?_⟩
      by_cases c : i = k
      · subst c; exact e
      · exact q2 i (by omega)
theorem nc_lt {B D : Nat} {g : Int32 → Nat} {b : Nat → Int32} {p : Nat} (hD : D ≤ B) : ∀ k : Nat, (∀ i, i < k + 1 → g (b (p + i)) < D) → nc B g b p (k + 1) < D * B ^ k := by
  intro k
  induction k with
  | zero =>
    intro h
    have := h 0 (by omega)
    show B * 0 + g (b (p + 0)) < D * B ^ 0
    rw [Nat.pow_zero]; omega
  | succ k ih =>
    intro h
    have q := ih (fun i hi => h i (by omega))
    have r := h (k + 1) (by omega)
    show B * nc B g b p (k + 1) + g (b (p + (k + 1))) < D * B ^ (k + 1)
    have e : D * B ^ (k + 1) = B * (D * B ^ k) := by rw [Nat.pow_succ]; rw [← Nat.mul_assoc, Nat.mul_comm]
    rw [e]
    have z : B * (nc B g b p (k + 1) + 1) ≤ B * (D * B ^ k) := Nat.mul_le_mul_left B q
    rw [Nat.mul_add] at z
    omega
theorem tk_cd_cg {f : Int64 → Int32 → Int64} {b b' : Nat → Int32} {p p' : Nat} : ∀ k : Nat, (∀ i, i < k → b (p + i) = b' (p' + i)) → tk_cd f b p k = tk_cd f b' p' k := by
  intro k
  induction k with
  | zero => intro _; rfl
  | succ k ih =>
    intro h
    show f (tk_cd f b p k) (b (p + k)) = f (tk_cd f b' p' k) (b' (p' + k))
    rw [ih (fun i hi => h i (by omega)), h k (by omega)]
/-- k letters from p on -/
def nm_L (b : Nat → Int32) (p k : Nat) : Prop := ∀ i, i < k → 97 ≤ (b (p + i)).toInt ∧ (b (p + i)).toInt ≤ 122
def nm_g8 (x : Int32) : Nat := x.toInt.toNat
def nm_g27 (x : Int32) : Nat := x.toInt.toNat - 96
theorem nm_up {x y : Int32} (hx : 97 ≤ x.toInt) (hy : 97 ≤ y.toInt) (h : nm_g8 x = nm_g8 y ∨ nm_g27 x = nm_g27 y) : x = y := by
  unfold nm_g8 nm_g27 at h
  exact en_ofI (by omega)
theorem l64 {x y : Int64} (h1 : -9223372036854775808 ≤ x.toInt + y.toInt) (h2 : x.toInt + y.toInt ≤ 9223372036854775807) : (x + y).toInt = x.toInt + y.toInt := by
  rw [Int64.toInt_add, Int.bmod_eq_of_le] <;> omega
theorem l64m {x y : Int64} (h1 : -9223372036854775808 ≤ x.toInt * y.toInt) (h2 : x.toInt * y.toInt ≤ 9223372036854775807) : (x * y).toInt = x.toInt * y.toInt := by
  rw [Int64.toInt_mul, Int.bmod_eq_of_le] <;> omega
theorem nm_27 {b : Nat → Int32} {p : Nat} : ∀ k : Nat, k ≤ 8 → nm_L b p k → (tk_cd mt_f27 b p k).toInt = (nc 27 nm_g27 b p k : Nat) := by
  intro k
  induction k with
  | zero => intro _ _; rfl
  | succ k ih =>
    intro h8 hL
    have q := ih (by omega) (fun i hi => hL i (by omega))
    have r := hL k (by omega)
    have lt : nc 27 nm_g27 b p k < 27 ^ 8 := by
      cases k with
      | zero => show 0 < 27 ^ 8; decide
      | succ k =>
        have := nc_lt (B := 27) (D := 27) (g := nm_g27) (b := b) (p := p) (Nat.le_refl _) k (fun i hi => by have := hL i (by omega); unfold nm_g27; omega)
        have w : 27 * 27 ^ k ≤ 27 ^ 8 := by rw [← Nat.pow_succ']; exact Nat.pow_le_pow_right (by decide) (by omega)
        omega
    have p8 : (27 : Nat) ^ 8 = 282429536481 := by decide
    rw [p8] at lt
    have c97 : (97 : Int32).toInt = 97 := by decide
    have c1 : (1 : Int32).toInt = 1 := by decide
    have d1 : (b (p + k) - 97).toInt = (b (p + k)).toInt - 97 := by
      rw [Int32.toInt_sub, c97]; exact en_bmod (by omega) (by omega) (Or.inl rfl)
    have d2 : ((b (p + k) - 97) + 1).toInt = (b (p + k)).toInt - 96 := by
      rw [kl_add (by rw [d1, c1]; omega) (by rw [d1, c1]; omega), d1, c1]; omega
    have d3 : (((b (p + k) - 97) + 1).toInt64).toInt = (b (p + k)).toInt - 96 := by rw [Int32.toInt_toInt64, d2]
    have c27 : (27 : Int64).toInt = 27 := by decide
    have m : ((27 : Int64) * tk_cd mt_f27 b p k).toInt = 27 * (nc 27 nm_g27 b p k : Nat) := by
      rw [l64m (by rw [c27, q]; omega) (by rw [c27, q]; omega), c27, q]
    show (((27 : Int64) * tk_cd mt_f27 b p k) + ((b (p + k) - 97) + 1).toInt64).toInt = ((27 * nc 27 nm_g27 b p k + nm_g27 (b (p + k)) : Nat) : Int)
    rw [l64 (by rw [m, d3]; omega) (by rw [m, d3]; omega), m, d3]
    unfold nm_g27
    omega
end
