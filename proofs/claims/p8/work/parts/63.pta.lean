/-! both tapes hold the same bytes -/
theorem pt_b0 (x : BitVec 32) (k : Nat) (hk : k ≤ 24) : (x.sshiftRight k).signExtend 8 = (x >>> k).signExtend 8 := by
  apply BitVec.eq_of_getLsbD_eq
  intro i hi
  rw [BitVec.getLsbD_signExtend, BitVec.getLsbD_signExtend, BitVec.getLsbD_sshiftRight, BitVec.getLsbD_ushiftRight]
  have h1 : i < 32 := by omega
  have h2 : ¬ 32 ≤ i := by omega
  have h3 : k + i < 32 := by omega
  simp [hi, h1, h2, h3]
theorem pt_by (x k : Int32) (hk : k = 24 ∨ k = 16 ∨ k = 8 ∨ k = 0) : (((x).toUInt32 >>> ((k).toUInt32 &&& Int32.toUInt32 31)).toInt32).toInt8.toInt32 = ((x >>> (k &&& 31))).toInt8.toInt32 := by
  have key : ∀ n : Nat, n ≤ 24 → ∀ y z : Int32, y.toBitVec = x.toBitVec >>> n → z.toBitVec = x.toBitVec.sshiftRight n → y.toInt8.toInt32 = z.toInt8.toInt32 := by
    intro n hn y z hy hz
    have : y.toInt8 = z.toInt8 := by
      apply Int8.toBitVec_inj.mp
      rw [Int32.toBitVec_toInt8, Int32.toBitVec_toInt8, hy, hz, pt_b0 _ _ hn]
    rw [this]
  rcases hk with e | e | e | e <;> subst e
  · exact key 24 (by decide) _ _ rfl rfl
  · exact key 16 (by decide) _ _ rfl rfl
  · exact key 8 (by decide) _ _ rfl rfl
  · exact key 0 (by decide) _ _ rfl rfl
/-! four bytes, as both sides write them -/
def pt_sh : Nat → Int32
  | 0 => 0
  | 1 => 8
  | 2 => 16
  | _ => 24
def pt_c (x : Int32) (m : Nat) : Int32 := vp_nar .byte (((x).toUInt32 >>> ((pt_sh m).toUInt32 &&& Int32.toUInt32 31)).toInt32).toInt8.toInt32
theorem pt_c_m (x : Int32) (m : Nat) : vp_nar .byte ((x >>> (pt_sh m &&& 31))).toInt8.toInt32 = pt_c x m := by
  unfold pt_c
  rw [pt_by x (pt_sh m) (by
    match m with
    | 0 => exact Or.inr (Or.inr (Or.inr rfl))
    | 1 => exact Or.inr (Or.inr (Or.inl rfl))
    | 2 => exact Or.inr (Or.inl rfl)
    | _ + 3 => exact Or.inl rfl)]
theorem pt_sh_of {x : Int32} {k : Nat} (hk : k ≤ 3) (h : x.toInt = 8 * (k : Int)) : x = pt_sh k := by
  apply en_ofI
  rw [h]
  have : k = 0 ∨ k = 1 ∨ k = 2 ∨ k = 3 := by omega
  rcases this with e | e | e | e <;> subst e <;> decide
/-- k bytes of x, from n on; the last is the lowest -/
def pt_w (x : Int32) (k : Nat) (n : Int) (r : Nat → Int32) (j : Nat) : Int32 := if n ≤ (j : Int) ∧ (j : Int) < n + k then pt_c x (k - 1 - ((j : Int) - n).toNat) else r j
theorem pt_w_eq {x : Int32} {k : Nat} {n : Int} {r s : Nat → Int32} (h : ∀ j : Nat, (j : Int) < n → r j = s j) (j : Nat) (hj : (j : Int) < n + k) : pt_w x k n r j = pt_w x k n s j := by
  unfold pt_w
  by_cases c : n ≤ (j : Int) ∧ (j : Int) < n + k
  · rw [if_pos c, if_pos c]
  · rw [if_neg c, if_neg c]; exact h j (by omega)
theorem pt_w_0 {x : Int32} {n : Int} {r : Nat → Int32} (j : Nat) : pt_w x 0 n r j = r j := by
  unfold pt_w
  rw [if_neg (by omega)]
theorem pt_w_s {x : Int32} {k : Nat} {n : Int} {r s : Nat → Int32} {m : Nat} (hm : (m : Int) = n) (h : ∀ j, j ≠ m → s j = r j) (h2 : s m = pt_c x k) (j : Nat) : pt_w x k (n + 1) s j = pt_w x (k + 1) n r j := by
  unfold pt_w
  by_cases c : n + 1 ≤ (j : Int) ∧ (j : Int) < n + 1 + k
  · rw [if_pos c, if_pos (by omega), show k - 1 - ((j : Int) - (n + 1)).toNat = k + 1 - 1 - ((j : Int) - n).toNat by omega]
  · rw [if_neg c]
    by_cases e : j = m
    · subst e
      rw [if_pos (by omega), h2, show k + 1 - 1 - ((j : Int) - n).toNat = k by omega]
    · rw [if_neg (by omega), h j e]
/-- five ints -/
def pt_f (x1 x2 x3 x4 x5 : Int32) (n : Int) (r : Nat → Int32) : Nat → Int32 := pt_w x5 4 (n + 16) (pt_w x4 4 (n + 12) (pt_w x3 4 (n + 8) (pt_w x2 4 (n + 4) (pt_w x1 4 n r))))
theorem pt_f_eq {x1 x2 x3 x4 x5 : Int32} {n : Int} {r s : Nat → Int32} (h : ∀ j : Nat, (j : Int) < n → r j = s j) (j : Nat) (hj : (j : Int) < n + 20) : pt_f x1 x2 x3 x4 x5 n r j = pt_f x1 x2 x3 x4 x5 n s j := by
  refine pt_w_eq (fun j hj => ?_) j (by omega)
  refine pt_w_eq (fun j hj => ?_) j (by omega)
  refine pt_w_eq (fun j hj => ?_) j (by omega)
  refine pt_w_eq (fun j hj => ?_) j (by omega)
  exact pt_w_eq h j (by omega)
theorem kp_put {S : sm_C} {d q : Nat} {Φ : sm_Z → Prop} {w0 : sm_W} {L : sm_L} {R : sm_R} {x1 : Int32} (n : Int) (hn : n ≤ 2000) (eR : kO q R = R) : ∀ (k : Nat) (I : sm_I) (x2 : Int32), (k ≤ 4 ∧ x2.toInt = 8 * k - 8) → en_mem kl_tb klX (xLay, I, L, R) → (I 0 10).toInt + k = n → en_fr [(0, [10]), (1, [])] w0 (xLay, I, L, R) → (∀ I' : sm_I, en_mem kl_tb klX (xLay, I', L, R) → (I' 0 10).toInt = n → en_fr [(0, [10]), (1, [])] w0 (xLay, I', L, R) → (∀ j, I' 1 j = pt_w x1 k (I 0 10).toInt (I 1) j) → Φ (none, (xLay, I', L, kO q R))) → sm_wp sm_P S d 77 1 [.ref 0, .int x1, .int x2] [] (xLay, I, L, kO q R) (0, 0) Φ := by
  intro k
  induction k with
  | zero =>
    intro I x2 hx hm hi hf h
    refine o_X11_putFour_1 ⟨fun _ => h I hm (by omega) hf (fun j => (pt_w_0 j).symm), fun a => ?_⟩
    have := kl_nlt0 a
    omega
  | succ k ih =>
    intro I x2 hx hm hi hf h
    have b : 0 ≤ (I 0 10).toInt ∧ (I 0 10).toInt ≤ 2000 := kx_len hm
    have c2k : (2000 : Int32).toInt = 2000 := by decide
    have hs : x2 = pt_sh k := pt_sh_of (by omega) (by omega)
    refine o_X11_putFour_1 ⟨fun a => ?_, fun _ => ⟨fun c => ?_, fun c n1 en1 => ⟨?_, fun I2 e2 I3 e3 => ?_⟩⟩⟩
    · rw [kl_lt, kl_0] at a; omega
    · have c := kl_le.mp c
      rw [c2k] at c
      omega
    · exact kl_in b.1 (by omega)
    · skip
      have m8 : (-8 : Int32).toInt = -8 := by decide
      obtain ⟨y, hy, s⟩ : ∃ y, y = x2 + (-8 : Int32) ∧ y.toInt = x2.toInt - 8 := ⟨_, rfl, by rw [kl_add (by rw [m8]; omega) (by rw [m8]; omega), m8]; omega⟩
      rw [← hy]
      clear m8
      have hm2 : en_mem kl_tb klX (xLay, I2, L, R) := by rw [e2]; exact kx_tape hm
      have g2 : I2 0 10 = I 0 10 := by rw [e2, en_up_ne _ _ _ _ (fun c => absurd c.1 (by decide))]
      have s1 : (I 0 10 + 1).toInt = (I 0 10).toInt + 1 := ml_in1 (by omega)
      have hm3 : en_mem kl_tb klX (xLay, I3, L, R) := by
        rw [e3, g2]
        exact kx_10 hm2 (by omega)
      have g3 : I3 0 10 = I 0 10 + 1 := by rw [e3, g2, en_up_eq]
      have nn := kl_nat b.1
      refine ih I3 y ⟨by omega, by omega⟩ hm3 (by rw [g3]; omega) ?_ (fun I' a1 a2 a3 a4 => h I' a1 a2 a3 (fun j => ?_))
      · rw [e3]
        refine ml_fr ?_ (by decide)
        rw [e2]
        exact ml_fr hf rfl
      · rw [a4 j, g3, s1]
        refine pt_w_s (m := (I 0 10).toNatClampNeg) nn (fun j hj => ?_) ?_ j
        · rw [e3, en_up_ne _ _ _ _ (fun c => absurd c.1 (by decide)), e2, en_up_ne _ _ _ _ (fun c => hj c.2)]
        · rw [e3, en_up_ne _ _ _ _ (fun c => absurd c.1 (by decide)), e2, en_up_eq, en1, hs]; rfl
theorem kp_feed {S : sm_C} {d : Nat} {Φ : sm_Z → Prop} {I : sm_I} {L : sm_L} {R : sm_R} {x1 x2 x3 x4 x5 : Int32} (hm : en_mem kl_tb klX (xLay, I, L, R)) (h0 : 1980 < (I 0 10).toInt → Φ (some (.int (-1)), (xLay, I, L, R))) (h1 : ∀ I' : sm_I, (I 0 10).toInt ≤ 1980 → en_mem kl_tb klX (xLay, I', L, R) → (I' 0 10).toInt = (I 0 10).toInt + 20 → en_fr [(0, [10]), (1, [])] (xLay, I, L, R) (xLay, I', L, R) → (∀ j, I' 1 j = pt_f x1 x2 x3 x4 x5 (I 0 10).toInt (I 1) j) → Φ (some (.int (I' 0 10)), (xLay, I', L, R))) : sm_wp sm_P S (d + 1) 42 0 [.ref 0, .int x1, .int x2, .int x3, .int x4, .int x5] [] (xLay, I, L, R) (0, 0) Φ := by
  obtain ⟨q, -, e⟩ := kO_of hm
  have e : kO q R = R := e
  have b : 0 ≤ (I 0 10).toInt ∧ (I 0 10).toInt ≤ 2000 := kx_len hm
  have c20 : (20 : Int32).toInt = 20 := by decide
  have c24 : (24 : Int32).toInt = 8 * (4 : Nat) - 8 := by decide
  have c2k : (2000 : Int32).toInt = 2000 := by decide
  have s : (I 0 10 + 20).toInt = (I 0 10).toInt + 20 := by rw [kl_add (by rw [c20]; omega) (by rw [c20]; omega), c20]
  rw [← e]
  refine o_X11_feed_0 ⟨fun a => ?_, fun a => ?_⟩
  · have a := kl_le.mp a
    rw [s, c2k] at a
    have p0 : ∀ {x : Int32} {Φ : sm_Z → Prop} {I1 : sm_I}, en_mem kl_tb klX (xLay, I1, L, R) → (I1 0 10).toInt ≤ 1996 → en_fr [(0, [10]), (1, [])] (xLay, I, L, R) (xLay, I1, L, R) → (∀ I2 : sm_I, en_mem kl_tb klX (xLay, I2, L, R) → (I2 0 10).toInt = (I1 0 10).toInt + 4 → en_fr [(0, [10]), (1, [])] (xLay, I, L, R) (xLay, I2, L, R) → (I2 1 = pt_w x 4 (I1 0 10).toInt (I1 1)) → Φ (none, (xLay, I2, L, kO q R))) → sm_wp sm_P S d 77 0 [.ref 0, .int x] [] (xLay, I1, L, kO q R) (0, 0) Φ := by
      intro x Φ I1 m1 n1 f1 k1
      refine o_X11_putFour_0 ?_
      exact kp_put ((I1 0 10).toInt + 4) (by omega) e 4 I1 24 ⟨by decide, c24⟩ m1 (by omega) f1 (fun I' a1 a2 a3 a4 => k1 I' a1 a2 a3 (funext a4))
    refine p0 hm (by omega) en_fr_rf (fun I1 m1 t1 f1 r1 => ⟨I1, L, R, q, rfl, ?_⟩)
    refine p0 m1 (by omega) f1 (fun I2 m2 t2 f2 r2 => ⟨I2, L, R, q, rfl, ?_⟩)
    refine p0 m2 (by omega) f2 (fun I3 m3 t3 f3 r3 => ⟨I3, L, R, q, rfl, ?_⟩)
    refine p0 m3 (by omega) f3 (fun I4 m4 t4 f4 r4 => ⟨I4, L, R, q, rfl, ?_⟩)
    refine p0 m4 (by omega) f4 (fun I5 m5 t5 f5 r5 => ⟨I5, L, R, q, rfl, ?_⟩)
    rw [e]
    refine h1 I5 (by omega) m5 (by omega) f5 (fun j => ?_)
    rw [r5, r4, r3, r2, r1]
    unfold pt_f
    rw [show (I4 0 10).toInt = (I 0 10).toInt + 16 by omega, show (I3 0 10).toInt = (I 0 10).toInt + 12 by omega, show (I2 0 10).toInt = (I 0 10).toInt + 8 by omega, show (I1 0 10).toInt = (I 0 10).toInt + 4 by omega]
  · have a := kl_nle a
    rw [s, c2k] at a
    rw [e]
    exact h0 (by omega)
theorem mp_put {S : sm_C} {d : Nat} {Φ : sm_Z → Prop} {w0 : sm_W} {L : sm_L} {R : sm_R} {x1 : Int32} (n : Int) (hn : n ≤ 2000) (eR : kM R = R) : ∀ (k : Nat) (I : sm_I) (x2 : Int32), (k ≤ 4 ∧ x2.toInt = 8 * k - 8) → en_mem ml_tb mlX (xLay, I, L, R) → (I 107 2).toInt + k = n → en_fr [(107, [2]), (108, [])] w0 (xLay, I, L, R) → (∀ I' : sm_I, en_mem ml_tb mlX (xLay, I', L, R) → (I' 107 2).toInt = n → en_fr [(107, [2]), (108, [])] w0 (xLay, I', L, R) → (∀ j, I' 108 j = pt_w x1 k (I 107 2).toInt (I 108) j) → Φ (none, (xLay, I', L, kM R))) → sm_wp sm_P S d 179 1 [.ref 107, .int x1, .int x2] [] (xLay, I, L, kM R) (0, 0) Φ := by
  intro k
  induction k with
  | zero =>
    intro I x2 hx hm hi hf h
    refine v_X12_put_1 ⟨fun _ => h I hm (by omega) hf (fun j => (pt_w_0 j).symm), fun a => ?_⟩
    have := kl_nlt0 a
    omega
  | succ k ih =>
    intro I x2 hx hm hi hf h
    have b : 0 ≤ (I 107 2).toInt ∧ (I 107 2).toInt ≤ 2000 := ml_taped hm
    have c2k : (2000 : Int32).toInt = 2000 := by decide
    have hs : x2 = pt_sh k := pt_sh_of (by omega) (by omega)
    refine v_X12_put_1 ⟨fun a => ?_, fun a n1 en1 => ⟨kl_in b.1 (by omega), fun I2 e2 I3 e3 => ?_⟩⟩
    · rw [kl_lt, kl_0] at a; omega
    · skip
      have m8 : (-8 : Int32).toInt = -8 := by decide
      obtain ⟨y, hy, s⟩ : ∃ y, y = x2 + (-8 : Int32) ∧ y.toInt = x2.toInt - 8 := ⟨_, rfl, by rw [kl_add (by rw [m8]; omega) (by rw [m8]; omega), m8]; omega⟩
      rw [← hy]
      clear m8
      have hm2 : en_mem ml_tb mlX (xLay, I2, L, R) := by rw [e2]; exact ml_we hm (mlX_ok.1 _ (I, L, R) _ _ _ rfl hm.2.2.2.2) (n := 2000) (q := (-128, 127)) rfl (ml_byte n1)
      have g2 : I2 107 2 = I 107 2 := by rw [e2, en_up_ne _ _ _ _ (fun c => absurd c.1 (by decide))]
      have s1 : (I 107 2 + 1).toInt = (I 107 2).toInt + 1 := ml_in1 (by omega)
      have hm3 : en_mem ml_tb mlX (xLay, I3, L, R) := by
        rw [e3, g2]
        exact ml_wf hm2 (by decide +kernel) (q := (0, 2000)) (by decide +kernel) (by show 0 ≤ _ ∧ _ ≤ (2000 : Int); omega)
      have g3 : I3 107 2 = I 107 2 + 1 := by rw [e3, g2, en_up_eq]
      have nn := kl_nat b.1
      refine ih I3 y ⟨by omega, by omega⟩ hm3 (by rw [g3]; omega) ?_ (fun I' a1 a2 a3 a4 => h I' a1 a2 a3 (fun j => ?_))
      · rw [e3]
        refine ml_fr ?_ (by decide)
        rw [e2]
        exact ml_fr hf rfl
      · rw [a4 j, g3, s1]
        refine pt_w_s (m := (I 107 2).toNatClampNeg) nn (fun j hj => ?_) ?_ j
        · rw [e3, en_up_ne _ _ _ _ (fun c => absurd c.1 (by decide)), e2, en_up_ne _ _ _ _ (fun c => hj c.2)]
        · rw [e3, en_up_ne _ _ _ _ (fun c => absurd c.1 (by decide)), e2, en_up_eq, en1, hs]; exact pt_c_m x1 k
theorem mp_feed {S : sm_C} {d : Nat} {Φ : sm_Z → Prop} {I : sm_I} {L : sm_L} {R : sm_R} {x1 x2 x3 x4 x5 : Int32} (hm : en_mem ml_tb mlX (xLay, I, L, R)) (h0 : 1980 < (I 107 2).toInt → Φ (some (.int (-1)), (xLay, I, L, R))) (h1 : ∀ I' : sm_I, (I 107 2).toInt ≤ 1980 → en_mem ml_tb mlX (xLay, I', L, R) → (I' 107 2).toInt = (I 107 2).toInt + 20 → en_fr [(107, [2]), (108, [])] (xLay, I, L, R) (xLay, I', L, R) → (∀ j, I' 108 j = pt_f x1 x2 x3 x4 x5 (I 107 2).toInt (I 108) j) → Φ (some (.int (I' 107 2)), (xLay, I', L, R))) : sm_wp sm_P S (d + 1) 124 0 [.ref 107, .int x1, .int x2, .int x3, .int x4, .int x5] [] (xLay, I, L, R) (0, 0) Φ := by
  have e : kM R = R := ml_R hm
  have b : 0 ≤ (I 107 2).toInt ∧ (I 107 2).toInt ≤ 2000 := ml_taped hm
  have c20 : (20 : Int32).toInt = 20 := by decide
  have c24 : (24 : Int32).toInt = 8 * (4 : Nat) - 8 := by decide
  have c2k : (2000 : Int32).toInt = 2000 := by decide
  have s : (I 107 2 + 20).toInt = (I 107 2).toInt + 20 := by rw [kl_add (by rw [c20]; omega) (by rw [c20]; omega), c20]
  rw [← e]
  refine v_X12_feed_0 ⟨fun a => ?_, fun a => ?_⟩
  · have a := kl_le.mp a
    rw [s, c2k] at a
    have p0 : ∀ {x : Int32} {Φ : sm_Z → Prop} {I1 : sm_I}, en_mem ml_tb mlX (xLay, I1, L, R) → (I1 107 2).toInt ≤ 1996 → en_fr [(107, [2]), (108, [])] (xLay, I, L, R) (xLay, I1, L, R) → (∀ I2 : sm_I, en_mem ml_tb mlX (xLay, I2, L, R) → (I2 107 2).toInt = (I1 107 2).toInt + 4 → en_fr [(107, [2]), (108, [])] (xLay, I, L, R) (xLay, I2, L, R) → (I2 108 = pt_w x 4 (I1 107 2).toInt (I1 108)) → Φ (none, (xLay, I2, L, kM R))) → sm_wp sm_P S d 179 0 [.ref 107, .int x] [] (xLay, I1, L, kM R) (0, 0) Φ := by
      intro x Φ I1 m1 n1 f1 k1
      refine v_X12_put_0 ?_
      exact mp_put ((I1 107 2).toInt + 4) (by omega) e 4 I1 24 ⟨by decide, c24⟩ m1 (by omega) f1 (fun I' a1 a2 a3 a4 => k1 I' a1 a2 a3 (funext a4))
    refine p0 hm (by omega) en_fr_rf (fun I1 m1 t1 f1 r1 => ⟨I1, L, rfl, ?_⟩)
    refine p0 m1 (by omega) f1 (fun I2 m2 t2 f2 r2 => ⟨I2, L, rfl, ?_⟩)
    refine p0 m2 (by omega) f2 (fun I3 m3 t3 f3 r3 => ⟨I3, L, rfl, ?_⟩)
    refine p0 m3 (by omega) f3 (fun I4 m4 t4 f4 r4 => ⟨I4, L, rfl, ?_⟩)
    refine p0 m4 (by omega) f4 (fun I5 m5 t5 f5 r5 => ⟨I5, L, rfl, ?_⟩)
    rw [e]
    refine h1 I5 (by omega) m5 (by omega) f5 (fun j => ?_)
    rw [r5, r4, r3, r2, r1]
    unfold pt_f
    rw [show (I4 107 2).toInt = (I 107 2).toInt + 16 by omega, show (I3 107 2).toInt = (I 107 2).toInt + 12 by omega, show (I2 107 2).toInt = (I 107 2).toInt + 8 by omega, show (I1 107 2).toInt = (I 107 2).toInt + 4 by omega]
  · have a := kl_nle a
    rw [s, c2k] at a
    rw [e]
    exact h0 (by omega)
