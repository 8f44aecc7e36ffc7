/-! one instruction, blocks, methods -/
noncomputable def ab_one (L nL : Nat) (i : Instr) (ops : List Nat) (lv : ab_L) (st : List ab_V) (M : ab_M) (E : ab_E) (k : ab_L → List ab_V → ab_M → Bool) : Bool := match i with
  | .iconst n => ai_ci (Int32.ofInt n) lv st M k
  | .bipush n => ai_ci (Int8.ofInt n).toInt32 lv st M k
  | .sipush n => ai_ci (Int16.ofInt n).toInt32 lv st M k
  | .lconst n => ai_cl (Int64.ofNat n) lv st M k
  | .ldc _ => ai_ci (Int32.ofNat (ops.getD 0 0)) lv st M k
  | .ldc_w _ => ai_ci (Int32.ofNat (ops.getD 0 0)) lv st M k
  | .ldc2_w _ => ai_cl (Int64.ofNat (ops.getD 0 0)) lv st M k
  | .aconst_null => k lv ((1, 0) :: st) M
  | .iload j => ai_ldi j E lv st M k
  | .iload_n j => ai_ldi j E lv st M k
  | .lload j => ai_ldl j lv st M k
  | .lload_n j => ai_ldl j lv st M k
  | .aload j => ai_lda j lv st M k
  | .aload_n j => ai_lda j lv st M k
  | .istore j => ai_sti j nL lv st M k
  | .istore_n j => ai_sti j nL lv st M k
  | .lstore j => ai_stl j nL lv st M k
  | .lstore_n j => ai_stl j nL lv st M k
  | .astore j => ai_sta j nL lv st M k
  | .astore_n j => ai_sta j nL lv st M k
  | .iinc j n => ai_inc j n nL E lv st M k
  | .iadd => ai_ii (ab_add E) lv st M k
  | .isub => ai_ii (ab_sub E) lv st M k
  | .imul => ai_ii (ab_bin (fun x y => x * y)) lv st M k
  | .iand => ai_ii (ab_and E) lv st M k
  | .ior => ai_ii (ab_or E) lv st M k
  | .ixor => ai_ii (ab_bin (fun x y => x ^^^ y)) lv st M k
  | .ishl => ai_ii (ab_bin (fun x y => x <<< (y &&& 31))) lv st M k
  | .ishr => ai_ii (ab_bin (fun x y => x >>> (y &&& 31))) lv st M k
  | .iushr => ai_ii (ab_bin (fun x y => (x.toUInt32 >>> (y.toUInt32 &&& Int32.toUInt32 31)).toInt32)) lv st M k
  | .idiv => ai_iq (fun x y => x / y) lv st M k
  | .irem => ai_iq (fun x y => x - x / y * y) lv st M k
  | .ineg => ai_i1 (fun x => -x) lv st M k
  | .i2b => ai_i1 (fun x => x.toInt8.toInt32) lv st M k
  | .i2l => ai_i2l lv st M k
  | .l2i => ai_l2i lv st M k
  | .ladd => ai_ll (fun x y => x + y) lv st M k
  | .lsub => ai_ll (fun x y => x - y) lv st M k
  | .lmul => ai_ll (fun x y => x * y) lv st M k
  | .land => ai_ll (fun x y => x &&& y) lv st M k
  | .lor => ai_ll (fun x y => x ||| y) lv st M k
  | .lshl => ai_li (fun x y => x <<< (y.toInt64 &&& 63)) lv st M k
  | .lshr => ai_li (fun x y => x >>> (y.toInt64 &&& 63)) lv st M k
  | .lcmp => ai_lc lv st M k
  | .dup => ai_dup lv st M k
  | .dup_x1 => ai_dupx1 lv st M k
  | .dup2 => ai_dup2 lv st M k
  | .pop => ai_pop lv st M k
  | .iaload => ai_gI L E lv st M k
  | .baload => ai_gB E lv st M k
  | .laload => ai_gL lv st M k
  | .arraylength => ai_len L lv st M k
  | .iastore => ai_pI lv st M k
  | .bastore => ai_pB lv st M k
  | .lastore => ai_pL lv st M k
  | .getfield _ => ai_get E (ops.getD 0 0) (ops.getD 1 0) lv st M k
  | .putfield _ => ai_put (ops.getD 0 0) (ops.getD 1 0) lv st M k
  | .getstatic _ => ab_fn (ops.getD 0 0) (fun p => k lv ((2, Int.ofNat p) :: st) M)
  | .invokestatic _ => match ops with
    | 0 :: _ => ai_cpy lv st M k
    | 1 :: _ => ai_ma (fun x y => if x < y then y else x) lv st M k
    | 2 :: _ => ai_ma (fun x y => if y < x then y else x) lv st M k
    | 3 :: _ => ai_mb (fun x => if 0 ≤ x then x else 0 - x) lv st M k
    | _ => false
  | .invokespecial _ => ai_oin lv st M k
  | _ => false
set_option maxHeartbeats 4000000 in
theorem ab_one_ok {L NS nL : Nat} {xs ys : Nat → Int32} {i : Instr} {ops : List Nat} {E : ab_E} {lv : ab_L} {st : List ab_V} {M : ab_M} {lv' : sm_V} {st' : List Value} {lay : List (Nat × Nat)} {m : sm_Y} {k : ab_L → List ab_V → ab_M → Bool} (hy : ∀ j, j < L → ys j = xs j) (h6 : xs 6 = xs 0 &&& 63) (hE : ab_sat xs E) (hl : ab_gl xs lv lv') (hs : ab_gs xs st st') (hr : ab_rm xs M (lay, m)) (h : ab_one L nL i ops lv st M E k = true) : ab_ok xs lay (sm_one (NS, ys) nL i ops lv' st' lay m) k := by
  cases i with
  | iconst n => exact ai_ci_ok hl hs hr h
  | bipush n => exact ai_ci_ok hl hs hr h
  | sipush n => exact ai_ci_ok hl hs hr h
  | lconst n => exact ai_cl_ok hl hs hr h
  | ldc n => exact ai_ci_ok hl hs hr h
  | ldc_w n => exact ai_ci_ok hl hs hr h
  | ldc2_w n => exact ai_cl_ok hl hs hr h
  | aconst_null => exact ⟨_, rfl, lv, (1, 0) :: st, M, hl, ⟨rfl, hs⟩, hr, h⟩
  | iload j => exact ai_ldi_ok hE hl hs hr h
  | iload_n j => exact ai_ldi_ok hE hl hs hr h
  | lload j => exact ai_ldl_ok hl hs hr h
  | lload_n j => exact ai_ldl_ok hl hs hr h
  | aload j => exact ai_lda_ok hl hs hr h
  | aload_n j => exact ai_lda_ok hl hs hr h
  | istore j => exact ai_sti_ok hl hs hr h
  | istore_n j => exact ai_sti_ok hl hs hr h
  | lstore j => exact ai_stl_ok hl hs hr h
  | lstore_n j => exact ai_stl_ok hl hs hr h
  | astore j => exact ai_sta_ok hl hs hr h
  | astore_n j => exact ai_sta_ok hl hs hr h
  | iinc j n => exact ai_inc_ok hE hl hs hr h
  | iadd => exact ai_ii_ok (ab_add_ok hE) hl hs hr h
  | isub => exact ai_ii_ok (ab_sub_ok hE) hl hs hr h
  | imul => exact ai_ii_ok (ab_bin_ok _) hl hs hr h
  | iand => exact ai_ii_ok (ab_and_ok hE h6) hl hs hr h
  | ior => exact ai_ii_ok (ab_or_ok hE) hl hs hr h
  | ixor => exact ai_ii_ok (ab_bin_ok _) hl hs hr h
  | ishl => exact ai_ii_ok (ab_bin_ok _) hl hs hr h
  | ishr => exact ai_ii_ok (ab_bin_ok _) hl hs hr h
  | iushr => exact ai_ii_ok (ab_bin_ok _) hl hs hr h
  | idiv => exact ai_iq_ok hl hs hr h
  | irem => exact ai_iq_ok hl hs hr h
  | ineg => exact ai_i1_ok hl hs hr h
  | i2b => exact ai_i1_ok hl hs hr h
  | i2l => exact ai_i2l_ok hl hs hr h
  | l2i => exact ai_l2i_ok hl hs hr h
  | ladd => exact ai_ll_ok hl hs hr h
  | lsub => exact ai_ll_ok hl hs hr h
  | lmul => exact ai_ll_ok hl hs hr h
  | land => exact ai_ll_ok hl hs hr h
  | lor => exact ai_ll_ok hl hs hr h
  | lshl => exact ai_li_ok hl hs hr h
  | lshr => exact ai_li_ok hl hs hr h
  | lcmp => exact ai_lc_ok hl hs hr h
  | dup => exact ai_dup_ok hl hs hr h
  | dup_x1 => exact ai_dupx1_ok hl hs hr h
  | dup2 => exact ai_dup2_ok hl hs hr h
  | pop => exact ai_pop_ok hl hs hr h
  | iaload => exact ai_gI_ok hy hE hl hs hr h
  | baload => exact ai_gB_ok hE hl hs hr h
  | laload => exact ai_gL_ok hl hs hr h
  | arraylength => exact ai_len_ok hy hl hs hr h
  | iastore => exact ai_pI_ok hl hs hr h
  | bastore => exact ai_pB_ok hl hs hr h
  | lastore => exact ai_pL_ok hl hs hr h
  | getfield x => exact ai_get_ok hE hl hs hr h
  | putfield x => exact ai_put_ok hl hs hr h
  | getstatic x =>
    have h : ab_fn (ops.getD 0 0) (fun p => k lv ((2, Int.ofNat p) :: st) M) = true := h
    rw [ab_fn_eq] at h
    exact ⟨_, rfl, lv, (2, Int.ofNat (ops.getD 0 0)) :: st, M, hl, ⟨⟨rfl, rfl⟩, hs⟩, hr, h⟩
  | invokestatic x =>
    show ab_ok xs lay (sm_st4 ops lv' lay m st') k
    match ops, h with
    | 0 :: r, h => exact ai_cpy_ok hl hs hr h
    | 1 :: r, h => exact ai_ma_ok hl hs hr h
    | 2 :: r, h => exact ai_ma_ok hl hs hr h
    | 3 :: r, h => exact ai_mb_ok hl hs hr h
  | invokespecial x => exact ai_oin_ok hl hs hr h
  | _ => cases h
/-! branches -/
noncomputable def ab_tt (c : ClassFile.Cond) : ab_E → ab_V → ab_V → (ab_E → Bool) → (ab_E → Bool) → Bool := match c with
  | .eq => fun E a b ka kb => ab_teq E a b ka kb
  | .ne => fun E a b ka kb => ab_teq E a b kb ka
  | .lt => fun E a b ka kb => ab_tlt E a b ka kb
  | .ge => fun E a b ka kb => ab_tlt E a b kb ka
  | .gt => fun E a b ka kb => ab_tlt E b a ka kb
  | .le => fun E a b ka kb => ab_tlt E b a kb ka
noncomputable def ab_b1 (c : ClassFile.Cond) (E : ab_E) (st : List ab_V) (ka kb : List ab_V → ab_E → Bool) : Bool := List.rec (motive := fun _ => Bool) false (fun a r _ => ab_if (ab_isI a.1) (ab_tt c E a (0, 0) (ka r) (kb r)) false) st
noncomputable def ab_b2 (c : ClassFile.Cond) (E : ab_E) (st : List ab_V) (ka kb : List ab_V → ab_E → Bool) : Bool := List.rec (motive := fun _ => Bool) false (fun b r_1 _ => List.rec (motive := fun _ => Bool) false (fun a r _ => ab_if (ab_an (ab_isI a.1) (ab_isI b.1)) (ab_tt c E a b (ka r) (kb r)) false) r_1) st
noncomputable def ab_bn (st : List ab_V) (ka kb : List ab_V → Bool) : Bool := List.rec (motive := fun _ => Bool) false (fun a r _ => ab_if (Nat.beq a.1 1) (ka r) (ab_if (Nat.beq a.1 2) (kb r) (false))) st
noncomputable def ab_sw (a : ab_V) (k : Nat → ab_E → Bool) (d : Nat) : Int → List Nat → ab_E → Bool
  | _, [], E => k d E
  | v, b :: r, E => ab_teq E a (0, v) (k b) (fun E => ab_sw a k d (v + 1) r E)
noncomputable def ab_lo (a : ab_V) (k : Nat → ab_E → Bool) (d : Nat) : List (Int × Int) → List Nat → ab_E → Bool
  | [], _, E => k d E
  | _ :: _, [], _ => false
  | v :: vs, b :: r, E => ab_teq E a (0, v.1) (k b) (fun E => ab_lo a k d vs r E)
section AbBr
variable {xs : Nat → Int32} {E : ab_E} {Φ : sm_Z → Prop}
theorem ab_ite {p : Prop} [Decidable p] {X Y : Nat → Option sm_Z} (h : (p ∧ sm_ev X Φ) ∨ (¬ p ∧ sm_ev Y Φ)) : sm_ev (fun n => if p then X n else Y n) Φ := by
  rcases h with ⟨hp, h⟩ | ⟨hp, h⟩
  · simp only [if_pos hp]; exact h
  · simp only [if_neg hp]; exact h
theorem ab_eqz {x y : Int32} : x.toInt = y.toInt ↔ x = y := Int32.toInt_inj
theorem ab_b1_ok {c : ClassFile.Cond} {st : List ab_V} {st' : List Value} {ka kb : List ab_V → ab_E → Bool} {A B : List Value → Nat → Option sm_Z} (hE : ab_sat xs E) (hs : ab_gs xs st st') (ha : ∀ r r' E', ab_gs xs r r' → ab_sat xs E' → ka r E' = true → sm_ev (A r') Φ) (hb : ∀ r r' E', ab_gs xs r r' → ab_sat xs E' → kb r E' = true → sm_ev (B r') Φ) (h : ab_b1 c E st ka kb = true) : sm_ev (fun n => sm_b1 c st' (fun r => A r n) (fun r => B r n)) Φ := by
  cases st with
  | nil => cases h
  | cons a r =>
    replace hs := ab_gs_cons hs; obtain ⟨v, r', rfl, g, hs⟩ := hs
    replace h := ab_bif0 h; obtain ⟨h1, h⟩ := h
    obtain ⟨x, rfl, gx⟩ := ab_isI_of h1 g
    have e0 : (0 : Int32).toInt = 0 := by decide
    cases c with
    | eq =>
      obtain ⟨E', s1, s2⟩ := ab_teq_ok h hE gx (ab_gi0 0)
      refine ab_ite (p := x = 0) ?_
      rcases s2 with ⟨q, s⟩ | ⟨q, s⟩
      · exact Or.inl ⟨ab_eqz.mp (by rw [e0]; exact q), ha _ _ _ hs s1 s⟩
      · exact Or.inr ⟨fun e => q (by rw [e]; exact e0), hb _ _ _ hs s1 s⟩
    | ne =>
      obtain ⟨E', s1, s2⟩ := ab_teq_ok h hE gx (ab_gi0 0)
      refine ab_ite (p := x = 0) ?_
      rcases s2 with ⟨q, s⟩ | ⟨q, s⟩
      · exact Or.inl ⟨ab_eqz.mp (by rw [e0]; exact q), hb _ _ _ hs s1 s⟩
      · exact Or.inr ⟨fun e => q (by rw [e]; exact e0), ha _ _ _ hs s1 s⟩
    | lt =>
      obtain ⟨E', s1, s2⟩ := ab_tlt_ok h hE gx (ab_gi0 0)
      refine ab_ite (p := x < 0) ?_
      rw [Int32.lt_iff_toInt_lt, e0]
      rcases s2 with ⟨q, s⟩ | ⟨q, s⟩
      · exact Or.inl ⟨q, ha _ _ _ hs s1 s⟩
      · exact Or.inr ⟨q, hb _ _ _ hs s1 s⟩
    | ge =>
      obtain ⟨E', s1, s2⟩ := ab_tlt_ok h hE gx (ab_gi0 0)
      refine ab_ite (p := 0 ≤ x) ?_
      rw [Int32.le_iff_toInt_le, e0]
      rcases s2 with ⟨q, s⟩ | ⟨q, s⟩
      · exact Or.inr ⟨by omega, hb _ _ _ hs s1 s⟩
      · exact Or.inl ⟨by omega, ha _ _ _ hs s1 s⟩
    | gt =>
      obtain ⟨E', s1, s2⟩ := ab_tlt_ok h hE (ab_gi0 0) gx
      refine ab_ite (p := 0 < x) ?_
      rw [Int32.lt_iff_toInt_lt, e0]
      rcases s2 with ⟨q, s⟩ | ⟨q, s⟩
      · exact Or.inl ⟨q, ha _ _ _ hs s1 s⟩
      · exact Or.inr ⟨q, hb _ _ _ hs s1 s⟩
    | le =>
      obtain ⟨E', s1, s2⟩ := ab_tlt_ok h hE (ab_gi0 0) gx
      refine ab_ite (p := x ≤ 0) ?_
      rw [Int32.le_iff_toInt_le, e0]
      rcases s2 with ⟨q, s⟩ | ⟨q, s⟩
      · exact Or.inr ⟨by omega, hb _ _ _ hs s1 s⟩
      · exact Or.inl ⟨by omega, ha _ _ _ hs s1 s⟩
theorem ab_b2_ok {c : ClassFile.Cond} {st : List ab_V} {st' : List Value} {ka kb : List ab_V → ab_E → Bool} {A B : List Value → Nat → Option sm_Z} (hE : ab_sat xs E) (hs : ab_gs xs st st') (ha : ∀ r r' E', ab_gs xs r r' → ab_sat xs E' → ka r E' = true → sm_ev (A r') Φ) (hb : ∀ r r' E', ab_gs xs r r' → ab_sat xs E' → kb r E' = true → sm_ev (B r') Φ) (h : ab_b2 c E st ka kb = true) : sm_ev (fun n => sm_b2 c st' (fun r => A r n) (fun r => B r n)) Φ := by
  revert hs h
  refine ab_two (P := fun st => ab_gs xs st st' → ab_b2 c E st ka kb = true → _) (fun _ h => by cases h) (fun _ _ h => by cases h) (fun b a r hs h => ?_) st
  replace hs := ab_gs_cons hs; obtain ⟨u, r1, rfl, gb, hs⟩ := hs
  replace hs := ab_gs_cons hs; obtain ⟨v, r', rfl, ga, hs⟩ := hs
  replace h := ab_bif0 h; obtain ⟨h1, h⟩ := h
  replace h1 := ab_and2 h1; obtain ⟨h1, h2⟩ := h1
  obtain ⟨x, rfl, gx⟩ := ab_isI_of h1 ga
  obtain ⟨y, rfl, gy⟩ := ab_isI_of h2 gb
  cases c with
  | eq =>
    obtain ⟨E', s1, s2⟩ := ab_teq_ok h hE gx gy
    refine ab_ite (p := x = y) ?_
    rcases s2 with ⟨q, s⟩ | ⟨q, s⟩
    · exact Or.inl ⟨ab_eqz.mp q, ha _ _ _ hs s1 s⟩
    · exact Or.inr ⟨fun e => q (by rw [e]), hb _ _ _ hs s1 s⟩
  | ne =>
    obtain ⟨E', s1, s2⟩ := ab_teq_ok h hE gx gy
    refine ab_ite (p := x = y) ?_
    rcases s2 with ⟨q, s⟩ | ⟨q, s⟩
    · exact Or.inl ⟨ab_eqz.mp q, hb _ _ _ hs s1 s⟩
    · exact Or.inr ⟨fun e => q (by rw [e]), ha _ _ _ hs s1 s⟩
  | lt =>
    obtain ⟨E', s1, s2⟩ := ab_tlt_ok h hE gx gy
    refine ab_ite (p := x < y) ?_
    rw [Int32.lt_iff_toInt_lt]
    rcases s2 with ⟨q, s⟩ | ⟨q, s⟩
    · exact Or.inl ⟨q, ha _ _ _ hs s1 s⟩
    · exact Or.inr ⟨q, hb _ _ _ hs s1 s⟩
  | ge =>
    obtain ⟨E', s1, s2⟩ := ab_tlt_ok h hE gx gy
    refine ab_ite (p := y ≤ x) ?_
    rw [Int32.le_iff_toInt_le]
    rcases s2 with ⟨q, s⟩ | ⟨q, s⟩
    · exact Or.inr ⟨by omega, hb _ _ _ hs s1 s⟩
    · exact Or.inl ⟨by omega, ha _ _ _ hs s1 s⟩
  | gt =>
    obtain ⟨E', s1, s2⟩ := ab_tlt_ok h hE gy gx
    refine ab_ite (p := y < x) ?_
    rw [Int32.lt_iff_toInt_lt]
    rcases s2 with ⟨q, s⟩ | ⟨q, s⟩
    · exact Or.inl ⟨q, ha _ _ _ hs s1 s⟩
    · exact Or.inr ⟨q, hb _ _ _ hs s1 s⟩
  | le =>
    obtain ⟨E', s1, s2⟩ := ab_tlt_ok h hE gy gx
    refine ab_ite (p := x ≤ y) ?_
    rw [Int32.le_iff_toInt_le]
    rcases s2 with ⟨q, s⟩ | ⟨q, s⟩
    · exact Or.inr ⟨by omega, hb _ _ _ hs s1 s⟩
    · exact Or.inl ⟨by omega, ha _ _ _ hs s1 s⟩
theorem ab_bn_ok {st : List ab_V} {st' : List Value} {ka kb : List ab_V → Bool} {A B : List Value → Nat → Option sm_Z} (hs : ab_gs xs st st') (ha : ∀ r r', ab_gs xs r r' → ka r = true → sm_ev (A r') Φ) (hb : ∀ r r', ab_gs xs r r' → kb r = true → sm_ev (B r') Φ) (h : ab_bn st ka kb = true) : sm_ev (fun n => sm_bn st' (fun r => A r n) (fun r => B r n)) Φ := by
  cases st with
  | nil => cases h
  | cons a r =>
    replace hs := ab_gs_cons hs; obtain ⟨v, r', rfl, g, hs⟩ := hs
    rcases ab_bif h with ⟨h1, h⟩ | ⟨-, h⟩
    · have := ab_null_of (ab_beq h1) g
      subst this
      exact ha _ _ hs h
    · replace h := ab_bif0 h; obtain ⟨h1, h⟩ := h
      obtain ⟨p, rfl, -⟩ := ab_ref_of (ab_beq h1) g
      exact hb _ _ hs h
theorem ab_sw_ok {a : ab_V} {x : Int32} {k : Nat → ab_E → Bool} {K : Nat → Nat → Option sm_Z} {d : Nat} (gx : ab_gi xs a x.toInt) (hk : ∀ b E', ab_sat xs E' → k b E' = true → sm_ev (K b) Φ) : ∀ (bs : List Nat) (v : Int) (E : ab_E), ab_sat xs E → ab_sw a k d v bs E = true → sm_ev (fun n => sm_sw x (fun b => K b n) d v bs) Φ
  | [], v, E, hE, h => hk _ _ hE h
  | b :: r, v, E, hE, h => by
    have h : ab_teq E a (0, v) (k b) (fun E => ab_sw a k d (v + 1) r E) = true := h
    obtain ⟨E', s1, s2⟩ := ab_teq_ok h hE gx (ab_gi0 v)
    refine ab_ite (p := x.toInt = v) ?_
    rcases s2 with ⟨q, s⟩ | ⟨q, s⟩
    · exact Or.inl ⟨q, hk _ _ s1 s⟩
    · exact Or.inr ⟨q, ab_sw_ok gx hk r (v + 1) E' s1 s⟩
theorem ab_lo_ok {a : ab_V} {x : Int32} {k : Nat → ab_E → Bool} {K : Nat → Nat → Option sm_Z} {d : Nat} (gx : ab_gi xs a x.toInt) (hk : ∀ b E', ab_sat xs E' → k b E' = true → sm_ev (K b) Φ) : ∀ (vs : List (Int × Int)) (bs : List Nat) (E : ab_E), ab_sat xs E → ab_lo a k d vs bs E = true → sm_ev (fun n => sm_lo x (fun b => K b n) d vs bs) Φ
  | [], bs, E, hE, h => by cases bs <;> exact hk _ _ hE h
  | v :: vs, [], E, hE, h => by cases h
  | v :: vs, b :: r, E, hE, h => by
    have h : ab_teq E a (0, v.1) (k b) (fun E => ab_lo a k d vs r E) = true := h
    obtain ⟨E', s1, s2⟩ := ab_teq_ok h hE gx (ab_gi0 v.1)
    refine ab_ite (p := x.toInt = v.1) ?_
    rcases s2 with ⟨q, s⟩ | ⟨q, s⟩
    · exact Or.inl ⟨q, hk _ _ s1 s⟩
    · exact Or.inr ⟨q, ab_lo_ok gx hk vs r E' s1 s⟩
end AbBr
