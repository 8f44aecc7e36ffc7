section
/-! blocks and methods over intervals -/
abbrev ab_K : Type := Option ab_V → ab_M → ab_E → Bool
abbrev ab_R : Type := Nat → Nat → Nat → List ab_V → List ab_V → ab_M → ab_E → Nat × Nat → ab_K → Bool
abbrev ab_J : Type := Nat → ab_L → List ab_V → ab_M → ab_E → Nat × Nat → Bool
noncomputable def ab_fl (l : List ab_V) : (List ab_V → Bool) → Bool := List.rec (motive := fun _ => (List ab_V → Bool) → Bool) (fun c => c []) (fun a _ ih c => ih (fun r => c (a :: r))) l
theorem ab_fl_eq : ∀ (l : List ab_V) (c : List ab_V → Bool), ab_fl l c = c l
  | [], _ => rfl
  | a :: r, c => by show ab_fl r (fun r => c (a :: r)) = _; rw [ab_fl_eq r]
noncomputable def ab_ol (r : Option ab_V) (st : List ab_V) : List ab_V := match r with
  | none => st
  | some a => a :: st
def ab_or' (xs : Nat → Int32) : Option ab_V → Option Value → Prop
  | none, none => True
  | some a, some v => ab_g xs a v
  | _, _ => False
noncomputable def ab_rc1 (ci : Nat) (M : ab_M) (l : List ab_V) : Bool := List.rec (motive := fun _ => Bool) false (fun b _ _ => ab_rf b (fun p => ab_cell M p (fun kd c _ => ab_an (Nat.beq kd 0) (Nat.beq c ci)))) l
noncomputable def ab_rc (inst ci : Nat) (M : ab_M) (st : List ab_V) (n : Nat) : Bool := ab_if (Nat.beq inst 0) (true) (ab_rc1 ci M (st.drop n))
noncomputable def ab_inv (rc : List ab_V → ab_K → Bool) (n nL mc ms : Nat) (rb : Bool) (st : List ab_V) (cs lim : Nat × Nat) (k : List ab_V → ab_M → ab_E → Nat × Nat → Bool) : Bool :=
  ab_if (ab_an (rb) ((ab_an (Nat.ble n st.length) ((ab_an (Nat.ble (Nat.add cs.1 mc) lim.1) (Nat.ble (Nat.add cs.2 ms) lim.2)))))) (ab_fl (st.take n).reverse (fun as => ab_fl (st.drop n) (fun rest => ab_if (ab_an (Nat.ble (ab_slots as) nL) (Nat.ble (ab_sum rest) 8)) (rc as (fun r M E => ab_fn (Nat.add cs.1 mc) (fun c1 => ab_fn (Nat.add cs.2 ms) (fun c2 => k (ab_ol r rest) M E (c1, c2))))) (false)))) (false)
noncomputable def ab_else (L : Nat) (P : Nat → sm_M) (rec : ab_R) (d : Nat) (Mt : sm_M) (i : Instr) (ops : List Nat) (lv : ab_L) (st : List ab_V) (M : ab_M) (E : ab_E) (cs : Nat × Nat) (k : ab_L → List ab_V → ab_M → ab_E → Nat × Nat → Bool) : Bool := match ops with
  | g :: inst :: ci :: _ :: _ :: _ :: _ :: _ => match d with
    | 0 => false
    | d + 1 => ab_inv (fun as kk => rec d g 0 as [] M E (0, 0) kk) (Nat.add (P g).2.2.2.2.1 inst) (P g).2.2.1 (P g).2.2.2.2.2.1 (P g).2.2.2.2.2.2.1 (ab_rc inst ci M st (P g).2.2.2.2.1) st cs (Mt.2.2.2.2.2.1, Mt.2.2.2.2.2.2.1) (fun s M E cs => k lv s M E cs)
  | ops => ab_one L Mt.2.2.1 i ops lv st M E (fun lv st M => k lv st M E cs)
noncomputable def ab_lim (Mt : sm_M) (cs : Nat × Nat) : Bool := ab_an (Nat.beq cs.1 Mt.2.2.2.2.2.1) (Nat.beq cs.2 Mt.2.2.2.2.2.2.1)
noncomputable def ab_newc (M : ab_M) (kd n : Nat) (t : ab_T) (c : ab_M → Bool) : Bool := ab_if (Nat.blt M.1 256) (ab_ts ((kd, n, t) : ab_Q) M.2 8 M.1 (fun m => ab_fn (Nat.succ M.1) (fun s => c (s, m)))) (false)
abbrev ab_F1 : Type := Nat → ab_E → ab_L → List ab_V → ab_M → (ab_L → List ab_V → ab_M → Bool) → Bool
abbrev ab_Ins : Type := ab_R → ab_J → Nat → sm_M → ab_K → (ab_L → List ab_V → ab_M → ab_E → Nat × Nat → Bool) → ab_L → List ab_V → ab_M → ab_E → Nat × Nat → Bool
/-- an instruction as a function: found once, then the kernel remembers it -/
noncomputable def ab_on (L : Nat) (i : Instr) (ops : List Nat) : Option ab_F1 := match i with
  | .iconst n => some (fun nL E lv st M k => ai_ci (Int32.ofInt n) lv st M k)
  | .bipush n => some (fun nL E lv st M k => ai_ci (Int8.ofInt n).toInt32 lv st M k)
  | .sipush n => some (fun nL E lv st M k => ai_ci (Int16.ofInt n).toInt32 lv st M k)
  | .lconst n => some (fun nL E lv st M k => ai_cl (Int64.ofNat n) lv st M k)
  | .ldc _ => some (fun nL E lv st M k => ai_ci (Int32.ofNat (ops.getD 0 0)) lv st M k)
  | .ldc_w _ => some (fun nL E lv st M k => ai_ci (Int32.ofNat (ops.getD 0 0)) lv st M k)
  | .ldc2_w _ => some (fun nL E lv st M k => ai_cl (Int64.ofNat (ops.getD 0 0)) lv st M k)
  | .aconst_null => some (fun nL E lv st M k => k lv ((1, 0) :: st) M)
  | .iload j => some (fun nL E lv st M k => ai_ldi j E lv st M k)
  | .iload_n j => some (fun nL E lv st M k => ai_ldi j E lv st M k)
  | .lload j => some (fun nL E lv st M k => ai_ldl j lv st M k)
  | .lload_n j => some (fun nL E lv st M k => ai_ldl j lv st M k)
  | .aload j => some (fun nL E lv st M k => ai_lda j lv st M k)
  | .aload_n j => some (fun nL E lv st M k => ai_lda j lv st M k)
  | .istore j => some (fun nL E lv st M k => ai_sti j nL lv st M k)
  | .istore_n j => some (fun nL E lv st M k => ai_sti j nL lv st M k)
  | .lstore j => some (fun nL E lv st M k => ai_stl j nL lv st M k)
  | .lstore_n j => some (fun nL E lv st M k => ai_stl j nL lv st M k)
  | .astore j => some (fun nL E lv st M k => ai_sta j nL lv st M k)
  | .astore_n j => some (fun nL E lv st M k => ai_sta j nL lv st M k)
  | .iinc j n => some (fun nL E lv st M k => ai_inc j n nL E lv st M k)
  | .iadd => some (fun nL E lv st M k => ai_ii (ab_add E) lv st M k)
  | .isub => some (fun nL E lv st M k => ai_ii (ab_sub E) lv st M k)
  | .imul => some (fun nL E lv st M k => ai_ii (ab_bin (fun x y => x * y)) lv st M k)
  | .iand => some (fun nL E lv st M k => ai_ii (ab_and E) lv st M k)
  | .ior => some (fun nL E lv st M k => ai_ii (ab_or E) lv st M k)
  | .ixor => some (fun nL E lv st M k => ai_ii (ab_bin (fun x y => x ^^^ y)) lv st M k)
  | .ishl => some (fun nL E lv st M k => ai_ii (ab_bin (fun x y => x <<< (y &&& 31))) lv st M k)
  | .ishr => some (fun nL E lv st M k => ai_ii (ab_bin (fun x y => x >>> (y &&& 31))) lv st M k)
  | .iushr => some (fun nL E lv st M k => ai_ii (ab_bin (fun x y => (x.toUInt32 >>> (y.toUInt32 &&& Int32.toUInt32 31)).toInt32)) lv st M k)
  | .idiv => some (fun nL E lv st M k => ai_iq (fun x y => x / y) lv st M k)
  | .irem => some (fun nL E lv st M k => ai_iq (fun x y => x - x / y * y) lv st M k)
  | .ineg => some (fun nL E lv st M k => ai_i1 (fun x => -x) lv st M k)
  | .i2b => some (fun nL E lv st M k => ai_i1 (fun x => x.toInt8.toInt32) lv st M k)
  | .i2l => some (fun nL E lv st M k => ai_i2l lv st M k)
  | .l2i => some (fun nL E lv st M k => ai_l2i lv st M k)
  | .ladd => some (fun nL E lv st M k => ai_ll (fun x y => x + y) lv st M k)
  | .lsub => some (fun nL E lv st M k => ai_ll (fun x y => x - y) lv st M k)
  | .lmul => some (fun nL E lv st M k => ai_ll (fun x y => x * y) lv st M k)
  | .land => some (fun nL E lv st M k => ai_ll (fun x y => x &&& y) lv st M k)
  | .lor => some (fun nL E lv st M k => ai_ll (fun x y => x ||| y) lv st M k)
  | .lshl => some (fun nL E lv st M k => ai_li (fun x y => x <<< (y.toInt64 &&& 63)) lv st M k)
  | .lshr => some (fun nL E lv st M k => ai_li (fun x y => x >>> (y.toInt64 &&& 63)) lv st M k)
  | .lcmp => some (fun nL E lv st M k => ai_lc lv st M k)
  | .dup => some (fun nL E lv st M k => ai_dup lv st M k)
  | .dup_x1 => some (fun nL E lv st M k => ai_dupx1 lv st M k)
  | .dup2 => some (fun nL E lv st M k => ai_dup2 lv st M k)
  | .pop => some (fun nL E lv st M k => ai_pop lv st M k)
  | .iaload => some (fun nL E lv st M k => ai_gI L E lv st M k)
  | .baload => some (fun nL E lv st M k => ai_gB E lv st M k)
  | .laload => some (fun nL E lv st M k => ai_gL lv st M k)
  | .arraylength => some (fun nL E lv st M k => ai_len L lv st M k)
  | .iastore => some (fun nL E lv st M k => ai_pI lv st M k)
  | .bastore => some (fun nL E lv st M k => ai_pB lv st M k)
  | .lastore => some (fun nL E lv st M k => ai_pL lv st M k)
  | .getfield _ => some (fun nL E lv st M k => ai_get E (ops.getD 0 0) (ops.getD 1 0) lv st M k)
  | .putfield _ => some (fun nL E lv st M k => ai_put (ops.getD 0 0) (ops.getD 1 0) lv st M k)
  | .getstatic _ => some (fun nL E lv st M k => ab_fn (ops.getD 0 0) (fun p => k lv ((2, Int.ofNat p) :: st) M))
  | .invokespecial _ => some (fun nL E lv st M k => ai_oin lv st M k)
  | .invokestatic _ => match ops with
    | 0 :: _ => some (fun nL E lv st M k => ai_cpy lv st M k)
    | 1 :: _ => some (fun nL E lv st M k => ai_ma (fun x y => if x < y then y else x) lv st M k)
    | 2 :: _ => some (fun nL E lv st M k => ai_ma (fun x y => if y < x then y else x) lv st M k)
    | 3 :: _ => some (fun nL E lv st M k => ai_mb (fun x => if 0 ≤ x then x else 0 - x) lv st M k)
    | _ => none
  | _ => none
theorem ab_on_ok {L : Nat} {i : Instr} {ops : List Nat} {F : ab_F1} (h : ab_on L i ops = some F) (nL : Nat) (E : ab_E) (lv : ab_L) (st : List ab_V) (M : ab_M) (k : ab_L → List ab_V → ab_M → Bool) : F nL E lv st M k = ab_one L nL i ops lv st M E k := by
  cases i with
  | invokestatic x =>
    match ops, h with
    | 0 :: r, h => cases h; rfl
    | 1 :: r, h => cases h; rfl
    | 2 :: r, h => cases h; rfl
    | 3 :: r, h => cases h; rfl
  | _ => cases h <;> rfl
noncomputable def as_w (F : ab_F1) : ab_Ins := fun _ _ _ Mt _ ih lv st M E cs => F Mt.2.2.1 E lv st M (fun lv st M => ih lv st M E cs)
noncomputable def as_call (P : Nat → sm_M) (g inst ci : Nat) : ab_Ins := fun rec _ d Mt _ ih lv st M E cs => Nat.rec (motive := fun _ => Bool) false (fun d _ => ab_inv (fun as kk => rec d g 0 as [] M E (0, 0) kk) (Nat.add (P g).2.2.2.2.1 inst) (P g).2.2.1 (P g).2.2.2.2.2.1 (P g).2.2.2.2.2.2.1 (ab_rc inst ci M st (P g).2.2.2.2.1) st cs (Mt.2.2.2.2.2.1, Mt.2.2.2.2.2.2.1) (fun s M E cs => ih lv s M E cs)) d
noncomputable def ab_cel (L : Nat) (P : Nat → sm_M) (i : Instr) (ops : List Nat) : Option ab_Ins := match ops with
  | g :: inst :: ci :: _ :: _ :: _ :: _ :: _ => some (as_call P g inst ci)
  | ops => match ab_on L i ops with
    | some F => some (as_w F)
    | none => none
noncomputable def as_goto (b : Nat) : ab_Ins := fun _ jmp _ _ _ _ lv st M E cs => jmp b lv st M E cs
noncomputable def as_b1 (c : ClassFile.Cond) (a b : Nat) : ab_Ins := fun _ jmp _ _ _ _ lv st M E cs => ab_b1 c E st (fun r E => jmp a lv r M E cs) (fun r E => jmp b lv r M E cs)
noncomputable def as_b2 (c : ClassFile.Cond) (a b : Nat) : ab_Ins := fun _ jmp _ _ _ _ lv st M E cs => ab_b2 c E st (fun r E => jmp a lv r M E cs) (fun r E => jmp b lv r M E cs)
noncomputable def as_bn (a b : Nat) : ab_Ins := fun _ jmp _ _ _ _ lv st M E cs => ab_bn st (fun r => jmp a lv r M E cs) (fun r => jmp b lv r M E cs)
noncomputable def as_sw (lo : Int) (d : Nat) (bs : List Nat) : ab_Ins := fun _ jmp _ _ _ _ lv st M E cs => match st with
  | a :: r => ab_if (ab_isI a.1) (ab_sw a (fun b E => jmp b lv r M E cs) d lo bs E) (false)
  | [] => false
noncomputable def as_lo (ps : List (Int × Int)) (d : Nat) (bs : List Nat) : ab_Ins := fun _ jmp _ _ _ _ lv st M E cs => match st with
  | a :: r => ab_if (ab_isI a.1) (ab_lo a (fun b E => jmp b lv r M E cs) d ps bs E) (false)
  | [] => false
noncomputable def as_iret : ab_Ins := fun _ _ _ Mt k _ _ st M E cs => match st with
  | [a] => ab_if (ab_an (ab_lim Mt cs) ((ab_if (sm_isZ Mt.2.2.2.1) (ab_oo (ab_is a 0) (ab_is a 1)) (ab_isI a.1)))) (k (some a) M E) (false)
  | _ => false
noncomputable def as_lret : ab_Ins := fun _ _ _ Mt k _ _ st M E cs => match st with
  | [a] => ab_if (ab_an (ab_lim Mt cs) ((ab_oo (Nat.beq a.1 4) (Nat.beq a.1 5)))) (k (some a) M E) (false)
  | _ => false
noncomputable def as_aret : ab_Ins := fun _ _ _ Mt k _ _ st M E cs => match st with
  | [a] => ab_if (ab_an (ab_lim Mt cs) (Nat.beq a.1 2)) (k (some a) M E) (false)
  | _ => false
noncomputable def as_ret : ab_Ins := fun _ _ _ Mt k _ _ st M E cs => match st with
  | [] => ab_if (ab_lim Mt cs) (k none M E) (false)
  | _ => false
noncomputable def as_new (ci : Nat) : ab_Ins := fun _ _ _ Mt _ ih lv st M E cs => ab_if (ab_an (Nat.ble (Nat.succ cs.1) Mt.2.2.2.2.2.1) (Nat.ble (Nat.add cs.2 (sm_N ci)) Mt.2.2.2.2.2.2.1)) (ab_fn ci (fun ci => ab_newc M 0 ci (.branch 0 (.leaf (0, 0)) (.leaf (1, 0))) (fun M' => ab_fn (Nat.succ cs.1) (fun c1 => ab_fn (Nat.add cs.2 (sm_N ci)) (fun c2 => ih lv ((2, Int.ofNat M.1) :: st) M' E (c1, c2)))))) (false)
noncomputable def as_newa (t : Nat) : ab_Ins := fun _ _ _ Mt _ ih lv st M E cs => match st with
  | a :: r => ab_nt a (fun n => ab_if (ab_an ((ab_an (Nat.ble n 100000) (Nat.ble t 3))) ((ab_an (Nat.ble (Nat.succ cs.1) Mt.2.2.2.2.2.1) (Nat.ble (Nat.add cs.2 n) Mt.2.2.2.2.2.2.1)))) (ab_fn (Nat.succ t) (fun kd => ab_newc M kd n (ab_if (Nat.beq kd 4) (.leaf (4, 0)) (.leaf (0, 0))) (fun M' => ab_fn (Nat.succ cs.1) (fun c1 => ab_fn (Nat.add cs.2 n) (fun c2 => ih lv ((2, Int.ofNat M.1) :: r) M' E (c1, c2)))))) (false))
  | [] => false
noncomputable def ab_cmp (L : Nat) (P : Nat → sm_M) (i : Instr) (ops : List Nat) : Option ab_Ins := match i with
  | .goto _ => some (as_goto (ops.getD 0 0))
  | .ifCond c _ => some (as_b1 c (ops.getD 0 0) (ops.getD 1 0))
  | .if_icmp c _ => some (as_b2 c (ops.getD 0 0) (ops.getD 1 0))
  | .ifnull _ => some (as_bn (ops.getD 0 0) (ops.getD 1 0))
  | .ifnonnull _ => some (as_bn (ops.getD 1 0) (ops.getD 0 0))
  | .tableswitch _ lo _ _ => some (as_sw lo (ops.getD 0 0) (ops.drop 1))
  | .lookupswitch _ ps => some (as_lo ps.toList (ops.getD 0 0) (ops.drop 1))
  | .ireturn => some as_iret
  | .lreturn => some as_lret
  | .areturn => some as_aret
  | .return_ => some as_ret
  | .new _ => some (as_new (ops.getD 0 0))
  | .newarray _ => some (as_newa (ops.getD 0 0))
  | i => ab_cel L P i ops
noncomputable def ab_run1 (o : Option ab_Ins) : ab_Ins := fun rec jmp d Mt k ih lv st M E cs => Option.rec (motive := fun _ => Bool) false (fun f => f rec jmp d Mt k ih lv st M E cs) o
noncomputable def ab_at (Mt : sm_M) (b : Nat) : Option sm_B := Mt.2.2.2.2.2.2.2.2[b]?
noncomputable def ab_blk (L : Nat) (P : Nat → sm_M) (rec : ab_R) (jmp : ab_J) (d : Nat) (Mt : sm_M) (fall : Nat) (k : ab_K) (is : List (Instr × List Nat)) : ab_L → List ab_V → ab_M → ab_E → Nat × Nat → Bool := List.rec (motive := fun _ => ab_L → List ab_V → ab_M → ab_E → Nat × Nat → Bool) (fun lv st M E cs => jmp fall lv st M E cs) (fun q _ ih lv st M E cs => Option.rec (motive := fun _ => Bool) false (fun f => f rec jmp d Mt k ih lv st M E cs) (ab_cmp L P q.1 q.2)) is
noncomputable def ab_gob (L : Nat) (P : Nat → sm_M) (rec : ab_R) (d f : Nat) (Mt : sm_M) (k : ab_K) (jmp : ab_J) (b : Nat) (lv : ab_L) (st : List ab_V) (M : ab_M) (E : ab_E) (cs : Nat × Nat) (o : Option sm_B) : Bool := Option.rec (motive := fun _ => Bool) false (fun B => Option.rec (motive := fun _ => Bool) (ab_blk L P rec jmp d Mt B.2.2.1 k B.2.2.2 lv st M E cs) (fun live => ab_pick live lv (fun vs => rec d f b vs st M E cs k)) B.2.1) o
noncomputable def ab_go (L : Nat) (P : Nat → sm_M) (rec : ab_R) (d f : Nat) (Mt : sm_M) (k : ab_K) (n : Nat) : ab_J := Nat.rec (motive := fun _ => ab_J) (fun _ _ _ _ _ _ => false) (fun _ jmp b lv st M E cs => ab_if (Nat.beq b 0) (false) (ab_gob L P rec d f Mt k jmp b lv st M E cs (ab_at Mt b))) n
noncomputable def ab_F (L : Nat) (P : Nat → sm_M) (rec : ab_R) : ab_R := fun d f b vs st M E cs k => match ab_at (P f) b with
  | some (_, some live, fall, is) => ab_blk L P rec (ab_go L P rec d f (P f) k 64) d (P f) fall k is (ab_if (Nat.beq b 0) (ab_args 0 vs) (ab_zip live vs)) st M E cs
  | _ => false
noncomputable def ab_run (L : Nat) (P : Nat → sm_M) (acc : Nat → Nat → List ab_V → Bool) (n : Nat) : ab_R := Nat.rec (motive := fun _ => ab_R) (fun _ _ _ _ _ _ _ _ _ => false) (fun _ rec d f b vs st M E cs k => ab_if (ab_an (acc f b vs) ((ab_an (Nat.beq st.length 0) (ab_lim (P f) cs)))) (k none M E) (ab_F L P rec d f b vs st M E cs k)) n
section AbRun
variable {L NS : Nat} {P : Nat → sm_M} {xs ys : Nat → Int32} {rec : ab_R} {jmp : ab_J} {d fall : Nat} {Mt : sm_M} {k : ab_K} {Φ : sm_Z → Prop} {J : Nat → Nat → sm_V → List Value → sm_W → Nat × Nat → Option sm_Z}
/-- what the continuation is worth -/
noncomputable def ab_kok (xs : Nat → Int32) (k : ab_K) (Φ : sm_Z → Prop) : Prop := ∀ (r : Option ab_V) (r' : Option Value) (M : ab_M) (w : sm_W) (E : ab_E), k r M E = true → ab_or' xs r r' → ab_rm xs M w → ab_sat xs E → Φ (r', w)
noncomputable def ab_rok (xs : Nat → Int32) (P : Nat → sm_M) (S : sm_C) (rec : ab_R) : Prop := ∀ (d f b : Nat) (vs st : List ab_V) (M : ab_M) (E : ab_E) (cs : Nat × Nat) (k : ab_K) (vs' st' : List Value) (w : sm_W) (Φ : sm_Z → Prop), rec d f b vs st M E cs k = true → ab_gs xs vs vs' → ab_gs xs st st' → ab_rm xs M w → ab_sat xs E → ab_kok xs k Φ → sm_wp P S d f b vs' st' w cs Φ
noncomputable def ab_jok (xs : Nat → Int32) (jmp : ab_J) (J : Nat → Nat → sm_V → List Value → sm_W → Nat × Nat → Option sm_Z) (Φ : sm_Z → Prop) : Prop := ∀ (b : Nat) (lv : ab_L) (st : List ab_V) (M : ab_M) (E : ab_E) (cs : Nat × Nat) (lv' : sm_V) (st' : List Value) (w : sm_W), jmp b lv st M E cs = true → ab_gl xs lv lv' → ab_gs xs st st' → ab_rm xs M w → ab_sat xs E → sm_ev (fun n => J n b lv' st' w cs) Φ
theorem ab_ol_ok {r : Option ab_V} {r' : Option Value} {st : List ab_V} {st' : List Value} (h : ab_or' xs r r') (hs : ab_gs xs st st') : ab_gs xs (ab_ol r st) (r'.toList ++ st') := by
  cases r with
  | none => cases r' with
    | none => exact hs
    | some v => exact h.elim
  | some a => cases r' with
    | none => exact h.elim
    | some v => exact ⟨h, hs⟩
theorem ab_rc_ok {inst ci n : Nat} {M : ab_M} {w : sm_W} {st : List ab_V} {st' : List Value} (hs : ab_gs xs st st') (hr : ab_rm xs M w) (h : ab_rc inst ci M st n = true) : sm_rc inst ci w.1 st' n = true := by
  unfold ab_rc at h
  unfold sm_rc
  cases inst with
  | zero => rfl
  | succ i =>
    have h : ab_rc1 ci M (st.drop n) = true := h
    have hs := ab_gs_drop n hs
    cases e : st.drop n with
    | nil => rw [e] at h; cases h
    | cons b r =>
      rw [e] at h hs
      obtain ⟨v, r', e2, g, -⟩ := ab_gs_cons hs
      rw [e2]
      have h : ab_rf b (fun p => ab_cell M p (fun kd c _ => ab_an (Nat.beq kd 0) (Nat.beq c ci))) = true := h
      obtain ⟨p, rfl, h⟩ := ab_rf_ok h g
      obtain ⟨hp, kd, c, t, e3, h⟩ := ab_cell_ok h
      obtain ⟨h1, h2⟩ := ab_and2 h
      have h1 := ab_beq h1
      have h2 := ab_beq h2
      subst h1
      subst h2
      obtain ⟨c1, -⟩ := ab_cell_at hr hp e3
      dsimp only
      rw [c1]
      exact decide_eq_true rfl
theorem ab_newc_ok {M : ab_M} {w : sm_W} {kd n : Nat} {t : ab_T} {c : ab_M → Bool} {m' : sm_Y} (hr : ab_rm xs M w) (hn : ∀ j, j < ab_bd kd n → ab_g xs (ab_tg t j) (ab_val (w.1 ++ [(kd, n)], m') M.1 kd j)) (ho : ∀ p kd j, p < M.1 → ab_val (w.1 ++ [(kd, n)], m') p kd j = ab_val w p kd j) (h : ab_newc M kd n t c = true) : ∃ M', ab_rm xs M' (w.1 ++ [(kd, n)], m') ∧ M.1 < 256 ∧ c M' = true := by
  obtain ⟨r1, r2, r3⟩ := hr
  obtain ⟨h1, h⟩ := ab_bif0 h
  have h1 := ab_blt h1
  obtain ⟨m, q1, q2⟩ := ab_ts_ok _ _ _ _ h (show M.1 < 2 ^ 8 from h1)
  rw [ab_fn_eq] at q1
  refine ⟨(M.1 + 1, m), ⟨by simp [r1], h1, fun p hp => ?_⟩, h1, q1⟩
  have hp : p < M.1 + 1 := hp
  have q3 := q2 p (show p < 256 by omega)
  show (w.1 ++ [(kd, n)])[p]? = some ((ab_tg m p).1, (ab_tg m p).2.1) ∧ ∀ j, j < ab_bd (ab_tg m p).1 (ab_tg m p).2.1 → ab_g xs (ab_tg (ab_tg m p).2.2 j) (ab_val (w.1 ++ [(kd, n)], m') p (ab_tg m p).1 j)
  by_cases e : p = M.1
  · rw [if_pos e] at q3
    rw [q3, e]
    refine ⟨?_, hn⟩
    rw [← r1]
    simp
  · rw [if_neg e] at q3
    have hp2 : p < M.1 := by omega
    have r4 := r3 p hp2
    rw [q3]
    refine ⟨?_, fun j hj => ?_⟩
    · rw [List.getElem?_append_left (by rw [r1]; exact hp2)]
      exact r4.1
    · rw [show ab_val (w.1 ++ [(kd, n)], m') p (ab_tg M.2 p).1 j = ab_val w p (ab_tg M.2 p).1 j from by
        have := ho p (ab_tg M.2 p).1 j hp2
        exact this]
      exact r4.2 j hj
theorem ab_else_ok {i : Instr} {ops : List Nat} {lv : ab_L} {st : List ab_V} {M : ab_M} {E : ab_E} {cs : Nat × Nat} {lv' : sm_V} {st' : List Value} {w : sm_W} {kk : ab_L → List ab_V → ab_M → ab_E → Nat × Nat → Bool} {K : Nat → sm_V → List Value → sm_W → Nat × Nat → Option sm_Z} (hy : ∀ j, j < L → ys j = xs j) (h6 : xs 6 = xs 0 &&& 63) (hrec : ab_rok xs P (NS, ys) rec)
    (hk : ∀ (lv : ab_L) (st : List ab_V) (M : ab_M) (E : ab_E) (cs : Nat × Nat) (lv' : sm_V) (st' : List Value) (w : sm_W), kk lv st M E cs = true → ab_gl xs lv lv' → ab_gs xs st st' → ab_rm xs M w → ab_sat xs E → sm_ev (fun n => K n lv' st' w cs) Φ)
    (hl : ab_gl xs lv lv') (hs : ab_gs xs st st') (hr : ab_rm xs M w) (hE : ab_sat xs E) (h : ab_else L P rec d Mt i ops lv st M E cs kk = true) : sm_ev (fun n => sm_else P (NS, ys) (sm_run P (NS, ys) n) d Mt i ops lv' st' w cs (K n)) Φ := by
  unfold ab_else at h
  split at h
  · next g inst ci a1 a2 a3 a4 r =>
    cases d with
    | zero => cases h
    | succ d =>
      have h : ab_inv (fun as kk => rec d g 0 as [] M E (0, 0) kk) (Nat.add (P g).2.2.2.2.1 inst) (P g).2.2.1 (P g).2.2.2.2.2.1 (P g).2.2.2.2.2.2.1 (ab_rc inst ci M st (P g).2.2.2.2.1) st cs (Mt.2.2.2.2.2.1, Mt.2.2.2.2.2.2.1) (fun s M E cs => kk lv s M E cs) = true := h
      unfold ab_inv at h
      replace h := ab_bif0 h
      obtain ⟨q, h⟩ := h
      obtain ⟨q1, q⟩ := ab_and2 q
      obtain ⟨q2, q⟩ := ab_and2 q
      obtain ⟨q3, q4⟩ := ab_and2 q
      rw [ab_fl_eq, ab_fl_eq] at h
      replace h := ab_bif0 h
      obtain ⟨q, h⟩ := h
      obtain ⟨q5, q6⟩ := ab_and2 q
      have en : Nat.add (P g).2.2.2.2.1 inst = (P g).2.2.2.2.1 + inst := rfl
      rw [en] at q2 q5 q6 h
      have ga := ab_gs_rev (ab_gs_take ((P g).2.2.2.2.1 + inst) hs)
      have gd := ab_gs_drop ((P g).2.2.2.2.1 + inst) hs
      have hlen := ab_gs_len hs
      have q1 := ab_rc_ok hs hr q1
      have q2 : (P g).2.2.2.2.1 + inst ≤ st.length := ab_ble q2
      have q3 : cs.1 + (P g).2.2.2.2.2.1 ≤ Mt.2.2.2.2.2.1 := ab_ble q3
      have q4 : cs.2 + (P g).2.2.2.2.2.2.1 ≤ Mt.2.2.2.2.2.2.1 := ab_ble q4
      have q5 : (lg_sl (st'.take ((P g).2.2.2.2.1 + inst)).reverse).length ≤ (P g).2.2.1 := by rw [ab_slots_ok ga]; exact ab_ble q5
      have q6 : ((st'.drop ((P g).2.2.2.2.1 + inst)).map fun v => v.category).sum ≤ 8 := by rw [ab_sum_ok gd]; exact ab_ble q6
      have hw := hrec d g 0 _ _ M E (0, 0) _ _ [] w (fun z => sm_ev (fun n => K n lv' (z.1.toList ++ st'.drop ((P g).2.2.2.2.1 + inst)) z.2 (cs.1 + (P g).2.2.2.2.2.1, cs.2 + (P g).2.2.2.2.2.2.1)) Φ) h ga trivial hr hE (by
        intro r r' M2 w2 E2 e g1 g2 g3
        dsimp only at e
        rw [ab_fn_eq, ab_fn_eq] at e
        exact hk _ _ _ _ _ _ _ _ e hl (ab_ol_ok g1 gd) g2 g3)
      obtain ⟨N1, z1, ⟨N2, z2, k1, k2⟩, k3⟩ := sm_ev_wp hw
      refine ⟨max N1 N2, z2, k1, fun n hn => ?_⟩
      show sm_else P (NS, ys) (sm_run P (NS, ys) n) (d + 1) Mt i (g :: inst :: ci :: a1 :: a2 :: a3 :: a4 :: r) lv' st' w cs (K n) = some z2
      unfold sm_else
      dsimp only
      unfold sm_inv
      rw [if_neg]
      · have k3' := k3 n (by omega)
        dsimp only at k3' ⊢
        rw [k3']
        exact k2 n (by omega)
      · rintro (q | q | q | q | q | q)
        · rw [q1] at q; cases q
        · omega
        · omega
        · omega
        · simp only at q; omega
        · simp only at q; omega
  · next hno =>
    obtain ⟨q, e1, lv1, st1, M1, g1, g2, g3, g4⟩ := ab_one_ok (lay := w.1) (m := w.2) hy h6 hE hl hs hr h
    obtain ⟨N, z, k1, k2⟩ := hk _ _ _ _ _ _ _ _ g4 g1 g2 g3 hE
    refine ⟨N, z, k1, fun n hn => ?_⟩
    show sm_else P (NS, ys) (sm_run P (NS, ys) n) d Mt i ops lv' st' w cs (K n) = some z
    unfold sm_else
    split
    · next g inst ci a1 a2 a3 a4 r => exact absurd rfl (hno g inst ci a1 a2 a3 a4 r)
    · rw [e1]; exact k2 n hn
theorem ab_cel_ok {i : Instr} {ops : List Nat} {lv : ab_L} {st : List ab_V} {M : ab_M} {E : ab_E} {cs : Nat × Nat} {kk : ab_L → List ab_V → ab_M → ab_E → Nat × Nat → Bool} (h : ab_run1 (ab_cel L P i ops) rec jmp d Mt k kk lv st M E cs = true) : ab_else L P rec d Mt i ops lv st M E cs kk = true := by
  unfold ab_cel at h
  unfold ab_else
  split at h
  · cases d with
    | zero => cases h
    | succ d => exact h
  · next hno =>
    split at h
    · next F e => rw [← ab_on_ok e]; exact h
    · cases h
theorem ab_lim_of {cs : Nat × Nat} (h : ab_lim Mt cs = true) : cs = (Mt.2.2.2.2.2.1, Mt.2.2.2.2.2.2.1) := by
  obtain ⟨h1, h2⟩ := ab_and2 h
  exact Prod.ext (ab_beq h1) (ab_beq h2)
theorem ab_row_eq {α : Type} (f : Nat → Nat → α) (p : Nat) (g : Nat → α) (j : Nat) : sm_row f p g p j = g j := by simp [sm_row]
theorem ab_row_p {α : Type} (f : Nat → Nat → α) (p : Nat) (g : Nat → α) {p' : Nat} (h : p' ≠ p) (j : Nat) : sm_row f p g p' j = f p' j := by simp [sm_row, h]
set_option maxHeartbeats 4000000 in
theorem ab_blk_ok (hy : ∀ j, j < L → ys j = xs j) (h6 : xs 6 = xs 0 &&& 63) (hrec : ab_rok xs P (NS, ys) rec) (hj : ab_jok xs jmp J Φ) (hkk : ab_kok xs k Φ) : ∀ (is : List (Instr × List Nat)) (lv : ab_L) (st : List ab_V) (M : ab_M) (E : ab_E) (cs : Nat × Nat) (lv' : sm_V) (st' : List Value) (w : sm_W), ab_blk L P rec jmp d Mt fall k is lv st M E cs = true → ab_gl xs lv lv' → ab_gs xs st st' → ab_rm xs M w → ab_sat xs E → sm_ev (fun n => sm_blk P (NS, ys) (sm_run P (NS, ys) n) (J n) d Mt fall is lv' st' w cs) Φ := by
  intro is
  induction is with
  | nil => intro lv st M E cs lv' st' w h hl hs hr hE; exact hj _ _ _ _ _ _ _ _ _ h hl hs hr hE
  | cons q is ih =>
    obtain ⟨i, ops⟩ := q
    intro lv st M E cs lv' st' w h hl hs hr hE
    have h : ab_run1 (ab_cmp L P i ops) rec jmp d Mt k (ab_blk L P rec jmp d Mt fall k is) lv st M E cs = true := h
    have ab_E : ∀ {i : Instr}, sm_isE i = true → ab_else L P rec d Mt i ops lv st M E cs (ab_blk L P rec jmp d Mt fall k is) = true → sm_ev (fun n => sm_blk P (NS, ys) (sm_run P (NS, ys) n) (J n) d Mt fall ((i, ops) :: is) lv' st' w cs) Φ := by
      intro i hi h
      have k1 := ab_else_ok (K := fun n lv st w cs => sm_blk P (NS, ys) (sm_run P (NS, ys) n) (J n) d Mt fall is lv st w cs) hy h6 hrec ih hl hs hr hE h
      obtain ⟨N, z, k2, k3⟩ := k1
      exact ⟨N, z, k2, fun n hn => by show sm_blk _ _ _ _ _ _ _ _ _ _ _ _ = _; rw [sm_blk_else hi]; exact k3 n hn⟩
    cases i with
    | goto off => exact hj _ _ _ _ _ _ _ _ _ h hl hs hr hE
    | ifCond c off => exact ab_b1_ok (A := fun r n => J n (ops.getD 0 0) lv' r w cs) (B := fun r n => J n (ops.getD 1 0) lv' r w cs) hE hs (fun r r' E' g1 g2 h => hj _ _ _ _ _ _ _ _ _ h hl g1 hr g2) (fun r r' E' g1 g2 h => hj _ _ _ _ _ _ _ _ _ h hl g1 hr g2) h
    | if_icmp c off => exact ab_b2_ok (A := fun r n => J n (ops.getD 0 0) lv' r w cs) (B := fun r n => J n (ops.getD 1 0) lv' r w cs) hE hs (fun r r' E' g1 g2 h => hj _ _ _ _ _ _ _ _ _ h hl g1 hr g2) (fun r r' E' g1 g2 h => hj _ _ _ _ _ _ _ _ _ h hl g1 hr g2) h
    | ifnull off => exact ab_bn_ok (A := fun r n => J n (ops.getD 0 0) lv' r w cs) (B := fun r n => J n (ops.getD 1 0) lv' r w cs) hs (fun r r' g1 h => hj _ _ _ _ _ _ _ _ _ h hl g1 hr hE) (fun r r' g1 h => hj _ _ _ _ _ _ _ _ _ h hl g1 hr hE) h
    | ifnonnull off => exact ab_bn_ok (A := fun r n => J n (ops.getD 1 0) lv' r w cs) (B := fun r n => J n (ops.getD 0 0) lv' r w cs) hs (fun r r' g1 h => hj _ _ _ _ _ _ _ _ _ h hl g1 hr hE) (fun r r' g1 h => hj _ _ _ _ _ _ _ _ _ h hl g1 hr hE) h
    | tableswitch df lo hi offs =>
      cases st with
      | nil => cases h
      | cons a r =>
        replace hs := ab_gs_cons hs; obtain ⟨v, r', rfl, g, hs⟩ := hs
        replace h := ab_bif0 h; obtain ⟨h1, h⟩ := h
        obtain ⟨x, rfl, gx⟩ := ab_isI_of h1 g
        exact ab_sw_ok (K := fun b n => J n b lv' r' w cs) gx (fun b E' g1 h => hj _ _ _ _ _ _ _ _ _ h hl hs hr g1) _ _ _ hE h
    | lookupswitch df ps =>
      cases st with
      | nil => cases h
      | cons a r =>
        replace hs := ab_gs_cons hs; obtain ⟨v, r', rfl, g, hs⟩ := hs
        replace h := ab_bif0 h; obtain ⟨h1, h⟩ := h
        obtain ⟨x, rfl, gx⟩ := ab_isI_of h1 g
        exact ab_lo_ok (K := fun b n => J n b lv' r' w cs) gx (fun b E' g1 h => hj _ _ _ _ _ _ _ _ _ h hl hs hr g1) _ _ _ hE h
    | ireturn =>
      match st, hs, h with
      | [], _, h => cases h
      | _ :: _ :: _, _, h => cases h
      | [a], hs, h =>
        replace hs := ab_gs_cons hs; obtain ⟨v, r', rfl, g, hs⟩ := hs
        have := ab_gs_nil hs
        subst this
        replace h := ab_bif0 h; obtain ⟨h1, h⟩ := h
        obtain ⟨h1, h2⟩ := ab_and2 h1
        have hc := ab_lim_of h1
        have hx : ∃ x : Int32, v = .int x ∧ (sm_isZ Mt.2.2.2.1 = true → x = 0 ∨ x = 1) := by
          rcases ab_bif h2 with ⟨e, h2⟩ | ⟨e, h2⟩
          · rcases ab_or2 h2 with hq | hq
            · obtain ⟨x, rfl, ex⟩ := ab_is_of (x := 0) hq g
              exact ⟨x, rfl, fun _ => Or.inl (ab_ofI (by rw [ex]; decide))⟩
            · obtain ⟨x, rfl, ex⟩ := ab_is_of (x := 0) hq g
              exact ⟨x, rfl, fun _ => Or.inr (ab_ofI (by rw [ex]; decide))⟩
          · obtain ⟨x, rfl, -⟩ := ab_isI_of h2 g
            exact ⟨x, rfl, fun q => by rw [e] at q; cases q⟩
        obtain ⟨x, rfl, hx⟩ := hx
        refine ⟨0, _, hkk (some a) (some (.int x)) M w E h g hr hE, fun n _ => ?_⟩
        show (if cs = _ then (if sm_isZ Mt.2.2.2.1 = true then (if x = 0 ∨ x = 1 then _ else _) else _) else _) = _
        rw [if_pos hc]
        by_cases e : sm_isZ Mt.2.2.2.1 = true
        · rw [if_pos e, if_pos (hx e)]
        · rw [if_neg e]
    | lreturn =>
      match st, hs, h with
      | [], _, h => cases h
      | _ :: _ :: _, _, h => cases h
      | [a], hs, h =>
        replace hs := ab_gs_cons hs; obtain ⟨v, r', rfl, g, hs⟩ := hs
        have := ab_gs_nil hs
        subst this
        replace h := ab_bif0 h; obtain ⟨h1, h⟩ := h
        obtain ⟨h1, h2⟩ := ab_and2 h1
        obtain ⟨x, rfl, -⟩ := ab_long_of (ab_45 h2) g
        refine ⟨0, _, hkk (some a) (some (.long x)) M w E h g hr hE, fun n _ => ?_⟩
        show (if cs = _ then _ else _) = _
        rw [if_pos (ab_lim_of h1)]
    | areturn =>
      match st, hs, h with
      | [], _, h => cases h
      | _ :: _ :: _, _, h => cases h
      | [a], hs, h =>
        replace hs := ab_gs_cons hs; obtain ⟨v, r', rfl, g, hs⟩ := hs
        have := ab_gs_nil hs
        subst this
        replace h := ab_bif0 h; obtain ⟨h1, h⟩ := h
        obtain ⟨h1, h2⟩ := ab_and2 h1
        obtain ⟨x, rfl, -⟩ := ab_ref_of (ab_beq h2) g
        refine ⟨0, _, hkk (some a) (some (.ref x)) M w E h g hr hE, fun n _ => ?_⟩
        show (if cs = _ then _ else _) = _
        rw [if_pos (ab_lim_of h1)]
    | return_ =>
      match st, hs, h with
      | _ :: _, _, h => cases h
      | [], hs, h =>
        have := ab_gs_nil hs
        subst this
        replace h := ab_bif0 h; obtain ⟨h1, h⟩ := h
        refine ⟨0, _, hkk none none M w E h trivial hr hE, fun n _ => ?_⟩
        show (if cs = _ then _ else _) = _
        rw [if_pos (ab_lim_of h1)]
    | new x =>
      replace h := ab_bif0 h; obtain ⟨q, h⟩ := h
      obtain ⟨q1, q2⟩ := ab_and2 q
      have q1 : cs.1 + 1 ≤ Mt.2.2.2.2.2.1 := ab_ble q1
      have q2 : cs.2 + sm_N (ops.getD 0 0) ≤ Mt.2.2.2.2.2.2.1 := ab_ble q2
      rw [ab_fn_eq] at h
      have hlen : w.1.length = M.1 := hr.1
      obtain ⟨M', g1, g2, g3⟩ := ab_newc_ok (m' := (sm_row w.2.1 w.1.length (fun _ => 0), w.2.2.1, sm_row w.2.2.2 w.1.length (fun _ => none))) hr (by
        intro j hj
        rw [← hlen]
        simp only [ab_val]
        rw [if_pos trivial, ab_row_eq, ab_row_eq, ab_tg_branch]
        by_cases e : j % 2 = 1
        · rw [if_pos e, if_neg (by omega)]
          exact rfl
        · rw [if_neg e, if_pos (by omega)]
          exact ab_gi0 _) (by
        intro p kd j hp
        have hp : p ≠ w.1.length := by omega
        simp only [ab_val]
        rw [ab_row_p _ _ _ hp, ab_row_p _ _ _ hp, ab_row_p _ _ _ hp]) h
      rw [ab_fn_eq, ab_fn_eq] at g3
      obtain ⟨N, z, k1, k2⟩ := ih _ _ _ _ _ lv' (.ref w.1.length :: st') _ g3 hl ⟨⟨rfl, by rw [hlen]; rfl⟩, hs⟩ g1 hE
      refine ⟨N, z, k1, fun n hn => ?_⟩
      show (if _ then _ else _) = _
      rw [if_neg (by omega)]
      exact k2 n hn
    | newarray at' =>
      cases st with
      | nil => cases h
      | cons a r =>
        replace hs := ab_gs_cons hs; obtain ⟨v, r', rfl, g, hs⟩ := hs
        replace h := ab_nt_ok h g
        obtain ⟨x, rfl, hx, h⟩ := h
        replace h := ab_bif0 h; obtain ⟨q, h⟩ := h
        obtain ⟨q1, q2⟩ := ab_and2 q
        obtain ⟨q1, q3⟩ := ab_and2 q1
        obtain ⟨q2, q4⟩ := ab_and2 q2
        have q1 : x.toNatClampNeg ≤ 100000 := ab_ble q1
        have q3 : ops.getD 0 0 ≤ 3 := ab_ble q3
        have q2 : cs.1 + 1 ≤ Mt.2.2.2.2.2.1 := ab_ble q2
        have q4 : cs.2 + x.toNatClampNeg ≤ Mt.2.2.2.2.2.2.1 := ab_ble q4
        rw [ab_fn_eq] at h
        have hlen : w.1.length = M.1 := hr.1
        obtain ⟨M', g1, g2, g3⟩ := ab_newc_ok (m' := (sm_row w.2.1 w.1.length (fun _ => 0), sm_row w.2.2.1 w.1.length (fun _ => 0), w.2.2.2)) hr (by
          intro j hj
          rw [← hlen]
          simp only [ab_val]
          rw [if_neg (Nat.succ_ne_zero _), ab_row_eq, ab_row_eq]
          cases e : Nat.beq (Nat.succ (ops.getD 0 0)) 4 with
          | true =>
            rw [if_pos (ab_beq e)]
            exact Or.inl ⟨rfl, rfl⟩
          | false =>
            rw [if_neg (ab_bne e)]
            exact ab_gi0 _) (by
          intro p kd j hp
          have hp : p ≠ w.1.length := by omega
          simp only [ab_val]
          rw [ab_row_p _ _ _ hp, ab_row_p _ _ _ hp, ab_row_p _ _ _ hp]) h
        rw [ab_fn_eq, ab_fn_eq] at g3
        obtain ⟨N, z, k1, k2⟩ := ih _ _ _ _ _ lv' (.ref w.1.length :: r') _ g3 hl ⟨⟨rfl, by rw [hlen]; rfl⟩, hs⟩ g1 hE
        refine ⟨N, z, k1, fun n hn => ?_⟩
        show (if _ then _ else _) = _
        rw [if_neg (by
          rintro (q | q | q | q | q)
          · exact hx q
          · omega
          · omega
          · omega
          · omega)]
        exact k2 n hn
    | _ => exact ab_E rfl (ab_cel_ok h)
theorem ab_go_ok {f : Nat} (hy : ∀ j, j < L → ys j = xs j) (h6 : xs 6 = xs 0 &&& 63) (hrec : ab_rok xs P (NS, ys) rec) (hkk : ab_kok xs k Φ) : ∀ (K : Nat), ab_jok xs (ab_go L P rec d f Mt k K) (fun n => sm_go P (NS, ys) (sm_run P (NS, ys) n) d f Mt K) Φ := by
  intro K
  induction K with
  | zero => intro b lv st M E cs lv' st' w h; cases h
  | succ K ih =>
    intro b lv st M E cs lv' st' w h hl hs hr hE
    have h : (ab_if (Nat.beq b 0) (false) (ab_gob L P rec d f Mt k (ab_go L P rec d f Mt k K) b lv st M E cs (ab_at Mt b))) = true := h
    rcases ab_bif h with ⟨-, h⟩ | ⟨hb, h⟩
    · cases h
    have hb := ab_bne hb
    unfold ab_at at h
    cases hB : Mt.2.2.2.2.2.2.2.2[b]? with
    | none => rw [hB] at h; cases h
    | some B =>
      obtain ⟨pcb, lo, fall, is⟩ := B
      rw [hB] at h
      cases lo with
      | some live =>
        have h : ab_pick live lv (fun vs => rec d f b vs st M E cs k) = true := h
        · obtain ⟨vs, vs', p1, p2, h⟩ := ab_pick_ok hl h
          have e0 : ∀ n, sm_go P (NS, ys) (sm_run P (NS, ys) n) d f Mt (K + 1) b lv' st' w cs = sm_run P (NS, ys) n d f b vs' st' w cs := by
            intro n
            unfold sm_go
            rw [if_neg hb, hB]
            dsimp only
            rw [p1]
          simp only [e0]
          exact sm_ev_wp (hrec _ _ _ _ _ _ _ _ _ _ _ _ _ h p2 hs hr hE hkk)
      | none =>
        have h : ab_blk L P rec (ab_go L P rec d f Mt k K) d Mt fall k is lv st M E cs = true := h
        have e0 : ∀ n, sm_go P (NS, ys) (sm_run P (NS, ys) n) d f Mt (K + 1) b lv' st' w cs = sm_blk P (NS, ys) (sm_run P (NS, ys) n) (sm_go P (NS, ys) (sm_run P (NS, ys) n) d f Mt K) d Mt fall is lv' st' w cs := by
          intro n
          show sm_go P (NS, ys) (sm_run P (NS, ys) n) d f Mt (K + 1) b lv' st' w cs = _
          rw [sm_go, if_neg hb, hB]
        simp only [e0]
        exact ab_blk_ok hy h6 hrec ih hkk _ _ _ _ _ _ _ _ _ h hl hs hr hE
/-- a loop that is known to come to its end and to change nothing -/
noncomputable def ab_accok (xs : Nat → Int32) (P : Nat → sm_M) (S : sm_C) (acc : Nat → Nat → List ab_V → Bool) : Prop := ∀ (d f b : Nat) (vs : List ab_V) (vs' : List Value) (w : sm_W) (Φ : sm_Z → Prop), acc f b vs = true → ab_gs xs vs vs' → Φ (none, w) → sm_wp P S d f b vs' [] w ((P f).2.2.2.2.2.1, (P f).2.2.2.2.2.2.1) Φ
theorem ab_run_ok {acc : Nat → Nat → List ab_V → Bool} (hy : ∀ j, j < L → ys j = xs j) (h6 : xs 6 = xs 0 &&& 63) (ha : ab_accok xs P (NS, ys) acc) : ∀ n, ab_rok xs P (NS, ys) (ab_run L P acc n) := by
  intro n
  induction n with
  | zero => intro d f b vs st M E cs k vs' st' w Φ h; cases h
  | succ n ih =>
    intro d f b vs st M E cs k vs' st' w Φ h hv hs hr hE hkk
    have h : (ab_if (ab_an (acc f b vs) ((ab_an (Nat.beq st.length 0) (ab_lim (P f) cs)))) (k none M E) (ab_F L P (ab_run L P acc n) d f b vs st M E cs k)) = true := h
    rcases ab_bif h with ⟨q, hq⟩ | ⟨-, hq⟩
    · obtain ⟨q1, q⟩ := ab_and2 q
      obtain ⟨q2, q3⟩ := ab_and2 q
      have q2 := ab_beq q2
      have e := ab_lim_of q3
      subst e
      cases st with
      | nil =>
        have := ab_gs_nil hs
        subst this
        exact ha d f b vs vs' w Φ q1 hv (hkk none none M w E hq trivial hr hE)
      | cons a r => simp at q2
    replace h := hq
    unfold ab_F ab_at at h
    split at h
    · next pcb live fall is e =>
      obtain ⟨N, z, k1, k2⟩ := ab_blk_ok (J := fun n => sm_go P (NS, ys) (sm_run P (NS, ys) n) d f (P f) 64) hy h6 ih (ab_go_ok hy h6 ih hkk 64) hkk is _ st M E cs (if b = 0 then lv_args 0 vs' else live.zip vs') st' w h (by
        cases q : Nat.beq b 0 with
        | true => rw [if_pos (ab_beq q)]; exact ab_args_ok 0 hv
        | false => rw [if_neg (ab_bne q)]; exact ab_zip_ok hv) hs hr hE
      refine ⟨N + 1, z, ?_, k1⟩
      show sm_F P (NS, ys) (sm_run P (NS, ys) N) d f b vs' st' w cs = some z
      unfold sm_F
      rw [e]
      exact k2 N (Nat.le_refl N)
    · cases h
end AbRun
end
section
/-! what a memory of the machine over intervals says of the tables -/
noncomputable def ak_all (f : ab_V → Bool) (t : ab_T) : Bool := Lean.RArray.rec (motive := fun _ => Bool) (fun v => f v) (fun _ _ _ a b => ab_an a b) t
theorem ak_all_ok {f : ab_V → Bool} : ∀ (t : ab_T), ak_all f t = true → ∀ k, f (ab_tg t k) = true := by
  intro t
  induction t with
  | leaf v => intro h k; exact h
  | branch p l r ihl ihr =>
    intro h k
    obtain ⟨h1, h2⟩ := ab_and2 (p := ak_all f l) (q := ak_all f r) h
    rw [ab_tg_branch]
    split
    · exact ihl h1 _
    · exact ihr h2 _
noncomputable def ak_iv (lo hi : Int) (a : ab_V) : Bool := ab_an (Nat.beq a.1 0) (ab_an (ab_le lo a.2) (ab_le a.2 hi))
theorem ak_iv_ok {xs : Nat → Int32} {lo hi : Int} {a : ab_V} {v : Value} (h : ak_iv lo hi a = true) (g : ab_g xs a v) : ∃ x : Int32, v = .int x ∧ lo ≤ x.toInt ∧ x.toInt ≤ hi := by
  obtain ⟨h1, h⟩ := ab_and2 h
  obtain ⟨h2, h3⟩ := ab_and2 h
  obtain ⟨x, e, q⟩ := ab_0_of (ab_beq h1) g
  exact ⟨x, e, by rw [q]; exact ab_le_iff.mp h2, by rw [q]; exact ab_le_iff.mp h3⟩
noncomputable def ak_rf (q : Int) (a : ab_V) : Bool := ab_an (Nat.beq a.1 2) (ab_eq a.2 q)
theorem ak_rf_ok {xs : Nat → Int32} {q : Int} {a : ab_V} {o : Option Nat} (h : ak_rf q a = true) (g : ab_g xs a (sm_rv o)) : ∃ p : Nat, o = some p ∧ q = (p : Int) := by
  obtain ⟨h1, h2⟩ := ab_and2 h
  obtain ⟨p, e, e2⟩ := ab_ref_of (ab_beq h1) g
  have h2 := ab_eq_iff.mp h2
  cases o with
  | none => cases e
  | some r =>
    have e : r = p := by cases e; rfl
    exact ⟨r, rfl, by rw [e, ← e2, h2]⟩
noncomputable def ak_f1 (t : ab_T) (j : Nat) (d : en_Fd) : Bool := bif Nat.beq d.1 0 then ak_iv d.2.1 d.2.2 (ab_tg t (2 * j)) else bif Nat.beq d.1 1 then ak_rf d.2.1 (ab_tg t (2 * j + 1)) else bif Nat.beq d.1 2 then ak_rf d.2.1 (ab_tg t (2 * j + 1)) || ak_rf d.2.2 (ab_tg t (2 * j + 1)) else true
noncomputable def ak_fs (t : ab_T) : Nat → List en_Fd → Bool
  | _, [] => true
  | j, d :: r => (Nat.blt j 128 && ak_f1 t j d) && ak_fs t (j + 1) r
theorem ak_fs_ok {t : ab_T} : ∀ (l : List en_Fd) (j : Nat), ak_fs t j l = true → ∀ (k : Nat) (d : en_Fd), l[k]? = some d → j + k < 128 ∧ ak_f1 t (j + k) d = true := by
  intro l
  induction l with
  | nil => intro j _ k d h; simp at h
  | cons a r ih =>
    intro j h k d hd
    have h : ((Nat.blt j 128 && ak_f1 t j a) && ak_fs t (j + 1) r) = true := h
    obtain ⟨h1, h2⟩ := Bool.and_eq_true_iff.mp h
    obtain ⟨h3, h4⟩ := Bool.and_eq_true_iff.mp h1
    cases k with
    | zero =>
      have : a = d := by simpa using hd
      subst this
      exact ⟨Nat.le_of_ble_eq_true h3, h4⟩
    | succ k =>
      have := ih (j + 1) h2 k d (by simpa using hd)
      rw [show j + (k + 1) = j + 1 + k by omega]
      exact this
noncomputable def ak_up (f : ab_V → Bool) (t : ab_T) : Nat → Bool
  | 0 => true
  | n + 1 => f (ab_tg t n) && ak_up f t n
theorem ak_up_ok {f : ab_V → Bool} {t : ab_T} : ∀ n, ak_up f t n = true → ∀ k, k < n → f (ab_tg t k) = true := by
  intro n
  induction n with
  | zero => intro _ k hk; omega
  | succ n ih =>
    intro h k hk
    obtain ⟨h1, h2⟩ := Bool.and_eq_true_iff.mp (show (f (ab_tg t n) && ak_up f t n) = true from h)
    by_cases e : k = n
    · subst e; exact h1
    · exact ih h2 k (by omega)
noncomputable def ak_row (f : ab_V → Bool) (t : ab_T) (n : Nat) : Bool := bif Nat.ble n 16 then ak_up f t n else ak_all f t
theorem ak_row_ok {f : ab_V → Bool} {t : ab_T} {n : Nat} (h : ak_row f t n = true) (k : Nat) (hk : k < n) : f (ab_tg t k) = true := by
  unfold ak_row at h
  cases c : Nat.ble n 16 with
  | true => rw [c] at h; exact ak_up_ok n h k hk
  | false => rw [c] at h; exact ak_all_ok t h k
noncomputable def ak_c1 (d : en_D) (q : ab_Q) : Bool := (Nat.beq q.1 d.1 && Nat.beq q.2.1 d.2.1) && (bif Nat.beq d.1 0 then ak_fs q.2.2 0 d.2.2 else (match d.2.2 with
  | [] => true
  | e :: _ => bif Nat.beq e.1 0 then ak_row (ak_iv e.2.1 e.2.2) q.2.2 d.2.1 else true))
noncomputable def ak_cs (tb : en_Tb) (M : ab_M) : Nat → Bool
  | 0 => true
  | n + 1 => ak_c1 (en_tg tb.2.1 n) (ab_tg M.2 n) && ak_cs tb M n
theorem ak_cs_ok {tb : en_Tb} {M : ab_M} : ∀ n, ak_cs tb M n = true → ∀ p, p < n → ak_c1 (en_tg tb.2.1 p) (ab_tg M.2 p) = true := by
  intro n
  induction n with
  | zero => intro _ p hp; omega
  | succ n ih =>
    intro h p hp
    obtain ⟨h1, h2⟩ := Bool.and_eq_true_iff.mp (show (ak_c1 (en_tg tb.2.1 n) (ab_tg M.2 n) && ak_cs tb M n) = true from h)
    by_cases e : p = n
    · subst e; exact h1
    · exact ih h2 p (by omega)
theorem ak_mem {xs : Nat → Int32} {tb : en_Tb} {M : ab_M} {w : sm_W} (hr : ab_rm xs M w) (hn : tb.1 ≤ M.1) (h : ak_cs tb M tb.1 = true) {X : sm_W → Prop} (hX : X w) : en_mem tb X w := by
  obtain ⟨r1, r2, r3⟩ := hr
  have cell : ∀ p d, en_cell tb p = some d → p < tb.1 ∧ d = en_tg tb.2.1 p := by
    intro p d hd
    unfold en_cell at hd
    cases c : Nat.blt p tb.1 with
    | false => rw [c] at hd; cases hd
    | true =>
      rw [c] at hd
      exact ⟨Nat.le_of_ble_eq_true c, (Option.some.inj hd).symm⟩
  have at' : ∀ p d, en_cell tb p = some d → (w.1[p]? = some (d.1, d.2.1) ∧ (∀ j, j < ab_bd d.1 d.2.1 → ab_g xs (ab_tg (ab_tg M.2 p).2.2 j) (ab_val w p d.1 j))) ∧ (bif Nat.beq d.1 0 then ak_fs (ab_tg M.2 p).2.2 0 d.2.2 else (match d.2.2 with
      | [] => true
      | e :: _ => bif Nat.beq e.1 0 then ak_row (ak_iv e.2.1 e.2.2) (ab_tg M.2 p).2.2 d.2.1 else true)) = true := by
    intro p d hd
    obtain ⟨h1, h2⟩ := cell p d hd
    have q := ak_cs_ok _ h p h1
    rw [← h2] at q
    obtain ⟨q1, q2⟩ := Bool.and_eq_true_iff.mp q
    obtain ⟨q3, q4⟩ := Bool.and_eq_true_iff.mp q1
    have q3 : (ab_tg M.2 p).1 = d.1 := Nat.eq_of_beq_eq_true q3
    have q4 : (ab_tg M.2 p).2.1 = d.2.1 := Nat.eq_of_beq_eq_true q4
    have r := r3 p (by omega)
    rw [q3, q4] at r
    exact ⟨r, q2⟩
  refine ⟨fun p d hd => (at' p d hd).1.1, fun p j q hq => ?_, fun p j hq => ?_, by rw [r1]; omega, hX⟩
  · unfold en_int at hq
    split at hq
    · next d hd =>
      obtain ⟨⟨a1, a2⟩, a3⟩ := at' p d hd
      cases c0 : Nat.beq d.1 0 with
      | true =>
        rw [c0] at hq a3
        have hq : en_fiv d.2.2[j]? = some q := hq
        have a3 : ak_fs (ab_tg M.2 p).2.2 0 d.2.2 = true := a3
        have e0 : d.1 = 0 := Nat.eq_of_beq_eq_true c0
        unfold en_fiv at hq
        split at hq
        · next a b hj =>
          have hq := Option.some.inj hq
          obtain ⟨k1, k2⟩ := ak_fs_ok _ _ a3 j _ hj
          rw [Nat.zero_add] at k1 k2
          have k2 : ak_iv a b (ab_tg (ab_tg M.2 p).2.2 (2 * j)) = true := k2
          have g := a2 (2 * j) (by unfold ab_bd; rw [if_pos e0]; omega)
          obtain ⟨x, ex, x1, x2⟩ := ak_iv_ok k2 g
          have ev : ab_val w p d.1 (2 * j) = .int (w.2.1 p j) := by
            unfold ab_val
            rw [if_pos e0, if_neg (by omega), show 2 * j / 2 = j by omega]
          rw [ev] at ex
          cases ex
          rw [← hq]
          exact ⟨x1, x2⟩
        · cases hq
      | false =>
        rw [c0] at hq a3
        have hq : (bif Nat.blt j d.2.1 then en_fiv d.2.2[0]? else none) = some q := hq
        cases cj : Nat.blt j d.2.1 with
        | false => rw [cj] at hq; cases hq
        | true =>
          rw [cj] at hq
          have hj : j < d.2.1 := Nat.le_of_ble_eq_true cj
          have hq : en_fiv d.2.2[0]? = some q := hq
          have e0 : d.1 ≠ 0 := fun e => by rw [e] at c0; cases c0
          cases el : d.2.2 with
          | nil => rw [el] at hq; cases hq
          | cons e r =>
            rw [el] at hq a3
            have hq : en_fiv (some e) = some q := hq
            unfold en_fiv at hq
            split at hq
            · next a b he =>
              have he := Option.some.inj he
              subst he
              have hq := Option.some.inj hq
              have a3 : ak_row (ak_iv a b) (ab_tg M.2 p).2.2 d.2.1 = true := a3
              have g := a2 j (by unfold ab_bd; rw [if_neg e0]; exact hj)
              obtain ⟨x, ex, x1, x2⟩ := ak_iv_ok (ak_row_ok a3 j hj) g
              unfold ab_val at ex
              rw [if_neg e0] at ex
              split at ex
              · cases ex
              · cases ex
                rw [← hq]
                exact ⟨x1, x2⟩
            · cases hq
    · cases hq
  · unfold en_refs at hq ⊢
    split at hq
    · next d hd =>
      obtain ⟨⟨a1, a2⟩, a3⟩ := at' p d hd
      cases c0 : Nat.beq d.1 0 with
      | false => rw [c0] at hq; exact absurd rfl hq
      | true =>
        rw [c0] at hq a3
        have a3 : ak_fs (ab_tg M.2 p).2.2 0 d.2.2 = true := a3
        have e0 : d.1 = 0 := Nat.eq_of_beq_eq_true c0
        have gr : j < 128 → ab_g xs (ab_tg (ab_tg M.2 p).2.2 (2 * j + 1)) (sm_rv (w.2.2.2 p j)) := fun hj => by
          have g := a2 (2 * j + 1) (by unfold ab_bd; rw [if_pos e0]; omega)
          unfold ab_val at g
          rw [if_pos e0, if_pos (by omega), show (2 * j + 1) / 2 = j by omega] at g
          exact g
        show ∃ r, r ∈ (match d.2.2[j]? with
          | some (1, a, _) => [a.toNat]
          | some (2, a, b) => [a.toNat, b.toNat]
          | _ => []) ∧ w.2.2.2 p j = some r
        have hq : (match d.2.2[j]? with
          | some (1, a, _) => [a.toNat]
          | some (2, a, b) => [a.toNat, b.toNat]
          | _ => []) ≠ [] := hq
        split at hq
        · next a b hj =>
          obtain ⟨k1, k2⟩ := ak_fs_ok _ _ a3 j _ hj
          rw [Nat.zero_add] at k1 k2
          have k2 : ak_rf a (ab_tg (ab_tg M.2 p).2.2 (2 * j + 1)) = true := k2
          obtain ⟨r, er, e2⟩ := ak_rf_ok k2 (gr k1)
          exact ⟨r, by rw [e2]; exact List.mem_singleton.mpr rfl, er⟩
        · next a b hj =>
          obtain ⟨k1, k2⟩ := ak_fs_ok _ _ a3 j _ hj
          rw [Nat.zero_add] at k1 k2
          have k2 : (ak_rf a (ab_tg (ab_tg M.2 p).2.2 (2 * j + 1)) || ak_rf b (ab_tg (ab_tg M.2 p).2.2 (2 * j + 1))) = true := k2
          rcases Bool.or_eq_true_iff.mp k2 with k | k
          · obtain ⟨r, er, e2⟩ := ak_rf_ok k (gr k1)
            exact ⟨r, by rw [e2]; exact List.mem_cons_self, er⟩
          · obtain ⟨r, er, e2⟩ := ak_rf_ok k (gr k1)
            exact ⟨r, by rw [e2]; exact List.mem_cons_of_mem _ (List.mem_singleton.mpr rfl), er⟩
        · exact absurd rfl hq
    · exact absurd rfl hq
/-! the layout -/
noncomputable def ak_ly (M : ab_M) : Nat → List (Nat × Nat) → Bool
  | _, [] => true
  | p, c :: r => (Nat.beq (ab_tg M.2 p).1 c.1 && Nat.beq (ab_tg M.2 p).2.1 c.2) && ak_ly M (p + 1) r
theorem ak_ly_ok {M : ab_M} : ∀ (l : List (Nat × Nat)) (p : Nat), ak_ly M p l = true → ∀ (k : Nat) (c : Nat × Nat), l[k]? = some c → (ab_tg M.2 (p + k)).1 = c.1 ∧ (ab_tg M.2 (p + k)).2.1 = c.2 := by
  intro l
  induction l with
  | nil => intro p _ k c h; simp at h
  | cons a r ih =>
    intro p h k c hc
    obtain ⟨h1, h2⟩ := Bool.and_eq_true_iff.mp (show ((Nat.beq (ab_tg M.2 p).1 a.1 && Nat.beq (ab_tg M.2 p).2.1 a.2) && ak_ly M (p + 1) r) = true from h)
    obtain ⟨h3, h4⟩ := Bool.and_eq_true_iff.mp h1
    cases k with
    | zero =>
      have : a = c := by simpa using hc
      subst this
      exact ⟨Nat.eq_of_beq_eq_true h3, Nat.eq_of_beq_eq_true h4⟩
    | succ k =>
      have := ih (p + 1) h2 k c (by simpa using hc)
      rw [show p + (k + 1) = p + 1 + k by omega]
      exact this
theorem ak_lay {xs : Nat → Int32} {M : ab_M} {w : sm_W} {l : List (Nat × Nat)} (hr : ab_rm xs M w) (hn : M.1 = l.length) (h : ak_ly M 0 l = true) : w.1 = l := by
  obtain ⟨r1, r2, r3⟩ := hr
  refine List.ext_getElem? (fun p => ?_)
  by_cases hp : p < l.length
  · obtain ⟨c, hc⟩ : ∃ c, l[p]? = some c := ⟨l[p], List.getElem?_eq_getElem hp⟩
    have q := ak_ly_ok l 0 h p c hc
    rw [Nat.zero_add] at q
    rw [(r3 p (by omega)).1, q.1, q.2, hc]
  · rw [List.getElem?_eq_none (by omega), List.getElem?_eq_none (by omega)]
/-- a field's or an element's number -/
theorem ak_fd {xs : Nat → Int32} {M : ab_M} {w : sm_W} {p j : Nat} {n : Int} (hr : ab_rm xs M w) (hp : p < M.1) (hk : (ab_tg M.2 p).1 = 0) (hj : j < 128) (h : ak_iv n n (ab_tg (ab_tg M.2 p).2.2 (2 * j)) = true) : (w.2.1 p j).toInt = n := by
  have g := (hr.2.2 p hp).2 (2 * j) (by unfold ab_bd; rw [if_pos hk]; omega)
  obtain ⟨x, ex, x1, x2⟩ := ak_iv_ok h g
  unfold ab_val at ex
  rw [if_pos hk, if_neg (by omega), show 2 * j / 2 = j by omega] at ex
  cases ex
  omega
theorem ak_el {xs : Nat → Int32} {M : ab_M} {w : sm_W} {p j : Nat} {lo hi : Int} (hr : ab_rm xs M w) (hp : p < M.1) (hk : (ab_tg M.2 p).1 = 1) (hj : j < (ab_tg M.2 p).2.1) (h : ak_iv lo hi (ab_tg (ab_tg M.2 p).2.2 j) = true) : lo ≤ (w.2.1 p j).toInt ∧ (w.2.1 p j).toInt ≤ hi := by
  have g := (hr.2.2 p hp).2 j (by unfold ab_bd; rw [if_neg (by omega)]; exact hj)
  obtain ⟨x, ex, x1, x2⟩ := ak_iv_ok h g
  unfold ab_val at ex
  rw [if_neg (by omega), if_neg (by omega)] at ex
  cases ex
  exact ⟨x1, x2⟩
end
section
/-! THE START, exact: what both constructors leave where later calls look -/
def sz_rows : List (Nat × Nat × Int) := [(38, 10, -1), (39, 55, -1), (118, 2, 0), (119, 2, 0), (122, 2, 0), (125, 2, 0), (134, 2, 0), (136, 2, 0), (137, 10, 0), (138, 10, -1), (160, 60, -1)]
def sz_flds : List (Nat × Nat × Int) := [(0, 10, 0), (0, 11, -1), (0, 12, 0), (0, 13, 0), (49, 0, 0), (49, 1, 0), (49, 2, 0), (49, 3, 0), (49, 4, 0), (49, 5, 0), (49, 6, 0), (37, 0, 0), (37, 1, 0), (98, 8, 0), (98, 9, 0), (103, 5, 0), (107, 2, 0), (107, 17, -1), (107, 18, 0), (107, 46, 0), (107, 54, 0), (107, 70, 0), (107, 79, 0), (107, 80, 0)]
def sz_refs : List (Nat × Nat × Nat) := [(0, 9, 49), (2, 6, 12)]
noncomputable def sz_ok (M : ab_M) : Bool := (sz_rows.all (fun q => ak_up (ak_iv q.2.2 q.2.2) (ab_tg M.2 q.1).2.2 q.2.1) && sz_flds.all (fun q => ak_iv q.2.2 q.2.2 (ab_tg (ab_tg M.2 q.1).2.2 (2 * q.2.1)))) && sz_refs.all (fun q => ak_rf (Int.ofNat q.2.2) (ab_tg (ab_tg M.2 q.1).2.2 (2 * q.2.1 + 1)))
def sz (w : sm_W) : Prop := (∀ q, q ∈ sz_rows → ∀ j, j < q.2.1 → (w.2.1 q.1 j).toInt = q.2.2) ∧ (∀ q, q ∈ sz_flds → (w.2.1 q.1 q.2.1).toInt = q.2.2) ∧ ∀ q, q ∈ sz_refs → w.2.2.2 q.1 q.2.1 = some q.2.2
theorem sz_l1 : ∀ q, q ∈ sz_rows → q.1 < 166 ∧ (xLay.getD q.1 (0, 0)).1 ≠ 0 ∧ (xLay.getD q.1 (0, 0)).1 ≠ 4 ∧ q.2.1 ≤ (xLay.getD q.1 (0, 0)).2 := by decide +kernel
theorem sz_l2 : ∀ q, q ∈ sz_flds → q.1 < 166 ∧ (xLay.getD q.1 (0, 0)).1 = 0 ∧ q.2.1 < 128 := by decide +kernel
theorem sz_l3 : ∀ q, q ∈ sz_refs → q.1 < 166 ∧ (xLay.getD q.1 (0, 0)).1 = 0 ∧ q.2.1 < 128 := by decide +kernel
theorem sz_len : xLay.length = 166 := by decide +kernel
theorem sz_at {k : Nat} (h : k < 166) : xLay[k]? = some (xLay.getD k (0, 0)) := by
  rw [List.getD_eq_getElem?_getD]
  cases e : xLay[k]? with
  | none =>
    have := List.getElem?_eq_none_iff.mp e
    rw [sz_len] at this
    omega
  | some c => rfl
theorem sz_of {xs : Nat → Int32} {M : ab_M} {w : sm_W} (hr : ab_rm xs M w) (hM : M.1 = 166) (ly : ∀ k c, xLay[k]? = some c → (ab_tg M.2 k).1 = c.1 ∧ (ab_tg M.2 k).2.1 = c.2) (h : sz_ok M = true) : sz w := by
  obtain ⟨h, h3⟩ := Bool.and_eq_true_iff.mp h
  obtain ⟨h1, h2⟩ := Bool.and_eq_true_iff.mp h
  refine ⟨fun q hq j hj => ?_, fun q hq => ?_, fun q hq => ?_⟩
  · obtain ⟨l1, l2, l3, l4⟩ := sz_l1 q hq
    obtain ⟨y1, y2⟩ := ly q.1 _ (sz_at l1)
    have u := ak_up_ok _ (List.all_eq_true.mp h1 q hq) j hj
    have g := (hr.2.2 q.1 (by omega)).2 j (by unfold ab_bd; rw [if_neg (by rw [y1]; exact l2), y2]; omega)
    have ev : ab_val w q.1 (ab_tg M.2 q.1).1 j = .int (w.2.1 q.1 j) := by
      unfold ab_val
      rw [if_neg (by rw [y1]; exact l2), if_neg (by rw [y1]; exact l3)]
    rw [ev] at g
    obtain ⟨x, ex, x1, x2⟩ := ak_iv_ok u g
    cases ex
    omega
  · obtain ⟨l1, l2, l3⟩ := sz_l2 q hq
    obtain ⟨y1, y2⟩ := ly q.1 _ (sz_at l1)
    exact ak_fd hr (by omega) (by rw [y1]; exact l2) l3 (List.all_eq_true.mp h2 q hq)
  · obtain ⟨l1, l2, l3⟩ := sz_l3 q hq
    obtain ⟨y1, y2⟩ := ly q.1 _ (sz_at l1)
    have y0 : (ab_tg M.2 q.1).1 = 0 := by rw [y1]; exact l2
    have u := List.all_eq_true.mp h3 q hq
    have g := (hr.2.2 q.1 (by omega)).2 (2 * q.2.1 + 1) (by unfold ab_bd; rw [if_pos y0]; omega)
    have ev : ab_val w q.1 (ab_tg M.2 q.1).1 (2 * q.2.1 + 1) = sm_rv (w.2.2.2 q.1 q.2.1) := by
      unfold ab_val
      rw [if_pos y0, if_pos (by omega), show (2 * q.2.1 + 1) / 2 = q.2.1 by omega]
    rw [ev] at g
    obtain ⟨p, e1, e2⟩ := ak_rf_ok u g
    rw [e1]
    exact congrArg some (Int.ofNat.inj e2).symm
end
section
/-! THE START: both constructors, run over intervals; then both invariants hold -/
noncomputable def ak_acc (_ _ : Nat) (_ : List ab_V) : Bool := false
theorem ak_acc_ok {xs : Nat → Int32} {S : sm_C} : ab_accok xs sm_P S ak_acc := fun _ _ _ _ _ _ _ h => by cases h
def xL1 : List (Nat × Nat) := [(0, 11), (2, 2000), (0, 7), (0, 9), (1, 502), (1, 502), (4, 502), (0, 3), (1, 15), (4, 35), (1, 35), (1, 35), (0, 10), (1, 36), (1, 10), (1, 10), (0, 8), (1, 10), (1, 10), (1, 10), (1, 10), (1, 10), (1, 10), (1, 40), (0, 8), (1, 120), (1, 120), (1, 120), (1, 120), (0, 8), (1, 5), (1, 5), (1, 5), (1, 5), (1, 45), (1, 45), (1, 45), (0, 4), (1, 10), (1, 55), (0, 8), (1, 6), (1, 6), (1, 6), (1, 6), (0, 1), (1, 1000), (1, 1000), (4, 1000), (0, 10), (1, 36), (1, 10), (1, 10), (0, 8), (1, 10), (1, 10), (1, 10), (1, 10), (1, 10), (1, 10), (1, 40), (0, 8), (1, 120), (1, 120), (1, 120), (1, 120), (0, 8), (1, 5), (1, 5), (1, 5), (1, 5), (1, 45), (1, 45), (1, 45), (0, 2), (0, 5), (1, 7381), (1, 11), (1, 11), (1, 11), (1, 60), (1, 60), (0, 2), (0, 5), (1, 6776), (1, 11), (1, 11), (1, 11), (1, 55), (1, 55), (0, 2), (0, 5), (1, 9504), (1, 12), (1, 12), (1, 12), (1, 65), (1, 65), (0, 6), (3, 1024), (1, 252), (1, 252), (1, 55), (0, 0), (1, 64), (1, 1024), (1, 1024)]
noncomputable def ak_M0 : ab_M := (0, .leaf (0, 0, .leaf (0, 0)))
noncomputable def ak_T0 : ab_T := .branch 0 (.leaf (0, 0)) (.leaf (1, 0))
noncomputable def ak_x (M : ab_M) : Bool := [ak_iv 1 1 (ab_tg (ab_tg M.2 75).2.2 8), ak_iv 1 1 (ab_tg (ab_tg M.2 75).2.2 10), ak_iv 1 1 (ab_tg (ab_tg M.2 83).2.2 8), ak_iv 1 1 (ab_tg (ab_tg M.2 83).2.2 10), ak_iv 1 1 (ab_tg (ab_tg M.2 91).2.2 8), ak_iv 1 1 (ab_tg (ab_tg M.2 91).2.2 10), ak_iv 0 0 (ab_tg (ab_tg M.2 0).2.2 20), ak_iv 0 0 (ab_tg (ab_tg M.2 107).2.2 4), ak_iv 0 0 (ab_tg (ab_tg M.2 107).2.2 36), ak_all (ak_iv 0 0) (ab_tg M.2 77).2.2, ak_all (ak_iv 0 0) (ab_tg M.2 85).2.2, ak_all (ak_iv 0 0) (ab_tg M.2 93).2.2, ak_all (ak_iv 0 0) (ab_tg M.2 122).2.2, ak_all (ak_iv 0 0) (ab_tg M.2 125).2.2, ak_all (ak_iv 0 54) (ab_tg M.2 148).2.2, ak_all (ak_iv 0 3) (ab_tg M.2 117).2.2, ak_iv 1 1 (ab_tg (ab_tg M.2 165).2.2 0), ak_iv 3 3 (ab_tg (ab_tg M.2 165).2.2 1), ak_iv 9 9 (ab_tg (ab_tg M.2 165).2.2 2), ak_iv 27 27 (ab_tg (ab_tg M.2 165).2.2 3), ak_iv 81 81 (ab_tg (ab_tg M.2 165).2.2 4), ak_iv 243 243 (ab_tg (ab_tg M.2 165).2.2 5), ak_iv (-1) (-1) (ab_tg (ab_tg M.2 0).2.2 22), ak_iv (-1) (-1) (ab_tg (ab_tg M.2 107).2.2 34)].all id
noncomputable def ak_lg (n : Int) (a : ab_V) : Bool := Nat.beq a.1 4 && en_eq a.2 n
noncomputable def ak_kk (t : ab_T) : Nat → List Int → Bool
  | _, [] => true
  | j, n :: ns => ak_lg n (ab_tg t j) && ak_kk t (j + 1) ns
theorem ak_kk_ok {t : ab_T} : ∀ (l : List Int) (j : Nat), ak_kk t j l = true → ∀ i, i < l.length → ak_lg (l.getD i 0) (ab_tg t (j + i)) = true := by
  intro l
  induction l with
  | nil => intro j h i hi; exact absurd hi (Nat.not_lt_zero i)
  | cons n ns ih =>
    intro j h i hi
    obtain ⟨h1, h2⟩ := Bool.and_eq_true_iff.mp (show (ak_lg n (ab_tg t j) && ak_kk t (j + 1) ns) = true from h)
    cases i with
    | zero => exact h1
    | succ i =>
      have := ih (j + 1) h2 i (Nat.lt_of_succ_lt_succ hi)
      rw [show j + 1 + i = j + (i + 1) by omega] at this
      exact this
def pk_keyI : List Int := [16998, 8740067, 16819, 400577, 411, 257, 13903, 389777, 423, 1111, 47, 31519426, 307058, 1253, 10998956]
theorem pk_keyI_eq : ∀ j : Nat, j < 15 → (pk_key.getD j 0).toInt = pk_keyI.getD j 0 := by decide
noncomputable def ak_fin (M : ab_M) : Bool := ((Nat.beq M.1 166 && ak_ly M 0 xLay) && ((ak_cs kl_tb M 107 && ak_cs ml_tb M 166) && ak_x M) && ak_kk (ab_tg M.2 114).2.2 0 pk_keyI) && sz_ok M
noncomputable def ak_k2 : ab_K := fun r M _ => match r with
  | none => ak_fin M
  | some _ => false
noncomputable def ak_k1 : ab_K := fun r M E => match r with
  | none => (Nat.beq M.1 107 && ak_ly M 0 xL1) && ab_newc M 0 12 ak_T0 (fun M' => ab_run 0 sm_P ak_acc 1000000 59 142 0 [(2, .ofNat 107)] [] M' E (0, 0) ak_k2)
  | some _ => false
set_option maxRecDepth 1000000 in
theorem ak_run : ab_newc ak_M0 0 11 ak_T0 (fun M' => ab_run 0 sm_P ak_acc 1000000 59 54 0 [(2, .ofNat 0)] [] M' [] (0, 0) ak_k1) = true := by decide +kernel
end
section
/-! both invariants at the start -/
theorem ak_new {xs : Nat → Int32} {M : ab_M} {w : sm_W} {n ci : Nat} {c : ab_M → Bool} (hr : ab_rm xs M w) (hn : M.1 = n) (h : ab_newc M 0 ci ak_T0 c = true) : ∃ M', ab_rm xs M' (w.1 ++ [(0, ci)], sm_row w.2.1 n (fun _ => 0), w.2.2.1, sm_row w.2.2.2 n (fun _ => none)) ∧ c M' = true := by
  have hlen : w.1.length = n := by rw [← hn]; exact hr.1
  subst hlen
  obtain ⟨M', g1, g2, g3⟩ := ab_newc_ok (m' := (sm_row w.2.1 w.1.length (fun _ => 0), w.2.2.1, sm_row w.2.2.2 w.1.length (fun _ => none))) hr (by
    intro j hj
    rw [hn]
    unfold ak_T0
    simp only [ab_val]
    rw [if_pos trivial, ab_row_eq, ab_row_eq, ab_tg_branch]
    by_cases e : j % 2 = 1
    · rw [if_pos e, if_neg (by omega)]
      exact rfl
    · rw [if_neg e, if_pos (by omega)]
      exact ab_gi0 _) (by
    intro p kd j hp
    have hp : p ≠ w.1.length := by omega
    simp only [ab_val]
    rw [ab_row_p _ _ _ hp, ab_row_p _ _ _ hp, ab_row_p _ _ _ hp]) h
  exact ⟨M', g1, g3⟩
theorem ak_fin_ok {xs : Nat → Int32} {M : ab_M} {w : sm_W} (hr : ab_rm xs M w) (h : ak_fin M = true) : en_mem kl_tb klX w ∧ en_mem ml_tb mlX w ∧ w.2.1 0 10 = 0 ∧ w.2.1 107 2 = 0 ∧ w.2.1 0 11 = -1 ∧ w.2.1 107 17 = -1 ∧ sz w := by
  obtain ⟨h, hz⟩ := Bool.and_eq_true_iff.mp h
  obtain ⟨h, hk⟩ := Bool.and_eq_true_iff.mp h
  obtain ⟨h1, h2⟩ := Bool.and_eq_true_iff.mp h
  obtain ⟨h3, h4⟩ := Bool.and_eq_true_iff.mp h1
  obtain ⟨h5, h6⟩ := Bool.and_eq_true_iff.mp h2
  obtain ⟨h7, h8⟩ := Bool.and_eq_true_iff.mp h5
  have hM : M.1 = 166 := Nat.eq_of_beq_eq_true h3
  have ly : ∀ k c, xLay[k]? = some c → (ab_tg M.2 k).1 = c.1 ∧ (ab_tg M.2 k).2.1 = c.2 := fun k c hc => by
    have := ak_ly_ok xLay 0 h4 k c hc
    rw [Nat.zero_add] at this
    exact this
  have lay : w.1 = xLay := ak_lay hr (by rw [hM]; rfl) h4
  have X := List.all_eq_true.mp h6
  have iz : ∀ {x : Int32}, x.toInt = 0 → x = 0 := fun e => en_ofI (by rw [e]; decide)
  have f75_4 : (w.2.1 75 4).toInt = 1 := ak_fd hr (by omega) (ly 75 _ rfl).1 (by decide) (X _ (List.mem_cons_self))
  have f75_5 : (w.2.1 75 5).toInt = 1 := ak_fd hr (by omega) (ly 75 _ rfl).1 (by decide) (X _ (List.mem_cons_of_mem _ (List.mem_cons_self)))
  have f83_4 : (w.2.1 83 4).toInt = 1 := ak_fd hr (by omega) (ly 83 _ rfl).1 (by decide) (X _ (List.mem_cons_of_mem _ (List.mem_cons_of_mem _ (List.mem_cons_self))))
  have f83_5 : (w.2.1 83 5).toInt = 1 := ak_fd hr (by omega) (ly 83 _ rfl).1 (by decide) (X _ (List.mem_cons_of_mem _ (List.mem_cons_of_mem _ (List.mem_cons_of_mem _ (List.mem_cons_self)))))
  have f91_4 : (w.2.1 91 4).toInt = 1 := ak_fd hr (by omega) (ly 91 _ rfl).1 (by decide) (X _ (List.mem_cons_of_mem _ (List.mem_cons_of_mem _ (List.mem_cons_of_mem _ (List.mem_cons_of_mem _ (List.mem_cons_self))))))
  have f91_5 : (w.2.1 91 5).toInt = 1 := ak_fd hr (by omega) (ly 91 _ rfl).1 (by decide) (X _ (List.mem_cons_of_mem _ (List.mem_cons_of_mem _ (List.mem_cons_of_mem _ (List.mem_cons_of_mem _ (List.mem_cons_of_mem _ (List.mem_cons_self)))))))
  have f0_10 : (w.2.1 0 10).toInt = 0 := ak_fd hr (by omega) (ly 0 _ rfl).1 (by decide) (X _ (List.mem_cons_of_mem _ (List.mem_cons_of_mem _ (List.mem_cons_of_mem _ (List.mem_cons_of_mem _ (List.mem_cons_of_mem _ (List.mem_cons_of_mem _ (List.mem_cons_self))))))))
  have f107_2 : (w.2.1 107 2).toInt = 0 := ak_fd hr (by omega) (ly 107 _ rfl).1 (by decide) (X _ (List.mem_cons_of_mem _ (List.mem_cons_of_mem _ (List.mem_cons_of_mem _ (List.mem_cons_of_mem _ (List.mem_cons_of_mem _ (List.mem_cons_of_mem _ (List.mem_cons_of_mem _ (List.mem_cons_self)))))))))
  have f107_18 : (w.2.1 107 18).toInt = 0 := ak_fd hr (by omega) (ly 107 _ rfl).1 (by decide) (X _ (List.mem_cons_of_mem _ (List.mem_cons_of_mem _ (List.mem_cons_of_mem _ (List.mem_cons_of_mem _ (List.mem_cons_of_mem _ (List.mem_cons_of_mem _ (List.mem_cons_of_mem _ (List.mem_cons_of_mem _ (List.mem_cons_self))))))))))
  have f0_11 : (w.2.1 0 11).toInt = -1 := ak_fd hr (by omega) (ly 0 _ rfl).1 (by decide) (X _ (List.mem_cons_of_mem _ (List.mem_cons_of_mem _ (List.mem_cons_of_mem _ (List.mem_cons_of_mem _ (List.mem_cons_of_mem _ (List.mem_cons_of_mem _ (List.mem_cons_of_mem _ (List.mem_cons_of_mem _ (List.mem_cons_of_mem _ (List.mem_cons_of_mem _ (List.mem_cons_of_mem _ (List.mem_cons_of_mem _ (List.mem_cons_of_mem _ (List.mem_cons_of_mem _ (List.mem_cons_of_mem _ (List.mem_cons_of_mem _ (List.mem_cons_of_mem _ (List.mem_cons_of_mem _ (List.mem_cons_of_mem _ (List.mem_cons_of_mem _ (List.mem_cons_of_mem _ (List.mem_cons_of_mem _ (List.mem_cons_self))))))))))))))))))))))))
  have f107_17 : (w.2.1 107 17).toInt = -1 := ak_fd hr (by omega) (ly 107 _ rfl).1 (by decide) (X _ (List.mem_cons_of_mem _ (List.mem_cons_of_mem _ (List.mem_cons_of_mem _ (List.mem_cons_of_mem _ (List.mem_cons_of_mem _ (List.mem_cons_of_mem _ (List.mem_cons_of_mem _ (List.mem_cons_of_mem _ (List.mem_cons_of_mem _ (List.mem_cons_of_mem _ (List.mem_cons_of_mem _ (List.mem_cons_of_mem _ (List.mem_cons_of_mem _ (List.mem_cons_of_mem _ (List.mem_cons_of_mem _ (List.mem_cons_of_mem _ (List.mem_cons_of_mem _ (List.mem_cons_of_mem _ (List.mem_cons_of_mem _ (List.mem_cons_of_mem _ (List.mem_cons_of_mem _ (List.mem_cons_of_mem _ (List.mem_cons_of_mem _ (List.mem_cons_self)))))))))))))))))))))))))
  have im : ∀ {x : Int32}, x.toInt = -1 → x = -1 := fun e => en_ofI (by rw [e]; decide)
  have r77 : ∀ j, j < 11 → (0 : Int) ≤ (w.2.1 77 j).toInt ∧ (w.2.1 77 j).toInt ≤ 0 := fun j hj => ak_el hr (by omega) (ly 77 _ rfl).1 (by rw [(ly 77 _ rfl).2]; exact hj) (ak_all_ok _ (X _ (List.mem_cons_of_mem _ (List.mem_cons_of_mem _ (List.mem_cons_of_mem _ (List.mem_cons_of_mem _ (List.mem_cons_of_mem _ (List.mem_cons_of_mem _ (List.mem_cons_of_mem _ (List.mem_cons_of_mem _ (List.mem_cons_of_mem _ (List.mem_cons_self))))))))))) j)
  have r85 : ∀ j, j < 11 → (0 : Int) ≤ (w.2.1 85 j).toInt ∧ (w.2.1 85 j).toInt ≤ 0 := fun j hj => ak_el hr (by omega) (ly 85 _ rfl).1 (by rw [(ly 85 _ rfl).2]; exact hj) (ak_all_ok _ (X _ (List.mem_cons_of_mem _ (List.mem_cons_of_mem _ (List.mem_cons_of_mem _ (List.mem_cons_of_mem _ (List.mem_cons_of_mem _ (List.mem_cons_of_mem _ (List.mem_cons_of_mem _ (List.mem_cons_of_mem _ (List.mem_cons_of_mem _ (List.mem_cons_of_mem _ (List.mem_cons_self)))))))))))) j)
  have r93 : ∀ j, j < 12 → (0 : Int) ≤ (w.2.1 93 j).toInt ∧ (w.2.1 93 j).toInt ≤ 0 := fun j hj => ak_el hr (by omega) (ly 93 _ rfl).1 (by rw [(ly 93 _ rfl).2]; exact hj) (ak_all_ok _ (X _ (List.mem_cons_of_mem _ (List.mem_cons_of_mem _ (List.mem_cons_of_mem _ (List.mem_cons_of_mem _ (List.mem_cons_of_mem _ (List.mem_cons_of_mem _ (List.mem_cons_of_mem _ (List.mem_cons_of_mem _ (List.mem_cons_of_mem _ (List.mem_cons_of_mem _ (List.mem_cons_of_mem _ (List.mem_cons_self))))))))))))) j)
  have r122 : ∀ j, j < 2 → (0 : Int) ≤ (w.2.1 122 j).toInt ∧ (w.2.1 122 j).toInt ≤ 0 := fun j hj => ak_el hr (by omega) (ly 122 _ rfl).1 (by rw [(ly 122 _ rfl).2]; exact hj) (ak_all_ok _ (X _ (List.mem_cons_of_mem _ (List.mem_cons_of_mem _ (List.mem_cons_of_mem _ (List.mem_cons_of_mem _ (List.mem_cons_of_mem _ (List.mem_cons_of_mem _ (List.mem_cons_of_mem _ (List.mem_cons_of_mem _ (List.mem_cons_of_mem _ (List.mem_cons_of_mem _ (List.mem_cons_of_mem _ (List.mem_cons_of_mem _ (List.mem_cons_self)))))))))))))) j)
  have r125 : ∀ j, j < 2 → (0 : Int) ≤ (w.2.1 125 j).toInt ∧ (w.2.1 125 j).toInt ≤ 0 := fun j hj => ak_el hr (by omega) (ly 125 _ rfl).1 (by rw [(ly 125 _ rfl).2]; exact hj) (ak_all_ok _ (X _ (List.mem_cons_of_mem _ (List.mem_cons_of_mem _ (List.mem_cons_of_mem _ (List.mem_cons_of_mem _ (List.mem_cons_of_mem _ (List.mem_cons_of_mem _ (List.mem_cons_of_mem _ (List.mem_cons_of_mem _ (List.mem_cons_of_mem _ (List.mem_cons_of_mem _ (List.mem_cons_of_mem _ (List.mem_cons_of_mem _ (List.mem_cons_of_mem _ (List.mem_cons_self))))))))))))))) j)
  have r148 : ∀ j, j < 70 → (0 : Int) ≤ (w.2.1 148 j).toInt ∧ (w.2.1 148 j).toInt ≤ 54 := fun j hj => ak_el hr (by omega) (ly 148 _ rfl).1 (by rw [(ly 148 _ rfl).2]; exact hj) (ak_all_ok _ (X _ (List.mem_cons_of_mem _ (List.mem_cons_of_mem _ (List.mem_cons_of_mem _ (List.mem_cons_of_mem _ (List.mem_cons_of_mem _ (List.mem_cons_of_mem _ (List.mem_cons_of_mem _ (List.mem_cons_of_mem _ (List.mem_cons_of_mem _ (List.mem_cons_of_mem _ (List.mem_cons_of_mem _ (List.mem_cons_of_mem _ (List.mem_cons_of_mem _ (List.mem_cons_of_mem _ (List.mem_cons_self)))))))))))))))) j)
  have r117 : ∀ j, j < 50 → (0 : Int) ≤ (w.2.1 117 j).toInt ∧ (w.2.1 117 j).toInt ≤ 3 := fun j hj => ak_el hr (by omega) (ly 117 _ rfl).1 (by rw [(ly 117 _ rfl).2]; exact hj) (ak_all_ok _ (X _ (List.mem_cons_of_mem _ (List.mem_cons_of_mem _ (List.mem_cons_of_mem _ (List.mem_cons_of_mem _ (List.mem_cons_of_mem _ (List.mem_cons_of_mem _ (List.mem_cons_of_mem _ (List.mem_cons_of_mem _ (List.mem_cons_of_mem _ (List.mem_cons_of_mem _ (List.mem_cons_of_mem _ (List.mem_cons_of_mem _ (List.mem_cons_of_mem _ (List.mem_cons_of_mem _ (List.mem_cons_of_mem _ (List.mem_cons_self))))))))))))))))) j)
  have p0 : (w.2.1 165 0).toInt = 1 := by
    have := ak_el (p := 165) (j := 0) hr (by omega) (ly 165 _ rfl).1 (by rw [(ly 165 _ rfl).2]; decide) (X _ (List.mem_cons_of_mem _ (List.mem_cons_of_mem _ (List.mem_cons_of_mem _ (List.mem_cons_of_mem _ (List.mem_cons_of_mem _ (List.mem_cons_of_mem _ (List.mem_cons_of_mem _ (List.mem_cons_of_mem _ (List.mem_cons_of_mem _ (List.mem_cons_of_mem _ (List.mem_cons_of_mem _ (List.mem_cons_of_mem _ (List.mem_cons_of_mem _ (List.mem_cons_of_mem _ (List.mem_cons_of_mem _ (List.mem_cons_of_mem _ (List.mem_cons_self))))))))))))))))))
    omega
  have p1 : (w.2.1 165 1).toInt = 3 := by
    have := ak_el (p := 165) (j := 1) hr (by omega) (ly 165 _ rfl).1 (by rw [(ly 165 _ rfl).2]; decide) (X _ (List.mem_cons_of_mem _ (List.mem_cons_of_mem _ (List.mem_cons_of_mem _ (List.mem_cons_of_mem _ (List.mem_cons_of_mem _ (List.mem_cons_of_mem _ (List.mem_cons_of_mem _ (List.mem_cons_of_mem _ (List.mem_cons_of_mem _ (List.mem_cons_of_mem _ (List.mem_cons_of_mem _ (List.mem_cons_of_mem _ (List.mem_cons_of_mem _ (List.mem_cons_of_mem _ (List.mem_cons_of_mem _ (List.mem_cons_of_mem _ (List.mem_cons_of_mem _ (List.mem_cons_self)))))))))))))))))))
    omega
  have p2 : (w.2.1 165 2).toInt = 9 := by
    have := ak_el (p := 165) (j := 2) hr (by omega) (ly 165 _ rfl).1 (by rw [(ly 165 _ rfl).2]; decide) (X _ (List.mem_cons_of_mem _ (List.mem_cons_of_mem _ (List.mem_cons_of_mem _ (List.mem_cons_of_mem _ (List.mem_cons_of_mem _ (List.mem_cons_of_mem _ (List.mem_cons_of_mem _ (List.mem_cons_of_mem _ (List.mem_cons_of_mem _ (List.mem_cons_of_mem _ (List.mem_cons_of_mem _ (List.mem_cons_of_mem _ (List.mem_cons_of_mem _ (List.mem_cons_of_mem _ (List.mem_cons_of_mem _ (List.mem_cons_of_mem _ (List.mem_cons_of_mem _ (List.mem_cons_of_mem _ (List.mem_cons_self))))))))))))))))))))
    omega
  have p3 : (w.2.1 165 3).toInt = 27 := by
    have := ak_el (p := 165) (j := 3) hr (by omega) (ly 165 _ rfl).1 (by rw [(ly 165 _ rfl).2]; decide) (X _ (List.mem_cons_of_mem _ (List.mem_cons_of_mem _ (List.mem_cons_of_mem _ (List.mem_cons_of_mem _ (List.mem_cons_of_mem _ (List.mem_cons_of_mem _ (List.mem_cons_of_mem _ (List.mem_cons_of_mem _ (List.mem_cons_of_mem _ (List.mem_cons_of_mem _ (List.mem_cons_of_mem _ (List.mem_cons_of_mem _ (List.mem_cons_of_mem _ (List.mem_cons_of_mem _ (List.mem_cons_of_mem _ (List.mem_cons_of_mem _ (List.mem_cons_of_mem _ (List.mem_cons_of_mem _ (List.mem_cons_of_mem _ (List.mem_cons_self)))))))))))))))))))))
    omega
  have p4 : (w.2.1 165 4).toInt = 81 := by
    have := ak_el (p := 165) (j := 4) hr (by omega) (ly 165 _ rfl).1 (by rw [(ly 165 _ rfl).2]; decide) (X _ (List.mem_cons_of_mem _ (List.mem_cons_of_mem _ (List.mem_cons_of_mem _ (List.mem_cons_of_mem _ (List.mem_cons_of_mem _ (List.mem_cons_of_mem _ (List.mem_cons_of_mem _ (List.mem_cons_of_mem _ (List.mem_cons_of_mem _ (List.mem_cons_of_mem _ (List.mem_cons_of_mem _ (List.mem_cons_of_mem _ (List.mem_cons_of_mem _ (List.mem_cons_of_mem _ (List.mem_cons_of_mem _ (List.mem_cons_of_mem _ (List.mem_cons_of_mem _ (List.mem_cons_of_mem _ (List.mem_cons_of_mem _ (List.mem_cons_of_mem _ (List.mem_cons_self))))))))))))))))))))))
    omega
  have p5 : (w.2.1 165 5).toInt = 243 := by
    have := ak_el (p := 165) (j := 5) hr (by omega) (ly 165 _ rfl).1 (by rw [(ly 165 _ rfl).2]; decide) (X _ (List.mem_cons_of_mem _ (List.mem_cons_of_mem _ (List.mem_cons_of_mem _ (List.mem_cons_of_mem _ (List.mem_cons_of_mem _ (List.mem_cons_of_mem _ (List.mem_cons_of_mem _ (List.mem_cons_of_mem _ (List.mem_cons_of_mem _ (List.mem_cons_of_mem _ (List.mem_cons_of_mem _ (List.mem_cons_of_mem _ (List.mem_cons_of_mem _ (List.mem_cons_of_mem _ (List.mem_cons_of_mem _ (List.mem_cons_of_mem _ (List.mem_cons_of_mem _ (List.mem_cons_of_mem _ (List.mem_cons_of_mem _ (List.mem_cons_of_mem _ (List.mem_cons_of_mem _ (List.mem_cons_self)))))))))))))))))))))))
    omega
  have net : ∀ p q : Nat, (w.2.1 p 4).toInt = 1 → (w.2.1 p 5).toInt = 1 → ((0 : Int) ≤ (w.2.1 q 0).toInt ∧ (w.2.1 q 0).toInt ≤ 0) → kl_net w.2.1 p q := fun p q a b c => ⟨by rw [a, b]; rfl, fun i hi => by
    rw [a] at hi ⊢
    have : i = 0 := by omega
    subst this
    omega⟩
  have key : pk_ok w.2.2.1 := fun j hj => by
    have a := ak_kk_ok _ 0 hk j hj
    rw [Nat.zero_add] at a
    obtain ⟨a1, a2⟩ := Bool.and_eq_true_iff.mp a
    have kd : (ab_tg M.2 114).1 = 4 := (ly 114 _ rfl).1
    have g := (hr.2.2 114 (by omega)).2 j (by unfold ab_bd; rw [if_neg (by omega), (ly 114 _ rfl).2]; exact hj)
    unfold ab_val at g
    rw [if_neg (by omega), if_pos kd] at g
    have e : (ab_tg (ab_tg M.2 114).2.2 j).1 = 4 := Nat.eq_of_beq_eq_true a1
    have e2 := en_eq_iff.mp a2
    have g : ((ab_tg (ab_tg M.2 114).2.2 j).1 = 4 ∧ (w.2.2.1 114 j).toInt = (ab_tg (ab_tg M.2 114).2.2 j).2) ∨ (ab_tg (ab_tg M.2 114).2.2 j).1 = 5 := g
    apply Int64.toInt_inj.mp
    rw [pk_keyI_eq j hj, ← e2]
    omega
  refine ⟨ak_mem hr (by rw [hM]; decide) h7 ⟨lay, net 75 77 f75_4 f75_5 (r77 0 (by decide)), net 83 85 f83_4 f83_5 (r85 0 (by decide)), net 91 93 f91_4 f91_5 (r93 0 (by decide)), key⟩, ak_mem hr (by rw [hM]; decide) h8 ⟨lay, fun j hj => Or.inl (r148 j hj).2, fun l hl => ?_, ?_, fun j hj => ?_, key⟩, iz f0_10, iz f107_2, im f0_11, im f107_17, sz_of hr hM ly hz⟩
  · rw [f107_18] at hl
    have hl : l = 0 := by omega
    subst hl
    refine ⟨fun i hi => ?_, fun s c i hs => ?_⟩
    · have := r122 0 (by decide)
      omega
    · have := r125 0 (by decide)
      omega
  · exact ⟨en_ofI (by rw [p0]; decide), en_ofI (by rw [p1]; decide), en_ofI (by rw [p2]; decide), en_ofI (by rw [p3]; decide), en_ofI (by rw [p4]; decide), en_ofI (by rw [p5]; decide)⟩
  · have := r117 j hj
    exact ⟨fun _ => by omega, fun _ => by omega⟩
theorem lw_start {L : Nat} {ys : Nat → Int32} {Φ : sm_Z → Prop} (h : ∀ w : sm_W, en_mem kl_tb klX w → en_mem ml_tb mlX w → w.2.1 0 10 = 0 → w.2.1 107 2 = 0 → w.2.1 0 11 = -1 → w.2.1 107 17 = -1 → sz w → sm_wp sm_P (L, ys) 60 307 1 [.ref 1004, .ref 0, .ref 107, .int 0] [] w (166, 118202) Φ) : sm_wp sm_P (L, ys) 60 307 0 [.ref 1004] [] sm_w0 (0, 0) Φ := by
  have r0 : ab_rm (fun _ => 0) ak_M0 sm_w0 := ⟨rfl, by decide, fun p hp => absurd hp (Nat.not_lt_zero p)⟩
  have sat : ab_sat (fun _ => (0 : Int32)) [] := fun k => ab_crange
  have RUN : ∀ n, ab_rok (fun _ => (0 : Int32)) sm_P (L, ys) (ab_run 0 sm_P ak_acc n) := ab_run_ok (fun j hj => absurd hj (Nat.not_lt_zero j)) (by decide) ak_acc_ok
  obtain ⟨M1, g1, g2⟩ := ak_new r0 (n := 0) rfl ak_run
  have w1 := RUN 1000000 59 54 0 [(2, .ofNat 0)] [] M1 [] (0, 0) ak_k1 [.ref 0] [] _ (fun z => z.1 = none ∧ z.2.1 = xL1 ∧ sm_wp sm_P (L, ys) 59 142 0 [.ref 107] [] (z.2.1 ++ [(0, 12)], sm_row z.2.2.1 107 (fun _ => 0), z.2.2.2.1, sm_row z.2.2.2.2 107 (fun _ => none)) (0, 0) (fun z => z.1 = none ∧ en_mem kl_tb klX z.2 ∧ en_mem ml_tb mlX z.2 ∧ z.2.2.1 0 10 = 0 ∧ z.2.2.1 107 2 = 0 ∧ z.2.2.1 0 11 = -1 ∧ z.2.2.1 107 17 = -1 ∧ sz z.2)) g2 ⟨⟨rfl, rfl⟩, trivial⟩ trivial g1 sat (by
    intro r r' M w E hk hor hr hE
    unfold ak_k1 at hk
    cases r with
    | some a => cases hk
    | none =>
      cases r' with
      | some v => exact hor.elim
      | none =>
        obtain ⟨k1, k2⟩ := Bool.and_eq_true_iff.mp hk
        obtain ⟨k3, k4⟩ := Bool.and_eq_true_iff.mp k1
        have hM : M.1 = 107 := Nat.eq_of_beq_eq_true k3
        obtain ⟨M2, q1, q2⟩ := ak_new hr hM k2
        refine ⟨rfl, ak_lay hr (by rw [hM]; rfl) k4, ?_⟩
        refine RUN 1000000 59 142 0 [(2, .ofNat 107)] [] M2 E (0, 0) ak_k2 [.ref 107] [] _ _ q2 ⟨⟨rfl, rfl⟩, trivial⟩ trivial q1 hE ?_
        intro r r' M w E hk hor hr hE
        unfold ak_k2 at hk
        cases r with
        | some a => cases hk
        | none =>
          cases r' with
          | some v => exact hor.elim
          | none => exact ⟨rfl, ak_fin_ok hr hk⟩)
  refine sm_wp_step (sm_wp_mono w1 (fun z hz => ?_))
  obtain ⟨o, lay, I2, L2, R2⟩ := z
  obtain ⟨e1, e2, hw⟩ := hz
  have e1 : o = none := e1
  have e2 : lay = xL1 := e2
  subst e1
  subst e2
  refine (sm_wp_mono hw (fun z hz => ?_) : sm_wp _ _ _ _ _ _ _ _ _ _)
  obtain ⟨o, w3⟩ := z
  obtain ⟨e1, c1, c2, c3, c4, c5, c6, c7⟩ := hz
  have e1 : o = none := e1
  subst e1
  exact h w3 c1 c2 c3 c4 c5 c6 c7
end
section
/-! conditions of the class's feed and read, and of the law (wip/en/symo.py) -/
def kOl : List Nat := [1, 2, 37, 45, 74, 82, 90, 98, 103]
def kO (q : Nat) (R : sm_R) : sm_R := fun x j => bif Nat.beq x 0 then (match kOl[j]? with
  | some p => some p
  | none => bif Nat.beq j 9 then some q else R x j) else R x j
theorem sm_ciO {P : Nat → sm_M} {S : sm_C} {d g : Nat} {as : List Value} {w : sm_W} {cs : Nat × Nat} {lay : List (Nat × Nat)} {C : Int32 → sm_I → sm_L → sm_R → Nat → Prop} {K : sm_Z → Prop} (h : sm_wp P S d g 0 as [] w cs (fun z => ∃ (r : Int32) (I2 : sm_I) (L2 : sm_L) (R2 : sm_R) (q2 : Nat), z = (some (.int r), (lay, I2, L2, kO q2 R2)) ∧ C r I2 L2 R2 q2)) (hC : ∀ (r : Int32) (I2 : sm_I) (L2 : sm_L) (R2 : sm_R) (q2 : Nat), C r I2 L2 R2 q2 → K (some (.int r), (lay, I2, L2, kO q2 R2))) : sm_wp P S d g 0 as [] w cs K := sm_wp_mono h (fun z q => by
  obtain ⟨r, I2, L2, R2, q2, rfl, c⟩ := q
  exact hC r I2 L2 R2 q2 c)
theorem sm_crO {P : Nat → sm_M} {S : sm_C} {d g : Nat} {as : List Value} {w : sm_W} {cs : Nat × Nat} {lay : List (Nat × Nat)} {C : Nat → sm_I → sm_L → sm_R → Nat → Prop} {K : sm_Z → Prop} (h : sm_wp P S d g 0 as [] w cs (fun z => ∃ (r : Nat) (I2 : sm_I) (L2 : sm_L) (R2 : sm_R) (q2 : Nat), z = (some (.ref r), (lay, I2, L2, kO q2 R2)) ∧ C r I2 L2 R2 q2)) (hC : ∀ (r : Nat) (I2 : sm_I) (L2 : sm_L) (R2 : sm_R) (q2 : Nat), C r I2 L2 R2 q2 → K (some (.ref r), (lay, I2, L2, kO q2 R2))) : sm_wp P S d g 0 as [] w cs K := sm_wp_mono h (fun z q => by
  obtain ⟨r, I2, L2, R2, q2, rfl, c⟩ := q
  exact hC r I2 L2 R2 q2 c)
theorem sm_cvO {P : Nat → sm_M} {S : sm_C} {d g : Nat} {as : List Value} {w : sm_W} {cs : Nat × Nat} {lay : List (Nat × Nat)} {C : sm_I → sm_L → sm_R → Nat → Prop} {K : sm_Z → Prop} (h : sm_wp P S d g 0 as [] w cs (fun z => ∃  (I2 : sm_I) (L2 : sm_L) (R2 : sm_R) (q2 : Nat), z = (none, (lay, I2, L2, kO q2 R2)) ∧ C I2 L2 R2 q2)) (hC : ∀  (I2 : sm_I) (L2 : sm_L) (R2 : sm_R) (q2 : Nat), C I2 L2 R2 q2 → K (none, (lay, I2, L2, kO q2 R2))) : sm_wp P S d g 0 as [] w cs K := sm_wp_mono h (fun z q => by
  obtain ⟨I2, L2, R2, q2, rfl, c⟩ := q
  exact hC I2 L2 R2 q2 c)
theorem sm_ciG {P : Nat → sm_M} {S : sm_C} {d g : Nat} {as : List Value} {w : sm_W} {cs : Nat × Nat} {lay : List (Nat × Nat)} {C : Int32 → sm_I → sm_L → sm_R → Prop} {K : sm_Z → Prop} (h : sm_wp P S d g 0 as [] w cs (fun z => ∃ (r : Int32) (I2 : sm_I) (L2 : sm_L) (R2 : sm_R), z = (some (.int r), (lay, I2, L2, R2)) ∧ C r I2 L2 R2)) (hC : ∀ (r : Int32) (I2 : sm_I) (L2 : sm_L) (R2 : sm_R), C r I2 L2 R2 → K (some (.int r), (lay, I2, L2, R2))) : sm_wp P S d g 0 as [] w cs K := sm_wp_mono h (fun z q => by
  obtain ⟨r, I2, L2, R2, rfl, c⟩ := q
  exact hC r I2 L2 R2 c)
theorem o_X11_putFour_0 {S : sm_C} {d : Nat} {Φ : sm_Z → Prop} {I : sm_I} {L : sm_L} {R : sm_R} {q : Nat} {x1 : Int32} (h : sm_wp sm_P S d 77 1 [.ref 0, .int x1, .int (24 : Int32)] [] (xLay, I, L, (kO q R)) (0, 0) Φ) : sm_wp sm_P S d 77 0 [.ref 0, .int x1] [] (xLay, I, L, (kO q R)) (0, 0) Φ := sm_wp_step (h)
theorem o_X11_putFour_1 {S : sm_C} {d : Nat} {Φ : sm_Z → Prop} {I : sm_I} {L : sm_L} {R : sm_R} {q : Nat} {x1 : Int32} {x2 : Int32} (h : ((x2 < 0 → Φ (none, (xLay, I, L, (kO q R)))) ∧ (¬ x2 < 0 → (((2000 : Int32) ≤ (I 0 10) → sm_wp sm_P S d 77 1 [.ref 0, .int x1, .int (x2 + (-8 : Int32))] [] (xLay, I, L, (kO q R)) (0, 0) Φ) ∧ (¬ (2000 : Int32) ≤ (I 0 10) → ∀ n1 : Int32, n1 = (((x1).toUInt32 >>> ((x2).toUInt32 &&& Int32.toUInt32 31)).toInt32).toInt8.toInt32 → (vp_in (I 0 10) 2000) ∧ ∀ I2 : sm_I, I2 = (sm_up I 1 (I 0 10).toNatClampNeg (vp_nar .byte n1)) → ∀ I3 : sm_I, I3 = (sm_up I2 0 10 ((I2 0 10) + (1 : Int32))) → sm_wp sm_P S d 77 1 [.ref 0, .int x1, .int (x2 + (-8 : Int32))] [] (xLay, I3, L, (kO q R)) (0, 0) Φ))))) : sm_wp sm_P S d 77 1 [.ref 0, .int x1, .int x2] [] (xLay, I, L, (kO q R)) (0, 0) Φ := sm_wp_step (⟨fun q5 => ((h).1 q5), fun q5 => ⟨fun q4 => ((((h).2 q5)).1 q4), fun q4 => ⟨((((((h).2 q5)).2 q4) _ rfl)).1, ((((((((h).2 q5)).2 q4) _ rfl)).2 _ rfl) _ rfl)⟩⟩⟩)
theorem o_X11_feed_0 {S : sm_C} {d : Nat} {Φ : sm_Z → Prop} {I : sm_I} {L : sm_L} {R : sm_R} {q : Nat} {x1 : Int32} {x2 : Int32} {x3 : Int32} {x4 : Int32} {x5 : Int32} (h : ((((I 0 10) + (20 : Int32)) ≤ (2000 : Int32) → sm_wp sm_P S d 77 0 [.ref 0, .int x1] [] (xLay, I, L, (kO q R)) (0, 0) (fun z => ∃ (I1 : sm_I) (L2 : sm_L) (R3 : sm_R) (w4 : Nat), z = (none, (xLay, I1, L2, (kO w4 R3))) ∧ sm_wp sm_P S d 77 0 [.ref 0, .int x2] [] (xLay, I1, L2, (kO w4 R3)) (0, 0) (fun z => ∃ (I6 : sm_I) (L7 : sm_L) (R8 : sm_R) (w9 : Nat), z = (none, (xLay, I6, L7, (kO w9 R8))) ∧ sm_wp sm_P S d 77 0 [.ref 0, .int x3] [] (xLay, I6, L7, (kO w9 R8)) (0, 0) (fun z => ∃ (I11 : sm_I) (L12 : sm_L) (R13 : sm_R) (w14 : Nat), z = (none, (xLay, I11, L12, (kO w14 R13))) ∧ sm_wp sm_P S d 77 0 [.ref 0, .int x4] [] (xLay, I11, L12, (kO w14 R13)) (0, 0) (fun z => ∃ (I16 : sm_I) (L17 : sm_L) (R18 : sm_R) (w19 : Nat), z = (none, (xLay, I16, L17, (kO w19 R18))) ∧ sm_wp sm_P S d 77 0 [.ref 0, .int x5] [] (xLay, I16, L17, (kO w19 R18)) (0, 0) (fun z => ∃ (I21 : sm_I) (L22 : sm_L) (R23 : sm_R) (w24 : Nat), z = (none, (xLay, I21, L22, (kO w24 R23))) ∧ Φ (some (.int (I21 0 10)), (xLay, I21, L22, (kO w24 R23))))))))) ∧ (¬ ((I 0 10) + (20 : Int32)) ≤ (2000 : Int32) → Φ (some (.int (-1 : Int32)), (xLay, I, L, (kO q R)))))) : sm_wp sm_P S (d + 1) 42 0 [.ref 0, .int x1, .int x2, .int x3, .int x4, .int x5] [] (xLay, I, L, (kO q R)) (0, 0) Φ := sm_wp_step (⟨fun q31 => sm_cvO (((h).1 q31)) (fun I1 L2 R3 w4 q30 => sm_cvO (q30) (fun I6 L7 R8 w9 q29 => sm_cvO (q29) (fun I11 L12 R13 w14 q28 => sm_cvO (q28) (fun I16 L17 R18 w19 q27 => sm_cvO (q27) (fun I21 L22 R23 w24 q26 => q26))))), fun q31 => ((h).2 q31)⟩)
theorem o_X11_read_0 {S : sm_C} {d : Nat} {Φ : sm_Z → Prop} {I : sm_I} {L : sm_L} {R : sm_R} {q : Nat} (h : sm_wp sm_P S d 276 0 [.ref 2, .ref 1, .int (I 0 10)] [] (xLay, I, L, (kO q R)) (0, 0) (fun z => ∃ (r5 : Int32) (I1 : sm_I) (L2 : sm_L) (R3 : sm_R) (w4 : Nat), z = (some (.int r5), (xLay, I1, L2, (kO w4 R3))) ∧ ((r5 = 0 → ∀ I27 : sm_I, I27 = (sm_up (sm_up I1 0 10 (0 : Int32)) 0 11 (-1 : Int32)) → ((r5 = 0 → sm_wp sm_P S d 269 0 [.ref 2, .ref w4] [] (xLay, I27, L2, (kO w4 R3)) (0, 0) (fun z => ∃ (r32 : Nat) (I28 : sm_I) (L29 : sm_L) (R30 : sm_R) (w31 : Nat), z = (some (.ref r32), (xLay, I28, L29, (kO w31 R30))) ∧ sm_wp sm_P S d 245 0 [.ref 37] [] (xLay, I28, L29, (sm_up (kO w31 R30) 0 9 (some r32))) (0, 0) (fun z => ∃ (I33 : sm_I) (L34 : sm_L) (R35 : sm_R) (w36 : Nat), z = (none, (xLay, I33, L34, (kO w36 R35))) ∧ sm_wp sm_P S d 86 0 [.ref 0] [] (xLay, I33, L34, (kO w36 R35)) (0, 0) (fun z => ∃ (I38 : sm_I) (L39 : sm_L) (R40 : sm_R) (w41 : Nat), z = (none, (xLay, I38, L39, (kO w41 R40))) ∧ Φ (some (.int r5), (xLay, I38, L39, (kO w41 R40))))))) ∧ (¬ r5 = 0 → Φ (some (.int r5), (xLay, I27, L2, (kO w4 R3)))))) ∧ (¬ r5 = 0 → ∀ n6 : Int32, n6 = ((sm_up I1 0 10 (0 : Int32)) 2 11) → ∀ I7 : sm_I, I7 = (sm_up (sm_up I1 0 10 (0 : Int32)) 0 11 n6) → ((r5 = 0 → sm_wp sm_P S d 269 0 [.ref 2, .ref w4] [] (xLay, I7, L2, (kO w4 R3)) (0, 0) (fun z => ∃ (r12 : Nat) (I8 : sm_I) (L9 : sm_L) (R10 : sm_R) (w11 : Nat), z = (some (.ref r12), (xLay, I8, L9, (kO w11 R10))) ∧ sm_wp sm_P S d 245 0 [.ref 37] [] (xLay, I8, L9, (sm_up (kO w11 R10) 0 9 (some r12))) (0, 0) (fun z => ∃ (I13 : sm_I) (L14 : sm_L) (R15 : sm_R) (w16 : Nat), z = (none, (xLay, I13, L14, (kO w16 R15))) ∧ sm_wp sm_P S d 86 0 [.ref 0] [] (xLay, I13, L14, (kO w16 R15)) (0, 0) (fun z => ∃ (I18 : sm_I) (L19 : sm_L) (R20 : sm_R) (w21 : Nat), z = (none, (xLay, I18, L19, (kO w21 R20))) ∧ Φ (some (.int r5), (xLay, I18, L19, (kO w21 R20))))))) ∧ (¬ r5 = 0 → Φ (some (.int r5), (xLay, I7, L2, (kO w4 R3))))))))) : sm_wp sm_P S (d + 1) 80 0 [.ref 0] [] (xLay, I, L, (kO q R)) (0, 0) Φ := sm_wp_step (sm_ciO (h) (fun r5 I1 L2 R3 w4 q48 => ⟨fun q47 => ⟨fun q46 => sm_crO ((((((q48).1 q47) _ rfl)).1 q46)) (fun r32 I28 L29 R30 w31 q45 => sm_cvO (q45) (fun I33 L34 R35 w36 q44 => sm_cvO (q44) (fun I38 L39 R40 w41 q43 => q43))), fun q46 => (((((q48).1 q47) _ rfl)).2 q46)⟩, fun q47 => ⟨fun q26 => sm_crO (((((((q48).2 q47) _ rfl) _ rfl)).1 q26)) (fun r12 I8 L9 R10 w11 q25 => sm_cvO (q25) (fun I13 L14 R15 w16 q24 => sm_cvO (q24) (fun I18 L19 R20 w21 q23 => q23))), fun q26 => ((((((q48).2 q47) _ rfl) _ rfl)).2 q26)⟩⟩))
end
section
/-! the class's feed, back and read, exact in the tape's length -/
theorem kO_refs : ∀ j, j < 9 → (match kOl[j]? with
  | some q => decide (en_refs kl_tb 0 j = [q])
  | none => true) = true := by decide +kernel
theorem kO_ref9 : en_refs kl_tb 0 9 = [12, 49] := by decide +kernel
theorem kO_of {w : sm_W} (hm : en_mem kl_tb klX w) : ∃ q, (q = 12 ∨ q = 49) ∧ kO q w.2.2.2 = w.2.2.2 := by
  obtain ⟨q, h1, h2⟩ := hm.2.2.1 0 9 (by rw [kO_ref9]; exact List.cons_ne_nil _ _)
  rw [kO_ref9] at h1
  refine ⟨q, by simpa using h1, ?_⟩
  funext x j
  unfold kO
  cases e : Nat.beq x 0 with
  | false => rfl
  | true =>
    have e2 : x = 0 := Nat.eq_of_beq_eq_true e
    subst e2
    show (match kOl[j]? with
      | some p => some p
      | none => bif Nat.beq j 9 then some q else w.2.2.2 0 j) = w.2.2.2 0 j
    split
    · next p hp =>
      have hj : j < 9 := by
        have : j < kOl.length := by
          rcases Nat.lt_or_ge j kOl.length with h | h
          · exact h
          · rw [List.getElem?_eq_none h] at hp; cases hp
        exact this
      have r := kO_refs j hj
      rw [hp] at r
      have r : en_refs kl_tb 0 j = [p] := of_decide_eq_true r
      obtain ⟨a, g1, g2⟩ := hm.2.2.1 0 j (by rw [r]; exact List.cons_ne_nil _ _)
      rw [r] at g1
      rw [g2, List.mem_singleton.mp g1]
    · cases c : Nat.beq j 9 with
      | false => rfl
      | true =>
        have : j = 9 := Nat.eq_of_beq_eq_true c
        subst this
        exact h2.symm
theorem kx_wr {I : sm_I} {L : sm_L} {R : sm_R} {p j : Nat} {x : Int32} (hm : en_mem kl_tb klX (xLay, I, L, R)) (hf : en_fix kl_tb p j = false) (hq : ∀ q, en_int kl_tb p j = some q → q.1 ≤ x.toInt ∧ x.toInt ≤ q.2) : en_mem kl_tb klX (xLay, sm_up I p j x, L, R) := by
  refine ⟨hm.1, ?_, hm.2.2.1, hm.2.2.2.1, klX_ok.1 _ (I, L, R) _ _ _ hf hm.2.2.2.2⟩
  intro a b q h
  show q.1 ≤ (sm_up I p j x a b).toInt ∧ (sm_up I p j x a b).toInt ≤ q.2
  by_cases c : a = p ∧ b = j
  · obtain ⟨c1, c2⟩ := c
    subst c1; subst c2
    rw [en_up_eq]; exact hq q h
  · rw [en_up_ne _ _ _ _ c]; exact hm.2.1 a b q h
theorem kx_10 {I : sm_I} {L : sm_L} {R : sm_R} {x : Int32} (hm : en_mem kl_tb klX (xLay, I, L, R)) (hx : 0 ≤ x.toInt ∧ x.toInt ≤ 2000) : en_mem kl_tb klX (xLay, sm_up I 0 10 x, L, R) := kx_wr hm (by decide +kernel) (fun q hq => by
  rw [show en_int kl_tb 0 10 = some (0, 2000) from by decide +kernel] at hq
  rw [← Option.some.inj hq]; exact hx)
theorem kx_tape {I : sm_I} {L : sm_L} {R : sm_R} {j : Nat} {x : Int32} (hm : en_mem kl_tb klX (xLay, I, L, R)) : en_mem kl_tb klX (xLay, sm_up I 1 j (vp_nar .byte x), L, R) := kx_wr hm rfl (fun q hq => by
  have e : en_int kl_tb 1 j = bif Nat.blt j 2000 then some (-128, 127) else none := rfl
  rw [e] at hq
  cases c : Nat.blt j 2000 with
  | true => rw [c] at hq; rw [← Option.some.inj hq]; exact ml_byte x
  | false => rw [c] at hq; cases hq)
theorem kx_len {I : sm_I} {L : sm_L} {R : sm_R} (hm : en_mem kl_tb klX (xLay, I, L, R)) : 0 ≤ (I 0 10).toInt ∧ (I 0 10).toInt ≤ 2000 := hm.2.1 0 10 (0, 2000) (by decide +kernel)
theorem kx_back {S : sm_C} {d : Nat} {Φ : sm_Z → Prop} {I : sm_I} {L : sm_L} {R : sm_R} {x : Int32} (hm : en_mem kl_tb klX (xLay, I, L, R)) (h0 : (x.toInt < 0 ∨ (I 0 10).toInt < x.toInt) → Φ (some (.int (-1)), (xLay, I, L, R))) (h1 : ∀ I' : sm_I, 0 ≤ x.toInt → x.toInt ≤ (I 0 10).toInt → I' = sm_up I 0 10 (I 0 10 - x) → en_mem kl_tb klX (xLay, I', L, R) → Φ (some (.int (I 0 10 - x)), (xLay, I', L, R))) : sm_wp sm_P S d 30 0 [.ref 0, .int x] [] (xLay, I, L, R) (0, 0) Φ := by
  have b := kx_len hm
  refine k0_back_0 ⟨fun a => ?_, fun a => ⟨fun c I1 e1 => ?_, fun c => ?_⟩⟩
  · rw [kl_lt, kl_0] at a; exact h0 (Or.inl a)
  · have a := kl_nlt0 a
    have c := kl_le.mp c
    have s : (I 0 10 - x).toInt = (I 0 10).toInt - x.toInt := by
      rw [Int32.toInt_sub]; exact en_bmod (by omega) (by omega) (Or.inl rfl)
    have g : I1 0 10 = I 0 10 - x := by rw [e1, en_up_eq]
    rw [g]
    refine h1 I1 a c e1 ?_
    rw [e1]
    exact kx_10 hm (by omega)
  · exact h0 (Or.inr (kl_nle c))
/-! calls by contract, with told's reference -/
theorem kx_ci {S : sm_C} {d : Nat} {c : en_Ct} {vs : List Value} {I : sm_I} {L : sm_L} {R : sm_R} {lo hi : Int} {C : Int32 → sm_I → sm_L → sm_R → Nat → Prop} (h : en_hold kl_tb klX sm_P S c) (hd : c.2.2.2.2.2 ≤ d) (hv : en_pvs c.2.1 vs) (hm : en_mem kl_tb klX (xLay, I, L, R)) (hp : en_pf c.2.2.1 (xLay, I, L, R)) (hr : c.2.2.2.1 = (0, lo, hi)) (k : ∀ (r : Int32) (I' : sm_I) (L' : sm_L) (R' : sm_R) (q : Nat), en_mem kl_tb klX (xLay, I', L', R') → (q = 12 ∨ q = 49) → kO q R' = R' → en_fr c.2.2.2.2.1 (xLay, I, L, R) (xLay, I', L', R') → C r I' L' R' q) : sm_wp sm_P S d c.1 0 vs [] (xLay, I, L, R) (0, 0) (fun z => ∃ (r : Int32) (I2 : sm_I) (L2 : sm_L) (R2 : sm_R) (q2 : Nat), z = (some (.int r), (xLay, I2, L2, kO q2 R2)) ∧ C r I2 L2 R2 q2) := by
  refine sm_wp_mono (h d hd vs _ hv hm hp) (fun z q => ?_)
  obtain ⟨o, lay, I2, L2, R2⟩ := z
  obtain ⟨q1, q2, q3⟩ := q
  obtain rfl : lay = xLay := q2.2.2.2.2.1
  obtain ⟨q, hq, e⟩ := kO_of q2
  have e : kO q R2 = R2 := e
  rw [hr] at q1
  have q1 : en_pr (0, lo, hi) o := q1
  cases o with
  | none => have q1 : (0 : Nat) = 9 := q1; omega
  | some v =>
    rcases q1 with q1 | ⟨q1, -⟩
    · cases v with
      | int r => exact ⟨r, I2, L2, R2, q, by rw [e], k r I2 L2 R2 q q2 hq e q3⟩
      | long _ => have q1 : (0 : Nat) = 5 := q1; omega
      | null => have q1 : (0 : Nat) = 1 := q1; omega
      | ref p => have q1 : (0 : Nat) = 2 := q1.1; omega
      | float _ => exact q1.elim
      | double _ => exact q1.elim
      | retAddr _ => exact q1.elim
    · have q1 : (0 : Nat) = 3 := q1
      omega
theorem kx_cv {S : sm_C} {d : Nat} {c : en_Ct} {vs : List Value} {I : sm_I} {L : sm_L} {R : sm_R} {C : sm_I → sm_L → sm_R → Nat → Prop} (h : en_hold kl_tb klX sm_P S c) (hd : c.2.2.2.2.2 ≤ d) (hv : en_pvs c.2.1 vs) (hm : en_mem kl_tb klX (xLay, I, L, R)) (hp : en_pf c.2.2.1 (xLay, I, L, R)) (hr : c.2.2.2.1 = (9, 0, 0)) (k : ∀ (I' : sm_I) (L' : sm_L) (R' : sm_R) (q : Nat), en_mem kl_tb klX (xLay, I', L', R') → kO q R' = R' → en_fr c.2.2.2.2.1 (xLay, I, L, R) (xLay, I', L', R') → C I' L' R' q) : sm_wp sm_P S d c.1 0 vs [] (xLay, I, L, R) (0, 0) (fun z => ∃ (I2 : sm_I) (L2 : sm_L) (R2 : sm_R) (q2 : Nat), z = (none, (xLay, I2, L2, kO q2 R2)) ∧ C I2 L2 R2 q2) := by
  refine sm_wp_mono (h d hd vs _ hv hm hp) (fun z q => ?_)
  obtain ⟨o, lay, I2, L2, R2⟩ := z
  obtain ⟨q1, q2, q3⟩ := q
  obtain rfl : lay = xLay := q2.2.2.2.2.1
  obtain ⟨q, hq, e⟩ := kO_of q2
  have e : kO q R2 = R2 := e
  rw [hr] at q1
  have q1 : en_pr (9, 0, 0) o := q1
  cases o with
  | none => exact ⟨I2, L2, R2, q, by rw [e], k I2 L2 R2 q q2 e q3⟩
  | some v =>
    rcases q1 with q1 | ⟨q1, -⟩
    · cases v with
      | int r => have q1 : (9 : Nat) = 0 := q1.1; omega
      | long _ => have q1 : (9 : Nat) = 5 := q1; omega
      | null => have q1 : (9 : Nat) = 1 := q1; omega
      | ref p => have q1 : (9 : Nat) = 2 := q1.1; omega
      | float _ => exact q1.elim
      | double _ => exact q1.elim
      | retAddr _ => exact q1.elim
    · have q1 : (9 : Nat) = 3 := q1
      omega
theorem kx_cr {S : sm_C} {d : Nat} {c : en_Ct} {vs : List Value} {I : sm_I} {L : sm_L} {R : sm_R} {C : Nat → sm_I → sm_L → sm_R → Nat → Prop} (h : en_hold kl_tb klX sm_P S c) (hd : c.2.2.2.2.2 ≤ d) (hv : en_pvs c.2.1 vs) (hm : en_mem kl_tb klX (xLay, I, L, R)) (hp : en_pf c.2.2.1 (xLay, I, L, R)) (hr : c.2.2.2.1 = (3, 12, 49)) (k : ∀ (r : Nat) (I' : sm_I) (L' : sm_L) (R' : sm_R) (q : Nat), (r = 12 ∨ r = 49) → en_mem kl_tb klX (xLay, I', L', R') → kO q R' = R' → en_fr c.2.2.2.2.1 (xLay, I, L, R) (xLay, I', L', R') → C r I' L' R' q) : sm_wp sm_P S d c.1 0 vs [] (xLay, I, L, R) (0, 0) (fun z => ∃ (r : Nat) (I2 : sm_I) (L2 : sm_L) (R2 : sm_R) (q2 : Nat), z = (some (.ref r), (xLay, I2, L2, kO q2 R2)) ∧ C r I2 L2 R2 q2) := by
  refine sm_wp_mono (h d hd vs _ hv hm hp) (fun z q => ?_)
  obtain ⟨o, lay, I2, L2, R2⟩ := z
  obtain ⟨q1, q2, q3⟩ := q
  obtain rfl : lay = xLay := q2.2.2.2.2.1
  obtain ⟨q, hq, e⟩ := kO_of q2
  have e : kO q R2 = R2 := e
  rw [hr] at q1
  have q1 : en_pr (3, 12, 49) o := q1
  cases o with
  | none => have q1 : (3 : Nat) = 9 := q1; omega
  | some v =>
    rcases q1 with q1 | ⟨-, q1 | q1⟩
    · cases v with
      | int r => have q1 : (3 : Nat) = 0 := q1.1; omega
      | long _ => have q1 : (3 : Nat) = 5 := q1; omega
      | null => have q1 : (3 : Nat) = 1 := q1; omega
      | ref p => have q1 : (3 : Nat) = 2 := q1.1; omega
      | float _ => exact q1.elim
      | double _ => exact q1.elim
      | retAddr _ => exact q1.elim
    · obtain ⟨p, rfl, ep⟩ := q1
      have ep : (12 : Int) = (p : Int) := ep
      exact ⟨p, I2, L2, R2, q, by rw [e], k p I2 L2 R2 q (Or.inl (by omega)) q2 e q3⟩
    · obtain ⟨p, rfl, ep⟩ := q1
      have ep : (49 : Int) = (p : Int) := ep
      exact ⟨p, I2, L2, R2, q, by rw [e], k p I2 L2 R2 q (Or.inr (by omega)) q2 e q3⟩
theorem kx_told {I : sm_I} {L : sm_L} {R : sm_R} {r : Nat} (hm : en_mem kl_tb klX (xLay, I, L, R)) (hr : r = 12 ∨ r = 49) : en_mem kl_tb klX (xLay, I, L, sm_up R 0 9 (some r)) := by
  refine ⟨hm.1, hm.2.1, fun p j hq => ?_, hm.2.2.2.1, klX_ok.2.1 _ (I, L, R) 0 9 (some r) (by decide +kernel) hm.2.2.2.2⟩
  show ∃ s, s ∈ en_refs kl_tb p j ∧ sm_up R 0 9 (some r) p j = some s
  by_cases c : p = 0 ∧ j = 9
  · obtain ⟨c1, c2⟩ := c
    subst c1; subst c2
    refine ⟨r, ?_, en_up_eq _ _ _ _⟩
    rw [kO_ref9]
    rcases hr with e | e <;> subst e <;> decide
  · rw [en_up_ne _ _ _ _ c]; exact hm.2.2.1 p j hq
theorem kx_frR {W : en_W} {w0 : sm_W} {I : sm_I} {L : sm_L} {R : sm_R} {p j : Nat} {x : Option Nat} (h : en_fr W w0 (xLay, I, L, R)) (hw : en_wok W p j = true) : en_fr W w0 (xLay, I, L, sm_up R p j x) := by
  refine ⟨h.1, fun a b hab => ⟨(h.2 a b hab).1, ?_⟩⟩
  show sm_up R p j x a b = w0.2.2.2 a b
  rw [en_up_ne _ _ _ _ (fun c => by rw [c.1, c.2, hw] at hab; cases hab)]
  exact (h.2 a b hab).2
def kx_RW : en_W := klc_271.2.2.2.2.1
end
section
/-! both tapes hold the same bytes -/
theorem pt_b0 (x : BitVec 32) (k : Nat) (hk : k ≤ 24) : (x.sshiftRight k).signExtend 8 = (x >>> k).signExtend 8 := by
  apply BitVec.eq_of_getLsbD_eq
  intro i hi
  rw [BitVec.getLsbD_signExtend, BitVec.getLsbD_signExtend, BitVec.getLsbD_sshiftRight, BitVec.getLsbD_ushiftRight]
  have h1 : i < 32 := by omega
  have h2 : ¬ 32 ≤ i := by omega
  have h3 : k + i < 32 := by omega
  simp [hi, h1, h2, h3]
theorem pt_by (x k : Int32) (hk : k = 24 ∨ k = 16 ∨ k = 8 ∨ k = 0) : (((x).toUInt32 >>> ((k).toUInt32 &&& Int32.toUInt32 31)).toInt32).toInt8.toInt32 = ((x >>> (k &&& 31))).toInt8.toInt32 := by
  have key : ∀ n : Nat, n ≤ 24 → ∀ y z : Int32, y.toBitVec = x.toBitVec >>> n → z.toBitVec = x.toBitVec.sshiftRight n → y.toInt8.toInt32 = z.toInt8.toInt32 := by
    intro n hn y z hy hz
    have : y.toInt8 = z.toInt8 := by
      apply Int8.toBitVec_inj.mp
      rw [Int32.toBitVec_toInt8, Int32.toBitVec_toInt8, hy, hz, pt_b0 _ _ hn]
    rw [this]
  rcases hk with e | e | e | e <;> subst e
  · exact key 24 (by decide) _ _ rfl rfl
  · exact key 16 (by decide) _ _ rfl rfl
  · exact key 8 (by decide) _ _ rfl rfl
  · exact key 0 (by decide) _ _ rfl rfl
/-! four bytes, as both sides write them -/
def pt_sh : Nat → Int32
  | 0 => 0
  | 1 => 8
  | 2 => 16
  | _ => 24
def pt_c (x : Int32) (m : Nat) : Int32 := vp_nar .byte (((x).toUInt32 >>> ((pt_sh m).toUInt32 &&& Int32.toUInt32 31)).toInt32).toInt8.toInt32
theorem pt_c_m (x : Int32) (m : Nat) : vp_nar .byte ((x >>> (pt_sh m &&& 31))).toInt8.toInt32 = pt_c x m := by
  unfold pt_c
  rw [pt_by x (pt_sh m) (by
    match m with
    | 0 => exact Or.inr (Or.inr (Or.inr rfl))
    | 1 => exact Or.inr (Or.inr (Or.inl rfl))
    | 2 => exact Or.inr (Or.inl rfl)
    | _ + 3 => exact Or.inl rfl)]
theorem pt_sh_of {x : Int32} {k : Nat} (hk : k ≤ 3) (h : x.toInt = 8 * (k : Int)) : x = pt_sh k := by
  apply en_ofI
  rw [h]
  have : k = 0 ∨ k = 1 ∨ k = 2 ∨ k = 3 := by omega
  rcases this with e | e | e | e <;> subst e <;> decide
/-- k bytes of x, from n on; the last is the lowest -/
def pt_w (x : Int32) (k : Nat) (n : Int) (r : Nat → Int32) (j : Nat) : Int32 := if n ≤ (j : Int) ∧ (j : Int) < n + k then pt_c x (k - 1 - ((j : Int) - n).toNat) else r j
theorem pt_w_eq {x : Int32} {k : Nat} {n : Int} {r s : Nat → Int32} (h : ∀ j : Nat, (j : Int) < n → r j = s j) (j : Nat) (hj : (j : Int) < n + k) : pt_w x k n r j = pt_w x k n s j := by
  unfold pt_w
  by_cases c : n ≤ (j : Int) ∧ (j : Int) < n + k
  · rw [if_pos c, if_pos c]
  · rw [if_neg c, if_neg c]; exact h j (by omega)
theorem pt_w_0 {x : Int32} {n : Int} {r : Nat → Int32} (j : Nat) : pt_w x 0 n r j = r j := by
  unfold pt_w
  rw [if_neg (by omega)]
theorem pt_w_s {x : Int32} {k : Nat} {n : Int} {r s : Nat → Int32} {m : Nat} (hm : (m : Int) = n) (h : ∀ j, j ≠ m → s j = r j) (h2 : s m = pt_c x k) (j : Nat) : pt_w x k (n + 1) s j = pt_w x (k + 1) n r j := by
  unfold pt_w
  by_cases c : n + 1 ≤ (j : Int) ∧ (j : Int) < n + 1 + k
  · rw [if_pos c, if_pos (by omega), show k - 1 - ((j : Int) - (n + 1)).toNat = k + 1 - 1 - ((j : Int) - n).toNat by omega]
  · rw [if_neg c]
    by_cases e : j = m
    · subst e
      rw [if_pos (by omega), h2, show k + 1 - 1 - ((j : Int) - n).toNat = k by omega]
    · rw [if_neg (by omega), h j e]
/-- five ints -/
def pt_f (x1 x2 x3 x4 x5 : Int32) (n : Int) (r : Nat → Int32) : Nat → Int32 := pt_w x5 4 (n + 16) (pt_w x4 4 (n + 12) (pt_w x3 4 (n + 8) (pt_w x2 4 (n + 4) (pt_w x1 4 n r))))
theorem pt_f_eq {x1 x2 x3 x4 x5 : Int32} {n : Int} {r s : Nat → Int32} (h : ∀ j : Nat, (j : Int) < n → r j = s j) (j : Nat) (hj : (j : Int) < n + 20) : pt_f x1 x2 x3 x4 x5 n r j = pt_f x1 x2 x3 x4 x5 n s j := by
  refine pt_w_eq (fun j hj => ?_) j (by omega)
  refine pt_w_eq (fun j hj => ?_) j (by omega)
  refine pt_w_eq (fun j hj => ?_) j (by omega)
  refine pt_w_eq (fun j hj => ?_) j (by omega)
  exact pt_w_eq h j (by omega)
theorem kp_put {S : sm_C} {d q : Nat} {Φ : sm_Z → Prop} {w0 : sm_W} {L : sm_L} {R : sm_R} {x1 : Int32} (n : Int) (hn : n ≤ 2000) (eR : kO q R = R) : ∀ (k : Nat) (I : sm_I) (x2 : Int32), (k ≤ 4 ∧ x2.toInt = 8 * k - 8) → en_mem kl_tb klX (xLay, I, L, R) → (I 0 10).toInt + k = n → en_fr [(0, [10]), (1, [])] w0 (xLay, I, L, R) → (∀ I' : sm_I, en_mem kl_tb klX (xLay, I', L, R) → (I' 0 10).toInt = n → en_fr [(0, [10]), (1, [])] w0 (xLay, I', L, R) → (∀ j, I' 1 j = pt_w x1 k (I 0 10).toInt (I 1) j) → Φ (none, (xLay, I', L, kO q R))) → sm_wp sm_P S d 77 1 [.ref 0, .int x1, .int x2] [] (xLay, I, L, kO q R) (0, 0) Φ := by
  intro k
  induction k with
  | zero =>
    intro I x2 hx hm hi hf h
    refine o_X11_putFour_1 ⟨fun _ => h I hm (by omega) hf (fun j => (pt_w_0 j).symm), fun a => ?_⟩
    have := kl_nlt0 a
    omega
  | succ k ih =>
    intro I x2 hx hm hi hf h
    have b : 0 ≤ (I 0 10).toInt ∧ (I 0 10).toInt ≤ 2000 := kx_len hm
    have c2k : (2000 : Int32).toInt = 2000 := by decide
    have hs : x2 = pt_sh k := pt_sh_of (by omega) (by omega)
    refine o_X11_putFour_1 ⟨fun a => ?_, fun _ => ⟨fun c => ?_, fun c n1 en1 => ⟨?_, fun I2 e2 I3 e3 => ?_⟩⟩⟩
    · rw [kl_lt, kl_0] at a; omega
    · have c := kl_le.mp c
      rw [c2k] at c
      omega
    · exact kl_in b.1 (by omega)
    · skip
      have m8 : (-8 : Int32).toInt = -8 := by decide
      obtain ⟨y, hy, s⟩ : ∃ y, y = x2 + (-8 : Int32) ∧ y.toInt = x2.toInt - 8 := ⟨_, rfl, by rw [kl_add (by rw [m8]; omega) (by rw [m8]; omega), m8]; omega⟩
      rw [← hy]
      clear m8
      have hm2 : en_mem kl_tb klX (xLay, I2, L, R) := by rw [e2]; exact kx_tape hm
      have g2 : I2 0 10 = I 0 10 := by rw [e2, en_up_ne _ _ _ _ (fun c => absurd c.1 (by decide))]
      have s1 : (I 0 10 + 1).toInt = (I 0 10).toInt + 1 := ml_in1 (by omega)
      have hm3 : en_mem kl_tb klX (xLay, I3, L, R) := by
        rw [e3, g2]
        exact kx_10 hm2 (by omega)
      have g3 : I3 0 10 = I 0 10 + 1 := by rw [e3, g2, en_up_eq]
      have nn := kl_nat b.1
      refine ih I3 y ⟨by omega, by omega⟩ hm3 (by rw [g3]; omega) ?_ (fun I' a1 a2 a3 a4 => h I' a1 a2 a3 (fun j => ?_))
      · rw [e3]
        refine ml_fr ?_ (by decide)
        rw [e2]
        exact ml_fr hf rfl
      · rw [a4 j, g3, s1]
        refine pt_w_s (m := (I 0 10).toNatClampNeg) nn (fun j hj => ?_) ?_ j
        · rw [e3, en_up_ne _ _ _ _ (fun c => absurd c.1 (by decide)), e2, en_up_ne _ _ _ _ (fun c => hj c.2)]
        · rw [e3, en_up_ne _ _ _ _ (fun c => absurd c.1 (by decide)), e2, en_up_eq, en1, hs]; rfl
theorem kp_feed {S : sm_C} {d : Nat} {Φ : sm_Z → Prop} {I : sm_I} {L : sm_L} {R : sm_R} {x1 x2 x3 x4 x5 : Int32} (hm : en_mem kl_tb klX (xLay, I, L, R)) (h0 : 1980 < (I 0 10).toInt → Φ (some (.int (-1)), (xLay, I, L, R))) (h1 : ∀ I' : sm_I, (I 0 10).toInt ≤ 1980 → en_mem kl_tb klX (xLay, I', L, R) → (I' 0 10).toInt = (I 0 10).toInt + 20 → en_fr [(0, [10]), (1, [])] (xLay, I, L, R) (xLay, I', L, R) → (∀ j, I' 1 j = pt_f x1 x2 x3 x4 x5 (I 0 10).toInt (I 1) j) → Φ (some (.int (I' 0 10)), (xLay, I', L, R))) : sm_wp sm_P S (d + 1) 42 0 [.ref 0, .int x1, .int x2, .int x3, .int x4, .int x5] [] (xLay, I, L, R) (0, 0) Φ := by
  obtain ⟨q, -, e⟩ := kO_of hm
  have e : kO q R = R := e
  have b : 0 ≤ (I 0 10).toInt ∧ (I 0 10).toInt ≤ 2000 := kx_len hm
  have c20 : (20 : Int32).toInt = 20 := by decide
  have c24 : (24 : Int32).toInt = 8 * (4 : Nat) - 8 := by decide
  have c2k : (2000 : Int32).toInt = 2000 := by decide
  have s : (I 0 10 + 20).toInt = (I 0 10).toInt + 20 := by rw [kl_add (by rw [c20]; omega) (by rw [c20]; omega), c20]
  rw [← e]
  refine o_X11_feed_0 ⟨fun a => ?_, fun a => ?_⟩
  · have a := kl_le.mp a
    rw [s, c2k] at a
    have p0 : ∀ {x : Int32} {Φ : sm_Z → Prop} {I1 : sm_I}, en_mem kl_tb klX (xLay, I1, L, R) → (I1 0 10).toInt ≤ 1996 → en_fr [(0, [10]), (1, [])] (xLay, I, L, R) (xLay, I1, L, R) → (∀ I2 : sm_I, en_mem kl_tb klX (xLay, I2, L, R) → (I2 0 10).toInt = (I1 0 10).toInt + 4 → en_fr [(0, [10]), (1, [])] (xLay, I, L, R) (xLay, I2, L, R) → (I2 1 = pt_w x 4 (I1 0 10).toInt (I1 1)) → Φ (none, (xLay, I2, L, kO q R))) → sm_wp sm_P S d 77 0 [.ref 0, .int x] [] (xLay, I1, L, kO q R) (0, 0) Φ := by
      intro x Φ I1 m1 n1 f1 k1
      refine o_X11_putFour_0 ?_
      exact kp_put ((I1 0 10).toInt + 4) (by omega) e 4 I1 24 ⟨by decide, c24⟩ m1 (by omega) f1 (fun I' a1 a2 a3 a4 => k1 I' a1 a2 a3 (funext a4))
    refine p0 hm (by omega) en_fr_rf (fun I1 m1 t1 f1 r1 => ⟨I1, L, R, q, rfl, ?_⟩)
    refine p0 m1 (by omega) f1 (fun I2 m2 t2 f2 r2 => ⟨I2, L, R, q, rfl, ?_⟩)
    refine p0 m2 (by omega) f2 (fun I3 m3 t3 f3 r3 => ⟨I3, L, R, q, rfl, ?_⟩)
    refine p0 m3 (by omega) f3 (fun I4 m4 t4 f4 r4 => ⟨I4, L, R, q, rfl, ?_⟩)
    refine p0 m4 (by omega) f4 (fun I5 m5 t5 f5 r5 => ⟨I5, L, R, q, rfl, ?_⟩)
    rw [e]
    refine h1 I5 (by omega) m5 (by omega) f5 (fun j => ?_)
    rw [r5, r4, r3, r2, r1]
    unfold pt_f
    rw [show (I4 0 10).toInt = (I 0 10).toInt + 16 by omega, show (I3 0 10).toInt = (I 0 10).toInt + 12 by omega, show (I2 0 10).toInt = (I 0 10).toInt + 8 by omega, show (I1 0 10).toInt = (I 0 10).toInt + 4 by omega]
  · have a := kl_nle a
    rw [s, c2k] at a
    rw [e]
    exact h0 (by omega)
theorem mp_put {S : sm_C} {d : Nat} {Φ : sm_Z → Prop} {w0 : sm_W} {L : sm_L} {R : sm_R} {x1 : Int32} (n : Int) (hn : n ≤ 2000) (eR : kM R = R) : ∀ (k : Nat) (I : sm_I) (x2 : Int32), (k ≤ 4 ∧ x2.toInt = 8 * k - 8) → en_mem ml_tb mlX (xLay, I, L, R) → (I 107 2).toInt + k = n → en_fr [(107, [2]), (108, [])] w0 (xLay, I, L, R) → (∀ I' : sm_I, en_mem ml_tb mlX (xLay, I', L, R) → (I' 107 2).toInt = n → en_fr [(107, [2]), (108, [])] w0 (xLay, I', L, R) → (∀ j, I' 108 j = pt_w x1 k (I 107 2).toInt (I 108) j) → Φ (none, (xLay, I', L, kM R))) → sm_wp sm_P S d 179 1 [.ref 107, .int x1, .int x2] [] (xLay, I, L, kM R) (0, 0) Φ := by
  intro k
  induction k with
  | zero =>
    intro I x2 hx hm hi hf h
    refine v_X12_put_1 ⟨fun _ => h I hm (by omega) hf (fun j => (pt_w_0 j).symm), fun a => ?_⟩
    have := kl_nlt0 a
    omega
  | succ k ih =>
    intro I x2 hx hm hi hf h
    have b : 0 ≤ (I 107 2).toInt ∧ (I 107 2).toInt ≤ 2000 := ml_taped hm
    have c2k : (2000 : Int32).toInt = 2000 := by decide
    have hs : x2 = pt_sh k := pt_sh_of (by omega) (by omega)
    refine v_X12_put_1 ⟨fun a => ?_, fun a n1 en1 => ⟨kl_in b.1 (by omega), fun I2 e2 I3 e3 => ?_⟩⟩
    · rw [kl_lt, kl_0] at a; omega
    · skip
      have m8 : (-8 : Int32).toInt = -8 := by decide
      obtain ⟨y, hy, s⟩ : ∃ y, y = x2 + (-8 : Int32) ∧ y.toInt = x2.toInt - 8 := ⟨_, rfl, by rw [kl_add (by rw [m8]; omega) (by rw [m8]; omega), m8]; omega⟩
      rw [← hy]
      clear m8
      have hm2 : en_mem ml_tb mlX (xLay, I2, L, R) := by rw [e2]; exact ml_we hm (mlX_ok.1 _ (I, L, R) _ _ _ rfl hm.2.2.2.2) (n := 2000) (q := (-128, 127)) rfl (ml_byte n1)
      have g2 : I2 107 2 = I 107 2 := by rw [e2, en_up_ne _ _ _ _ (fun c => absurd c.1 (by decide))]
      have s1 : (I 107 2 + 1).toInt = (I 107 2).toInt + 1 := ml_in1 (by omega)
      have hm3 : en_mem ml_tb mlX (xLay, I3, L, R) := by
        rw [e3, g2]
        exact ml_wf hm2 (by decide +kernel) (q := (0, 2000)) (by decide +kernel) (by show 0 ≤ _ ∧ _ ≤ (2000 : Int); omega)
      have g3 : I3 107 2 = I 107 2 + 1 := by rw [e3, g2, en_up_eq]
      have nn := kl_nat b.1
      refine ih I3 y ⟨by omega, by omega⟩ hm3 (by rw [g3]; omega) ?_ (fun I' a1 a2 a3 a4 => h I' a1 a2 a3 (fun j => ?_))
      · rw [e3]
        refine ml_fr ?_ (by decide)
        rw [e2]
        exact ml_fr hf rfl
      · rw [a4 j, g3, s1]
        refine pt_w_s (m := (I 107 2).toNatClampNeg) nn (fun j hj => ?_) ?_ j
        · rw [e3, en_up_ne _ _ _ _ (fun c => absurd c.1 (by decide)), e2, en_up_ne _ _ _ _ (fun c => hj c.2)]
        · rw [e3, en_up_ne _ _ _ _ (fun c => absurd c.1 (by decide)), e2, en_up_eq, en1, hs]; exact pt_c_m x1 k
theorem mp_feed {S : sm_C} {d : Nat} {Φ : sm_Z → Prop} {I : sm_I} {L : sm_L} {R : sm_R} {x1 x2 x3 x4 x5 : Int32} (hm : en_mem ml_tb mlX (xLay, I, L, R)) (h0 : 1980 < (I 107 2).toInt → Φ (some (.int (-1)), (xLay, I, L, R))) (h1 : ∀ I' : sm_I, (I 107 2).toInt ≤ 1980 → en_mem ml_tb mlX (xLay, I', L, R) → (I' 107 2).toInt = (I 107 2).toInt + 20 → en_fr [(107, [2]), (108, [])] (xLay, I, L, R) (xLay, I', L, R) → (∀ j, I' 108 j = pt_f x1 x2 x3 x4 x5 (I 107 2).toInt (I 108) j) → Φ (some (.int (I' 107 2)), (xLay, I', L, R))) : sm_wp sm_P S (d + 1) 124 0 [.ref 107, .int x1, .int x2, .int x3, .int x4, .int x5] [] (xLay, I, L, R) (0, 0) Φ := by
  have e : kM R = R := ml_R hm
  have b : 0 ≤ (I 107 2).toInt ∧ (I 107 2).toInt ≤ 2000 := ml_taped hm
  have c20 : (20 : Int32).toInt = 20 := by decide
  have c24 : (24 : Int32).toInt = 8 * (4 : Nat) - 8 := by decide
  have c2k : (2000 : Int32).toInt = 2000 := by decide
  have s : (I 107 2 + 20).toInt = (I 107 2).toInt + 20 := by rw [kl_add (by rw [c20]; omega) (by rw [c20]; omega), c20]
  rw [← e]
  refine v_X12_feed_0 ⟨fun a => ?_, fun a => ?_⟩
  · have a := kl_le.mp a
    rw [s, c2k] at a
    have p0 : ∀ {x : Int32} {Φ : sm_Z → Prop} {I1 : sm_I}, en_mem ml_tb mlX (xLay, I1, L, R) → (I1 107 2).toInt ≤ 1996 → en_fr [(107, [2]), (108, [])] (xLay, I, L, R) (xLay, I1, L, R) → (∀ I2 : sm_I, en_mem ml_tb mlX (xLay, I2, L, R) → (I2 107 2).toInt = (I1 107 2).toInt + 4 → en_fr [(107, [2]), (108, [])] (xLay, I, L, R) (xLay, I2, L, R) → (I2 108 = pt_w x 4 (I1 107 2).toInt (I1 108)) → Φ (none, (xLay, I2, L, kM R))) → sm_wp sm_P S d 179 0 [.ref 107, .int x] [] (xLay, I1, L, kM R) (0, 0) Φ := by
      intro x Φ I1 m1 n1 f1 k1
      refine v_X12_put_0 ?_
      exact mp_put ((I1 107 2).toInt + 4) (by omega) e 4 I1 24 ⟨by decide, c24⟩ m1 (by omega) f1 (fun I' a1 a2 a3 a4 => k1 I' a1 a2 a3 (funext a4))
    refine p0 hm (by omega) en_fr_rf (fun I1 m1 t1 f1 r1 => ⟨I1, L, rfl, ?_⟩)
    refine p0 m1 (by omega) f1 (fun I2 m2 t2 f2 r2 => ⟨I2, L, rfl, ?_⟩)
    refine p0 m2 (by omega) f2 (fun I3 m3 t3 f3 r3 => ⟨I3, L, rfl, ?_⟩)
    refine p0 m3 (by omega) f3 (fun I4 m4 t4 f4 r4 => ⟨I4, L, rfl, ?_⟩)
    refine p0 m4 (by omega) f4 (fun I5 m5 t5 f5 r5 => ⟨I5, L, rfl, ?_⟩)
    rw [e]
    refine h1 I5 (by omega) m5 (by omega) f5 (fun j => ?_)
    rw [r5, r4, r3, r2, r1]
    unfold pt_f
    rw [show (I4 107 2).toInt = (I 107 2).toInt + 16 by omega, show (I3 107 2).toInt = (I 107 2).toInt + 12 by omega, show (I2 107 2).toInt = (I 107 2).toInt + 8 by omega, show (I1 107 2).toInt = (I 107 2).toInt + 4 by omega]
  · have a := kl_nle a
    rw [s, c2k] at a
    rw [e]
    exact h0 (by omega)
end
