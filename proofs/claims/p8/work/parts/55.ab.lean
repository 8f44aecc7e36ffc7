/-! blocks and methods over intervals -/
abbrev ab_K : Type := Option ab_V → ab_M → ab_E → Bool
abbrev ab_R : Type := Nat → Nat → Nat → List ab_V → List ab_V → ab_M → ab_E → Nat × Nat → ab_K → Bool
abbrev ab_J : Type := Nat → ab_L → List ab_V → ab_M → ab_E → Nat × Nat → Bool
noncomputable def ab_fl (l : List ab_V) : (List ab_V → Bool) → Bool := List.rec (motive := fun _ => (List ab_V → Bool) → Bool) (fun c => c []) (fun a _ ih c => ih (fun r => c (a :: r))) l
theorem ab_fl_eq : ∀ (l : List ab_V) (c : List ab_V → Bool), ab_fl l c = c l
  | [], _ => rfl
  | a :: r, c => by show ab_fl r (fun r => c (a :: r)) = _; rw [ab_fl_eq r]
noncomputable def ab_ol (r : Option ab_V) (st : List ab_V) : List ab_V := match r with
  | none => st
  | some a => a :: st
def ab_or' (xs : Nat → Int32) : Option ab_V → Option Value → Prop
  | none, none => True
  | some a, some v => ab_g xs a v
  | _, _ => False
noncomputable def ab_rc1 (ci : Nat) (M : ab_M) (l : List ab_V) : Bool := List.rec (motive := fun _ => Bool) false (fun b _ _ => ab_rf b (fun p => ab_cell M p (fun kd c _ => ab_an (Nat.beq kd 0) (Nat.beq c ci)))) l
noncomputable def ab_rc (inst ci : Nat) (M : ab_M) (st : List ab_V) (n : Nat) : Bool := ab_if (Nat.beq inst 0) (true) (ab_rc1 ci M (st.drop n))
noncomputable def ab_inv (rc : List ab_V → ab_K → Bool) (n nL mc ms : Nat) (rb : Bool) (st : List ab_V) (cs lim : Nat × Nat) (k : List ab_V → ab_M → ab_E → Nat × Nat → Bool) : Bool :=
  ab_if (ab_an (rb) ((ab_an (Nat.ble n st.length) ((ab_an (Nat.ble (Nat.add cs.1 mc) lim.1) (Nat.ble (Nat.add cs.2 ms) lim.2)))))) (ab_fl (st.take n).reverse (fun as => ab_fl (st.drop n) (fun rest => ab_if (ab_an (Nat.ble (ab_slots as) nL) (Nat.ble (ab_sum rest) 8)) (rc as (fun r M E => ab_fn (Nat.add cs.1 mc) (fun c1 => ab_fn (Nat.add cs.2 ms) (fun c2 => k (ab_ol r rest) M E (c1, c2))))) (false)))) (false)
noncomputable def ab_else (L : Nat) (P : Nat → sm_M) (rec : ab_R) (d : Nat) (Mt : sm_M) (i : Instr) (ops : List Nat) (lv : ab_L) (st : List ab_V) (M : ab_M) (E : ab_E) (cs : Nat × Nat) (k : ab_L → List ab_V → ab_M → ab_E → Nat × Nat → Bool) : Bool := match ops with
  | g :: inst :: ci :: _ :: _ :: _ :: _ :: _ => match d with
    | 0 => false
    | d + 1 => ab_inv (fun as kk => rec d g 0 as [] M E (0, 0) kk) (Nat.add (P g).2.2.2.2.1 inst) (P g).2.2.1 (P g).2.2.2.2.2.1 (P g).2.2.2.2.2.2.1 (ab_rc inst ci M st (P g).2.2.2.2.1) st cs (Mt.2.2.2.2.2.1, Mt.2.2.2.2.2.2.1) (fun s M E cs => k lv s M E cs)
  | ops => ab_one L Mt.2.2.1 i ops lv st M E (fun lv st M => k lv st M E cs)
noncomputable def ab_lim (Mt : sm_M) (cs : Nat × Nat) : Bool := ab_an (Nat.beq cs.1 Mt.2.2.2.2.2.1) (Nat.beq cs.2 Mt.2.2.2.2.2.2.1)
noncomputable def ab_newc (M : ab_M) (kd n : Nat) (t : ab_T) (c : ab_M → Bool) : Bool := ab_if (Nat.blt M.1 256) (ab_ts ((kd, n, t) : ab_Q) M.2 8 M.1 (fun m => ab_fn (Nat.succ M.1) (fun s => c (s, m)))) (false)
abbrev ab_F1 : Type := Nat → ab_E → ab_L → List ab_V → ab_M → (ab_L → List ab_V → ab_M → Bool) → Bool
abbrev ab_Ins : Type := ab_R → ab_J → Nat → sm_M → ab_K → (ab_L → List ab_V → ab_M → ab_E → Nat × Nat → Bool) → ab_L → List ab_V → ab_M → ab_E → Nat × Nat → Bool
/-- an instruction as a function: found once, then the kernel remembers it -/
noncomputable def ab_on (L : Nat) (i : Instr) (ops : List Nat) : Option ab_F1 := match i with
  | .iconst n => some (fun nL E lv st M k => ai_ci (Int32.ofInt n) lv st M k)
  | .bipush n => some (fun nL E lv st M k => ai_ci (Int8.ofInt n).toInt32 lv st M k)
  | .sipush n => some (fun nL E lv st M k => ai_ci (Int16.ofInt n).toInt32 lv st M k)
  | .lconst n => some (fun nL E lv st M k => ai_cl (Int64.ofNat n) lv st M k)
  | .ldc _ => some (fun nL E lv st M k => ai_ci (Int32.ofNat (ops.getD 0 0)) lv st M k)
  | .ldc_w _ => some (fun nL E lv st M k => ai_ci (Int32.ofNat (ops.getD 0 0)) lv st M k)
  | .ldc2_w _ => some (fun nL E lv st M k => ai_cl (Int64.ofNat (ops.getD 0 0)) lv st M k)
  | .aconst_null => some (fun nL E lv st M k => k lv ((1, 0) :: st) M)
  | .iload j => some (fun nL E lv st M k => ai_ldi j E lv st M k)
  | .iload_n j => some (fun nL E lv st M k => ai_ldi j E lv st M k)
  | .lload j => some (fun nL E lv st M k => ai_ldl j lv st M k)
  | .lload_n j => some (fun nL E lv st M k => ai_ldl j lv st M k)
  | .aload j => some (fun nL E lv st M k => ai_lda j lv st M k)
  | .aload_n j => some (fun nL E lv st M k => ai_lda j lv st M k)
  | .istore j => some (fun nL E lv st M k => ai_sti j nL lv st M k)
  | .istore_n j => some (fun nL E lv st M k => ai_sti j nL lv st M k)
  | .lstore j => some (fun nL E lv st M k => ai_stl j nL lv st M k)
  | .lstore_n j => some (fun nL E lv st M k => ai_stl j nL lv st M k)
  | .astore j => some (fun nL E lv st M k => ai_sta j nL lv st M k)
  | .astore_n j => some (fun nL E lv st M k => ai_sta j nL lv st M k)
  | .iinc j n => some (fun nL E lv st M k => ai_inc j n nL E lv st M k)
  | .iadd => some (fun nL E lv st M k => ai_ii (ab_add E) lv st M k)
  | .isub => some (fun nL E lv st M k => ai_ii (ab_sub E) lv st M k)
  | .imul => some (fun nL E lv st M k => ai_ii (ab_bin (fun x y => x * y)) lv st M k)
  | .iand => some (fun nL E lv st M k => ai_ii (ab_and E) lv st M k)
  | .ior => some (fun nL E lv st M k => ai_ii (ab_or E) lv st M k)
  | .ixor => some (fun nL E lv st M k => ai_ii (ab_bin (fun x y => x ^^^ y)) lv st M k)
  | .ishl => some (fun nL E lv st M k => ai_ii (ab_bin (fun x y => x <<< (y &&& 31))) lv st M k)
  | .ishr => some (fun nL E lv st M k => ai_ii (ab_bin (fun x y => x >>> (y &&& 31))) lv st M k)
  | .iushr => some (fun nL E lv st M k => ai_ii (ab_bin (fun x y => (x.toUInt32 >>> (y.toUInt32 &&& Int32.toUInt32 31)).toInt32)) lv st M k)
  | .idiv => some (fun nL E lv st M k => ai_iq (fun x y => x / y) lv st M k)
  | .irem => some (fun nL E lv st M k => ai_iq (fun x y => x - x / y * y) lv st M k)
  | .ineg => some (fun nL E lv st M k => ai_i1 (fun x => -x) lv st M k)
  | .i2b => some (fun nL E lv st M k => ai_i1 (fun x => x.toInt8.toInt32) lv st M k)
  | .i2l => some (fun nL E lv st M k => ai_i2l lv st M k)
  | .l2i => some (fun nL E lv st M k => ai_l2i lv st M k)
  | .ladd => some (fun nL E lv st M k => ai_ll (fun x y => x + y) lv st M k)
  | .lsub => some (fun nL E lv st M k => ai_ll (fun x y => x - y) lv st M k)
  | .lmul => some (fun nL E lv st M k => ai_ll (fun x y => x * y) lv st M k)
  | .land => some (fun nL E lv st M k => ai_ll (fun x y => x &&& y) lv st M k)
  | .lor => some (fun nL E lv st M k => ai_ll (fun x y => x ||| y) lv st M k)
  | .lshl => some (fun nL E lv st M k => ai_li (fun x y => x <<< (y.toInt64 &&& 63)) lv st M k)
  | .lshr => some (fun nL E lv st M k => ai_li (fun x y => x >>> (y.toInt64 &&& 63)) lv st M k)
  | .lcmp => some (fun nL E lv st M k => ai_lc lv st M k)
  | .dup => some (fun nL E lv st M k => ai_dup lv st M k)
  | .dup_x1 => some (fun nL E lv st M k => ai_dupx1 lv st M k)
  | .dup2 => some (fun nL E lv st M k => ai_dup2 lv st M k)
  | .pop => some (fun nL E lv st M k => ai_pop lv st M k)
  | .iaload => some (fun nL E lv st M k => ai_gI L E lv st M k)
  | .baload => some (fun nL E lv st M k => ai_gB E lv st M k)
  | .laload => some (fun nL E lv st M k => ai_gL lv st M k)
  | .arraylength => some (fun nL E lv st M k => ai_len L lv st M k)
  | .iastore => some (fun nL E lv st M k => ai_pI lv st M k)
  | .bastore => some (fun nL E lv st M k => ai_pB lv st M k)
  | .lastore => some (fun nL E lv st M k => ai_pL lv st M k)
  | .getfield _ => some (fun nL E lv st M k => ai_get E (ops.getD 0 0) (ops.getD 1 0) lv st M k)
  | .putfield _ => some (fun nL E lv st M k => ai_put (ops.getD 0 0) (ops.getD 1 0) lv st M k)
  | .getstatic _ => some (fun nL E lv st M k => ab_fn (ops.getD 0 0) (fun p => k lv ((2, Int.ofNat p) :: st) M))
  | .invokespecial _ => some (fun nL E lv st M k => ai_oin lv st M k)
  | .invokestatic _ => match ops with
    | 0 :: _ => some (fun nL E lv st M k => ai_cpy lv st M k)
    | 1 :: _ => some (fun nL E lv st M k => ai_ma (fun x y => if x < y then y else x) lv st M k)
    | 2 :: _ => some (fun nL E lv st M k => ai_ma (fun x y => if y < x then y else x) lv st M k)
    | 3 :: _ => some (fun nL E lv st M k => ai_mb (fun x => if 0 ≤ x then x else 0 - x) lv st M k)
    | _ => none
  | _ => none
theorem ab_on_ok {L : Nat} {i : Instr} {ops : List Nat} {F : ab_F1} (h : ab_on L i ops = some F) (nL : Nat) (E : ab_E) (lv : ab_L) (st : List ab_V) (M : ab_M) (k : ab_L → List ab_V → ab_M → Bool) : F nL E lv st M k = ab_one L nL i ops lv st M E k := by
  cases i with
  | invokestatic x =>
    match ops, h with
    | 0 :: r, h => cases h; rfl
    | 1 :: r, h => cases h; rfl
    | 2 :: r, h => cases h; rfl
    | 3 :: r, h => cases h; rfl
  | _ => cases h <;> rfl
noncomputable def as_w (F : ab_F1) : ab_Ins := fun _ _ _ Mt _ ih lv st M E cs => F Mt.2.2.1 E lv st M (fun lv st M => ih lv st M E cs)
noncomputable def as_call (P : Nat → sm_M) (g inst ci : Nat) : ab_Ins := fun rec _ d Mt _ ih lv st M E cs => Nat.rec (motive := fun _ => Bool) false (fun d _ => ab_inv (fun as kk => rec d g 0 as [] M E (0, 0) kk) (Nat.add (P g).2.2.2.2.1 inst) (P g).2.2.1 (P g).2.2.2.2.2.1 (P g).2.2.2.2.2.2.1 (ab_rc inst ci M st (P g).2.2.2.2.1) st cs (Mt.2.2.2.2.2.1, Mt.2.2.2.2.2.2.1) (fun s M E cs => ih lv s M E cs)) d
noncomputable def ab_cel (L : Nat) (P : Nat → sm_M) (i : Instr) (ops : List Nat) : Option ab_Ins := match ops with
  | g :: inst :: ci :: _ :: _ :: _ :: _ :: _ => some (as_call P g inst ci)
  | ops => match ab_on L i ops with
    | some F => some (as_w F)
    | none => none
noncomputable def as_goto (b : Nat) : ab_Ins := fun _ jmp _ _ _ _ lv st M E cs => jmp b lv st M E cs
noncomputable def as_b1 (c : ClassFile.Cond) (a b : Nat) : ab_Ins := fun _ jmp _ _ _ _ lv st M E cs => ab_b1 c E st (fun r E => jmp a lv r M E cs) (fun r E => jmp b lv r M E cs)
noncomputable def as_b2 (c : ClassFile.Cond) (a b : Nat) : ab_Ins := fun _ jmp _ _ _ _ lv st M E cs => ab_b2 c E st (fun r E => jmp a lv r M E cs) (fun r E => jmp b lv r M E cs)
noncomputable def as_bn (a b : Nat) : ab_Ins := fun _ jmp _ _ _ _ lv st M E cs => ab_bn st (fun r => jmp a lv r M E cs) (fun r => jmp b lv r M E cs)
noncomputable def as_sw (lo : Int) (d : Nat) (bs : List Nat) : ab_Ins := fun _ jmp _ _ _ _ lv st M E cs => match st with
  | a :: r => ab_if (ab_isI a.1) (ab_sw a (fun b E => jmp b lv r M E cs) d lo bs E) (false)
  | [] => false
noncomputable def as_lo (ps : List (Int × Int)) (d : Nat) (bs : List Nat) : ab_Ins := fun _ jmp _ _ _ _ lv st M E cs => match st with
  | a :: r => ab_if (ab_isI a.1) (ab_lo a (fun b E => jmp b lv r M E cs) d ps bs E) (false)
  | [] => false
noncomputable def as_iret : ab_Ins := fun _ _ _ Mt k _ _ st M E cs => match st with
  | [a] => ab_if (ab_an (ab_lim Mt cs) ((ab_if (sm_isZ Mt.2.2.2.1) (ab_oo (ab_is a 0) (ab_is a 1)) (ab_isI a.1)))) (k (some a) M E) (false)
  | _ => false
noncomputable def as_lret : ab_Ins := fun _ _ _ Mt k _ _ st M E cs => match st with
  | [a] => ab_if (ab_an (ab_lim Mt cs) ((ab_oo (Nat.beq a.1 4) (Nat.beq a.1 5)))) (k (some a) M E) (false)
  | _ => false
noncomputable def as_aret : ab_Ins := fun _ _ _ Mt k _ _ st M E cs => match st with
  | [a] => ab_if (ab_an (ab_lim Mt cs) (Nat.beq a.1 2)) (k (some a) M E) (false)
  | _ => false
noncomputable def as_ret : ab_Ins := fun _ _ _ Mt k _ _ st M E cs => match st with
  | [] => ab_if (ab_lim Mt cs) (k none M E) (false)
  | _ => false
noncomputable def as_new (ci : Nat) : ab_Ins := fun _ _ _ Mt _ ih lv st M E cs => ab_if (ab_an (Nat.ble (Nat.succ cs.1) Mt.2.2.2.2.2.1) (Nat.ble (Nat.add cs.2 (sm_N ci)) Mt.2.2.2.2.2.2.1)) (ab_fn ci (fun ci => ab_newc M 0 ci (.branch 0 (.leaf (0, 0)) (.leaf (1, 0))) (fun M' => ab_fn (Nat.succ cs.1) (fun c1 => ab_fn (Nat.add cs.2 (sm_N ci)) (fun c2 => ih lv ((2, Int.ofNat M.1) :: st) M' E (c1, c2)))))) (false)
noncomputable def as_newa (t : Nat) : ab_Ins := fun _ _ _ Mt _ ih lv st M E cs => match st with
  | a :: r => ab_nt a (fun n => ab_if (ab_an ((ab_an (Nat.ble n 100000) (Nat.ble t 3))) ((ab_an (Nat.ble (Nat.succ cs.1) Mt.2.2.2.2.2.1) (Nat.ble (Nat.add cs.2 n) Mt.2.2.2.2.2.2.1)))) (ab_fn (Nat.succ t) (fun kd => ab_newc M kd n (ab_if (Nat.beq kd 4) (.leaf (4, 0)) (.leaf (0, 0))) (fun M' => ab_fn (Nat.succ cs.1) (fun c1 => ab_fn (Nat.add cs.2 n) (fun c2 => ih lv ((2, Int.ofNat M.1) :: r) M' E (c1, c2)))))) (false))
  | [] => false
noncomputable def ab_cmp (L : Nat) (P : Nat → sm_M) (i : Instr) (ops : List Nat) : Option ab_Ins := match i with
  | .goto _ => some (as_goto (ops.getD 0 0))
  | .ifCond c _ => some (as_b1 c (ops.getD 0 0) (ops.getD 1 0))
  | .if_icmp c _ => some (as_b2 c (ops.getD 0 0) (ops.getD 1 0))
  | .ifnull _ => some (as_bn (ops.getD 0 0) (ops.getD 1 0))
  | .ifnonnull _ => some (as_bn (ops.getD 1 0) (ops.getD 0 0))
  | .tableswitch _ lo _ _ => some (as_sw lo (ops.getD 0 0) (ops.drop 1))
  | .lookupswitch _ ps => some (as_lo ps.toList (ops.getD 0 0) (ops.drop 1))
  | .ireturn => some as_iret
  | .lreturn => some as_lret
  | .areturn => some as_aret
  | .return_ => some as_ret
  | .new _ => some (as_new (ops.getD 0 0))
  | .newarray _ => some (as_newa (ops.getD 0 0))
  | i => ab_cel L P i ops
noncomputable def ab_run1 (o : Option ab_Ins) : ab_Ins := fun rec jmp d Mt k ih lv st M E cs => Option.rec (motive := fun _ => Bool) false (fun f => f rec jmp d Mt k ih lv st M E cs) o
noncomputable def ab_at (Mt : sm_M) (b : Nat) : Option sm_B := Mt.2.2.2.2.2.2.2.2[b]?
noncomputable def ab_blk (L : Nat) (P : Nat → sm_M) (rec : ab_R) (jmp : ab_J) (d : Nat) (Mt : sm_M) (fall : Nat) (k : ab_K) (is : List (Instr × List Nat)) : ab_L → List ab_V → ab_M → ab_E → Nat × Nat → Bool := List.rec (motive := fun _ => ab_L → List ab_V → ab_M → ab_E → Nat × Nat → Bool) (fun lv st M E cs => jmp fall lv st M E cs) (fun q _ ih lv st M E cs => Option.rec (motive := fun _ => Bool) false (fun f => f rec jmp d Mt k ih lv st M E cs) (ab_cmp L P q.1 q.2)) is
noncomputable def ab_gob (L : Nat) (P : Nat → sm_M) (rec : ab_R) (d f : Nat) (Mt : sm_M) (k : ab_K) (jmp : ab_J) (b : Nat) (lv : ab_L) (st : List ab_V) (M : ab_M) (E : ab_E) (cs : Nat × Nat) (o : Option sm_B) : Bool := Option.rec (motive := fun _ => Bool) false (fun B => Option.rec (motive := fun _ => Bool) (ab_blk L P rec jmp d Mt B.2.2.1 k B.2.2.2 lv st M E cs) (fun live => ab_pick live lv (fun vs => rec d f b vs st M E cs k)) B.2.1) o
noncomputable def ab_go (L : Nat) (P : Nat → sm_M) (rec : ab_R) (d f : Nat) (Mt : sm_M) (k : ab_K) (n : Nat) : ab_J := Nat.rec (motive := fun _ => ab_J) (fun _ _ _ _ _ _ => false) (fun _ jmp b lv st M E cs => ab_if (Nat.beq b 0) (false) (ab_gob L P rec d f Mt k jmp b lv st M E cs (ab_at Mt b))) n
noncomputable def ab_F (L : Nat) (P : Nat → sm_M) (rec : ab_R) : ab_R := fun d f b vs st M E cs k => match ab_at (P f) b with
  | some (_, some live, fall, is) => ab_blk L P rec (ab_go L P rec d f (P f) k 64) d (P f) fall k is (ab_if (Nat.beq b 0) (ab_args 0 vs) (ab_zip live vs)) st M E cs
  | _ => false
noncomputable def ab_run (L : Nat) (P : Nat → sm_M) (acc : Nat → Nat → List ab_V → Bool) (n : Nat) : ab_R := Nat.rec (motive := fun _ => ab_R) (fun _ _ _ _ _ _ _ _ _ => false) (fun _ rec d f b vs st M E cs k => ab_if (ab_an (acc f b vs) ((ab_an (Nat.beq st.length 0) (ab_lim (P f) cs)))) (k none M E) (ab_F L P rec d f b vs st M E cs k)) n
section AbRun
variable {L NS : Nat} {P : Nat → sm_M} {xs ys : Nat → Int32} {rec : ab_R} {jmp : ab_J} {d fall : Nat} {Mt : sm_M} {k : ab_K} {Φ : sm_Z → Prop} {J : Nat → Nat → sm_V → List Value → sm_W → Nat × Nat → Option sm_Z}
/-- what the continuation is worth -/
noncomputable def ab_kok (xs : Nat → Int32) (k : ab_K) (Φ : sm_Z → Prop) : Prop := ∀ (r : Option ab_V) (r' : Option Value) (M : ab_M) (w : sm_W) (E : ab_E), k r M E = true → ab_or' xs r r' → ab_rm xs M w → ab_sat xs E → Φ (r', w)
noncomputable def ab_rok (xs : Nat → Int32) (P : Nat → sm_M) (S : sm_C) (rec : ab_R) : Prop := ∀ (d f b : Nat) (vs st : List ab_V) (M : ab_M) (E : ab_E) (cs : Nat × Nat) (k : ab_K) (vs' st' : List Value) (w : sm_W) (Φ : sm_Z → Prop), rec d f b vs st M E cs k = true → ab_gs xs vs vs' → ab_gs xs st st' → ab_rm xs M w → ab_sat xs E → ab_kok xs k Φ → sm_wp P S d f b vs' st' w cs Φ
noncomputable def ab_jok (xs : Nat → Int32) (jmp : ab_J) (J : Nat → Nat → sm_V → List Value → sm_W → Nat × Nat → Option sm_Z) (Φ : sm_Z → Prop) : Prop := ∀ (b : Nat) (lv : ab_L) (st : List ab_V) (M : ab_M) (E : ab_E) (cs : Nat × Nat) (lv' : sm_V) (st' : List Value) (w : sm_W), jmp b lv st M E cs = true → ab_gl xs lv lv' → ab_gs xs st st' → ab_rm xs M w → ab_sat xs E → sm_ev (fun n => J n b lv' st' w cs) Φ
theorem ab_ol_ok {r : Option ab_V} {r' : Option Value} {st : List ab_V} {st' : List Value} (h : ab_or' xs r r') (hs : ab_gs xs st st') : ab_gs xs (ab_ol r st) (r'.toList ++ st') := by
  cases r with
  | none => cases r' with
    | none => exact hs
    | some v => exact h.elim
  | some a => cases r' with
    | none => exact h.elim
    | some v => exact ⟨h, hs⟩
theorem ab_rc_ok {inst ci n : Nat} {M : ab_M} {w : sm_W} {st : List ab_V} {st' : List Value} (hs : ab_gs xs st st') (hr : ab_rm xs M w) (h : ab_rc inst ci M st n = true) : sm_rc inst ci w.1 st' n = true := by
  unfold ab_rc at h
  unfold sm_rc
  cases inst with
  | zero => rfl
  | succ i =>
    have h : ab_rc1 ci M (st.drop n) = true := h
    have hs := ab_gs_drop n hs
    cases e : st.drop n with
    | nil => rw [e] at h; cases h
    | cons b r =>
      rw [e] at h hs
      obtain ⟨v, r', e2, g, -⟩ := ab_gs_cons hs
      rw [e2]
      have h : ab_rf b (fun p => ab_cell M p (fun kd c _ => ab_an (Nat.beq kd 0) (Nat.beq c ci))) = true := h
      obtain ⟨p, rfl, h⟩ := ab_rf_ok h g
      obtain ⟨hp, kd, c, t, e3, h⟩ := ab_cell_ok h
      obtain ⟨h1, h2⟩ := ab_and2 h
      have h1 := ab_beq h1
      have h2 := ab_beq h2
      subst h1
      subst h2
      obtain ⟨c1, -⟩ := ab_cell_at hr hp e3
      dsimp only
      rw [c1]
      exact decide_eq_true rfl
theorem ab_newc_ok {M : ab_M} {w : sm_W} {kd n : Nat} {t : ab_T} {c : ab_M → Bool} {m' : sm_Y} (hr : ab_rm xs M w) (hn : ∀ j, j < ab_bd kd n → ab_g xs (ab_tg t j) (ab_val (w.1 ++ [(kd, n)], m') M.1 kd j)) (ho : ∀ p kd j, p < M.1 → ab_val (w.1 ++ [(kd, n)], m') p kd j = ab_val w p kd j) (h : ab_newc M kd n t c = true) : ∃ M', ab_rm xs M' (w.1 ++ [(kd, n)], m') ∧ M.1 < 256 ∧ c M' = true := by
  obtain ⟨r1, r2, r3⟩ := hr
  obtain ⟨h1, h⟩ := ab_bif0 h
  have h1 := ab_blt h1
  obtain ⟨m, q1, q2⟩ := ab_ts_ok _ _ _ _ h (show M.1 < 2 ^ 8 from h1)
  rw [ab_fn_eq] at q1
  refine ⟨(M.1 + 1, m), ⟨by simp [r1], h1, fun p hp => ?_⟩, h1, q1⟩
  have hp : p < M.1 + 1 := hp
  have q3 := q2 p (show p < 256 by omega)
  show (w.1 ++ [(kd, n)])[p]? = some ((ab_tg m p).1, (ab_tg m p).2.1) ∧ ∀ j, j < ab_bd (ab_tg m p).1 (ab_tg m p).2.1 → ab_g xs (ab_tg (ab_tg m p).2.2 j) (ab_val (w.1 ++ [(kd, n)], m') p (ab_tg m p).1 j)
  by_cases e : p = M.1
  · rw [if_pos e] at q3
    rw [q3, e]
    refine ⟨?_, hn⟩
    rw [← r1]
    simp
  · rw [if_neg e] at q3
    have hp2 : p < M.1 := by omega
    have r4 := r3 p hp2
    rw [q3]
    refine ⟨?_, fun j hj => ?_⟩
    · rw [List.getElem?_append_left (by rw [r1]; exact hp2)]
      exact r4.1
    · rw [show ab_val (w.1 ++ [(kd, n)], m') p (ab_tg M.2 p).1 j = ab_val w p (ab_tg M.2 p).1 j from by
        have := ho p (ab_tg M.2 p).1 j hp2
        exact this]
      exact r4.2 j hj
theorem ab_else_ok {i : Instr} {ops : List Nat} {lv : ab_L} {st : List ab_V} {M : ab_M} {E : ab_E} {cs : Nat × Nat} {lv' : sm_V} {st' : List Value} {w : sm_W} {kk : ab_L → List ab_V → ab_M → ab_E → Nat × Nat → Bool} {K : Nat → sm_V → List Value → sm_W → Nat × Nat → Option sm_Z} (hy : ∀ j, j < L → ys j = xs j) (h6 : xs 6 = xs 0 &&& 63) (hrec : ab_rok xs P (NS, ys) rec)
    (hk : ∀ (lv : ab_L) (st : List ab_V) (M : ab_M) (E : ab_E) (cs : Nat × Nat) (lv' : sm_V) (st' : List Value) (w : sm_W), kk lv st M E cs = true → ab_gl xs lv lv' → ab_gs xs st st' → ab_rm xs M w → ab_sat xs E → sm_ev (fun n => K n lv' st' w cs) Φ)
    (hl : ab_gl xs lv lv') (hs : ab_gs xs st st') (hr : ab_rm xs M w) (hE : ab_sat xs E) (h : ab_else L P rec d Mt i ops lv st M E cs kk = true) : sm_ev (fun n => sm_else P (NS, ys) (sm_run P (NS, ys) n) d Mt i ops lv' st' w cs (K n)) Φ := by
  unfold ab_else at h
  split at h
  · next g inst ci a1 a2 a3 a4 r =>
    cases d with
    | zero => cases h
    | succ d =>
      have h : ab_inv (fun as kk => rec d g 0 as [] M E (0, 0) kk) (Nat.add (P g).2.2.2.2.1 inst) (P g).2.2.1 (P g).2.2.2.2.2.1 (P g).2.2.2.2.2.2.1 (ab_rc inst ci M st (P g).2.2.2.2.1) st cs (Mt.2.2.2.2.2.1, Mt.2.2.2.2.2.2.1) (fun s M E cs => kk lv s M E cs) = true := h
      unfold ab_inv at h
      replace h := ab_bif0 h
      obtain ⟨q, h⟩ := h
      obtain ⟨q1, q⟩ := ab_and2 q
      obtain ⟨q2, q⟩ := ab_and2 q
      obtain ⟨q3, q4⟩ := ab_and2 q
      rw [ab_fl_eq, ab_fl_eq] at h
      replace h := ab_bif0 h
      obtain ⟨q, h⟩ := h
      obtain ⟨q5, q6⟩ := ab_and2 q
      have en : Nat.add (P g).2.2.2.2.1 inst = (P g).2.2.2.2.1 + inst := rfl
      rw [en] at q2 q5 q6 h
      have ga := ab_gs_rev (ab_gs_take ((P g).2.2.2.2.1 + inst) hs)
      have gd := ab_gs_drop ((P g).2.2.2.2.1 + inst) hs
      have hlen := ab_gs_len hs
      have q1 := ab_rc_ok hs hr q1
      have q2 : (P g).2.2.2.2.1 + inst ≤ st.length := ab_ble q2
      have q3 : cs.1 + (P g).2.2.2.2.2.1 ≤ Mt.2.2.2.2.2.1 := ab_ble q3
      have q4 : cs.2 + (P g).2.2.2.2.2.2.1 ≤ Mt.2.2.2.2.2.2.1 := ab_ble q4
      have q5 : (lg_sl (st'.take ((P g).2.2.2.2.1 + inst)).reverse).length ≤ (P g).2.2.1 := by rw [ab_slots_ok ga]; exact ab_ble q5
      have q6 : ((st'.drop ((P g).2.2.2.2.1 + inst)).map fun v => v.category).sum ≤ 8 := by rw [ab_sum_ok gd]; exact ab_ble q6
      have hw := hrec d g 0 _ _ M E (0, 0) _ _ [] w (fun z => sm_ev (fun n => K n lv' (z.1.toList ++ st'.drop ((P g).2.2.2.2.1 + inst)) z.2 (cs.1 + (P g).2.2.2.2.2.1, cs.2 + (P g).2.2.2.2.2.2.1)) Φ) h ga trivial hr hE (by
        intro r r' M2 w2 E2 e g1 g2 g3
        dsimp only at e
        rw [ab_fn_eq, ab_fn_eq] at e
        exact hk _ _ _ _ _ _ _ _ e hl (ab_ol_ok g1 gd) g2 g3)
      obtain ⟨N1, z1, ⟨N2, z2, k1, k2⟩, k3⟩ := sm_ev_wp hw
      refine ⟨max N1 N2, z2, k1, fun n hn => ?_⟩
      show sm_else P (NS, ys) (sm_run P (NS, ys) n) (d + 1) Mt i (g :: inst :: ci :: a1 :: a2 :: a3 :: a4 :: r) lv' st' w cs (K n) = some z2
      unfold sm_else
      dsimp only
      unfold sm_inv
      rw [if_neg]
      · have k3' := k3 n (by omega)
        dsimp only at k3' ⊢
        rw [k3']
        exact k2 n (by omega)
      · rintro (q | q | q | q | q | q)
        · rw [q1] at q; cases q
        · omega
        · omega
        · omega
        · simp only at q; omega
        · simp only at q; omega
  · next hno =>
    obtain ⟨q, e1, lv1, st1, M1, g1, g2, g3, g4⟩ := ab_one_ok (lay := w.1) (m := w.2) hy h6 hE hl hs hr h
    obtain ⟨N, z, k1, k2⟩ := hk _ _ _ _ _ _ _ _ g4 g1 g2 g3 hE
    refine ⟨N, z, k1, fun n hn => ?_⟩
    show sm_else P (NS, ys) (sm_run P (NS, ys) n) d Mt i ops lv' st' w cs (K n) = some z
    unfold sm_else
    split
    · next g inst ci a1 a2 a3 a4 r => exact absurd rfl (hno g inst ci a1 a2 a3 a4 r)
    · rw [e1]; exact k2 n hn
theorem ab_cel_ok {i : Instr} {ops : List Nat} {lv : ab_L} {st : List ab_V} {M : ab_M} {E : ab_E} {cs : Nat × Nat} {kk : ab_L → List ab_V → ab_M → ab_E → Nat × Nat → Bool} (h : ab_run1 (ab_cel L P i ops) rec jmp d Mt k kk lv st M E cs = true) : ab_else L P rec d Mt i ops lv st M E cs kk = true := by
  unfold ab_cel at h
  unfold ab_else
  split at h
  · cases d with
    | zero => cases h
    | succ d => exact h
  · next hno =>
    split at h
    · next F e => rw [← ab_on_ok e]; exact h
    · cases h
theorem ab_lim_of {cs : Nat × Nat} (h : ab_lim Mt cs = true) : cs = (Mt.2.2.2.2.2.1, Mt.2.2.2.2.2.2.1) := by
  obtain ⟨h1, h2⟩ := ab_and2 h
  exact Prod.ext (ab_beq h1) (ab_beq h2)
theorem ab_row_eq {α : Type} (f : Nat → Nat → α) (p : Nat) (g : Nat → α) (j : Nat) : sm_row f p g p j = g j := by simp [sm_row]
theorem ab_row_p {α : Type} (f : Nat → Nat → α) (p : Nat) (g : Nat → α) {p' : Nat} (h : p' ≠ p) (j : Nat) : sm_row f p g p' j = f p' j := by simp [sm_row, h]
set_option maxHeartbeats 4000000 in
theorem ab_blk_ok (hy : ∀ j, j < L → ys j = xs j) (h6 : xs 6 = xs 0 &&& 63) (hrec : ab_rok xs P (NS, ys) rec) (hj : ab_jok xs jmp J Φ) (hkk : ab_kok xs k Φ) : ∀ (is : List (Instr × List Nat)) (lv : ab_L) (st : List ab_V) (M : ab_M) (E : ab_E) (cs : Nat × Nat) (lv' : sm_V) (st' : List Value) (w : sm_W), ab_blk L P rec jmp d Mt fall k is lv st M E cs = true → ab_gl xs lv lv' → ab_gs xs st st' → ab_rm xs M w → ab_sat xs E → sm_ev (fun n => sm_blk P (NS, ys) (sm_run P (NS, ys) n) (J n) d Mt fall is lv' st' w cs) Φ := by
  intro is
  induction is with
  | nil => intro lv st M E cs lv' st' w h hl hs hr hE; exact hj _ _ _ _ _ _ _ _ _ h hl hs hr hE
  | cons q is ih =>
    obtain ⟨i, ops⟩ := q
    intro lv st M E cs lv' st' w h hl hs hr hE
    have h : ab_run1 (ab_cmp L P i ops) rec jmp d Mt k (ab_blk L P rec jmp d Mt fall k is) lv st M E cs = true := h
    have ab_E : ∀ {i : Instr}, sm_isE i = true → ab_else L P rec d Mt i ops lv st M E cs (ab_blk L P rec jmp d Mt fall k is) = true → sm_ev (fun n => sm_blk P (NS, ys) (sm_run P (NS, ys) n) (J n) d Mt fall ((i, ops) :: is) lv' st' w cs) Φ := by
      intro i hi h
      have k1 := ab_else_ok (K := fun n lv st w cs => sm_blk P (NS, ys) (sm_run P (NS, ys) n) (J n) d Mt fall is lv st w cs) hy h6 hrec ih hl hs hr hE h
      obtain ⟨N, z, k2, k3⟩ := k1
      exact ⟨N, z, k2, fun n hn => by show sm_blk _ _ _ _ _ _ _ _ _ _ _ _ = _; rw [sm_blk_else hi]; exact k3 n hn⟩
    cases i with
    | goto off => exact hj _ _ _ _ _ _ _ _ _ h hl hs hr hE
    | ifCond c off => exact ab_b1_ok (A := fun r n => J n (ops.getD 0 0) lv' r w cs) (B := fun r n => J n (ops.getD 1 0) lv' r w cs) hE hs (fun r r' E' g1 g2 h => hj _ _ _ _ _ _ _ _ _ h hl g1 hr g2) (fun r r' E' g1 g2 h => hj _ _ _ _ _ _ _ _ _ h hl g1 hr g2) h
    | if_icmp c off => exact ab_b2_ok (A := fun r n => J n (ops.getD 0 0) lv' r w cs) (B := fun r n => J n (ops.getD 1 0) lv' r w cs) hE hs (fun r r' E' g1 g2 h => hj _ _ _ _ _ _ _ _ _ h hl g1 hr g2) (fun r r' E' g1 g2 h => hj _ _ _ _ _ _ _ _ _ h hl g1 hr g2) h
    | ifnull off => exact ab_bn_ok (A := fun r n => J n (ops.getD 0 0) lv' r w cs) (B := fun r n => J n (ops.getD 1 0) lv' r w cs) hs (fun r r' g1 h => hj _ _ _ _ _ _ _ _ _ h hl g1 hr hE) (fun r r' g1 h => hj _ _ _ _ _ _ _ _ _ h hl g1 hr hE) h
    | ifnonnull off => exact ab_bn_ok (A := fun r n => J n (ops.getD 1 0) lv' r w cs) (B := fun r n => J n (ops.getD 0 0) lv' r w cs) hs (fun r r' g1 h => hj _ _ _ _ _ _ _ _ _ h hl g1 hr hE) (fun r r' g1 h => hj _ _ _ _ _ _ _ _ _ h hl g1 hr hE) h
    | tableswitch df lo hi offs =>
      cases st with
      | nil => cases h
      | cons a r =>
        replace hs := ab_gs_cons hs; obtain ⟨v, r', rfl, g, hs⟩ := hs
        replace h := ab_bif0 h; obtain ⟨h1, h⟩ := h
        obtain ⟨x, rfl, gx⟩ := ab_isI_of h1 g
        exact ab_sw_ok (K := fun b n => J n b lv' r' w cs) gx (fun b E' g1 h => hj _ _ _ _ _ _ _ _ _ h hl hs hr g1) _ _ _ hE h
    | lookupswitch df ps =>
      cases st with
      | nil => cases h
      | cons a r =>
        replace hs := ab_gs_cons hs; obtain ⟨v, r', rfl, g, hs⟩ := hs
        replace h := ab_bif0 h; obtain ⟨h1, h⟩ := h
        obtain ⟨x, rfl, gx⟩ := ab_isI_of h1 g
        exact ab_lo_ok (K := fun b n => J n b lv' r' w cs) gx (fun b E' g1 h => hj _ _ _ _ _ _ _ _ _ h hl hs hr g1) _ _ _ hE h
    | ireturn =>
      match st, hs, h with
      | [], _, h => cases h
      | _ :: _ :: _, _, h => cases h
      | [a], hs, h =>
        replace hs := ab_gs_cons hs; obtain ⟨v, r', rfl, g, hs⟩ := hs
        have := ab_gs_nil hs
        subst this
        replace h := ab_bif0 h; obtain ⟨h1, h⟩ := h
        obtain ⟨h1, h2⟩ := ab_and2 h1
        have hc := ab_lim_of h1
        have hx : ∃ x : Int32, v = .int x ∧ (sm_isZ Mt.2.2.2.1 = true → x = 0 ∨ x = 1) := by
          rcases ab_bif h2 with ⟨e, h2⟩ | ⟨e, h2⟩
          · rcases ab_or2 h2 with hq | hq
            · obtain ⟨x, rfl, ex⟩ := ab_is_of (x := 0) hq g
              exact ⟨x, rfl, fun _ => Or.inl (ab_ofI (by rw [ex]; decide))⟩
            · obtain ⟨x, rfl, ex⟩ := ab_is_of (x := 0) hq g
              exact ⟨x, rfl, fun _ => Or.inr (ab_ofI (by rw [ex]; decide))⟩
          · obtain ⟨x, rfl, -⟩ := ab_isI_of h2 g
            exact ⟨x, rfl, fun q => by rw [e] at q; cases q⟩
        obtain ⟨x, rfl, hx⟩ := hx
        refine ⟨0, _, hkk (some a) (some (.int x)) M w E h g hr hE, fun n _ => ?_⟩
        show (if cs = _ then (if sm_isZ Mt.2.2.2.1 = true then (if x = 0 ∨ x = 1 then _ else _) else _) else _) = _
        rw [if_pos hc]
        by_cases e : sm_isZ Mt.2.2.2.1 = true
        · rw [if_pos e, if_pos (hx e)]
        · rw [if_neg e]
    | lreturn =>
      match st, hs, h with
      | [], _, h => cases h
      | _ :: _ :: _, _, h => cases h
      | [a], hs, h =>
        replace hs := ab_gs_cons hs; obtain ⟨v, r', rfl, g, hs⟩ := hs
        have := ab_gs_nil hs
        subst this
        replace h := ab_bif0 h; obtain ⟨h1, h⟩ := h
        obtain ⟨h1, h2⟩ := ab_and2 h1
        obtain ⟨x, rfl, -⟩ := ab_long_of (ab_45 h2) g
        refine ⟨0, _, hkk (some a) (some (.long x)) M w E h g hr hE, fun n _ => ?_⟩
        show (if cs = _ then _ else _) = _
        rw [if_pos (ab_lim_of h1)]
    | areturn =>
      match st, hs, h with
      | [], _, h => cases h
      | _ :: _ :: _, _, h => cases h
      | [a], hs, h =>
        replace hs := ab_gs_cons hs; obtain ⟨v, r', rfl, g, hs⟩ := hs
        have := ab_gs_nil hs
        subst this
        replace h := ab_bif0 h; obtain ⟨h1, h⟩ := h
        obtain ⟨h1, h2⟩ := ab_and2 h1
        obtain ⟨x, rfl, -⟩ := ab_ref_of (ab_beq h2) g
        refine ⟨0, _, hkk (some a) (some (.ref x)) M w E h g hr hE, fun n _ => ?_⟩
        show (if cs = _ then _ else _) = _
        rw [if_pos (ab_lim_of h1)]
    | return_ =>
      match st, hs, h with
      | _ :: _, _, h => cases h
      | [], hs, h =>
        have := ab_gs_nil hs
        subst this
        replace h := ab_bif0 h; obtain ⟨h1, h⟩ := h
        refine ⟨0, _, hkk none none M w E h trivial hr hE, fun n _ => ?_⟩
        show (if cs = _ then _ else _) = _
        rw [if_pos (ab_lim_of h1)]
    | new x =>
      replace h := ab_bif0 h; obtain ⟨q, h⟩ := h
      obtain ⟨q1, q2⟩ := ab_and2 q
      have q1 : cs.1 + 1 ≤ Mt.2.2.2.2.2.1 := ab_ble q1
      have q2 : cs.2 + sm_N (ops.getD 0 0) ≤ Mt.2.2.2.2.2.2.1 := ab_ble q2
      rw [ab_fn_eq] at h
      have hlen : w.1.length = M.1 := hr.1
      obtain ⟨M', g1, g2, g3⟩ := ab_newc_ok (m' := (sm_row w.2.1 w.1.length (fun _ => 0), w.2.2.1, sm_row w.2.2.2 w.1.length (fun _ => none))) hr (by
        intro j hj
        rw [← hlen]
        simp only [ab_val]
        rw [if_pos trivial, ab_row_eq, ab_row_eq, ab_tg_branch]
        by_cases e : j % 2 = 1
        · rw [if_pos e, if_neg (by omega)]
          exact rfl
        · rw [if_neg e, if_pos (by omega)]
          exact ab_gi0 _) (by
        intro p kd j hp
        have hp : p ≠ w.1.length := by omega
        simp only [ab_val]
        rw [ab_row_p _ _ _ hp, ab_row_p _ _ _ hp, ab_row_p _ _ _ hp]) h
      rw [ab_fn_eq, ab_fn_eq] at g3
      obtain ⟨N, z, k1, k2⟩ := ih _ _ _ _ _ lv' (.ref w.1.length :: st') _ g3 hl ⟨⟨rfl, by rw [hlen]; rfl⟩, hs⟩ g1 hE
      refine ⟨N, z, k1, fun n hn => ?_⟩
      show (if _ then _ else _) = _
      rw [if_neg (by omega)]
      exact k2 n hn
    | newarray at' =>
      cases st with
      | nil => cases h
      | cons a r =>
        replace hs := ab_gs_cons hs; obtain ⟨v, r', rfl, g, hs⟩ := hs
        replace h := ab_nt_ok h g
        obtain ⟨x, rfl, hx, h⟩ := h
        replace h := ab_bif0 h; obtain ⟨q, h⟩ := h
        obtain ⟨q1, q2⟩ := ab_and2 q
        obtain ⟨q1, q3⟩ := ab_and2 q1
        obtain ⟨q2, q4⟩ := ab_and2 q2
        have q1 : x.toNatClampNeg ≤ 100000 := ab_ble q1
        have q3 : ops.getD 0 0 ≤ 3 := ab_ble q3
        have q2 : cs.1 + 1 ≤ Mt.2.2.2.2.2.1 := ab_ble q2
        have q4 : cs.2 + x.toNatClampNeg ≤ Mt.2.2.2.2.2.2.1 := ab_ble q4
        rw [ab_fn_eq] at h
        have hlen : w.1.length = M.1 := hr.1
        obtain ⟨M', g1, g2, g3⟩ := ab_newc_ok (m' := (sm_row w.2.1 w.1.length (fun _ => 0), sm_row w.2.2.1 w.1.length (fun _ => 0), w.2.2.2)) hr (by
          intro j hj
          rw [← hlen]
          simp only [ab_val]
          rw [if_neg (Nat.succ_ne_zero _), ab_row_eq, ab_row_eq]
          cases e : Nat.beq (Nat.succ (ops.getD 0 0)) 4 with
          | true =>
            rw [if_pos (ab_beq e)]
            exact Or.inl ⟨rfl, rfl⟩
          | false =>
            rw [if_neg (ab_bne e)]
            exact ab_gi0 _) (by
          intro p kd j hp
          have hp : p ≠ w.1.length := by omega
          simp only [ab_val]
          rw [ab_row_p _ _ _ hp, ab_row_p _ _ _ hp, ab_row_p _ _ _ hp]) h
        rw [ab_fn_eq, ab_fn_eq] at g3
        obtain ⟨N, z, k1, k2⟩ := ih _ _ _ _ _ lv' (.ref w.1.length :: r') _ g3 hl ⟨⟨rfl, by rw [hlen]; rfl⟩, hs⟩ g1 hE
        refine ⟨N, z, k1, fun n hn => ?_⟩
        show (if _ then _ else _) = _
        rw [if_neg (by
          rintro (q | q | q | q | q)
          · exact hx q
          · omega
          · omega
          · omega
          · omega)]
        exact k2 n hn
    | _ => exact ab_E rfl (ab_cel_ok h)
theorem ab_go_ok {f : Nat} (hy : ∀ j, j < L → ys j = xs j) (h6 : xs 6 = xs 0 &&& 63) (hrec : ab_rok xs P (NS, ys) rec) (hkk : ab_kok xs k Φ) : ∀ (K : Nat), ab_jok xs (ab_go L P rec d f Mt k K) (fun n => sm_go P (NS, ys) (sm_run P (NS, ys) n) d f Mt K) Φ := by
  intro K
  induction K with
  | zero => intro b lv st M E cs lv' st' w h; cases h
  | succ K ih =>
    intro b lv st M E cs lv' st' w h hl hs hr hE
    have h : (ab_if (Nat.beq b 0) (false) (ab_gob L P rec d f Mt k (ab_go L P rec d f Mt k K) b lv st M E cs (ab_at Mt b))) = true := h
    rcases ab_bif h with ⟨-, h⟩ | ⟨hb, h⟩
    · cases h
    have hb := ab_bne hb
    unfold ab_at at h
    cases hB : Mt.2.2.2.2.2.2.2.2[b]? with
    | none => rw [hB] at h; cases h
    | some B =>
      obtain ⟨pcb, lo, fall, is⟩ := B
      rw [hB] at h
      cases lo with
      | some live =>
        have h : ab_pick live lv (fun vs => rec d f b vs st M E cs k) = true := h
        · obtain ⟨vs, vs', p1, p2, h⟩ := ab_pick_ok hl h
          have e0 : ∀ n, sm_go P (NS, ys) (sm_run P (NS, ys) n) d f Mt (K + 1) b lv' st' w cs = sm_run P (NS, ys) n d f b vs' st' w cs := by
            intro n
            unfold sm_go
            rw [if_neg hb, hB]
            dsimp only
            rw [p1]
          simp only [e0]
          exact sm_ev_wp (hrec _ _ _ _ _ _ _ _ _ _ _ _ _ h p2 hs hr hE hkk)
      | none =>
        have h : ab_blk L P rec (ab_go L P rec d f Mt k K) d Mt fall k is lv st M E cs = true := h
        have e0 : ∀ n, sm_go P (NS, ys) (sm_run P (NS, ys) n) d f Mt (K + 1) b lv' st' w cs = sm_blk P (NS, ys) (sm_run P (NS, ys) n) (sm_go P (NS, ys) (sm_run P (NS, ys) n) d f Mt K) d Mt fall is lv' st' w cs := by
          intro n
          show sm_go P (NS, ys) (sm_run P (NS, ys) n) d f Mt (K + 1) b lv' st' w cs = _
          rw [sm_go, if_neg hb, hB]
        simp only [e0]
        exact ab_blk_ok hy h6 hrec ih hkk _ _ _ _ _ _ _ _ _ h hl hs hr hE
/-- a loop that is known to come to its end and to change nothing -/
noncomputable def ab_accok (xs : Nat → Int32) (P : Nat → sm_M) (S : sm_C) (acc : Nat → Nat → List ab_V → Bool) : Prop := ∀ (d f b : Nat) (vs : List ab_V) (vs' : List Value) (w : sm_W) (Φ : sm_Z → Prop), acc f b vs = true → ab_gs xs vs vs' → Φ (none, w) → sm_wp P S d f b vs' [] w ((P f).2.2.2.2.2.1, (P f).2.2.2.2.2.2.1) Φ
theorem ab_run_ok {acc : Nat → Nat → List ab_V → Bool} (hy : ∀ j, j < L → ys j = xs j) (h6 : xs 6 = xs 0 &&& 63) (ha : ab_accok xs P (NS, ys) acc) : ∀ n, ab_rok xs P (NS, ys) (ab_run L P acc n) := by
  intro n
  induction n with
  | zero => intro d f b vs st M E cs k vs' st' w Φ h; cases h
  | succ n ih =>
    intro d f b vs st M E cs k vs' st' w Φ h hv hs hr hE hkk
    have h : (ab_if (ab_an (acc f b vs) ((ab_an (Nat.beq st.length 0) (ab_lim (P f) cs)))) (k none M E) (ab_F L P (ab_run L P acc n) d f b vs st M E cs k)) = true := h
    rcases ab_bif h with ⟨q, hq⟩ | ⟨-, hq⟩
    · obtain ⟨q1, q⟩ := ab_and2 q
      obtain ⟨q2, q3⟩ := ab_and2 q
      have q2 := ab_beq q2
      have e := ab_lim_of q3
      subst e
      cases st with
      | nil =>
        have := ab_gs_nil hs
        subst this
        exact ha d f b vs vs' w Φ q1 hv (hkk none none M w E hq trivial hr hE)
      | cons a r => simp at q2
    replace h := hq
    unfold ab_F ab_at at h
    split at h
    · next pcb live fall is e =>
      obtain ⟨N, z, k1, k2⟩ := ab_blk_ok (J := fun n => sm_go P (NS, ys) (sm_run P (NS, ys) n) d f (P f) 64) hy h6 ih (ab_go_ok hy h6 ih hkk 64) hkk is _ st M E cs (if b = 0 then lv_args 0 vs' else live.zip vs') st' w h (by
        cases q : Nat.beq b 0 with
        | true => rw [if_pos (ab_beq q)]; exact ab_args_ok 0 hv
        | false => rw [if_neg (ab_bne q)]; exact ab_zip_ok hv) hs hr hE
      refine ⟨N + 1, z, ?_, k1⟩
      show sm_F P (NS, ys) (sm_run P (NS, ys) N) d f b vs' st' w cs = some z
      unfold sm_F
      rw [e]
      exact k2 N (Nat.le_refl N)
    · cases h
end AbRun
