/-! THE SMALL MACHINE: the same bytecode over numbered cells; all else of the machine is left out. Part 03 shows that the machine does what it does. -/
abbrev sm_I : Type := Nat → Nat → Int32
abbrev sm_L : Type := Nat → Nat → Int64
abbrev sm_R : Type := Nat → Nat → Option Nat
abbrev sm_Y : Type := sm_I × sm_L × sm_R
abbrev sm_W : Type := List (Nat × Nat) × sm_Y
abbrev sm_V : Type := List (Nat × Value)
/-- a block: its pc, the live locals if it is a cut, the block behind it, its instructions with what they mean -/
abbrev sm_B : Type := Nat × Option (List Nat) × Nat × List (Instr × List Nat)
/-- a method: name, bytes, locals, what it returns, parameters, cells and slots that it makes, places of its words, blocks -/
abbrev sm_M : Type := MethodName × ByteArray × Nat × Option FieldType × Nat × Nat × Nat × List Nat × List sm_B
abbrev sm_Z : Type := Option Value × sm_W
abbrev sm_C : Type := Nat × (Nat → Int32)
def sm_up {α : Type} (f : Nat → Nat → α) (p j : Nat) (v : α) : Nat → Nat → α := fun a => if a = p then (fun b => if b = j then v else f a b) else f a
def sm_row {α : Type} (f : Nat → Nat → α) (p : Nat) (g : Nat → α) : Nat → Nat → α := fun a => if a = p then g else f a
def sm_rv : Option Nat → Value
  | none => .null
  | some p => .ref p
def sm_lk : sm_V → Nat → Option Value
  | [], _ => none
  | (j, v) :: r, i => if j = i then some v else sm_lk r i
def sm_pick : List Nat → sm_V → Option (List Value)
  | [], _ => some []
  | i :: r, lv => match sm_lk lv i with
    | none => none
    | some v => match sm_pick r lv with
      | none => none
      | some vs => some (v :: vs)
def sm_s1 (lv : sm_V) (i : Nat) (v : Value) : sm_V := (i, v) :: lv.filter (fun q => !(q.1 == i) && !(q.1 + 1 == i && q.2.category == 2))
def sm_s2 (lv : sm_V) (i : Nat) (v : Value) : sm_V := (i, v) :: lv.filter (fun q => !(q.1 == i) && (!(q.1 == i + 1) && !(q.1 + 1 == i && q.2.category == 2)))
/-! kinds of cells: (0, c) one of the kind c; (1, n) ints, (2, n) bytes, (3, n) booleans, (4, n) longs, n of them. sm_tab: what each kind's fields are: 0 int, 1 reference, 2 boolean -/
def sm_tab : List (List Nat) := [[1, 1, 1, 1, 1, 2], [1, 1, 1], [1, 2, 1, 1, 1, 1, 0, 0, 0, 0, 2, 0, 2, 0, 0, 2, 0, 0], [1, 0, 0, 0], [0, 0, 1, 1, 1], [1, 1, 1, 1, 0, 0], [1, 1, 1, 1, 0, 0, 1, 0, 2, 2, 2, 2], [1, 1, 1, 1, 1, 0, 1, 0, 0, 0, 0, 0], [1, 1, 1, 1], [1, 1, 1, 0], [0, 0, 0, 0, 0, 0, 0, 1, 1, 1, 1, 1, 1, 1, 1, 1, 1, 1, 1], [1, 1, 1, 1, 1, 1, 1, 1, 1, 1, 0, 0, 2, 2], [0, 1, 0, 1, 0, 1, 1, 1, 1, 1, 0, 0, 0, 0, 0, 0, 0, 0, 0, 0, 0, 1, 1, 1, 1, 1, 1, 1, 1, 1, 1, 1, 1, 1, 1, 1, 1, 1, 1, 1, 1, 1, 1, 1, 1, 1, 0, 1, 1, 1, 1, 0, 0, 2, 0, 1, 1, 1, 1, 0, 1, 1, 1, 0, 2, 1, 1, 0, 0, 0, 2, 2, 0, 0, 0, 1, 1, 1, 1, 2, 2, 1, 0, 1, 0, 1, 1, 0, 1, 1, 2, 0, 0, 1, 1, 1, 0]]
def sm_N (c : Nat) : Nat := (sm_tab.getD c []).length
def sm_cd (c k : Nat) : Nat := (sm_tab.getD c []).getD k 0
/-! the arrays that stand from the beginning: 1000 WORDS, 1001 STEPS, 1002 ROOM, 1003 WITH_YES, 1004 the script -/
def sm_words : List Int64 := [7825519, 482854658917, 7823737, 1953066341, 28518, 26990, 7561593, 500136506228, 1937076837, 28530, 1869636974, 108187682958948, 6386539, 6385252, 24948]
def sm_steps : List Int32 := [0, 0, 1, 0, 1, 1, 1, 15, 2, 2, 17, 0, 0, 2, 3, 3, 15, 4, 4, 15, 5, 5, 16, 2, 0, 3, 6, 6, 15, 7, 7, 17, 0, 7, 4, 8, 8, 15, 9, 9, 5, 10, 10, 15, 2, 0, 6, 11, 11, 15, 12, 12, 18, 17, 12, 7, 13, 13, 16, 16, 16, 18, 17, 0, 8, 14, 14, 15, 16, 0, 12, 15, 15, 15, 16, 17, 15, 18, 18, 14, 19, 19, 16, 25, 18, 11, 20, 20, 15, 21, 21, 16, 23, 21, 19, 22, 22, 16, 23, 23, 16, 26, 23, 19, 24, 24, 16, 26, 25, 16, 26, 26, 9, 17, 26, 13, 17, 26, 17, 0, 0, 10, 27, 27, 15, 28, 28, 11, 29, 29, 15, 30, 30, 16, 5, 0, 21, 0]
def sm_room : List Int32 := [4, 6, 12, 10, 0, 0, 10, 0, 10, 0, 4, 0, 5, 0, 0]
def sm_withyes : List Int32 := [-1431655766, -858993460, -252645136, -16711936, -65536]
def sm_sI (S : sm_C) (p : Nat) : Option (Nat × (Nat → Int32)) := match p with
  | 1001 => some (sm_steps.length, fun j => sm_steps.getD j 0)
  | 1002 => some (sm_room.length, fun j => sm_room.getD j 0)
  | 1003 => some (sm_withyes.length, fun j => sm_withyes.getD j 0)
  | 1004 => some S
  | _ => none
def sm_sL (p : Nat) : Option (Nat × (Nat → Int64)) := match p with
  | 1000 => some (sm_words.length, fun j => sm_words.getD j 0)
  | _ => none
/-! what an instruction does to locals and stack and cells' contents -/
abbrev sm_O : Type := Option (sm_V × List Value × sm_Y)
def sm_p (lv : sm_V) (m : sm_Y) (o : Option (List Value)) : sm_O := match o with
  | some s => some (lv, s, m)
  | none => none
def sm_ii (f : Int32 → Int32 → Int32) (st : List Value) : Option (List Value) := match st with
  | .int y :: .int x :: r => some (.int (f x y) :: r)
  | _ => none
def sm_iq (f : Int32 → Int32 → Int32) (st : List Value) : Option (List Value) := match st with
  | .int y :: .int x :: r => if y = 0 then none else some (.int (f x y) :: r)
  | _ => none
def sm_ll (f : Int64 → Int64 → Int64) (st : List Value) : Option (List Value) := match st with
  | .long y :: .long x :: r => some (.long (f x y) :: r)
  | _ => none
def sm_li (f : Int64 → Int32 → Int64) (st : List Value) : Option (List Value) := match st with
  | .int y :: .long x :: r => some (.long (f x y) :: r)
  | _ => none
def sm_i1 (f : Int32 → Value) (st : List Value) : Option (List Value) := match st with
  | .int x :: r => some (f x :: r)
  | _ => none
def sm_l1 (f : Int64 → Value) (st : List Value) : Option (List Value) := match st with
  | .long x :: r => some (f x :: r)
  | _ => none
def sm_lc (st : List Value) : Option (List Value) := match st with
  | .long y :: .long x :: r => some (.int (lg_cmp x y) :: r)
  | _ => none
def sm_ldi (lv : sm_V) (i : Nat) (st : List Value) : Option (List Value) := match sm_lk lv i with
  | some (.int x) => some (.int x :: st)
  | _ => none
def sm_ldl (lv : sm_V) (i : Nat) (st : List Value) : Option (List Value) := match sm_lk lv i with
  | some (.long x) => some (.long x :: st)
  | _ => none
def sm_lda (lv : sm_V) (i : Nat) (st : List Value) : Option (List Value) := match sm_lk lv i with
  | some (.ref x) => some (.ref x :: st)
  | some .null => some (.null :: st)
  | _ => none
def sm_sti (lv : sm_V) (i nL : Nat) (st : List Value) (m : sm_Y) : sm_O := match st with
  | .int x :: r => if i < nL then some (sm_s1 lv i (.int x), r, m) else none
  | _ => none
def sm_stl (lv : sm_V) (i nL : Nat) (st : List Value) (m : sm_Y) : sm_O := match st with
  | .long x :: r => if i + 1 < nL then some (sm_s2 lv i (.long x), r, m) else none
  | _ => none
def sm_sta (lv : sm_V) (i nL : Nat) (st : List Value) (m : sm_Y) : sm_O := match st with
  | .ref x :: r => if i < nL then some (sm_s1 lv i (.ref x), r, m) else none
  | .null :: r => if i < nL then some (sm_s1 lv i .null, r, m) else none
  | _ => none
def sm_inc (lv : sm_V) (i : Nat) (n : Int) (nL : Nat) (st : List Value) (m : sm_Y) : sm_O := match sm_lk lv i with
  | some (.int x) => if i < nL then some (sm_s1 lv i (.int (x + Int32.ofInt n)), st, m) else none
  | _ => none
def sm_dup (st : List Value) : Option (List Value) := match st with
  | v :: r => if v.category = 1 then some (v :: v :: r) else none
  | _ => none
def sm_dupx1 (st : List Value) : Option (List Value) := match st with
  | v :: u :: r => if v.category = 1 ∧ u.category = 1 then some (v :: u :: v :: r) else none
  | _ => none
def sm_dup2 (st : List Value) : Option (List Value) := match st with
  | v :: u :: r => if v.category = 1 ∧ u.category = 1 then some (v :: u :: v :: u :: r) else none
  | _ => none
def sm_pop (st : List Value) : Option (List Value) := match st with
  | v :: r => if v.category = 1 then some r else none
  | _ => none
def sm_out (i : Int32) (n : Nat) : Prop := i < 0 ∨ n ≤ i.toNatClampNeg
def sm_gI (S : sm_C) (lay : List (Nat × Nat)) (m : sm_Y) (st : List Value) : Option (List Value) := match st with
  | .int i :: .ref p :: r => match lay[p]? with
    | some (1, n) => if i < 0 ∨ n ≤ i.toNatClampNeg then none else some (.int (m.1 p i.toNatClampNeg) :: r)
    | some _ => none
    | none => match sm_sI S p with
      | some q => if i < 0 ∨ q.1 ≤ i.toNatClampNeg then none else some (.int (q.2 i.toNatClampNeg) :: r)
      | none => none
  | _ => none
def sm_gB (lay : List (Nat × Nat)) (m : sm_Y) (st : List Value) : Option (List Value) := match st with
  | .int i :: .ref p :: r => match lay[p]? with
    | some (2, n) => if i < 0 ∨ n ≤ i.toNatClampNeg then none else some (.int (m.1 p i.toNatClampNeg) :: r)
    | some (3, n) => if i < 0 ∨ n ≤ i.toNatClampNeg then none else some (.int (m.1 p i.toNatClampNeg) :: r)
    | _ => none
  | _ => none
def sm_gL (lay : List (Nat × Nat)) (m : sm_Y) (st : List Value) : Option (List Value) := match st with
  | .int i :: .ref p :: r => match lay[p]? with
    | some (4, n) => if i < 0 ∨ n ≤ i.toNatClampNeg then none else some (.long (m.2.1 p i.toNatClampNeg) :: r)
    | some _ => none
    | none => match sm_sL p with
      | some q => if i < 0 ∨ q.1 ≤ i.toNatClampNeg then none else some (.long (q.2 i.toNatClampNeg) :: r)
      | none => none
  | _ => none
def sm_len (S : sm_C) (lay : List (Nat × Nat)) (st : List Value) : Option (List Value) := match st with
  | .ref p :: r => match lay[p]? with
    | some (0, _) => none
    | some (t + 1, n) => if t < 4 then some (.int (Int32.ofNat n) :: r) else none
    | none => match sm_sI S p with
      | some q => some (.int (Int32.ofNat q.1) :: r)
      | none => match sm_sL p with
        | some q => some (.int (Int32.ofNat q.1) :: r)
        | none => none
  | _ => none
def sm_pI (lv : sm_V) (lay : List (Nat × Nat)) (m : sm_Y) (st : List Value) : sm_O := match st with
  | .int x :: .int i :: .ref p :: r => match lay[p]? with
    | some (1, n) => if i < 0 ∨ n ≤ i.toNatClampNeg then none else some (lv, r, sm_up m.1 p i.toNatClampNeg x, m.2)
    | _ => none
  | _ => none
def sm_pB (lv : sm_V) (lay : List (Nat × Nat)) (m : sm_Y) (st : List Value) : sm_O := match st with
  | .int x :: .int i :: .ref p :: r => match lay[p]? with
    | some (2, n) => if i < 0 ∨ n ≤ i.toNatClampNeg then none else some (lv, r, sm_up m.1 p i.toNatClampNeg (vp_nar .byte x), m.2)
    | some (3, n) => if i < 0 ∨ n ≤ i.toNatClampNeg then none else some (lv, r, sm_up m.1 p i.toNatClampNeg (vp_nar .boolean x), m.2)
    | _ => none
  | _ => none
def sm_pL (lv : sm_V) (lay : List (Nat × Nat)) (m : sm_Y) (st : List Value) : sm_O := match st with
  | .long x :: .int i :: .ref p :: r => match lay[p]? with
    | some (4, n) => if i < 0 ∨ n ≤ i.toNatClampNeg then none else some (lv, r, m.1, sm_up m.2.1 p i.toNatClampNeg x, m.2.2)
    | _ => none
  | _ => none
def sm_get (lay : List (Nat × Nat)) (m : sm_Y) (c k : Nat) (st : List Value) : Option (List Value) := match st with
  | .ref p :: r => match lay[p]? with
    | some (0, c') => if c' = c then (if sm_cd c k = 1 then some (sm_rv (m.2.2 p k) :: r) else some (.int (m.1 p k) :: r)) else none
    | _ => none
  | _ => none
def sm_put (lv : sm_V) (lay : List (Nat × Nat)) (m : sm_Y) (c k : Nat) (st : List Value) : sm_O := match st with
  | v :: .ref p :: r => match lay[p]? with
    | some (0, c') => if c' = c then (match sm_cd c k, v with
      | 0, .int x => some (lv, r, sm_up m.1 p k x, m.2)
      | 1, .ref q => some (lv, r, m.1, m.2.1, sm_up m.2.2 p k (some q))
      | 1, .null => some (lv, r, m.1, m.2.1, sm_up m.2.2 p k none)
      | 2, .int x => if x = 0 ∨ x = 1 then some (lv, r, sm_up m.1 p k x, m.2) else none
      | _, _ => none) else none
    | _ => none
  | _ => none
def sm_cpy (lv : sm_V) (lay : List (Nat × Nat)) (m : sm_Y) (st : List Value) : sm_O := match st with
  | .int n :: .int dp :: .ref a :: .int sp :: .ref a0 :: r => match lay[a0]?, lay[a]? with
    | some (1, n0), some (1, n1) => if sp < 0 ∨ dp < 0 ∨ n < 0 ∨ n0 < sp.toNatClampNeg + n.toNatClampNeg ∨ n1 < dp.toNatClampNeg + n.toNatClampNeg ∨ 8 < (r.map fun v => v.category).sum then none else some (lv, r, sm_row m.1 a (va_cpy (m.1 a0) (m.1 a) sp.toNatClampNeg dp.toNatClampNeg n.toNatClampNeg), m.2)
    | _, _ => none
  | _ => none
def sm_oin (st : List Value) : Option (List Value) := match st with
  | .ref _ :: r => if (r.map fun v => v.category).sum ≤ 8 then some r else none
  | _ => none
def sm_ma (f : Int32 → Int32 → Int32) (st : List Value) : Option (List Value) := match st with
  | .int y :: .int x :: r => if (r.map fun v => v.category).sum ≤ 8 then some (.int (f x y) :: r) else none
  | _ => none
def sm_mb (f : Int32 → Int32) (st : List Value) : Option (List Value) := match st with
  | .int x :: r => if (r.map fun v => v.category).sum ≤ 8 then some (.int (f x) :: r) else none
  | _ => none
def sm_st4 (ops : List Nat) (lv : sm_V) (lay : List (Nat × Nat)) (m : sm_Y) (st : List Value) : sm_O := match ops with
  | 0 :: _ => sm_cpy lv lay m st
  | 1 :: _ => sm_p lv m (sm_ma (fun x y => if x < y then y else x) st)
  | 2 :: _ => sm_p lv m (sm_ma (fun x y => if y < x then y else x) st)
  | 3 :: _ => sm_p lv m (sm_mb (fun x => if 0 ≤ x then x else 0 - x) st)
  | _ => none
def sm_one (S : sm_C) (nL : Nat) (i : Instr) (ops : List Nat) (lv : sm_V) (st : List Value) (lay : List (Nat × Nat)) (m : sm_Y) : sm_O := match i with
  | .iconst n => some (lv, .int (Int32.ofInt n) :: st, m)
  | .bipush n => some (lv, .int (Int8.ofInt n).toInt32 :: st, m)
  | .sipush n => some (lv, .int (Int16.ofInt n).toInt32 :: st, m)
  | .lconst n => some (lv, .long (Int64.ofNat n) :: st, m)
  | .ldc _ => some (lv, .int (Int32.ofNat (ops.getD 0 0)) :: st, m)
  | .ldc_w _ => some (lv, .int (Int32.ofNat (ops.getD 0 0)) :: st, m)
  | .ldc2_w _ => some (lv, .long (Int64.ofNat (ops.getD 0 0)) :: st, m)
  | .aconst_null => some (lv, .null :: st, m)
  | .iload k => sm_p lv m (sm_ldi lv k st)
  | .iload_n k => sm_p lv m (sm_ldi lv k st)
  | .lload k => sm_p lv m (sm_ldl lv k st)
  | .lload_n k => sm_p lv m (sm_ldl lv k st)
  | .aload k => sm_p lv m (sm_lda lv k st)
  | .aload_n k => sm_p lv m (sm_lda lv k st)
  | .istore k => sm_sti lv k nL st m
  | .istore_n k => sm_sti lv k nL st m
  | .lstore k => sm_stl lv k nL st m
  | .lstore_n k => sm_stl lv k nL st m
  | .astore k => sm_sta lv k nL st m
  | .astore_n k => sm_sta lv k nL st m
  | .iinc k n => sm_inc lv k n nL st m
  | .iadd => sm_p lv m (sm_ii (fun x y => x + y) st)
  | .isub => sm_p lv m (sm_ii (fun x y => x - y) st)
  | .imul => sm_p lv m (sm_ii (fun x y => x * y) st)
  | .iand => sm_p lv m (sm_ii (fun x y => x &&& y) st)
  | .ior => sm_p lv m (sm_ii (fun x y => x ||| y) st)
  | .ixor => sm_p lv m (sm_ii (fun x y => x ^^^ y) st)
  | .ishl => sm_p lv m (sm_ii (fun x y => x <<< (y &&& 31)) st)
  | .ishr => sm_p lv m (sm_ii (fun x y => x >>> (y &&& 31)) st)
  | .iushr => sm_p lv m (sm_ii (fun x y => (x.toUInt32 >>> (y.toUInt32 &&& Int32.toUInt32 31)).toInt32) st)
  | .idiv => sm_p lv m (sm_iq (fun x y => x / y) st)
  | .irem => sm_p lv m (sm_iq (fun x y => x - x / y * y) st)
  | .ineg => sm_p lv m (sm_i1 (fun x => .int (-x)) st)
  | .i2b => sm_p lv m (sm_i1 (fun x => .int x.toInt8.toInt32) st)
  | .i2l => sm_p lv m (sm_i1 (fun x => .long x.toInt64) st)
  | .l2i => sm_p lv m (sm_l1 (fun x => .int x.toInt32) st)
  | .ladd => sm_p lv m (sm_ll (fun x y => x + y) st)
  | .lsub => sm_p lv m (sm_ll (fun x y => x - y) st)
  | .lmul => sm_p lv m (sm_ll (fun x y => x * y) st)
  | .land => sm_p lv m (sm_ll (fun x y => x &&& y) st)
  | .lor => sm_p lv m (sm_ll (fun x y => x ||| y) st)
  | .lshl => sm_p lv m (sm_li (fun x y => x <<< (y.toInt64 &&& 63)) st)
  | .lshr => sm_p lv m (sm_li (fun x y => x >>> (y.toInt64 &&& 63)) st)
  | .lcmp => sm_p lv m (sm_lc st)
  | .dup => sm_p lv m (sm_dup st)
  | .dup_x1 => sm_p lv m (sm_dupx1 st)
  | .dup2 => sm_p lv m (sm_dup2 st)
  | .pop => sm_p lv m (sm_pop st)
  | .iaload => sm_p lv m (sm_gI S lay m st)
  | .baload => sm_p lv m (sm_gB lay m st)
  | .laload => sm_p lv m (sm_gL lay m st)
  | .arraylength => sm_p lv m (sm_len S lay st)
  | .iastore => sm_pI lv lay m st
  | .bastore => sm_pB lv lay m st
  | .lastore => sm_pL lv lay m st
  | .getfield _ => sm_p lv m (sm_get lay m (ops.getD 0 0) (ops.getD 1 0) st)
  | .putfield _ => sm_put lv lay m (ops.getD 0 0) (ops.getD 1 0) st
  | .getstatic _ => some (lv, .ref (ops.getD 0 0) :: st, m)
  | .invokestatic _ => sm_st4 ops lv lay m st
  | .invokespecial _ => sm_p lv m (sm_oin st)
  | _ => none
/-! branches -/
def sm_b1 {α : Type} (c : ClassFile.Cond) (st : List Value) (a b : List Value → Option α) : Option α := match st with
  | .int x :: r => match c with
    | .eq => if x = 0 then a r else b r
    | .ne => if x = 0 then b r else a r
    | .lt => if x < 0 then a r else b r
    | .ge => if 0 ≤ x then a r else b r
    | .gt => if 0 < x then a r else b r
    | .le => if x ≤ 0 then a r else b r
  | _ => none
def sm_b2 {α : Type} (c : ClassFile.Cond) (st : List Value) (a b : List Value → Option α) : Option α := match st with
  | .int y :: .int x :: r => match c with
    | .eq => if x = y then a r else b r
    | .ne => if x = y then b r else a r
    | .lt => if x < y then a r else b r
    | .ge => if y ≤ x then a r else b r
    | .gt => if y < x then a r else b r
    | .le => if x ≤ y then a r else b r
  | _ => none
def sm_bn {α : Type} (st : List Value) (a b : List Value → Option α) : Option α := match st with
  | .null :: r => a r
  | .ref _ :: r => b r
  | _ => none
def sm_sw {α : Type} (x : Int32) (k : Nat → Option α) (d : Nat) : Int → List Nat → Option α
  | _, [] => k d
  | v, b :: r => if x.toInt = v then k b else sm_sw x k d (v + 1) r
def sm_lo {α : Type} (x : Int32) (k : Nat → Option α) (d : Nat) : List (Int × Int) → List Nat → Option α
  | [], _ => k d
  | _ :: _, [] => none
  | v :: vs, b :: r => if x.toInt = v.1 then k b else sm_lo x k d vs r
def sm_isZ (r : Option FieldType) : Bool := match r with
  | some .boolean => true
  | _ => false
/-- the receiver of a call -/
def sm_rc (inst ci : Nat) (lay : List (Nat × Nat)) (st : List Value) (n : Nat) : Bool := match inst with
  | 0 => true
  | _ => match st.drop n with
    | .ref b :: _ => match lay[b]? with
      | some (0, c') => decide (c' = ci)
      | _ => false
    | _ => false
/-- a call: what is asked of it, then what comes back -/
def sm_inv (rec : List Value → Option sm_Z) (n nL mc ms : Nat) (rc : Bool) (st : List Value) (cs : Nat × Nat) (lim : Nat × Nat) (k : List Value → sm_W → Nat × Nat → Option sm_Z) : Option sm_Z :=
  if rc = false ∨ st.length < n ∨ nL < (lg_sl (st.take n).reverse).length ∨ 8 < ((st.drop n).map fun v => v.category).sum ∨ lim.1 < cs.1 + mc ∨ lim.2 < cs.2 + ms then none else
  match rec (st.take n).reverse with
  | none => none
  | some z => k (z.1.toList ++ st.drop n) z.2 (cs.1 + mc, cs.2 + ms)
def sm_else (P : Nat → sm_M) (S : sm_C) (rec : Nat → Nat → Nat → List Value → List Value → sm_W → Nat × Nat → Option sm_Z) (d : Nat) (M : sm_M) (i : Instr) (ops : List Nat) (lv : sm_V) (st : List Value) (w : sm_W) (cs : Nat × Nat) (k : sm_V → List Value → sm_W → Nat × Nat → Option sm_Z) : Option sm_Z := match ops with
  | g :: inst :: ci :: _ :: _ :: _ :: _ :: _ => match d with
    | 0 => none
    | d + 1 => sm_inv (fun as => rec d g 0 as [] w (0, 0)) ((P g).2.2.2.2.1 + inst) (P g).2.2.1 (P g).2.2.2.2.2.1 (P g).2.2.2.2.2.2.1 (sm_rc inst ci w.1 st (P g).2.2.2.2.1) st cs (M.2.2.2.2.2.1, M.2.2.2.2.2.2.1) (fun s' w' cs' => k lv s' w' cs')
  | _ => match sm_one S M.2.2.1 i ops lv st w.1 w.2 with
    | some q => k q.1 q.2.1 (w.1, q.2.2) cs
    | none => none
def sm_blk (P : Nat → sm_M) (S : sm_C) (rec : Nat → Nat → Nat → List Value → List Value → sm_W → Nat × Nat → Option sm_Z) (jmp : Nat → sm_V → List Value → sm_W → Nat × Nat → Option sm_Z) (d : Nat) (M : sm_M) (fall : Nat) : List (Instr × List Nat) → sm_V → List Value → sm_W → Nat × Nat → Option sm_Z
  | [], lv, st, w, cs => jmp fall lv st w cs
  | (i, ops) :: is, lv, st, w, cs => match i with
    | .goto _ => jmp (ops.getD 0 0) lv st w cs
    | .ifCond c _ => sm_b1 c st (fun r => jmp (ops.getD 0 0) lv r w cs) (fun r => jmp (ops.getD 1 0) lv r w cs)
    | .if_icmp c _ => sm_b2 c st (fun r => jmp (ops.getD 0 0) lv r w cs) (fun r => jmp (ops.getD 1 0) lv r w cs)
    | .ifnull _ => sm_bn st (fun r => jmp (ops.getD 0 0) lv r w cs) (fun r => jmp (ops.getD 1 0) lv r w cs)
    | .ifnonnull _ => sm_bn st (fun r => jmp (ops.getD 1 0) lv r w cs) (fun r => jmp (ops.getD 0 0) lv r w cs)
    | .tableswitch _ lo _ _ => match st with
      | .int x :: r => sm_sw x (fun b => jmp b lv r w cs) (ops.getD 0 0) lo (ops.drop 1)
      | _ => none
    | .lookupswitch _ ps => match st with
      | .int x :: r => sm_lo x (fun b => jmp b lv r w cs) (ops.getD 0 0) ps.toList (ops.drop 1)
      | _ => none
    | .ireturn => match st with
      | [.int x] => if cs = (M.2.2.2.2.2.1, M.2.2.2.2.2.2.1) then (if sm_isZ M.2.2.2.1 = true then (if x = 0 ∨ x = 1 then some (some (.int x), w) else none) else some (some (.int x), w)) else none
      | _ => none
    | .lreturn => match st with
      | [.long x] => if cs = (M.2.2.2.2.2.1, M.2.2.2.2.2.2.1) then some (some (.long x), w) else none
      | _ => none
    | .areturn => match st with
      | [.ref x] => if cs = (M.2.2.2.2.2.1, M.2.2.2.2.2.2.1) then some (some (.ref x), w) else none
      | _ => none
    | .return_ => match st with
      | [] => if cs = (M.2.2.2.2.2.1, M.2.2.2.2.2.2.1) then some (none, w) else none
      | _ => none
    | .new _ => if 1000 ≤ w.1.length ∨ M.2.2.2.2.2.1 < cs.1 + 1 ∨ M.2.2.2.2.2.2.1 < cs.2 + sm_N (ops.getD 0 0) then none else
        sm_blk P S rec jmp d M fall is lv (.ref w.1.length :: st) (w.1 ++ [(0, ops.getD 0 0)], sm_row w.2.1 w.1.length (fun _ => 0), w.2.2.1, sm_row w.2.2.2 w.1.length (fun _ => none)) (cs.1 + 1, cs.2 + sm_N (ops.getD 0 0))
    | .newarray _ => match st with
      | .int n :: r => if n < 0 ∨ 100000 < n.toNatClampNeg ∨ 1000 ≤ w.1.length ∨ M.2.2.2.2.2.1 < cs.1 + 1 ∨ M.2.2.2.2.2.2.1 < cs.2 + n.toNatClampNeg then none else
        sm_blk P S rec jmp d M fall is lv (.ref w.1.length :: r) (w.1 ++ [(ops.getD 0 0 + 1, n.toNatClampNeg)], sm_row w.2.1 w.1.length (fun _ => 0), sm_row w.2.2.1 w.1.length (fun _ => 0), w.2.2.2) (cs.1 + 1, cs.2 + n.toNatClampNeg)
      | _ => none
    | _ => sm_else P S rec d M i ops lv st w cs (fun lv st w cs => sm_blk P S rec jmp d M fall is lv st w cs)
def sm_go (P : Nat → sm_M) (S : sm_C) (rec : Nat → Nat → Nat → List Value → List Value → sm_W → Nat × Nat → Option sm_Z) (d f : Nat) (M : sm_M) : Nat → Nat → sm_V → List Value → sm_W → Nat × Nat → Option sm_Z
  | 0, _, _, _, _, _ => none
  | n + 1, b, lv, st, w, cs => if b = 0 then none else match M.2.2.2.2.2.2.2.2[b]? with
    | none => none
    | some (_, some live, _, _) => match sm_pick live lv with
      | none => none
      | some vs => rec d f b vs st w cs
    | some (_, none, fall, is) => sm_blk P S rec (sm_go P S rec d f M n) d M fall is lv st w cs
def sm_F (P : Nat → sm_M) (S : sm_C) (rec : Nat → Nat → Nat → List Value → List Value → sm_W → Nat × Nat → Option sm_Z) (d f b : Nat) (vs st : List Value) (w : sm_W) (cs : Nat × Nat) : Option sm_Z :=
  match (P f).2.2.2.2.2.2.2.2[b]? with
  | some (_, some live, fall, is) => sm_blk P S rec (sm_go P S rec d f (P f) 64) d (P f) fall is (if b = 0 then lv_args 0 vs else live.zip vs) st w cs
  | _ => none
def sm_run (P : Nat → sm_M) (S : sm_C) : Nat → Nat → Nat → Nat → List Value → List Value → sm_W → Nat × Nat → Option sm_Z
  | 0, _, _, _, _, _, _, _ => none
  | n + 1, d, f, b, vs, st, w, cs => sm_F P S (sm_run P S n) d f b vs st w cs
