section
/-! THE SMALL MACHINE: the same bytecode over numbered cells; all else of the machine is left out. Part 03 shows that the machine does what it does. -/
abbrev sm_I : Type := Nat → Nat → Int32
abbrev sm_L : Type := Nat → Nat → Int64
abbrev sm_R : Type := Nat → Nat → Option Nat
abbrev sm_Y : Type := sm_I × sm_L × sm_R
abbrev sm_W : Type := List (Nat × Nat) × sm_Y
abbrev sm_V : Type := List (Nat × Value)
/-- a block: its pc, the live locals if it is a cut, the block behind it, its instructions with what they mean -/
abbrev sm_B : Type := Nat × Option (List Nat) × Nat × List (Instr × List Nat)
/-- a method: name, bytes, locals, what it returns, parameters, cells and slots that it makes, places of its words, blocks -/
abbrev sm_M : Type := MethodName × ByteArray × Nat × Option FieldType × Nat × Nat × Nat × List Nat × List sm_B
abbrev sm_Z : Type := Option Value × sm_W
abbrev sm_C : Type := Nat × (Nat → Int32)
def sm_up {α : Type} (f : Nat → Nat → α) (p j : Nat) (v : α) : Nat → Nat → α := fun a => if a = p then (fun b => if b = j then v else f a b) else f a
def sm_row {α : Type} (f : Nat → Nat → α) (p : Nat) (g : Nat → α) : Nat → Nat → α := fun a => if a = p then g else f a
def sm_rv : Option Nat → Value
  | none => .null
  | some p => .ref p
def sm_lk : sm_V → Nat → Option Value
  | [], _ => none
  | (j, v) :: r, i => if j = i then some v else sm_lk r i
def sm_pick : List Nat → sm_V → Option (List Value)
  | [], _ => some []
  | i :: r, lv => match sm_lk lv i with
    | none => none
    | some v => match sm_pick r lv with
      | none => none
      | some vs => some (v :: vs)
def sm_s1 (lv : sm_V) (i : Nat) (v : Value) : sm_V := (i, v) :: lv.filter (fun q => !(q.1 == i) && !(q.1 + 1 == i && q.2.category == 2))
def sm_s2 (lv : sm_V) (i : Nat) (v : Value) : sm_V := (i, v) :: lv.filter (fun q => !(q.1 == i) && (!(q.1 == i + 1) && !(q.1 + 1 == i && q.2.category == 2)))
/-! kinds of cells: (0, c) one of the kind c; (1, n) ints, (2, n) bytes, (3, n) booleans, (4, n) longs, n of them. sm_tab: what each kind's fields are: 0 int, 1 reference, 2 boolean -/
def sm_tab : List (List Nat) := [[1, 1, 1, 1, 1, 2], [1, 1, 1], [1, 2, 1, 1, 1, 1, 0, 0, 0, 0, 2, 0, 2, 0, 0, 2, 0, 0], [1, 0, 0, 0], [0, 0, 1, 1, 1], [1, 1, 1, 1, 0, 0], [1, 1, 1, 1, 0, 0, 1, 0, 2, 2, 2, 2], [1, 1, 1, 1, 1, 0, 1, 0, 0, 0, 0, 0], [1, 1, 1, 1], [1, 1, 1, 0], [0, 0, 0, 0, 0, 0, 0, 1, 1, 1, 1, 1, 1, 1, 1, 1, 1, 1, 1], [1, 1, 1, 1, 1, 1, 1, 1, 1, 1, 0, 0, 2, 2], [0, 1, 0, 1, 0, 1, 1, 1, 1, 1, 0, 0, 0, 0, 0, 0, 0, 0, 0, 0, 0, 1, 1, 1, 1, 1, 1, 1, 1, 1, 1, 1, 1, 1, 1, 1, 1, 1, 1, 1, 1, 1, 1, 1, 1, 1, 0, 1, 1, 1, 1, 0, 0, 2, 0, 1, 1, 1, 1, 0, 1, 1, 1, 0, 2, 1, 1, 0, 0, 0, 2, 2, 0, 0, 0, 1, 1, 1, 1, 2, 2, 1, 0, 1, 0, 1, 1, 0, 1, 1, 2, 0, 0, 1, 1, 1, 0]]
def sm_N (c : Nat) : Nat := (sm_tab.getD c []).length
def sm_cd (c k : Nat) : Nat := (sm_tab.getD c []).getD k 0
/-! the arrays that stand from the beginning: 1000 WORDS, 1001 STEPS, 1002 ROOM, 1003 WITH_YES, 1004 the script -/
def sm_words : List Int64 := [7825519, 482854658917, 7823737, 1953066341, 28518, 26990, 7561593, 500136506228, 1937076837, 28530, 1869636974, 108187682958948, 6386539, 6385252, 24948]
def sm_steps : List Int32 := [0, 0, 1, 0, 1, 1, 1, 15, 2, 2, 17, 0, 0, 2, 3, 3, 15, 4, 4, 15, 5, 5, 16, 2, 0, 3, 6, 6, 15, 7, 7, 17, 0, 7, 4, 8, 8, 15, 9, 9, 5, 10, 10, 15, 2, 0, 6, 11, 11, 15, 12, 12, 18, 17, 12, 7, 13, 13, 16, 16, 16, 18, 17, 0, 8, 14, 14, 15, 16, 0, 12, 15, 15, 15, 16, 17, 15, 18, 18, 14, 19, 19, 16, 25, 18, 11, 20, 20, 15, 21, 21, 16, 23, 21, 19, 22, 22, 16, 23, 23, 16, 26, 23, 19, 24, 24, 16, 26, 25, 16, 26, 26, 9, 17, 26, 13, 17, 26, 17, 0, 0, 10, 27, 27, 15, 28, 28, 11, 29, 29, 15, 30, 30, 16, 5, 0, 21, 0]
def sm_room : List Int32 := [4, 6, 12, 10, 0, 0, 10, 0, 10, 0, 4, 0, 5, 0, 0]
def sm_withyes : List Int32 := [-1431655766, -858993460, -252645136, -16711936, -65536]
def sm_sI (S : sm_C) (p : Nat) : Option (Nat × (Nat → Int32)) := match p with
  | 1001 => some (sm_steps.length, fun j => sm_steps.getD j 0)
  | 1002 => some (sm_room.length, fun j => sm_room.getD j 0)
  | 1003 => some (sm_withyes.length, fun j => sm_withyes.getD j 0)
  | 1004 => some S
  | _ => none
def sm_sL (p : Nat) : Option (Nat × (Nat → Int64)) := match p with
  | 1000 => some (sm_words.length, fun j => sm_words.getD j 0)
  | _ => none
/-! what an instruction does to locals and stack and cells' contents -/
abbrev sm_O : Type := Option (sm_V × List Value × sm_Y)
def sm_p (lv : sm_V) (m : sm_Y) (o : Option (List Value)) : sm_O := match o with
  | some s => some (lv, s, m)
  | none => none
def sm_ii (f : Int32 → Int32 → Int32) (st : List Value) : Option (List Value) := match st with
  | .int y :: .int x :: r => some (.int (f x y) :: r)
  | _ => none
def sm_iq (f : Int32 → Int32 → Int32) (st : List Value) : Option (List Value) := match st with
  | .int y :: .int x :: r => if y = 0 then none else some (.int (f x y) :: r)
  | _ => none
def sm_ll (f : Int64 → Int64 → Int64) (st : List Value) : Option (List Value) := match st with
  | .long y :: .long x :: r => some (.long (f x y) :: r)
  | _ => none
def sm_li (f : Int64 → Int32 → Int64) (st : List Value) : Option (List Value) := match st with
  | .int y :: .long x :: r => some (.long (f x y) :: r)
  | _ => none
def sm_i1 (f : Int32 → Value) (st : List Value) : Option (List Value) := match st with
  | .int x :: r => some (f x :: r)
  | _ => none
def sm_l1 (f : Int64 → Value) (st : List Value) : Option (List Value) := match st with
  | .long x :: r => some (f x :: r)
  | _ => none
def sm_lc (st : List Value) : Option (List Value) := match st with
  | .long y :: .long x :: r => some (.int (lg_cmp x y) :: r)
  | _ => none
def sm_ldi (lv : sm_V) (i : Nat) (st : List Value) : Option (List Value) := match sm_lk lv i with
  | some (.int x) => some (.int x :: st)
  | _ => none
def sm_ldl (lv : sm_V) (i : Nat) (st : List Value) : Option (List Value) := match sm_lk lv i with
  | some (.long x) => some (.long x :: st)
  | _ => none
def sm_lda (lv : sm_V) (i : Nat) (st : List Value) : Option (List Value) := match sm_lk lv i with
  | some (.ref x) => some (.ref x :: st)
  | some .null => some (.null :: st)
  | _ => none
def sm_sti (lv : sm_V) (i nL : Nat) (st : List Value) (m : sm_Y) : sm_O := match st with
  | .int x :: r => if i < nL then some (sm_s1 lv i (.int x), r, m) else none
  | _ => none
def sm_stl (lv : sm_V) (i nL : Nat) (st : List Value) (m : sm_Y) : sm_O := match st with
  | .long x :: r => if i + 1 < nL then some (sm_s2 lv i (.long x), r, m) else none
  | _ => none
def sm_sta (lv : sm_V) (i nL : Nat) (st : List Value) (m : sm_Y) : sm_O := match st with
  | .ref x :: r => if i < nL then some (sm_s1 lv i (.ref x), r, m) else none
  | .null :: r => if i < nL then some (sm_s1 lv i .null, r, m) else none
  | _ => none
def sm_inc (lv : sm_V) (i : Nat) (n : Int) (nL : Nat) (st : List Value) (m : sm_Y) : sm_O := match sm_lk lv i with
  | some (.int x) => if i < nL then some (sm_s1 lv i (.int (x + Int32.ofInt n)), st, m) else none
  | _ => none
def sm_dup (st : List Value) : Option (List Value) := match st with
  | v :: r => if v.category = 1 then some (v :: v :: r) else none
  | _ => none
def sm_dupx1 (st : List Value) : Option (List Value) := match st with
  | v :: u :: r => if v.category = 1 ∧ u.category = 1 then some (v :: u :: v :: r) else none
  | _ => none
def sm_dup2 (st : List Value) : Option (List Value) := match st with
  | v :: u :: r => if v.category = 1 ∧ u.category = 1 then some (v :: u :: v :: u :: r) else none
  | _ => none
def sm_pop (st : List Value) : Option (List Value) := match st with
  | v :: r => if v.category = 1 then some r else none
  | _ => none
def sm_gI (S : sm_C) (lay : List (Nat × Nat)) (m : sm_Y) (st : List Value) : Option (List Value) := match st with
  | .int i :: .ref p :: r => match lay[p]? with
    | some (1, n) => if i < 0 ∨ n ≤ i.toNatClampNeg then none else some (.int (m.1 p i.toNatClampNeg) :: r)
    | some _ => none
    | none => match sm_sI S p with
      | some q => if i < 0 ∨ q.1 ≤ i.toNatClampNeg then none else some (.int (q.2 i.toNatClampNeg) :: r)
      | none => none
  | _ => none
def sm_gB (lay : List (Nat × Nat)) (m : sm_Y) (st : List Value) : Option (List Value) := match st with
  | .int i :: .ref p :: r => match lay[p]? with
    | some (2, n) => if i < 0 ∨ n ≤ i.toNatClampNeg then none else some (.int (m.1 p i.toNatClampNeg) :: r)
    | some (3, n) => if i < 0 ∨ n ≤ i.toNatClampNeg then none else some (.int (m.1 p i.toNatClampNeg) :: r)
    | _ => none
  | _ => none
def sm_gL (lay : List (Nat × Nat)) (m : sm_Y) (st : List Value) : Option (List Value) := match st with
  | .int i :: .ref p :: r => match lay[p]? with
    | some (4, n) => if i < 0 ∨ n ≤ i.toNatClampNeg then none else some (.long (m.2.1 p i.toNatClampNeg) :: r)
    | some _ => none
    | none => match sm_sL p with
      | some q => if i < 0 ∨ q.1 ≤ i.toNatClampNeg then none else some (.long (q.2 i.toNatClampNeg) :: r)
      | none => none
  | _ => none
def sm_len (S : sm_C) (lay : List (Nat × Nat)) (st : List Value) : Option (List Value) := match st with
  | .ref p :: r => match lay[p]? with
    | some (0, _) => none
    | some (t + 1, n) => if t < 4 then some (.int (Int32.ofNat n) :: r) else none
    | none => match sm_sI S p with
      | some q => some (.int (Int32.ofNat q.1) :: r)
      | none => match sm_sL p with
        | some q => some (.int (Int32.ofNat q.1) :: r)
        | none => none
  | _ => none
def sm_pI (lv : sm_V) (lay : List (Nat × Nat)) (m : sm_Y) (st : List Value) : sm_O := match st with
  | .int x :: .int i :: .ref p :: r => match lay[p]? with
    | some (1, n) => if i < 0 ∨ n ≤ i.toNatClampNeg then none else some (lv, r, sm_up m.1 p i.toNatClampNeg x, m.2)
    | _ => none
  | _ => none
def sm_pB (lv : sm_V) (lay : List (Nat × Nat)) (m : sm_Y) (st : List Value) : sm_O := match st with
  | .int x :: .int i :: .ref p :: r => match lay[p]? with
    | some (2, n) => if i < 0 ∨ n ≤ i.toNatClampNeg then none else some (lv, r, sm_up m.1 p i.toNatClampNeg (vp_nar .byte x), m.2)
    | some (3, n) => if i < 0 ∨ n ≤ i.toNatClampNeg then none else some (lv, r, sm_up m.1 p i.toNatClampNeg (vp_nar .boolean x), m.2)
    | _ => none
  | _ => none
def sm_pL (lv : sm_V) (lay : List (Nat × Nat)) (m : sm_Y) (st : List Value) : sm_O := match st with
  | .long x :: .int i :: .ref p :: r => match lay[p]? with
    | some (4, n) => if i < 0 ∨ n ≤ i.toNatClampNeg then none else some (lv, r, m.1, sm_up m.2.1 p i.toNatClampNeg x, m.2.2)
    | _ => none
  | _ => none
def sm_get (lay : List (Nat × Nat)) (m : sm_Y) (c k : Nat) (st : List Value) : Option (List Value) := match st with
  | .ref p :: r => match lay[p]? with
    | some (0, c') => if c' = c then (if sm_cd c k = 1 then some (sm_rv (m.2.2 p k) :: r) else some (.int (m.1 p k) :: r)) else none
    | _ => none
  | _ => none
def sm_put (lv : sm_V) (lay : List (Nat × Nat)) (m : sm_Y) (c k : Nat) (st : List Value) : sm_O := match st with
  | v :: .ref p :: r => match lay[p]? with
    | some (0, c') => if c' = c then (match sm_cd c k, v with
      | 0, .int x => some (lv, r, sm_up m.1 p k x, m.2)
      | 1, .ref q => some (lv, r, m.1, m.2.1, sm_up m.2.2 p k (some q))
      | 1, .null => some (lv, r, m.1, m.2.1, sm_up m.2.2 p k none)
      | 2, .int x => if x = 0 ∨ x = 1 then some (lv, r, sm_up m.1 p k x, m.2) else none
      | _, _ => none) else none
    | _ => none
  | _ => none
def sm_cpy (lv : sm_V) (lay : List (Nat × Nat)) (m : sm_Y) (st : List Value) : sm_O := match st with
  | .int n :: .int dp :: .ref a :: .int sp :: .ref a0 :: r => match lay[a0]?, lay[a]? with
    | some (1, n0), some (1, n1) => if sp < 0 ∨ dp < 0 ∨ n < 0 ∨ n0 < sp.toNatClampNeg + n.toNatClampNeg ∨ n1 < dp.toNatClampNeg + n.toNatClampNeg ∨ 8 < (r.map fun v => v.category).sum then none else some (lv, r, sm_row m.1 a (va_cpy (m.1 a0) (m.1 a) sp.toNatClampNeg dp.toNatClampNeg n.toNatClampNeg), m.2)
    | _, _ => none
  | _ => none
def sm_oin (st : List Value) : Option (List Value) := match st with
  | .ref _ :: r => if (r.map fun v => v.category).sum ≤ 8 then some r else none
  | _ => none
def sm_ma (f : Int32 → Int32 → Int32) (st : List Value) : Option (List Value) := match st with
  | .int y :: .int x :: r => if (r.map fun v => v.category).sum ≤ 8 then some (.int (f x y) :: r) else none
  | _ => none
def sm_mb (f : Int32 → Int32) (st : List Value) : Option (List Value) := match st with
  | .int x :: r => if (r.map fun v => v.category).sum ≤ 8 then some (.int (f x) :: r) else none
  | _ => none
def sm_st4 (ops : List Nat) (lv : sm_V) (lay : List (Nat × Nat)) (m : sm_Y) (st : List Value) : sm_O := match ops with
  | 0 :: _ => sm_cpy lv lay m st
  | 1 :: _ => sm_p lv m (sm_ma (fun x y => if x < y then y else x) st)
  | 2 :: _ => sm_p lv m (sm_ma (fun x y => if y < x then y else x) st)
  | 3 :: _ => sm_p lv m (sm_mb (fun x => if 0 ≤ x then x else 0 - x) st)
  | _ => none
def sm_one (S : sm_C) (nL : Nat) (i : Instr) (ops : List Nat) (lv : sm_V) (st : List Value) (lay : List (Nat × Nat)) (m : sm_Y) : sm_O := match i with
  | .iconst n => some (lv, .int (Int32.ofInt n) :: st, m)
  | .bipush n => some (lv, .int (Int8.ofInt n).toInt32 :: st, m)
  | .sipush n => some (lv, .int (Int16.ofInt n).toInt32 :: st, m)
  | .lconst n => some (lv, .long (Int64.ofNat n) :: st, m)
  | .ldc _ => some (lv, .int (Int32.ofNat (ops.getD 0 0)) :: st, m)
  | .ldc_w _ => some (lv, .int (Int32.ofNat (ops.getD 0 0)) :: st, m)
  | .ldc2_w _ => some (lv, .long (Int64.ofNat (ops.getD 0 0)) :: st, m)
  | .aconst_null => some (lv, .null :: st, m)
  | .iload k => sm_p lv m (sm_ldi lv k st)
  | .iload_n k => sm_p lv m (sm_ldi lv k st)
  | .lload k => sm_p lv m (sm_ldl lv k st)
  | .lload_n k => sm_p lv m (sm_ldl lv k st)
  | .aload k => sm_p lv m (sm_lda lv k st)
  | .aload_n k => sm_p lv m (sm_lda lv k st)
  | .istore k => sm_sti lv k nL st m
  | .istore_n k => sm_sti lv k nL st m
  | .lstore k => sm_stl lv k nL st m
  | .lstore_n k => sm_stl lv k nL st m
  | .astore k => sm_sta lv k nL st m
  | .astore_n k => sm_sta lv k nL st m
  | .iinc k n => sm_inc lv k n nL st m
  | .iadd => sm_p lv m (sm_ii (fun x y => x + y) st)
  | .isub => sm_p lv m (sm_ii (fun x y => x - y) st)
  | .imul => sm_p lv m (sm_ii (fun x y => x * y) st)
  | .iand => sm_p lv m (sm_ii (fun x y => x &&& y) st)
  | .ior => sm_p lv m (sm_ii (fun x y => x ||| y) st)
  | .ixor => sm_p lv m (sm_ii (fun x y => x ^^^ y) st)
  | .ishl => sm_p lv m (sm_ii (fun x y => x <<< (y &&& 31)) st)
  | .ishr => sm_p lv m (sm_ii (fun x y => x >>> (y &&& 31)) st)
  | .iushr => sm_p lv m (sm_ii (fun x y => (x.toUInt32 >>> (y.toUInt32 &&& Int32.toUInt32 31)).toInt32) st)
  | .idiv => sm_p lv m (sm_iq (fun x y => x / y) st)
  | .irem => sm_p lv m (sm_iq (fun x y => x - x / y * y) st)
  | .ineg => sm_p lv m (sm_i1 (fun x => .int (-x)) st)
  | .i2b => sm_p lv m (sm_i1 (fun x => .int x.toInt8.toInt32) st)
  | .i2l => sm_p lv m (sm_i1 (fun x => .long x.toInt64) st)
  | .l2i => sm_p lv m (sm_l1 (fun x => .int x.toInt32) st)
  | .ladd => sm_p lv m (sm_ll (fun x y => x + y) st)
  | .lsub => sm_p lv m (sm_ll (fun x y => x - y) st)
  | .lmul => sm_p lv m (sm_ll (fun x y => x * y) st)
  | .land => sm_p lv m (sm_ll (fun x y => x &&& y) st)
  | .lor => sm_p lv m (sm_ll (fun x y => x ||| y) st)
  | .lshl => sm_p lv m (sm_li (fun x y => x <<< (y.toInt64 &&& 63)) st)
  | .lshr => sm_p lv m (sm_li (fun x y => x >>> (y.toInt64 &&& 63)) st)
  | .lcmp => sm_p lv m (sm_lc st)
  | .dup => sm_p lv m (sm_dup st)
  | .dup_x1 => sm_p lv m (sm_dupx1 st)
  | .dup2 => sm_p lv m (sm_dup2 st)
  | .pop => sm_p lv m (sm_pop st)
  | .iaload => sm_p lv m (sm_gI S lay m st)
  | .baload => sm_p lv m (sm_gB lay m st)
  | .laload => sm_p lv m (sm_gL lay m st)
  | .arraylength => sm_p lv m (sm_len S lay st)
  | .iastore => sm_pI lv lay m st
  | .bastore => sm_pB lv lay m st
  | .lastore => sm_pL lv lay m st
  | .getfield _ => sm_p lv m (sm_get lay m (ops.getD 0 0) (ops.getD 1 0) st)
  | .putfield _ => sm_put lv lay m (ops.getD 0 0) (ops.getD 1 0) st
  | .getstatic _ => some (lv, .ref (ops.getD 0 0) :: st, m)
  | .invokestatic _ => sm_st4 ops lv lay m st
  | .invokespecial _ => sm_p lv m (sm_oin st)
  | _ => none
/-! branches -/
def sm_b1 {α : Type} (c : ClassFile.Cond) (st : List Value) (a b : List Value → Option α) : Option α := match st with
  | .int x :: r => match c with
    | .eq => if x = 0 then a r else b r
    | .ne => if x = 0 then b r else a r
    | .lt => if x < 0 then a r else b r
    | .ge => if 0 ≤ x then a r else b r
    | .gt => if 0 < x then a r else b r
    | .le => if x ≤ 0 then a r else b r
  | _ => none
def sm_b2 {α : Type} (c : ClassFile.Cond) (st : List Value) (a b : List Value → Option α) : Option α := match st with
  | .int y :: .int x :: r => match c with
    | .eq => if x = y then a r else b r
    | .ne => if x = y then b r else a r
    | .lt => if x < y then a r else b r
    | .ge => if y ≤ x then a r else b r
    | .gt => if y < x then a r else b r
    | .le => if x ≤ y then a r else b r
  | _ => none
def sm_bn {α : Type} (st : List Value) (a b : List Value → Option α) : Option α := match st with
  | .null :: r => a r
  | .ref _ :: r => b r
  | _ => none
def sm_sw {α : Type} (x : Int32) (k : Nat → Option α) (d : Nat) : Int → List Nat → Option α
  | _, [] => k d
  | v, b :: r => if x.toInt = v then k b else sm_sw x k d (v + 1) r
def sm_lo {α : Type} (x : Int32) (k : Nat → Option α) (d : Nat) : List (Int × Int) → List Nat → Option α
  | [], _ => k d
  | _ :: _, [] => none
  | v :: vs, b :: r => if x.toInt = v.1 then k b else sm_lo x k d vs r
def sm_isZ (r : Option FieldType) : Bool := match r with
  | some .boolean => true
  | _ => false
/-- the receiver of a call -/
def sm_rc (inst ci : Nat) (lay : List (Nat × Nat)) (st : List Value) (n : Nat) : Bool := match inst with
  | 0 => true
  | _ => match st.drop n with
    | .ref b :: _ => match lay[b]? with
      | some (0, c') => decide (c' = ci)
      | _ => false
    | _ => false
/-- a call: what is asked of it, then what comes back -/
def sm_inv (rec : List Value → Option sm_Z) (n nL mc ms : Nat) (rc : Bool) (st : List Value) (cs : Nat × Nat) (lim : Nat × Nat) (k : List Value → sm_W → Nat × Nat → Option sm_Z) : Option sm_Z :=
  if rc = false ∨ st.length < n ∨ nL < (lg_sl (st.take n).reverse).length ∨ 8 < ((st.drop n).map fun v => v.category).sum ∨ lim.1 < cs.1 + mc ∨ lim.2 < cs.2 + ms then none else
  match rec (st.take n).reverse with
  | none => none
  | some z => k (z.1.toList ++ st.drop n) z.2 (cs.1 + mc, cs.2 + ms)
def sm_else (P : Nat → sm_M) (S : sm_C) (rec : Nat → Nat → Nat → List Value → List Value → sm_W → Nat × Nat → Option sm_Z) (d : Nat) (M : sm_M) (i : Instr) (ops : List Nat) (lv : sm_V) (st : List Value) (w : sm_W) (cs : Nat × Nat) (k : sm_V → List Value → sm_W → Nat × Nat → Option sm_Z) : Option sm_Z := match ops with
  | g :: inst :: ci :: _ :: _ :: _ :: _ :: _ => match d with
    | 0 => none
    | d + 1 => sm_inv (fun as => rec d g 0 as [] w (0, 0)) ((P g).2.2.2.2.1 + inst) (P g).2.2.1 (P g).2.2.2.2.2.1 (P g).2.2.2.2.2.2.1 (sm_rc inst ci w.1 st (P g).2.2.2.2.1) st cs (M.2.2.2.2.2.1, M.2.2.2.2.2.2.1) (fun s' w' cs' => k lv s' w' cs')
  | _ => match sm_one S M.2.2.1 i ops lv st w.1 w.2 with
    | some q => k q.1 q.2.1 (w.1, q.2.2) cs
    | none => none
def sm_blk (P : Nat → sm_M) (S : sm_C) (rec : Nat → Nat → Nat → List Value → List Value → sm_W → Nat × Nat → Option sm_Z) (jmp : Nat → sm_V → List Value → sm_W → Nat × Nat → Option sm_Z) (d : Nat) (M : sm_M) (fall : Nat) : List (Instr × List Nat) → sm_V → List Value → sm_W → Nat × Nat → Option sm_Z
  | [], lv, st, w, cs => jmp fall lv st w cs
  | (i, ops) :: is, lv, st, w, cs => match i with
    | .goto _ => jmp (ops.getD 0 0) lv st w cs
    | .ifCond c _ => sm_b1 c st (fun r => jmp (ops.getD 0 0) lv r w cs) (fun r => jmp (ops.getD 1 0) lv r w cs)
    | .if_icmp c _ => sm_b2 c st (fun r => jmp (ops.getD 0 0) lv r w cs) (fun r => jmp (ops.getD 1 0) lv r w cs)
    | .ifnull _ => sm_bn st (fun r => jmp (ops.getD 0 0) lv r w cs) (fun r => jmp (ops.getD 1 0) lv r w cs)
    | .ifnonnull _ => sm_bn st (fun r => jmp (ops.getD 1 0) lv r w cs) (fun r => jmp (ops.getD 0 0) lv r w cs)
    | .tableswitch _ lo _ _ => match st with
      | .int x :: r => sm_sw x (fun b => jmp b lv r w cs) (ops.getD 0 0) lo (ops.drop 1)
      | _ => none
    | .lookupswitch _ ps => match st with
      | .int x :: r => sm_lo x (fun b => jmp b lv r w cs) (ops.getD 0 0) ps.toList (ops.drop 1)
      | _ => none
    | .ireturn => match st with
      | [.int x] => if cs = (M.2.2.2.2.2.1, M.2.2.2.2.2.2.1) then (if sm_isZ M.2.2.2.1 = true then (if x = 0 ∨ x = 1 then some (some (.int x), w) else none) else some (some (.int x), w)) else none
      | _ => none
    | .lreturn => match st with
      | [.long x] => if cs = (M.2.2.2.2.2.1, M.2.2.2.2.2.2.1) then some (some (.long x), w) else none
      | _ => none
    | .areturn => match st with
      | [.ref x] => if cs = (M.2.2.2.2.2.1, M.2.2.2.2.2.2.1) then some (some (.ref x), w) else none
      | _ => none
    | .return_ => match st with
      | [] => if cs = (M.2.2.2.2.2.1, M.2.2.2.2.2.2.1) then some (none, w) else none
      | _ => none
    | .new _ => if 1000 ≤ w.1.length ∨ M.2.2.2.2.2.1 < cs.1 + 1 ∨ M.2.2.2.2.2.2.1 < cs.2 + sm_N (ops.getD 0 0) then none else
        sm_blk P S rec jmp d M fall is lv (.ref w.1.length :: st) (w.1 ++ [(0, ops.getD 0 0)], sm_row w.2.1 w.1.length (fun _ => 0), w.2.2.1, sm_row w.2.2.2 w.1.length (fun _ => none)) (cs.1 + 1, cs.2 + sm_N (ops.getD 0 0))
    | .newarray _ => match st with
      | .int n :: r => if n < 0 ∨ 100000 < n.toNatClampNeg ∨ 1000 ≤ w.1.length ∨ M.2.2.2.2.2.1 < cs.1 + 1 ∨ M.2.2.2.2.2.2.1 < cs.2 + n.toNatClampNeg then none else
        sm_blk P S rec jmp d M fall is lv (.ref w.1.length :: r) (w.1 ++ [(ops.getD 0 0 + 1, n.toNatClampNeg)], sm_row w.2.1 w.1.length (fun _ => 0), sm_row w.2.2.1 w.1.length (fun _ => 0), w.2.2.2) (cs.1 + 1, cs.2 + n.toNatClampNeg)
      | _ => none
    | _ => sm_else P S rec d M i ops lv st w cs (fun lv st w cs => sm_blk P S rec jmp d M fall is lv st w cs)
def sm_go (P : Nat → sm_M) (S : sm_C) (rec : Nat → Nat → Nat → List Value → List Value → sm_W → Nat × Nat → Option sm_Z) (d f : Nat) (M : sm_M) : Nat → Nat → sm_V → List Value → sm_W → Nat × Nat → Option sm_Z
  | 0, _, _, _, _, _ => none
  | n + 1, b, lv, st, w, cs => if b = 0 then none else match M.2.2.2.2.2.2.2.2[b]? with
    | none => none
    | some (_, some live, _, _) => match sm_pick live lv with
      | none => none
      | some vs => rec d f b vs st w cs
    | some (_, none, fall, is) => sm_blk P S rec (sm_go P S rec d f M n) d M fall is lv st w cs
def sm_F (P : Nat → sm_M) (S : sm_C) (rec : Nat → Nat → Nat → List Value → List Value → sm_W → Nat × Nat → Option sm_Z) (d f b : Nat) (vs st : List Value) (w : sm_W) (cs : Nat × Nat) : Option sm_Z :=
  match (P f).2.2.2.2.2.2.2.2[b]? with
  | some (_, some live, fall, is) => sm_blk P S rec (sm_go P S rec d f (P f) 64) d (P f) fall is (if b = 0 then lv_args 0 vs else live.zip vs) st w cs
  | _ => none
def sm_run (P : Nat → sm_M) (S : sm_C) : Nat → Nat → Nat → Nat → List Value → List Value → sm_W → Nat × Nat → Option sm_Z
  | 0, _, _, _, _, _, _, _ => none
  | n + 1, d, f, b, vs, st, w, cs => sm_F P S (sm_run P S n) d f b vs st w cs
end
section
/-! the world that the small machine's cells are in the heap: cell k lies at base + k -/
def sm_wl : List Cond := lw_tbl.filter goodWord
theorem sm_wl_good {w : Cond} (h : w ∈ sm_wl) : (w.onTables && w.keeps) = true ∨ ∃ ty, w = .arrayClass ty := good_of_word (List.mem_filter.mp h).2
def sm_chunk (k : Nat) : List Cond := match k with
  | 0 => tables_1_1
  | 1 => tables_1_2
  | 2 => tables_1_3
  | 3 => tables_1_4
  | 4 => tables_1_5
  | 5 => tables_1_6
  | 6 => tables_1_7
  | 7 => tables_1_8
  | 8 => tables_1_9
  | 9 => k2_sels lw_privs_1
  | 10 => k2_sels lw_privs_2
  | 11 => k2_sels lw_privs_3
  | 12 => k2_sels lw_privs_4
  | 13 => k2_sels lw_privs_5
  | 14 => k2_sels lw_privs_6
  | 15 => k2_sels lw_privs_7
  | 16 => k2_sels lw_privs_8
  | _ => []
theorem sm_sels_app (a b : List (MethodName × Nat)) : k2_sels (a ++ b) = k2_sels a ++ k2_sels b := List.map_append
theorem sm_chunk_in {k : Nat} {w : Cond} (h : w ∈ sm_chunk k) : w ∈ lw_tbl := by
  have ht : ∀ u, u ∈ tables_1 → u ∈ lw_tbl := fun u hu => List.mem_append_right _ hu
  have hp : ∀ u, u ∈ k2_sels lw_privs → u ∈ lw_tbl := fun u hu => List.mem_append_left _ hu
  unfold sm_chunk at h
  split at h
  · exact ht w (by unfold tables_1; simp only [List.mem_append]; simp [h])
  · exact ht w (by unfold tables_1; simp only [List.mem_append]; simp [h])
  · exact ht w (by unfold tables_1; simp only [List.mem_append]; simp [h])
  · exact ht w (by unfold tables_1; simp only [List.mem_append]; simp [h])
  · exact ht w (by unfold tables_1; simp only [List.mem_append]; simp [h])
  · exact ht w (by unfold tables_1; simp only [List.mem_append]; simp [h])
  · exact ht w (by unfold tables_1; simp only [List.mem_append]; simp [h])
  · exact ht w (by unfold tables_1; simp only [List.mem_append]; simp [h])
  · exact ht w (by unfold tables_1; simp only [List.mem_append]; simp [h])
  · exact hp w (by unfold lw_privs; simp only [sm_sels_app, List.mem_append]; simp [h])
  · exact hp w (by unfold lw_privs; simp only [sm_sels_app, List.mem_append]; simp [h])
  · exact hp w (by unfold lw_privs; simp only [sm_sels_app, List.mem_append]; simp [h])
  · exact hp w (by unfold lw_privs; simp only [sm_sels_app, List.mem_append]; simp [h])
  · exact hp w (by unfold lw_privs; simp only [sm_sels_app, List.mem_append]; simp [h])
  · exact hp w (by unfold lw_privs; simp only [sm_sels_app, List.mem_append]; simp [h])
  · exact hp w (by unfold lw_privs; simp only [sm_sels_app, List.mem_append]; simp [h])
  · exact hp w (by unfold lw_privs; simp only [sm_sels_app, List.mem_append]; simp [h])
  · cases h
/-- the word is the one at that place of the tables -/
def sm_has (pos : Nat) (w : Cond) : Bool := decide ((sm_chunk (pos / 256))[pos % 256]? = some w) && goodWord w
theorem sm_has_in {pos : Nat} {w : Cond} (h : sm_has pos w = true) : w ∈ sm_wl := by
  simp only [sm_has, Bool.and_eq_true, decide_eq_true_eq] at h
  exact List.mem_filter.mpr ⟨sm_chunk_in (List.mem_of_getElem? h.1), h.2⟩
theorem sm_inw0 (k j : Nat) {w : Cond} (h : (sm_chunk k)[j]? = some w) (hg : goodWord w = true) : w ∈ sm_wl := List.mem_filter.mpr ⟨sm_chunk_in (List.mem_of_getElem? h), hg⟩
def sm_ty : Nat → FieldType
  | 0 => .int
  | 1 => .byte
  | 2 => .boolean
  | _ => .long
def sm_tys (ct : Nat → ClassId) : List (ClassId × FieldType) := [(ct 0, .int), (ct 1, .byte), (ct 2, .boolean), (ct 3, .long)]
def sm_ad (base : Nat) (tt : Nat → Nat) (p : Nat) : Nat := if p < 1000 then base + p else tt (p - 1000)
def sm_cv (base : Nat) (tt : Nat → Nat) : Value → Value
  | .ref p => .ref (sm_ad base tt p)
  | v => v
def sm_cq (base : Nat) (tt : Nat → Nat) (q : Nat × Value) : Nat × Value := (q.1, sm_cv base tt q.2)
def sm_fv (base : Nat) (tt : Nat → Nat) (w : sm_W) (c k j : Nat) : Value := if sm_cd c j = 1 then sm_cv base tt (sm_rv (w.2.2.2 k j)) else .int (w.2.1 k j)
def sm_fs (base : Nat) (tt : Nat → Nat) (w : sm_W) (c k : Nat) : List Value := (List.range (sm_N c)).map (sm_fv base tt w c k)
def sm_E (base : Nat) (ct : Nat → ClassId) (tt : Nat → Nat) (w : sm_W) (k : Nat) (q : Nat × Nat) : Nat × va_E := (base + k, match q with
  | (0, c) => .inr (c, sm_fs base tt w c k)
  | (t + 1, n) => .inl (ct t, n, if t = 3 then .inr (.inl (w.2.2.1 k)) else .inl (w.2.1 k)))
def sm_ws (base : Nat) (ct : Nat → ClassId) (tt : Nat → Nat) (w : sm_W) : va_W := w.1.mapIdx (sm_E base ct tt w)
def sm_A (base : Nat) : Nat → Prop := fun q => base ≤ q
section SmWorld
variable {base : Nat} {ct : Nat → ClassId} {tt : Nat → Nat} {lay : List (Nat × Nat)} {m m' : sm_Y} {p : Nat}
theorem sm_cv_cat (v : Value) : (sm_cv base tt v).category = v.category := by cases v <;> rfl
theorem sm_cats (r : List Value) : ((r.map (sm_cv base tt)).map fun v => v.category) = r.map fun v => v.category := by
  rw [List.map_map]; exact List.map_congr_left (fun v _ => sm_cv_cat v)
theorem sm_ws_get (w : sm_W) (k : Nat) : (sm_ws base ct tt w)[k]? = w.1[k]?.map (sm_E base ct tt w k) := by
  simp [sm_ws, List.getElem?_mapIdx]
theorem sm_lt {α : Type} {l : List α} {k : Nat} {q : α} (h : l[k]? = some q) : k < l.length := (List.getElem?_eq_some_iff.mp h).1
theorem sm_ad_w (h : p < 1000) : sm_ad base tt p = base + p := by simp [sm_ad, h]
theorem sm_ad_s (h : 1000 ≤ p) : sm_ad base tt p = tt (p - 1000) := by simp [sm_ad, Nat.not_lt.mpr h]
theorem sm_at (hn : lay.length ≤ 1000) {q : Nat × Nat} (h : lay[p]? = some q) : (sm_ws base ct tt (lay, m))[p]? = some (sm_ad base tt p, (sm_E base ct tt (lay, m) p q).2) := by
  rw [sm_ws_get]
  show lay[p]?.map _ = _
  rw [h, sm_ad_w (Nat.lt_of_lt_of_le (sm_lt h) hn)]
  rfl
theorem sm_atI (hn : lay.length ≤ 1000) {n t : Nat} (h : lay[p]? = some (t + 1, n)) (ht : ¬ t = 3) : (sm_ws base ct tt (lay, m))[p]? = some (sm_ad base tt p, .inl (ct t, n, .inl (m.1 p))) := by
  rw [sm_at hn h]; simp [sm_E, ht]
theorem sm_atL (hn : lay.length ≤ 1000) {n : Nat} (h : lay[p]? = some (4, n)) : (sm_ws base ct tt (lay, m))[p]? = some (sm_ad base tt p, .inl (ct 3, n, .inr (.inl (m.2.1 p)))) := by
  rw [sm_at hn h]; simp [sm_E]
theorem sm_atO (hn : lay.length ≤ 1000) {c : Nat} (h : lay[p]? = some (0, c)) : (sm_ws base ct tt (lay, m))[p]? = some (sm_ad base tt p, .inr (c, sm_fs base tt (lay, m) c p)) := by
  rw [sm_at hn h]; simp [sm_E]
theorem sm_atA (hn : lay.length ≤ 1000) {n t : Nat} (h : lay[p]? = some (t + 1, n)) : ∃ x : vp_A, x.1 = n ∧ (sm_ws base ct tt (lay, m))[p]? = some (sm_ad base tt p, .inl (ct t, x)) := by
  rw [sm_at hn h]; exact ⟨(n, if t = 3 then .inr (.inl (m.2.1 p)) else .inl (m.1 p)), rfl, rfl⟩
theorem sm_D (w : sm_W) : va_D (sm_A base) (sm_ws base ct tt w) := by
  refine ⟨fun i j x y hx hy hxy => ?_, fun k q hk => ?_⟩
  · rw [sm_ws_get] at hx hy
    obtain ⟨u, -, rfl⟩ := Option.map_eq_some_iff.mp hx
    obtain ⟨v, -, rfl⟩ := Option.map_eq_some_iff.mp hy
    exact Nat.add_left_cancel hxy
  · rw [sm_ws_get] at hk
    obtain ⟨u, -, rfl⟩ := Option.map_eq_some_iff.mp hk
    exact Nat.le_add_right base k
/-- one cell changes -/
theorem sm_set (hn : lay.length ≤ 1000) {q : Nat × Nat} {e : va_E} (h : lay[p]? = some q) (ho : ∀ k, k ≠ p → ∀ u, sm_E base ct tt (lay, m') k u = sm_E base ct tt (lay, m) k u) (he : (sm_E base ct tt (lay, m') p q).2 = e) :
    (sm_ws base ct tt (lay, m)).set p (sm_ad base tt p, e) = sm_ws base ct tt (lay, m') := by
  have hp := sm_lt h
  refine List.ext_getElem? (fun k => ?_)
  rw [List.getElem?_set, sm_ws_get, sm_ws_get]
  show _ = lay[k]?.map _
  by_cases hk : p = k
  · subst hk
    have hl : p < (sm_ws base ct tt (lay, m)).length := by simp [sm_ws]; exact hp
    rw [if_pos rfl, if_pos hl, h, sm_ad_w (Nat.lt_of_lt_of_le hp hn), ← he]
    rfl
  · rw [if_neg hk]
    show lay[k]?.map _ = _
    cases lay[k]? with
    | none => rfl
    | some u => simp [ho k (fun x => hk x.symm) u]
theorem sm_E_I {j : Nat} {x : Int32} {k : Nat} (hk : k ≠ p) (u : Nat × Nat) : sm_E base ct tt (lay, sm_up m.1 p j x, m.2) k u = sm_E base ct tt (lay, m) k u := by
  unfold sm_E sm_fs sm_fv sm_up; simp [hk]
theorem sm_E_L {j : Nat} {x : Int64} {k : Nat} (hk : k ≠ p) (u : Nat × Nat) : sm_E base ct tt (lay, m.1, sm_up m.2.1 p j x, m.2.2) k u = sm_E base ct tt (lay, m) k u := by
  unfold sm_E sm_fs sm_fv sm_up; simp [hk]
theorem sm_E_R {j : Nat} {x : Option Nat} {k : Nat} (hk : k ≠ p) (u : Nat × Nat) : sm_E base ct tt (lay, m.1, m.2.1, sm_up m.2.2 p j x) k u = sm_E base ct tt (lay, m) k u := by
  unfold sm_E sm_fs sm_fv sm_up; simp [hk]
theorem sm_E_row {g : Nat → Int32} {k : Nat} (hk : k ≠ p) (u : Nat × Nat) : sm_E base ct tt (lay, sm_row m.1 p g, m.2) k u = sm_E base ct tt (lay, m) k u := by
  unfold sm_E sm_fs sm_fv sm_row; simp [hk]
theorem sm_upI (f : Nat → Nat → Int32) (p j : Nat) (x : Int32) : sm_up f p j x p = upd (f p) j x := by
  unfold sm_up; rw [if_pos rfl]; rfl
theorem sm_upL (f : Nat → Nat → Int64) (p j : Nat) (x : Int64) : sm_up f p j x p = vp_updL (f p) j x := by
  unfold sm_up; rw [if_pos rfl]; rfl
theorem sm_setI (hn : lay.length ≤ 1000) {n t j : Nat} {x : Int32} (h : lay[p]? = some (t + 1, n)) (ht : ¬ t = 3) : (sm_ws base ct tt (lay, m)).set p (sm_ad base tt p, .inl (ct t, n, .inl (upd (m.1 p) j x))) = sm_ws base ct tt (lay, sm_up m.1 p j x, m.2) :=
  sm_set hn h (fun k hk u => sm_E_I hk u) (by simp [sm_E, ht, sm_upI])
theorem sm_setL (hn : lay.length ≤ 1000) {n j : Nat} {x : Int64} (h : lay[p]? = some (4, n)) : (sm_ws base ct tt (lay, m)).set p (sm_ad base tt p, .inl (ct 3, n, .inr (.inl (vp_updL (m.2.1 p) j x)))) = sm_ws base ct tt (lay, m.1, sm_up m.2.1 p j x, m.2.2) :=
  sm_set hn h (fun k hk u => sm_E_L hk u) (by simp [sm_E, sm_upL])
theorem sm_setRow (hn : lay.length ≤ 1000) {n : Nat} {g : Nat → Int32} (h : lay[p]? = some (1, n)) : (sm_ws base ct tt (lay, m)).set p (sm_ad base tt p, .inl (ct 0, n, .inl g)) = sm_ws base ct tt (lay, sm_row m.1 p g, m.2) :=
  sm_set hn h (fun k hk u => sm_E_row hk u) (by simp [sm_E, sm_row])
theorem sm_fs_get {w : sm_W} {c k j : Nat} (hj : j < sm_N c) : (sm_fs base tt w c k)[j]? = some (sm_fv base tt w c k j) := by
  simp [sm_fs, hj]
theorem sm_fs_len {w : sm_W} {c k : Nat} : (sm_fs base tt w c k).length = sm_N c := by simp [sm_fs]
theorem sm_fs_set {m m' : sm_Y} {c k j : Nat} {v : Value} (hj : j < sm_N c) (hv : sm_fv base tt (lay, m') c k j = v) (ho : ∀ i, i ≠ j → sm_fv base tt (lay, m') c k i = sm_fv base tt (lay, m) c k i) : (sm_fs base tt (lay, m) c k).set j v = sm_fs base tt (lay, m') c k := by
  refine List.ext_getElem? (fun i => ?_)
  rw [List.getElem?_set, sm_fs_len]
  by_cases hi : j = i
  · subst hi
    rw [if_pos rfl, if_pos hj, sm_fs_get hj, hv]
  · rw [if_neg hi]
    by_cases hl : i < sm_N c
    · rw [sm_fs_get hl, sm_fs_get hl, ho i (fun x => hi x.symm)]
    · rw [List.getElem?_eq_none (by rw [sm_fs_len]; omega), List.getElem?_eq_none (by rw [sm_fs_len]; omega)]
theorem sm_setFI (hn : lay.length ≤ 1000) {c j : Nat} {x : Int32} (h : lay[p]? = some (0, c)) (hj : j < sm_N c) (hc : ¬ sm_cd c j = 1) : (sm_ws base ct tt (lay, m)).set p (sm_ad base tt p, .inr (c, (sm_fs base tt (lay, m) c p).set j (.int x))) = sm_ws base ct tt (lay, sm_up m.1 p j x, m.2) :=
  sm_set hn h (fun k hk u => sm_E_I hk u) (by
    show Sum.inr (c, _) = Sum.inr (c, _)
    rw [sm_fs_set (m' := (sm_up m.1 p j x, m.2)) hj]
    · simp [sm_fv, hc, sm_up]
    · intro i hi; simp [sm_fv, sm_up, hi])
theorem sm_setFR (hn : lay.length ≤ 1000) {c j : Nat} {x : Option Nat} (h : lay[p]? = some (0, c)) (hj : j < sm_N c) (hc : sm_cd c j = 1) : (sm_ws base ct tt (lay, m)).set p (sm_ad base tt p, .inr (c, (sm_fs base tt (lay, m) c p).set j (sm_cv base tt (sm_rv x)))) = sm_ws base ct tt (lay, m.1, m.2.1, sm_up m.2.2 p j x) :=
  sm_set hn h (fun k hk u => sm_E_R hk u) (by
    show Sum.inr (c, _) = Sum.inr (c, _)
    rw [sm_fs_set (m' := (m.1, m.2.1, sm_up m.2.2 p j x)) hj]
    · simp [sm_fv, hc, sm_up]
    · intro i hi; simp [sm_fv, sm_up, hi])
theorem sm_E_new {k : Nat} {w w' : sm_W} (h1 : w'.2.1 k = w.2.1 k) (h2 : w'.2.2.1 k = w.2.2.1 k) (h3 : w'.2.2.2 k = w.2.2.2 k) (u : Nat × Nat) : sm_E base ct tt w' k u = sm_E base ct tt w k u := by
  unfold sm_E sm_fs sm_fv; rw [h1, h2, h3]
/-- one more cell -/
theorem sm_push {q : Nat × Nat} (h : ∀ k, k < lay.length → ∀ u, sm_E base ct tt (lay ++ [q], m') k u = sm_E base ct tt (lay, m) k u) : sm_ws base ct tt (lay ++ [q], m') = sm_ws base ct tt (lay, m) ++ [(base + lay.length, (sm_E base ct tt (lay ++ [q], m') lay.length q).2)] := by
  refine List.ext_getElem? (fun k => ?_)
  rw [sm_ws_get, List.getElem?_append, List.getElem?_append, sm_ws_get]
  have hl : (sm_ws base ct tt (lay, m)).length = lay.length := by simp [sm_ws]
  rw [hl]
  by_cases hk : k < lay.length
  · rw [if_pos hk, if_pos hk]
    show lay[k]?.map _ = lay[k]?.map _
    cases hq : lay[k]? with
    | none => rfl
    | some u => simp [h k hk u]
  · rw [if_neg hk, if_neg hk]
    by_cases h0 : k = lay.length
    · subst h0; simp [sm_E]
    · rw [List.getElem?_eq_none (by simp; omega), List.getElem?_eq_none (by simp; omega)]; rfl
end SmWorld
end
section
/-! each instruction: the machine does what the small machine does -/
def sm_stn : List (String × String × String) := [("NightHours$Tokens", "WORDS", "[J"), ("NightHours$Grammar", "STEPS", "[I"), ("NightHours$Grammar", "ROOM", "[I"), ("NightHours$Asking", "WITH_YES", "[I")]
def sm_nest : List (String × Nat × MethodName) := [("NightHours", 15, ⟨"NightHours$Reader", "<init>", "()V"⟩), ("NightHours$Reader", 11, ⟨"NightHours$Tokens", "<init>", "()V"⟩), ("NightHours$Reader", 20, ⟨"NightHours$Grammar", "<init>", "()V"⟩), ("NightHours", 29, ⟨"NightHours$Book", "<init>", "()V"⟩), ("NightHours$Told", 88, ⟨"NightHours", "valueAt", "([III)I"⟩), ("NightHours$Going", 144, ⟨"NightHours", "valueAt", "([III)I"⟩), ("NightHours$Spans", 28, ⟨"NightHours", "valueAt", "([III)I"⟩), ("NightHours$Book", 22, ⟨"NightHours", "valueAt", "([III)I"⟩)]
def sm_G (base : Nat) (ct : Nat → ClassId) (tt : Nat → Nat) (D : va_G) (S : sm_C) (U : State) : Prop :=
  va_K D vwCl (sm_tys ct) U ∧ base ≤ U.heap.size ∧
  (∀ k q, sm_stn[k]? = some q → va_Z q.1 q.2.1 q.2.2 (.ref (tt k)) (sm_A base) U U.heap) ∧
  (∀ p q, sm_sI S p = some q → 1000 ≤ p ∧ va_T .int (tt (p - 1000)) q.1 (fun j => .int (q.2 j)) (sm_A base) U U.heap) ∧
  (∀ p q, sm_sL p = some q → 1000 ≤ p ∧ va_T .long (tt (p - 1000)) q.1 (fun j => .long (q.2 j)) (sm_A base) U U.heap) ∧
  (∀ q ∈ sm_nest, va_Nw (.methodLinkNest q.1 q.2.1 q.2.2 "NightHours") U)
def sm_X (base : Nat) (ct : Nat → ClassId) (tt : Nat → Nat) (D : va_G) (S : sm_C) (M : sm_M) (d : Nat) (p : Program) (R : Room) (s : State) (m : MethodId) (args : Array Value) (meth : Method) (c : Code) : Prop :=
  p.tables.exec = Jvm.exec ∧ c.code = M.2.1 ∧ c.maxLocals = M.2.2.1 ∧ s.vm.findClass M.1.cls = some m.cls ∧ (∀ w ∈ sm_wl, w.before args s = true) ∧ (M.1.name = "<init>" → meth.name = "<init>") ∧
  d + 1 ≤ R.frames ∧ 80 * d + 100 ≤ R.locals ∧ M.2.2.2.2.2.1 ≤ R.cells ∧ M.2.2.2.2.2.2.1 ≤ R.slots ∧ sm_G base ct tt D S s
def sm_TW (base : Nat) (ct : Nat → ClassId) (tt : Nat → Nat) (D : va_G) (M : sm_M) (p : Program) (l : Launch) (e : Env) (R : Room) (s : State) (m : MethodId) (args : Array Value) (below : List Frame) (meth : Method) (c : Code) (Q : State → Prop)
    (pc : Nat) (lv : sm_V) (st : List Value) (w : sm_W) (cs : Nat × Nat) : Prop :=
  ∀ (H : Heap) (locs : List Loc) (ls : Array Slot), lv_has ls M.2.2.1 (lv.map (sm_cq base tt)) → va_P D vwCl (sm_ws base ct tt w) H → va_S (sm_A base) s.heap H locs → s.heap.size + cs.1 = base + w.1.length → w.1.length ≤ 1000 → (cs.1 ≤ M.2.2.2.2.2.1 ∧ cs.2 ≤ M.2.2.2.2.2.2.1) →
    W p l e R s m args below meth c H locs cs.1 cs.2 Q (F0 m pc ls (st.map (sm_cv base tt)))
/-! what the kinds' tables say -/
def sm_fty : Nat → Nat → FieldType
  | 0 => tyX0
  | 1 => tyX1
  | 2 => tyX2
  | 3 => tyX3
  | 4 => tyX4
  | 5 => tyX5
  | 6 => tyX6
  | 7 => tyX7
  | 8 => tyX8
  | 9 => tyX9
  | 10 => tyX10
  | 11 => tyX11
  | _ => tyX12
def sm_CF : Prop := ∀ (ci : Nat) (C : String) (T : u_T) (N : Nat), vwCl[ci]? = some (C, T, N) → (∀ w ∈ u_ws C T N, w ∈ sm_wl) ∧ (∀ k, k < N → parseFieldDescriptor (T k).2.2.1 = some (sm_fty ci k)) ∧ (∀ a, a < N → ∀ b, b < N → a ≠ b → (T a).2.1 ≠ (T b).2.1) ∧ sm_N ci = N ∧
  ∀ k, k < N → (sm_cd ci k = 0 → sm_fty ci k = .int) ∧ (sm_cd ci k = 2 → sm_fty ci k = .boolean) ∧ (sm_cd ci k = 1 → (∃ n, sm_fty ci k = .object n) ∨ ∃ t, sm_fty ci k = .array t) ∧ sm_cd ci k ≤ 2
theorem sm_lk_in : ∀ {lv : sm_V} {i : Nat} {v : Value}, sm_lk lv i = some v → (i, v) ∈ lv
  | (j, u) :: r, i, v, h => by
    unfold sm_lk at h
    split at h
    · next e => subst e; cases h; exact List.mem_cons_self
    · exact List.mem_cons_of_mem _ (sm_lk_in h)
theorem sm_lk_ls {base : Nat} {tt : Nat → Nat} {lv : sm_V} {i : Nat} {v : Value} {ls : Array Slot} {n : Nat} (hl : lv_has ls n (lv.map (sm_cq base tt))) (h : sm_lk lv i = some v) : ls[i]? = some (.val (sm_cv base tt v)) :=
  hl.2.2 (i, sm_cv base tt v) (List.mem_map.mpr ⟨(i, v), sm_lk_in h, rfl⟩)
theorem sm_s1_map {base : Nat} {tt : Nat → Nat} {lv : sm_V} {i : Nat} {v : Value} : (i, sm_cv base tt v) :: (lv.map (sm_cq base tt)).filter (fun q => !(q.1 == i) && !(q.1 + 1 == i && q.2.category == 2)) = (sm_s1 lv i v).map (sm_cq base tt) := by
  unfold sm_s1
  rw [List.map_cons, List.filter_map]
  congr 1
  congr 1
  refine List.filter_congr (fun q _ => ?_)
  simp [sm_cq, sm_cv_cat]
theorem sm_s2_map {base : Nat} {tt : Nat → Nat} {lv : sm_V} {i : Nat} {v : Value} : (i, sm_cv base tt v) :: (lv.map (sm_cq base tt)).filter (fun q => !(q.1 == i) && (!(q.1 == i + 1) && !(q.1 + 1 == i && q.2.category == 2))) = (sm_s2 lv i v).map (sm_cq base tt) := by
  unfold sm_s2
  rw [List.map_cons, List.filter_map]
  congr 1
  congr 1
  refine List.filter_congr (fun q _ => ?_)
  simp [sm_cq, sm_cv_cat]
section SmSteps
variable {base : Nat} {ct : Nat → ClassId} {tt : Nat → Nat} {D : va_G} {S : sm_C} {M : sm_M} {d : Nat} {p : Program} {l : Launch} {e : Env} {R : Room} {s : State} {m : MethodId} {args : Array Value} {below : List Frame} {meth : Method} {c : Code} {Q : State → Prop}
variable {pc : Nat} {lv lv' : sm_V} {st st' r : List Value} {lay : List (Nat × Nat)} {me me' : sm_Y} {cs : Nat × Nat} {ops : List Nat}
/-! what an outcome says of the stack -/
theorem sm_p_of {o : Option (List Value)} (h : sm_p lv me o = some (lv', st', me')) : o = some st' ∧ lv' = lv ∧ me' = me := by
  cases o with
  | none => cases h
  | some u => cases h; exact ⟨rfl, rfl, rfl⟩
theorem sm_ii_of {f : Int32 → Int32 → Int32} (h : sm_ii f st = some st') : ∃ x y r, st = .int y :: .int x :: r ∧ st' = .int (f x y) :: r := by
  unfold sm_ii at h; split at h
  · cases h; exact ⟨_, _, _, rfl, rfl⟩
  · cases h
theorem sm_iq_of {f : Int32 → Int32 → Int32} (h : sm_iq f st = some st') : ∃ x y r, st = .int y :: .int x :: r ∧ ¬ y = 0 ∧ st' = .int (f x y) :: r := by
  unfold sm_iq at h; split at h
  · split at h
    · cases h
    · next hz => cases h; exact ⟨_, _, _, rfl, hz, rfl⟩
  · cases h
theorem sm_ll_of {f : Int64 → Int64 → Int64} (h : sm_ll f st = some st') : ∃ x y r, st = .long y :: .long x :: r ∧ st' = .long (f x y) :: r := by
  unfold sm_ll at h; split at h
  · cases h; exact ⟨_, _, _, rfl, rfl⟩
  · cases h
theorem sm_li_of {f : Int64 → Int32 → Int64} (h : sm_li f st = some st') : ∃ x y r, st = .int y :: .long x :: r ∧ st' = .long (f x y) :: r := by
  unfold sm_li at h; split at h
  · cases h; exact ⟨_, _, _, rfl, rfl⟩
  · cases h
theorem sm_i1_of {f : Int32 → Value} (h : sm_i1 f st = some st') : ∃ x r, st = .int x :: r ∧ st' = f x :: r := by
  unfold sm_i1 at h; split at h
  · cases h; exact ⟨_, _, rfl, rfl⟩
  · cases h
theorem sm_l1_of {f : Int64 → Value} (h : sm_l1 f st = some st') : ∃ x r, st = .long x :: r ∧ st' = f x :: r := by
  unfold sm_l1 at h; split at h
  · cases h; exact ⟨_, _, rfl, rfl⟩
  · cases h
theorem sm_lc_of (h : sm_lc st = some st') : ∃ x y r, st = .long y :: .long x :: r ∧ st' = .int (lg_cmp x y) :: r := by
  unfold sm_lc at h; split at h
  · cases h; exact ⟨_, _, _, rfl, rfl⟩
  · cases h
theorem sm_ldi_of {i : Nat} (h : sm_ldi lv i st = some st') : ∃ x, sm_lk lv i = some (.int x) ∧ st' = .int x :: st := by
  unfold sm_ldi at h; split at h
  · next e => cases h; exact ⟨_, e, rfl⟩
  · cases h
theorem sm_ldl_of {i : Nat} (h : sm_ldl lv i st = some st') : ∃ x, sm_lk lv i = some (.long x) ∧ st' = .long x :: st := by
  unfold sm_ldl at h; split at h
  · next e => cases h; exact ⟨_, e, rfl⟩
  · cases h
theorem sm_lda_of {i : Nat} (h : sm_lda lv i st = some st') : (∃ x, sm_lk lv i = some (.ref x) ∧ st' = .ref x :: st) ∨ (sm_lk lv i = some .null ∧ st' = .null :: st) := by
  unfold sm_lda at h; split at h
  · next e => cases h; exact Or.inl ⟨_, e, rfl⟩
  · next e => cases h; exact Or.inr ⟨e, rfl⟩
  · cases h
theorem sm_sti_of {i n : Nat} (h : sm_sti lv i n st me = some (lv', st', me')) : ∃ x, st = .int x :: st' ∧ i < n ∧ lv' = sm_s1 lv i (.int x) ∧ me' = me := by
  unfold sm_sti at h; split at h
  · split at h
    · next hi => cases h; exact ⟨_, rfl, hi, rfl, rfl⟩
    · cases h
  · cases h
theorem sm_stl_of {i n : Nat} (h : sm_stl lv i n st me = some (lv', st', me')) : ∃ x, st = .long x :: st' ∧ i + 1 < n ∧ lv' = sm_s2 lv i (.long x) ∧ me' = me := by
  unfold sm_stl at h; split at h
  · split at h
    · next hi => cases h; exact ⟨_, rfl, hi, rfl, rfl⟩
    · cases h
  · cases h
theorem sm_sta_of {i n : Nat} (h : sm_sta lv i n st me = some (lv', st', me')) : i < n ∧ me' = me ∧ ((∃ x, st = .ref x :: st' ∧ lv' = sm_s1 lv i (.ref x)) ∨ (st = .null :: st' ∧ lv' = sm_s1 lv i .null)) := by
  unfold sm_sta at h; split at h
  · split at h
    · next hi => cases h; exact ⟨hi, rfl, Or.inl ⟨_, rfl, rfl⟩⟩
    · cases h
  · split at h
    · next hi => cases h; exact ⟨hi, rfl, Or.inr ⟨rfl, rfl⟩⟩
    · cases h
  · cases h
theorem sm_inc_of {i n : Nat} {z : Int} (h : sm_inc lv i z n st me = some (lv', st', me')) : ∃ x, sm_lk lv i = some (.int x) ∧ i < n ∧ lv' = sm_s1 lv i (.int (x + Int32.ofInt z)) ∧ st' = st ∧ me' = me := by
  unfold sm_inc at h; split at h
  · next e => split at h
              · next hi => cases h; exact ⟨_, e, hi, rfl, rfl, rfl⟩
              · cases h
  · cases h
theorem sm_dup_of (h : sm_dup st = some st') : ∃ v r, st = v :: r ∧ v.category = 1 ∧ st' = v :: v :: r := by
  unfold sm_dup at h; split at h
  · split at h
    · next hc => cases h; exact ⟨_, _, rfl, hc, rfl⟩
    · cases h
  · cases h
theorem sm_dupx1_of (h : sm_dupx1 st = some st') : ∃ v u r, st = v :: u :: r ∧ v.category = 1 ∧ u.category = 1 ∧ st' = v :: u :: v :: r := by
  unfold sm_dupx1 at h; split at h
  · split at h
    · next hc => cases h; exact ⟨_, _, _, rfl, hc.1, hc.2, rfl⟩
    · cases h
  · cases h
theorem sm_dup2_of (h : sm_dup2 st = some st') : ∃ v u r, st = v :: u :: r ∧ v.category = 1 ∧ u.category = 1 ∧ st' = v :: u :: v :: u :: r := by
  unfold sm_dup2 at h; split at h
  · split at h
    · next hc => cases h; exact ⟨_, _, _, rfl, hc.1, hc.2, rfl⟩
    · cases h
  · cases h
theorem sm_pop_of (h : sm_pop st = some st') : ∃ v, st = v :: st' ∧ v.category = 1 := by
  unfold sm_pop at h; split at h
  · split at h
    · next hc => cases h; exact ⟨_, rfl, hc⟩
    · cases h
  · cases h
theorem sm_gI_of (h : sm_gI S lay me st = some st') : ∃ i a r, st = .int i :: .ref a :: r ∧ ((∃ n, lay[a]? = some (1, n) ∧ vp_in i n ∧ st' = .int (me.1 a i.toNatClampNeg) :: r) ∨ (∃ q, sm_sI S a = some q ∧ vp_in i q.1 ∧ st' = .int (q.2 i.toNatClampNeg) :: r)) := by
  unfold sm_gI at h; split at h
  · split at h
    · next e => split at h
                · cases h
                · next hi => cases h; exact ⟨_, _, _, rfl, Or.inl ⟨_, e, hi, rfl⟩⟩
    · cases h
    · split at h
      · next e => split at h
                  · cases h
                  · next hi => cases h; exact ⟨_, _, _, rfl, Or.inr ⟨_, e, hi, rfl⟩⟩
      · cases h
  · cases h
theorem sm_gB_of (h : sm_gB lay me st = some st') : ∃ i a r n, st = .int i :: .ref a :: r ∧ (lay[a]? = some (2, n) ∨ lay[a]? = some (3, n)) ∧ vp_in i n ∧ st' = .int (me.1 a i.toNatClampNeg) :: r := by
  unfold sm_gB at h; split at h
  · split at h
    · next e => split at h
                · cases h
                · next hi => cases h; exact ⟨_, _, _, _, rfl, Or.inl e, hi, rfl⟩
    · next e => split at h
                · cases h
                · next hi => cases h; exact ⟨_, _, _, _, rfl, Or.inr e, hi, rfl⟩
    · cases h
  · cases h
theorem sm_gL_of (h : sm_gL lay me st = some st') : ∃ i a r, st = .int i :: .ref a :: r ∧ ((∃ n, lay[a]? = some (4, n) ∧ vp_in i n ∧ st' = .long (me.2.1 a i.toNatClampNeg) :: r) ∨ (∃ q, sm_sL a = some q ∧ vp_in i q.1 ∧ st' = .long (q.2 i.toNatClampNeg) :: r)) := by
  unfold sm_gL at h; split at h
  · split at h
    · next e => split at h
                · cases h
                · next hi => cases h; exact ⟨_, _, _, rfl, Or.inl ⟨_, e, hi, rfl⟩⟩
    · cases h
    · split at h
      · next e => split at h
                  · cases h
                  · next hi => cases h; exact ⟨_, _, _, rfl, Or.inr ⟨_, e, hi, rfl⟩⟩
      · cases h
  · cases h
theorem sm_len_of (h : sm_len S lay st = some st') : ∃ a r, st = .ref a :: r ∧ ((∃ t n, lay[a]? = some (t + 1, n) ∧ t < 4 ∧ st' = .int (Int32.ofNat n) :: r) ∨ (∃ q, sm_sI S a = some q ∧ st' = .int (Int32.ofNat q.1) :: r) ∨ (∃ q, sm_sL a = some q ∧ st' = .int (Int32.ofNat q.1) :: r)) := by
  unfold sm_len at h; split at h
  · split at h
    · cases h
    · next e => split at h
                · next ht => cases h; exact ⟨_, _, rfl, Or.inl ⟨_, _, e, ht, rfl⟩⟩
                · cases h
    · split at h
      · next e => cases h; exact ⟨_, _, rfl, Or.inr (Or.inl ⟨_, e, rfl⟩)⟩
      · split at h
        · next e => cases h; exact ⟨_, _, rfl, Or.inr (Or.inr ⟨_, e, rfl⟩)⟩
        · cases h
  · cases h
theorem sm_pI_of (h : sm_pI lv lay me st = some (lv', st', me')) : ∃ x i a n, st = .int x :: .int i :: .ref a :: st' ∧ lay[a]? = some (1, n) ∧ vp_in i n ∧ lv' = lv ∧ me' = (sm_up me.1 a i.toNatClampNeg x, me.2) := by
  unfold sm_pI at h; split at h
  · split at h
    · next e => split at h
                · cases h
                · next hi => cases h; exact ⟨_, _, _, _, rfl, e, hi, rfl, rfl⟩
    · cases h
  · cases h
theorem sm_pB_of (h : sm_pB lv lay me st = some (lv', st', me')) : ∃ x i a n, st = .int x :: .int i :: .ref a :: st' ∧ vp_in i n ∧ lv' = lv ∧ ((lay[a]? = some (2, n) ∧ me' = (sm_up me.1 a i.toNatClampNeg (vp_nar .byte x), me.2)) ∨ (lay[a]? = some (3, n) ∧ me' = (sm_up me.1 a i.toNatClampNeg (vp_nar .boolean x), me.2))) := by
  unfold sm_pB at h; split at h
  · split at h
    · next e => split at h
                · cases h
                · next hi => cases h; exact ⟨_, _, _, _, rfl, hi, rfl, Or.inl ⟨e, rfl⟩⟩
    · next e => split at h
                · cases h
                · next hi => cases h; exact ⟨_, _, _, _, rfl, hi, rfl, Or.inr ⟨e, rfl⟩⟩
    · cases h
  · cases h
theorem sm_pL_of (h : sm_pL lv lay me st = some (lv', st', me')) : ∃ x i a n, st = .long x :: .int i :: .ref a :: st' ∧ lay[a]? = some (4, n) ∧ vp_in i n ∧ lv' = lv ∧ me' = (me.1, sm_up me.2.1 a i.toNatClampNeg x, me.2.2) := by
  unfold sm_pL at h; split at h
  · split at h
    · next e => split at h
                · cases h
                · next hi => cases h; exact ⟨_, _, _, _, rfl, e, hi, rfl, rfl⟩
    · cases h
  · cases h
theorem sm_get_of {ci k : Nat} (h : sm_get lay me ci k st = some st') : ∃ a r, st = .ref a :: r ∧ lay[a]? = some (0, ci) ∧ ((sm_cd ci k = 1 ∧ st' = sm_rv (me.2.2 a k) :: r) ∨ (¬ sm_cd ci k = 1 ∧ st' = .int (me.1 a k) :: r)) := by
  unfold sm_get at h; split at h
  · split at h
    · next e => split at h
                · next hc =>
                  subst hc
                  split at h
                  · next h1 => cases h; exact ⟨_, _, rfl, e, Or.inl ⟨h1, rfl⟩⟩
                  · next h1 => cases h; exact ⟨_, _, rfl, e, Or.inr ⟨h1, rfl⟩⟩
                · cases h
    · cases h
  · cases h
theorem sm_put_of {ci k : Nat} (h : sm_put lv lay me ci k st = some (lv', st', me')) : ∃ a v, st = v :: .ref a :: st' ∧ lay[a]? = some (0, ci) ∧ lv' = lv ∧ ((∃ x, v = .int x ∧ sm_cd ci k = 0 ∧ me' = (sm_up me.1 a k x, me.2)) ∨ (∃ x, v = .int x ∧ sm_cd ci k = 2 ∧ (x = 0 ∨ x = 1) ∧ me' = (sm_up me.1 a k x, me.2)) ∨ (∃ q, v = sm_rv q ∧ sm_cd ci k = 1 ∧ me' = (me.1, me.2.1, sm_up me.2.2 a k q))) := by
  unfold sm_put at h; split at h
  · split at h
    · next e => split at h
                · next hc =>
                  subst hc
                  split at h
                  · next h1 => cases h; exact ⟨_, _, rfl, e, rfl, Or.inl ⟨_, rfl, h1, rfl⟩⟩
                  · next h1 => cases h; exact ⟨_, _, rfl, e, rfl, Or.inr (Or.inr ⟨some _, rfl, h1, rfl⟩)⟩
                  · next h1 => cases h; exact ⟨_, _, rfl, e, rfl, Or.inr (Or.inr ⟨none, rfl, h1, rfl⟩)⟩
                  · next h1 => split at h
                               · next h2 => cases h; exact ⟨_, _, rfl, e, rfl, Or.inr (Or.inl ⟨_, rfl, h1, h2, rfl⟩)⟩
                               · cases h
                  · cases h
                · cases h
    · cases h
  · cases h
theorem sm_cpy_of (h : sm_cpy lv lay me st = some (lv', st', me')) : ∃ n dp a sp a0 n0 n1, st = .int n :: .int dp :: .ref a :: .int sp :: .ref a0 :: st' ∧ lay[a0]? = some (1, n0) ∧ lay[a]? = some (1, n1) ∧ ¬ (sp < 0 ∨ dp < 0 ∨ n < 0 ∨ n0 < sp.toNatClampNeg + n.toNatClampNeg ∨ n1 < dp.toNatClampNeg + n.toNatClampNeg ∨ 8 < (st'.map fun v => v.category).sum) ∧ lv' = lv ∧ me' = (sm_row me.1 a (va_cpy (me.1 a0) (me.1 a) sp.toNatClampNeg dp.toNatClampNeg n.toNatClampNeg), me.2) := by
  unfold sm_cpy at h; split at h
  · split at h
    · next e1 e2 => split at h
                    · cases h
                    · next hi => cases h; exact ⟨_, _, _, _, _, _, _, rfl, e1, e2, hi, rfl, rfl⟩
    · cases h
  · cases h
theorem sm_ma_of {f : Int32 → Int32 → Int32} (h : sm_ma f st = some st') : ∃ x y r, st = .int y :: .int x :: r ∧ (r.map fun v => v.category).sum ≤ 8 ∧ st' = .int (f x y) :: r := by
  unfold sm_ma at h; split at h
  · split at h
    · next hc => cases h; exact ⟨_, _, _, rfl, hc, rfl⟩
    · cases h
  · cases h
theorem sm_mb_of {f : Int32 → Int32} (h : sm_mb f st = some st') : ∃ x r, st = .int x :: r ∧ (r.map fun v => v.category).sum ≤ 8 ∧ st' = .int (f x) :: r := by
  unfold sm_mb at h; split at h
  · split at h
    · next hc => cases h; exact ⟨_, _, rfl, hc, rfl⟩
    · cases h
  · cases h
theorem sm_oin_of (h : sm_oin st = some st') : ∃ a, st = .ref a :: st' ∧ (st'.map fun v => v.category).sum ≤ 8 := by
  unfold sm_oin at h; split at h
  · split at h
    · next hc => cases h; exact ⟨_, rfl, hc⟩
    · cases h
  · cases h
end SmSteps
end
section
/-! the instructions that stay in their block -/
def sm_ln : Instr → Nat
  | .bipush _ => 2
  | .iload _ => 2
  | .lload _ => 2
  | .aload _ => 2
  | .istore _ => 2
  | .lstore _ => 2
  | .astore _ => 2
  | .ldc _ => 2
  | .newarray _ => 2
  | .sipush _ => 3
  | .ldc_w _ => 3
  | .ldc2_w _ => 3
  | .iinc _ _ => 3
  | .getfield _ => 3
  | .putfield _ => 3
  | .getstatic _ => 3
  | .invokevirtual _ => 3
  | .invokestatic _ => 3
  | .invokespecial _ => 3
  | .new _ => 3
  | .goto _ => 3
  | .ifCond _ _ => 3
  | .if_icmp _ _ => 3
  | .ifnull _ => 3
  | .ifnonnull _ => 3
  | _ => 1
def sm_fl (M : sm_M) (x : Nat) (ci k pos : Nat) : Bool := match vwCl[ci]? with
  | some (C, T, N) => decide (k < N) && sm_has pos (.fieldLink M.1.cls x C (T k).2.1 (T k).2.2.1) && decide ((T k).1 = C)
  | none => false
def sm_fp (M : sm_M) (ci k : Nat) : Bool := match vwCl[ci]? with
  | some (_, T, _) => if (T k).2.2.2 = true then decide (M.1.name = "<init>") && decide ((T k).1 = M.1.cls) else true
  | none => false
def sm_gs (M : sm_M) (x a pos : Nat) : Bool := match sm_stn[a - 1000]? with
  | some q => decide (1000 ≤ a) && sm_has pos (.fieldLink M.1.cls x q.1 q.2.1 q.2.2)
  | none => false
def sm_okst (M : sm_M) (x : Nat) (ops : List Nat) : Bool := match ops with
  | 0 :: r => sm_has (r.getD 0 0) (.methodLink M.1.cls x arraycopyName) && sm_has (r.getD 1 0) (.native arraycopyName) && sm_has (r.getD 2 0) (.static arraycopyName) && sm_has (r.getD 3 0) (.initialized "java/lang/System")
  | 1 :: r => sm_has (r.getD 0 0) (.methodLink M.1.cls x Lib.Math.max.name) && sm_has (r.getD 1 0) (.static Lib.Math.max.name)
  | 2 :: r => sm_has (r.getD 0 0) (.methodLink M.1.cls x Lib.Math.min.name) && sm_has (r.getD 1 0) (.static Lib.Math.min.name)
  | 3 :: r => sm_has (r.getD 0 0) (.methodLink M.1.cls x Lib.Math.abs.name) && sm_has (r.getD 1 0) (.static Lib.Math.abs.name)
  | _ => false
def sm_ok1 (M : sm_M) (i : Instr) (ops : List Nat) : Bool := match i with
  | .getfield x => sm_fl M x (ops.getD 0 0) (ops.getD 1 0) (ops.getD 2 0)
  | .putfield x => sm_fl M x (ops.getD 0 0) (ops.getD 1 0) (ops.getD 2 0) && sm_fp M (ops.getD 0 0) (ops.getD 1 0)
  | .ldc x => sm_has (ops.getD 1 0) (.constant M.1.cls x (Int32.ofNat (ops.getD 0 0)))
  | .ldc_w x => sm_has (ops.getD 1 0) (.constant M.1.cls x (Int32.ofNat (ops.getD 0 0)))
  | .ldc2_w x => sm_has (ops.getD 1 0) (.constantLong M.1.cls x (Int64.ofNat (ops.getD 0 0)))
  | .getstatic x => sm_gs M x (ops.getD 0 0) (ops.getD 1 0)
  | .invokestatic x => sm_okst M x ops
  | .invokespecial x => sm_has (ops.getD 0 0) (.methodLink M.1.cls x Lib.objectInit) && sm_has (ops.getD 1 0) (.instanceMethod Lib.objectInit) && sm_has (ops.getD 2 0) (.code Lib.objectInit ⟨#[0xb1]⟩ 1 none)
  | _ => true
theorem sm_tt0 {ct : Nat → ClassId} : (sm_tys ct)[0]? = some (ct 0, .int) := rfl
theorem sm_tt1 {ct : Nat → ClassId} : (sm_tys ct)[1]? = some (ct 1, .byte) := rfl
theorem sm_tt2 {ct : Nat → ClassId} : (sm_tys ct)[2]? = some (ct 2, .boolean) := rfl
theorem sm_tt3 {ct : Nat → ClassId} : (sm_tys ct)[3]? = some (ct 3, .long) := rfl
theorem sm_ttt {ct : Nat → ClassId} {t : Nat} (h : t < 4) : ∃ ty, (sm_tys ct)[t]? = some (ct t, ty) := by
  match t, h with
  | 0, _ => exact ⟨_, rfl⟩
  | 1, _ => exact ⟨_, rfl⟩
  | 2, _ => exact ⟨_, rfl⟩
  | 3, _ => exact ⟨_, rfl⟩
/-! the words of the three of Math: their code is among the tables -/
def sm_MW : Prop := Cond.code Lib.Math.max.name Lib.Math.max.code 2 (some .int) ∈ sm_wl ∧ Cond.code Lib.Math.min.name Lib.Math.min.code 2 (some .int) ∈ sm_wl ∧ Cond.code Lib.Math.abs.name Lib.Math.abs.code 1 (some .int) ∈ sm_wl ∧ Cond.initialized "java/lang/Math" ∈ sm_wl
theorem sm_mth : sm_MW := ⟨(sm_inw0 3 121 rfl rfl), (sm_inw0 2 148 rfl rfl), (sm_inw0 4 0 rfl rfl), (sm_inw0 0 15 rfl rfl)⟩
section SmOne
variable {base : Nat} {ct : Nat → ClassId} {tt : Nat → Nat} {D : va_G} {S : sm_C} {M : sm_M} {d : Nat} {p : Program} {l : Launch} {e : Env} {R : Room} {s : State} {m : MethodId} {args : Array Value} {below : List Frame} {meth : Method} {c : Code} {Q : State → Prop}
variable {pc : Nat} {lv lv' : sm_V} {st st' r : List Value} {lay : List (Nat × Nat)} {me me' : sm_Y} {cs : Nat × Nat} {ops : List Nat}
theorem sm_fl_of {x ci k pos : Nat} (h : sm_fl M x ci k pos = true) : ∃ C T N, vwCl[ci]? = some (C, T, N) ∧ k < N ∧ (Cond.fieldLink M.1.cls x C (T k).2.1 (T k).2.2.1) ∈ sm_wl ∧ (T k).1 = C := by
  unfold sm_fl at h; split at h
  · next C T N e => simp only [Bool.and_eq_true, decide_eq_true_eq] at h; exact ⟨C, T, N, e, h.1.1, sm_has_in h.1.2, h.2⟩
  · cases h
set_option maxHeartbeats 4000000 in
theorem sm_k_get (cf : sm_CF) (hX : sm_X base ct tt D S M d p R s m args meth c) {x ci k pos : Nat} (hd : decode M.2.1 pc = .ok (.getfield x, 3)) (ho : sm_fl M x ci k pos = true) (h : sm_get lay me ci k st = some st') (kk : sm_TW base ct tt D M p l e R s m args below meth c Q (pc + 3) lv st' (lay, me) cs) : sm_TW base ct tt D M p l e R s m args below meth c Q pc lv st (lay, me) cs := by
  obtain ⟨a, r, rfl, ha, hv⟩ := sm_get_of h
  obtain ⟨C, T, N, hc, hk, hw, hT⟩ := sm_fl_of ho
  obtain ⟨c1, -, -, c4, -⟩ := cf ci C T N hc
  obtain ⟨hx, hb, -, hown, hts, -, -, -, -, -, hG⟩ := hX
  intro H locs ls hl hP hS hz hn hcs
  have hfv : (sm_fs base tt (lay, me) ci a)[k]? = some (sm_fv base tt (lay, me) ci a k) := sm_fs_get (by rw [c4]; exact hk)
  refine va_get hx hb hts c1 hown hG.1 hP a (sm_atO hn ha) hc k hk (hts _ hw) (fun z hz => by rw [hT] at hz; exact hz) hfv hd ?_
  rcases hv with ⟨h1, rfl⟩ | ⟨h1, rfl⟩
  · have e : sm_fv base tt (lay, me) ci a k = sm_cv base tt (sm_rv (me.2.2 a k)) := by simp [sm_fv, h1]
    rw [e]; exact kk H locs ls hl hP hS hz hn hcs
  · have e : sm_fv base tt (lay, me) ci a k = .int (me.1 a k) := by simp [sm_fv, h1]
    rw [e]; exact kk H locs ls hl hP hS hz hn hcs
set_option maxHeartbeats 4000000 in
theorem sm_k_putG (cf : sm_CF) (hX : sm_X base ct tt D S M d p R s m args meth c) {x ci k pos a : Nat} {v : Value} (hd : decode M.2.1 pc = .ok (.putfield x, 3)) (ho : sm_fl M x ci k pos = true) (hf : sm_fp M ci k = true) (ha : lay[a]? = some (0, ci)) (hnar : narrow (sm_fty ci k) (sm_cv base tt v) = sm_cv base tt v) (hfit : fits (sm_fty ci k) (sm_cv base tt v) = true)
    (hw' : lay.length ≤ 1000 → (sm_ws base ct tt (lay, me)).set a (sm_ad base tt a, .inr (ci, (sm_fs base tt (lay, me) ci a).set k (sm_cv base tt v))) = sm_ws base ct tt (lay, me')) (kk : sm_TW base ct tt D M p l e R s m args below meth c Q (pc + 3) lv r (lay, me') cs) : sm_TW base ct tt D M p l e R s m args below meth c Q pc lv (v :: .ref a :: r) (lay, me) cs := by
  obtain ⟨C, T, N, hc, hk, hw, hT⟩ := sm_fl_of ho
  obtain ⟨c1, c2, c3, c4, -⟩ := cf ci C T N hc
  obtain ⟨hx, hb, -, hown, hts, hnm, -, -, -, -, hG⟩ := hX
  intro H locs ls hl hP hS hz hn hcs
  unfold sm_fp at hf
  rw [hc] at hf
  by_cases hfin : (T k).2.2.2 = true
  · simp only [hfin, if_true, Bool.and_eq_true, decide_eq_true_eq] at hf
    refine va_putF hx hb hts c1 (sm_fty ci) c2 c3 hown hG.1 hP (sm_D _) hS a (sm_atO hn ha) hc k hk (hts _ hw) (fun z hz => by rw [hT] at hz; exact hz) hfin (hnm hf.1) hf.2 (c2 k hk) hnar hfit (by rw [sm_fs_len, c4]; exact hk) hd (fun H1 locs1 hP1 _ hS1 => ?_)
    rw [hw' hn] at hP1
    exact kk H1 locs1 ls hl hP1 hS1 hz hn hcs
  · refine va_put hx hb hts c1 (sm_fty ci) c2 c3 hown hG.1 hP (sm_D _) hS a (sm_atO hn ha) hc k hk (hts _ hw) (fun z hz => by rw [hT] at hz; exact hz) (by simpa using hfin) (c2 k hk) hnar hfit (by rw [sm_fs_len, c4]; exact hk) hd (fun H1 locs1 hP1 _ hS1 => ?_)
    rw [hw' hn] at hP1
    exact kk H1 locs1 ls hl hP1 hS1 hz hn hcs
theorem sm_k_put (cf : sm_CF) (hX : sm_X base ct tt D S M d p R s m args meth c) {x ci k pos : Nat} (hd : decode M.2.1 pc = .ok (.putfield x, 3)) (ho : sm_fl M x ci k pos = true) (hf : sm_fp M ci k = true) (h : sm_put lv lay me ci k st = some (lv', st', me')) (kk : sm_TW base ct tt D M p l e R s m args below meth c Q (pc + 3) lv' st' (lay, me') cs) : sm_TW base ct tt D M p l e R s m args below meth c Q pc lv st (lay, me) cs := by
  obtain ⟨a, v, rfl, ha, rfl, hv⟩ := sm_put_of h
  obtain ⟨C, T, N, hc, hk, hw, hT⟩ := sm_fl_of ho
  obtain ⟨-, -, -, c4, c5⟩ := cf ci C T N hc
  obtain ⟨k0, k2, k1, -⟩ := c5 k hk
  rcases hv with ⟨x, rfl, hc0, rfl⟩ | ⟨x, rfl, hc2, hx2, rfl⟩ | ⟨q, rfl, hc1, rfl⟩
  · exact sm_k_putG cf hX (v := .int x) hd ho hf ha (by rw [k0 hc0]; rfl) (by rw [k0 hc0]; rfl) (fun hn => sm_setFI hn ha (by rw [c4]; exact hk) (by omega)) kk
  · exact sm_k_putG cf hX (v := .int x) hd ho hf ha (by rw [k2 hc2]; rcases hx2 with rfl | rfl <;> rfl) (by rw [k2 hc2]; rcases hx2 with rfl | rfl <;> rfl) (fun hn => sm_setFI hn ha (by rw [c4]; exact hk) (by omega)) kk
  · exact sm_k_putG cf hX (v := sm_rv q) hd ho hf ha (by rcases k1 hc1 with ⟨n, e⟩ | ⟨n, e⟩ <;> (rw [e]; cases q <;> rfl)) (by rcases k1 hc1 with ⟨n, e⟩ | ⟨n, e⟩ <;> (rw [e]; cases q <;> rfl)) (fun hn => sm_setFR hn ha (by rw [c4]; exact hk) hc1) kk
theorem sm_k_iald (hX : sm_X base ct tt D S M d p R s m args meth c) (hd : decode M.2.1 pc = .ok (.iaload, 1)) (h : sm_gI S lay me st = some st') (kk : sm_TW base ct tt D M p l e R s m args below meth c Q (pc + 1) lv st' (lay, me) cs) : sm_TW base ct tt D M p l e R s m args below meth c Q pc lv st (lay, me) cs := by
  obtain ⟨i, a, r, rfl, hv⟩ := sm_gI_of h
  obtain ⟨hx, hb, -, hown, hts, hnm, -, -, -, -, hG⟩ := hX
  intro H locs ls hl hP hS hz hn hcs
  rcases hv with ⟨n, ha, hin, rfl⟩ | ⟨q, hq, hin, rfl⟩
  · exact va_iald hx hb hG.1 hP a 0 (sm_atI (t := 0) hn ha (by decide)) sm_tt0 hin hd (kk H locs ls hl hP hS hz hn hcs)
  · obtain ⟨h1, hT⟩ := hG.2.2.2.1 a q hq
    show W p l e R s m args below meth c H locs cs.1 cs.2 Q (F0 m pc ls (.int i :: .ref (sm_ad base tt a) :: r.map (sm_cv base tt)))
    rw [sm_ad_s h1]
    exact va_ti hx hb hT hS hin rfl hd (kk H locs ls hl hP hS hz hn hcs)
theorem sm_k_lald (hX : sm_X base ct tt D S M d p R s m args meth c) (hd : decode M.2.1 pc = .ok (.laload, 1)) (h : sm_gL lay me st = some st') (kk : sm_TW base ct tt D M p l e R s m args below meth c Q (pc + 1) lv st' (lay, me) cs) : sm_TW base ct tt D M p l e R s m args below meth c Q pc lv st (lay, me) cs := by
  obtain ⟨i, a, r, rfl, hv⟩ := sm_gL_of h
  obtain ⟨hx, hb, -, hown, hts, hnm, -, -, -, -, hG⟩ := hX
  intro H locs ls hl hP hS hz hn hcs
  rcases hv with ⟨n, ha, hin, rfl⟩ | ⟨q, hq, hin, rfl⟩
  · exact va_lald hx hb hG.1 hP a 3 (sm_atL hn ha) sm_tt3 hin hd (kk H locs ls hl hP hS hz hn hcs)
  · obtain ⟨h1, hT⟩ := hG.2.2.2.2.1 a q hq
    show W p l e R s m args below meth c H locs cs.1 cs.2 Q (F0 m pc ls (.int i :: .ref (sm_ad base tt a) :: r.map (sm_cv base tt)))
    rw [sm_ad_s h1]
    exact va_tl hx hb hT hS hin rfl hd (kk H locs ls hl hP hS hz hn hcs)
theorem sm_k_bald (hX : sm_X base ct tt D S M d p R s m args meth c) (hd : decode M.2.1 pc = .ok (.baload, 1)) (h : sm_gB lay me st = some st') (kk : sm_TW base ct tt D M p l e R s m args below meth c Q (pc + 1) lv st' (lay, me) cs) : sm_TW base ct tt D M p l e R s m args below meth c Q pc lv st (lay, me) cs := by
  obtain ⟨i, a, r, n, rfl, hv, hin, rfl⟩ := sm_gB_of h
  obtain ⟨hx, hb, -, hown, hts, hnm, -, -, -, -, hG⟩ := hX
  intro H locs ls hl hP hS hz hn hcs
  rcases hv with ha | ha
  · exact va_bald hx hb hG.1 hP a 1 (sm_atI (t := 1) hn ha (by decide)) sm_tt1 hin hd (kk H locs ls hl hP hS hz hn hcs)
  · exact va_zald hx hb hG.1 hP a 2 (sm_atI (t := 2) hn ha (by decide)) sm_tt2 hin hd (kk H locs ls hl hP hS hz hn hcs)
theorem sm_k_alen (hX : sm_X base ct tt D S M d p R s m args meth c) (hd : decode M.2.1 pc = .ok (.arraylength, 1)) (h : sm_len S lay st = some st') (kk : sm_TW base ct tt D M p l e R s m args below meth c Q (pc + 1) lv st' (lay, me) cs) : sm_TW base ct tt D M p l e R s m args below meth c Q pc lv st (lay, me) cs := by
  obtain ⟨a, r, rfl, hv⟩ := sm_len_of h
  obtain ⟨hx, hb, -, hown, hts, hnm, -, -, -, -, hG⟩ := hX
  intro H locs ls hl hP hS hz hn hcs
  rcases hv with ⟨t, n, ha, ht, rfl⟩ | ⟨q, hq, rfl⟩ | ⟨q, hq, rfl⟩
  · obtain ⟨y, rfl, hy⟩ := sm_atA (base := base) (ct := ct) (tt := tt) (m := me) hn ha
    obtain ⟨ty, hty⟩ := sm_ttt (ct := ct) ht
    exact va_alen hx hb hG.1 hP a t hy hty rfl hd (kk H locs ls hl hP hS hz hn hcs)
  · obtain ⟨h1, hT⟩ := hG.2.2.2.1 a q hq
    show W p l e R s m args below meth c H locs cs.1 cs.2 Q (F0 m pc ls (.ref (sm_ad base tt a) :: r.map (sm_cv base tt)))
    rw [sm_ad_s h1]
    exact va_tlen hx hb hT hS rfl hd (kk H locs ls hl hP hS hz hn hcs)
  · obtain ⟨h1, hT⟩ := hG.2.2.2.2.1 a q hq
    show W p l e R s m args below meth c H locs cs.1 cs.2 Q (F0 m pc ls (.ref (sm_ad base tt a) :: r.map (sm_cv base tt)))
    rw [sm_ad_s h1]
    exact va_tlen hx hb hT hS rfl hd (kk H locs ls hl hP hS hz hn hcs)
theorem sm_k_iast (hX : sm_X base ct tt D S M d p R s m args meth c) (hd : decode M.2.1 pc = .ok (.iastore, 1)) (h : sm_pI lv lay me st = some (lv', st', me')) (kk : sm_TW base ct tt D M p l e R s m args below meth c Q (pc + 1) lv' st' (lay, me') cs) : sm_TW base ct tt D M p l e R s m args below meth c Q pc lv st (lay, me) cs := by
  obtain ⟨x, i, a, n, rfl, ha, hin, rfl, rfl⟩ := sm_pI_of h
  obtain ⟨hx, hb, -, hown, hts, hnm, -, -, -, -, hG⟩ := hX
  intro H locs ls hl hP hS hz hn hcs
  refine va_iast hx hb hG.1 hP (sm_D _) hS a 0 (sm_atI (t := 0) hn ha (by decide)) sm_tt0 hin hd (fun H1 locs1 hP1 _ hS1 => ?_)
  rw [sm_setI (t := 0) hn ha (by decide)] at hP1
  exact kk H1 locs1 ls hl hP1 hS1 hz hn hcs
theorem sm_k_last (hX : sm_X base ct tt D S M d p R s m args meth c) (hd : decode M.2.1 pc = .ok (.lastore, 1)) (h : sm_pL lv lay me st = some (lv', st', me')) (kk : sm_TW base ct tt D M p l e R s m args below meth c Q (pc + 1) lv' st' (lay, me') cs) : sm_TW base ct tt D M p l e R s m args below meth c Q pc lv st (lay, me) cs := by
  obtain ⟨x, i, a, n, rfl, ha, hin, rfl, rfl⟩ := sm_pL_of h
  obtain ⟨hx, hb, -, hown, hts, hnm, -, -, -, -, hG⟩ := hX
  intro H locs ls hl hP hS hz hn hcs
  refine va_last hx hb hG.1 hP (sm_D _) hS a 3 (sm_atL hn ha) sm_tt3 hin hd (fun H1 locs1 hP1 _ hS1 => ?_)
  rw [sm_setL hn ha] at hP1
  exact kk H1 locs1 ls hl hP1 hS1 hz hn hcs
theorem sm_k_bast (hX : sm_X base ct tt D S M d p R s m args meth c) (hd : decode M.2.1 pc = .ok (.bastore, 1)) (h : sm_pB lv lay me st = some (lv', st', me')) (kk : sm_TW base ct tt D M p l e R s m args below meth c Q (pc + 1) lv' st' (lay, me') cs) : sm_TW base ct tt D M p l e R s m args below meth c Q pc lv st (lay, me) cs := by
  obtain ⟨x, i, a, n, rfl, hin, rfl, hv⟩ := sm_pB_of h
  obtain ⟨hx, hb, -, hown, hts, hnm, -, -, -, -, hG⟩ := hX
  intro H locs ls hl hP hS hz hn hcs
  rcases hv with ⟨ha, rfl⟩ | ⟨ha, rfl⟩
  · refine va_bast hx hb hG.1 hP (sm_D _) hS a 1 (sm_atI (t := 1) hn ha (by decide)) sm_tt1 hin hd (fun H1 locs1 hP1 _ hS1 => ?_)
    rw [sm_setI (t := 1) hn ha (by decide)] at hP1
    exact kk H1 locs1 ls hl hP1 hS1 hz hn hcs
  · refine va_zast hx hb hG.1 hP (sm_D _) hS a 2 (sm_atI (t := 2) hn ha (by decide)) sm_tt2 hin hd (fun H1 locs1 hP1 _ hS1 => ?_)
    rw [sm_setI (t := 2) hn ha (by decide)] at hP1
    exact kk H1 locs1 ls hl hP1 hS1 hz hn hcs
theorem sm_nfw : nativeFrameWords "java/lang/System" "arraycopy" 5 ≤ 60 := by decide +kernel
theorem sm_k_copy (hX : sm_X base ct tt D S M d p R s m args meth c) {x : Nat} (hd : decode M.2.1 pc = .ok (.invokestatic x, 3)) {r0 : List Nat} (ho : sm_okst M x (0 :: r0) = true) (h : sm_cpy lv lay me st = some (lv', st', me')) (kk : sm_TW base ct tt D M p l e R s m args below meth c Q (pc + 3) lv' st' (lay, me') cs) : sm_TW base ct tt D M p l e R s m args below meth c Q pc lv st (lay, me) cs := by
  obtain ⟨n, dp, a, sp, a0, n0, n1, rfl, ha0, ha, hi, rfl, rfl⟩ := sm_cpy_of h
  obtain ⟨hx, hb, hml, hown, hts, hnm, hfr, hlo, -, -, hG⟩ := hX
  have ho : (sm_has (r0.getD 0 0) (.methodLink M.1.cls x arraycopyName) && sm_has (r0.getD 1 0) (.native arraycopyName) && sm_has (r0.getD 2 0) (.static arraycopyName) && sm_has (r0.getD 3 0) (.initialized "java/lang/System")) = true := ho
  simp only [Bool.and_eq_true] at ho
  intro H locs ls hl hP hS hz hn hcs
  have hcat := sm_cats (base := base) (tt := tt) st'
  obtain ⟨nw, hnw, h60⟩ : ∃ nw, nativeFrameWords "java/lang/System" "arraycopy" 5 = nw ∧ nw ≤ 60 := ⟨_, rfl, sm_nfw⟩
  refine va_copyi hx hb (hml.trans hl.1.symm) hown (hts _ (sm_has_in ho.1.1.1)) (hts _ (sm_has_in ho.1.1.2)) (hts _ (sm_has_in ho.1.2)) (hts _ (sm_has_in ho.2)) hG.1 hP (sm_D _) hS a0 a 0 0 (sm_atI (t := 0) hn ha0 (by decide)) (sm_atI (t := 0) hn ha (by decide)) sm_tt0 sm_tt0 rfl (fun q => hi (Or.inl q)) (fun q => hi (Or.inr (Or.inl q))) (fun q => hi (Or.inr (Or.inr (Or.inl q)))) (Nat.not_lt.mp (fun q => hi (Or.inr (Or.inr (Or.inr (Or.inl q)))))) (Nat.not_lt.mp (fun q => hi (Or.inr (Or.inr (Or.inr (Or.inr (Or.inl q))))))) (fun _ _ => rfl) (Nat.le_trans (Nat.le_add_left 1 d) hfr) (by rw [hcat, hnw]; exact Nat.le_trans (Nat.add_le_add (Nat.not_lt.mp (fun q => hi (Or.inr (Or.inr (Or.inr (Or.inr (Or.inr q))))))) (Nat.add_le_add_right h60 11)) (Nat.le_trans (Nat.le_trans (by decide : 8 + (60 + 11) ≤ 100) (Nat.le_add_left 100 (80 * d))) hlo)) hd (fun H1 locs1 hP1 _ hS1 => ?_)
  rw [sm_setRow hn ha] at hP1
  exact kk H1 locs1 ls hl hP1 hS1 hz hn hcs
theorem sm_k_oin (hX : sm_X base ct tt D S M d p R s m args meth c) {x : Nat} (hd : decode M.2.1 pc = .ok (.invokespecial x, 3)) (ho : sm_ok1 M (.invokespecial x) ops = true) (h : sm_oin st = some st') (kk : sm_TW base ct tt D M p l e R s m args below meth c Q (pc + 3) lv st' (lay, me) cs) : sm_TW base ct tt D M p l e R s m args below meth c Q pc lv st (lay, me) cs := by
  obtain ⟨a, rfl, hc⟩ := sm_oin_of h
  obtain ⟨hx, hb, hml, hown, hts, hnm, hfr, hlo, -, -, hG⟩ := hX
  have ho : (sm_has (ops.getD 0 0) (.methodLink M.1.cls x Lib.objectInit) && sm_has (ops.getD 1 0) (.instanceMethod Lib.objectInit) && sm_has (ops.getD 2 0) (.code Lib.objectInit ⟨#[0xb1]⟩ 1 none)) = true := ho
  simp only [Bool.and_eq_true] at ho
  intro H locs ls hl hP hS hz hn hcs
  have hcat := sm_cats (base := base) (tt := tt) st'
  have hr := lv_room (m := m) (pc := pc) (ls := ls) (rest := (Value.ref a :: st').map (sm_cv base tt)) (st := st'.map (sm_cv base tt)) (by rw [hcat]; exact hc)
  exact W.objInit hx hb hown (hts _ (sm_has_in ho.1.1)) (hts _ (sm_has_in ho.1.2)) (hts _ (sm_has_in ho.2)) rfl (hl.1.trans hml.symm) rfl hd (by omega) (by omega) (kk H locs ls hl hP hS hz hn hcs)
theorem sm_k_max (hX : sm_X base ct tt D S M d p R s m args meth c) {x : Nat} (hd : decode M.2.1 pc = .ok (.invokestatic x, 3)) {r0 : List Nat} (ho : sm_okst M x (1 :: r0) = true) (h : sm_ma (fun x y => if x < y then y else x) st = some st') (kk : sm_TW base ct tt D M p l e R s m args below meth c Q (pc + 3) lv st' (lay, me) cs) : sm_TW base ct tt D M p l e R s m args below meth c Q pc lv st (lay, me) cs := by
  obtain ⟨a, b, r, rfl, hc, rfl⟩ := sm_ma_of h
  obtain ⟨hx, hb, hml, hown, hts, hnm, hfr, hlo, hce, hsl, hG⟩ := hX
  have ho : (sm_has (r0.getD 0 0) (.methodLink M.1.cls x Lib.Math.max.name) && sm_has (r0.getD 1 0) (.static Lib.Math.max.name)) = true := ho
  simp only [Bool.and_eq_true] at ho
  intro H locs ls hl hP hS hz hn hcs
  have hcat := sm_cats (base := base) (tt := tt) r
  exact va_mmax hx hb (hml.trans hl.1.symm) hown (hts _ (sm_has_in ho.1)) (hts _ (sm_has_in ho.2)) (hts _ sm_mth.2.2.2) (hts _ sm_mth.1) (by omega) (by rw [hcat]; omega) (Nat.le_trans hcs.1 hce) (Nat.le_trans hcs.2 hsl) hd (kk H locs ls hl hP hS hz hn hcs)
theorem sm_k_min (hX : sm_X base ct tt D S M d p R s m args meth c) {x : Nat} (hd : decode M.2.1 pc = .ok (.invokestatic x, 3)) {r0 : List Nat} (ho : sm_okst M x (2 :: r0) = true) (h : sm_ma (fun x y => if y < x then y else x) st = some st') (kk : sm_TW base ct tt D M p l e R s m args below meth c Q (pc + 3) lv st' (lay, me) cs) : sm_TW base ct tt D M p l e R s m args below meth c Q pc lv st (lay, me) cs := by
  obtain ⟨a, b, r, rfl, hc, rfl⟩ := sm_ma_of h
  obtain ⟨hx, hb, hml, hown, hts, hnm, hfr, hlo, hce, hsl, hG⟩ := hX
  have ho : (sm_has (r0.getD 0 0) (.methodLink M.1.cls x Lib.Math.min.name) && sm_has (r0.getD 1 0) (.static Lib.Math.min.name)) = true := ho
  simp only [Bool.and_eq_true] at ho
  intro H locs ls hl hP hS hz hn hcs
  have hcat := sm_cats (base := base) (tt := tt) r
  exact va_mmin hx hb (hml.trans hl.1.symm) hown (hts _ (sm_has_in ho.1)) (hts _ (sm_has_in ho.2)) (hts _ sm_mth.2.2.2) (hts _ sm_mth.2.1) (by omega) (by rw [hcat]; omega) (Nat.le_trans hcs.1 hce) (Nat.le_trans hcs.2 hsl) hd (kk H locs ls hl hP hS hz hn hcs)
theorem sm_k_abs (hX : sm_X base ct tt D S M d p R s m args meth c) {x : Nat} (hd : decode M.2.1 pc = .ok (.invokestatic x, 3)) {r0 : List Nat} (ho : sm_okst M x (3 :: r0) = true) (h : sm_mb (fun x => if 0 ≤ x then x else 0 - x) st = some st') (kk : sm_TW base ct tt D M p l e R s m args below meth c Q (pc + 3) lv st' (lay, me) cs) : sm_TW base ct tt D M p l e R s m args below meth c Q pc lv st (lay, me) cs := by
  obtain ⟨a, r, rfl, hc, rfl⟩ := sm_mb_of h
  obtain ⟨hx, hb, hml, hown, hts, hnm, hfr, hlo, hce, hsl, hG⟩ := hX
  have ho : (sm_has (r0.getD 0 0) (.methodLink M.1.cls x Lib.Math.abs.name) && sm_has (r0.getD 1 0) (.static Lib.Math.abs.name)) = true := ho
  simp only [Bool.and_eq_true] at ho
  intro H locs ls hl hP hS hz hn hcs
  have hcat := sm_cats (base := base) (tt := tt) r
  exact va_mabs hx hb (hml.trans hl.1.symm) hown (hts _ (sm_has_in ho.1)) (hts _ (sm_has_in ho.2)) (hts _ sm_mth.2.2.2) (hts _ sm_mth.2.2.1) (by omega) (by rw [hcat]; omega) (Nat.le_trans hcs.1 hce) (Nat.le_trans hcs.2 hsl) hd (kk H locs ls hl hP hS hz hn hcs)
theorem sm_k_st4 (hX : sm_X base ct tt D S M d p R s m args meth c) {x : Nat} (hd : decode M.2.1 pc = .ok (.invokestatic x, 3)) (ho : sm_okst M x ops = true) (h : sm_st4 ops lv lay me st = some (lv', st', me')) (kk : sm_TW base ct tt D M p l e R s m args below meth c Q (pc + 3) lv' st' (lay, me') cs) : sm_TW base ct tt D M p l e R s m args below meth c Q pc lv st (lay, me) cs := by
  unfold sm_st4 at h
  split at h
  · exact sm_k_copy hX hd ho h kk
  · obtain ⟨h2, rfl, rfl⟩ := sm_p_of h; exact sm_k_max hX hd ho h2 kk
  · obtain ⟨h2, rfl, rfl⟩ := sm_p_of h; exact sm_k_min hX hd ho h2 kk
  · obtain ⟨h2, rfl, rfl⟩ := sm_p_of h; exact sm_k_abs hX hd ho h2 kk
  · cases h
theorem sm_k_gets (hX : sm_X base ct tt D S M d p R s m args meth c) {x : Nat} (hd : decode M.2.1 pc = .ok (.getstatic x, 3)) (ho : sm_ok1 M (.getstatic x) ops = true) (kk : sm_TW base ct tt D M p l e R s m args below meth c Q (pc + 3) lv (.ref (ops.getD 0 0) :: st) (lay, me) cs) : sm_TW base ct tt D M p l e R s m args below meth c Q pc lv st (lay, me) cs := by
  obtain ⟨hx, hb, hml, hown, hts, hnm, hfr, hlo, -, -, hG⟩ := hX
  intro H locs ls hl hP hS hz hn hcs
  have ho : sm_gs M x (ops.getD 0 0) (ops.getD 1 0) = true := ho
  unfold sm_gs at ho
  split at ho
  · next q hq =>
    simp only [Bool.and_eq_true, decide_eq_true_eq] at ho
    have hz2 := hG.2.2.1 _ q hq
    refine va_gets hx hb hz2 hS hown (hts _ (sm_has_in ho.2)) (fun z hz => hz) hd ?_
    have k1 := kk H locs ls hl hP hS hz hn hcs
    have e1 : (Value.ref (ops.getD 0 0) :: st).map (sm_cv base tt) = Value.ref (tt (ops.getD 0 0 - 1000)) :: st.map (sm_cv base tt) := by
      show Value.ref (sm_ad base tt (ops.getD 0 0)) :: _ = _
      rw [sm_ad_s ho.1]
    rw [e1] at k1
    exact k1
  · cases ho
set_option maxHeartbeats 8000000 in
theorem sm_one_ok (cf : sm_CF) (hX : sm_X base ct tt D S M d p R s m args meth c) {i : Instr} (hd : decode M.2.1 pc = .ok (i, sm_ln i)) (ho : sm_ok1 M i ops = true) (h : sm_one S M.2.2.1 i ops lv st lay me = some (lv', st', me')) (k : sm_TW base ct tt D M p l e R s m args below meth c Q (pc + sm_ln i) lv' st' (lay, me') cs) : sm_TW base ct tt D M p l e R s m args below meth c Q pc lv st (lay, me) cs := by
  cases i with
  | iconst n => cases h; exact fun H locs ls hl hP hS hz hn hcs => lv_iconst hX.1 hX.2.1 hd rfl (k H locs ls hl hP hS hz hn hcs)
  | bipush n => cases h; exact fun H locs ls hl hP hS hz hn hcs => lv_bipush hX.1 hX.2.1 hd rfl (k H locs ls hl hP hS hz hn hcs)
  | sipush n => cases h; exact fun H locs ls hl hP hS hz hn hcs => lv_sipush hX.1 hX.2.1 hd rfl (k H locs ls hl hP hS hz hn hcs)
  | lconst n => cases h; exact fun H locs ls hl hP hS hz hn hcs => lv_lconst hX.1 hX.2.1 hd rfl (k H locs ls hl hP hS hz hn hcs)
  | aconst_null => cases h; exact fun H locs ls hl hP hS hz hn hcs => lv_null hX.1 hX.2.1 hd (k H locs ls hl hP hS hz hn hcs)
  | ldc x => cases h; exact fun H locs ls hl hP hS hz hn hcs => lv_ldc hX.1 hX.2.1 hX.2.2.2.1 (hX.2.2.2.2.1 _ (sm_has_in ho)) hd (k H locs ls hl hP hS hz hn hcs)
  | ldc_w x => cases h; exact fun H locs ls hl hP hS hz hn hcs => lv_ldcw hX.1 hX.2.1 hX.2.2.2.1 (hX.2.2.2.2.1 _ (sm_has_in ho)) hd (k H locs ls hl hP hS hz hn hcs)
  | ldc2_w x => cases h; exact fun H locs ls hl hP hS hz hn hcs => lv_ldc2 hX.1 hX.2.1 hX.2.2.2.1 (hX.2.2.2.2.1 _ (sm_has_in ho)) hd (k H locs ls hl hP hS hz hn hcs)
  | iload x => obtain ⟨h2, rfl, rfl⟩ := sm_p_of h; obtain ⟨v, hv, rfl⟩ := sm_ldi_of h2; exact fun H locs ls hl hP hS hz hn hcs => lv_iload hX.1 hX.2.1 hd (sm_lk_ls hl hv) (k H locs ls hl hP hS hz hn hcs)
  | iload_n x => obtain ⟨h2, rfl, rfl⟩ := sm_p_of h; obtain ⟨v, hv, rfl⟩ := sm_ldi_of h2; exact fun H locs ls hl hP hS hz hn hcs => lv_iload_n hX.1 hX.2.1 hd rfl (sm_lk_ls hl hv) (k H locs ls hl hP hS hz hn hcs)
  | lload x => obtain ⟨h2, rfl, rfl⟩ := sm_p_of h; obtain ⟨v, hv, rfl⟩ := sm_ldl_of h2; exact fun H locs ls hl hP hS hz hn hcs => lv_lload hX.1 hX.2.1 hd (sm_lk_ls hl hv) (k H locs ls hl hP hS hz hn hcs)
  | lload_n x => obtain ⟨h2, rfl, rfl⟩ := sm_p_of h; obtain ⟨v, hv, rfl⟩ := sm_ldl_of h2; exact fun H locs ls hl hP hS hz hn hcs => lv_lload_n hX.1 hX.2.1 hd rfl (sm_lk_ls hl hv) (k H locs ls hl hP hS hz hn hcs)
  | aload x => obtain ⟨h2, rfl, rfl⟩ := sm_p_of h; (rcases sm_lda_of h2 with ⟨v, hv, rfl⟩ | ⟨hv, rfl⟩; exact fun H locs ls hl hP hS hz hn hcs => lv_aload hX.1 hX.2.1 hd (sm_lk_ls hl hv) (k H locs ls hl hP hS hz hn hcs); exact fun H locs ls hl hP hS hz hn hcs => lv_aloadN hX.1 hX.2.1 hd (sm_lk_ls hl hv) (k H locs ls hl hP hS hz hn hcs))
  | aload_n x => obtain ⟨h2, rfl, rfl⟩ := sm_p_of h; (rcases sm_lda_of h2 with ⟨v, hv, rfl⟩ | ⟨hv, rfl⟩; exact fun H locs ls hl hP hS hz hn hcs => lv_aload_n hX.1 hX.2.1 hd rfl (sm_lk_ls hl hv) (k H locs ls hl hP hS hz hn hcs); exact fun H locs ls hl hP hS hz hn hcs => lv_aload_nN hX.1 hX.2.1 hd rfl (sm_lk_ls hl hv) (k H locs ls hl hP hS hz hn hcs))
  | istore x => obtain ⟨v, rfl, hi, rfl, rfl⟩ := sm_sti_of h; exact fun H locs ls hl hP hS hz hn hcs => lv_istore hX.1 hX.2.1 hd hl hi (sm_s1_map (v := .int v)) (fun ls hl => k H locs ls hl hP hS hz hn hcs)
  | istore_n x => obtain ⟨v, rfl, hi, rfl, rfl⟩ := sm_sti_of h; exact fun H locs ls hl hP hS hz hn hcs => lv_istore_n hX.1 hX.2.1 hd rfl hl hi (sm_s1_map (v := .int v)) (fun ls hl => k H locs ls hl hP hS hz hn hcs)
  | lstore x => obtain ⟨v, rfl, hi, rfl, rfl⟩ := sm_stl_of h; exact fun H locs ls hl hP hS hz hn hcs => lv_lstore hX.1 hX.2.1 hd hl hi (sm_s2_map (v := .long v)) (fun ls hl => k H locs ls hl hP hS hz hn hcs)
  | lstore_n x => obtain ⟨v, rfl, hi, rfl, rfl⟩ := sm_stl_of h; exact fun H locs ls hl hP hS hz hn hcs => lv_lstore_n hX.1 hX.2.1 hd rfl hl hi (sm_s2_map (v := .long v)) (fun ls hl => k H locs ls hl hP hS hz hn hcs)
  | astore x => obtain ⟨hi, rfl, hv⟩ := sm_sta_of h; (rcases hv with ⟨v, rfl, rfl⟩ | ⟨rfl, rfl⟩; exact fun H locs ls hl hP hS hz hn hcs => lv_astore hX.1 hX.2.1 hd hl hi (sm_s1_map (v := .ref v)) (fun ls hl => k H locs ls hl hP hS hz hn hcs); exact fun H locs ls hl hP hS hz hn hcs => lv_astoreN hX.1 hX.2.1 hd hl hi (sm_s1_map (v := .null)) (fun ls hl => k H locs ls hl hP hS hz hn hcs))
  | astore_n x => obtain ⟨hi, rfl, hv⟩ := sm_sta_of h; (rcases hv with ⟨v, rfl, rfl⟩ | ⟨rfl, rfl⟩; exact fun H locs ls hl hP hS hz hn hcs => lv_astore_n hX.1 hX.2.1 hd rfl hl hi (sm_s1_map (v := .ref v)) (fun ls hl => k H locs ls hl hP hS hz hn hcs); exact fun H locs ls hl hP hS hz hn hcs => lv_astore_nN hX.1 hX.2.1 hd rfl hl hi (sm_s1_map (v := .null)) (fun ls hl => k H locs ls hl hP hS hz hn hcs))
  | iinc x n => obtain ⟨v, hv, hi, rfl, rfl, rfl⟩ := sm_inc_of h; exact fun H locs ls hl hP hS hz hn hcs => (by obtain ⟨j, hj⟩ := List.getElem?_of_mem (List.mem_map.mpr ⟨(x, Value.int v), sm_lk_in hv, rfl⟩ : (x, Value.int v) ∈ lv.map (sm_cq base tt)); exact lv_iinc hX.1 hX.2.1 hd hl hj rfl hi (sm_s1_map (v := .int _)) (fun ls hl => k H locs ls hl hP hS hz hn hcs))
  | iadd => obtain ⟨h2, rfl, rfl⟩ := sm_p_of h; obtain ⟨x, y, r, rfl, rfl⟩ := sm_ii_of h2; exact fun H locs ls hl hP hS hz hn hcs => lv_iadd hX.1 hX.2.1 hd (k H locs ls hl hP hS hz hn hcs)
  | isub => obtain ⟨h2, rfl, rfl⟩ := sm_p_of h; obtain ⟨x, y, r, rfl, rfl⟩ := sm_ii_of h2; exact fun H locs ls hl hP hS hz hn hcs => lv_isub hX.1 hX.2.1 hd (k H locs ls hl hP hS hz hn hcs)
  | imul => obtain ⟨h2, rfl, rfl⟩ := sm_p_of h; obtain ⟨x, y, r, rfl, rfl⟩ := sm_ii_of h2; exact fun H locs ls hl hP hS hz hn hcs => lv_imul hX.1 hX.2.1 hd (k H locs ls hl hP hS hz hn hcs)
  | iand => obtain ⟨h2, rfl, rfl⟩ := sm_p_of h; obtain ⟨x, y, r, rfl, rfl⟩ := sm_ii_of h2; exact fun H locs ls hl hP hS hz hn hcs => lv_iand hX.1 hX.2.1 hd (k H locs ls hl hP hS hz hn hcs)
  | ior => obtain ⟨h2, rfl, rfl⟩ := sm_p_of h; obtain ⟨x, y, r, rfl, rfl⟩ := sm_ii_of h2; exact fun H locs ls hl hP hS hz hn hcs => lv_ior hX.1 hX.2.1 hd (k H locs ls hl hP hS hz hn hcs)
  | ixor => obtain ⟨h2, rfl, rfl⟩ := sm_p_of h; obtain ⟨x, y, r, rfl, rfl⟩ := sm_ii_of h2; exact fun H locs ls hl hP hS hz hn hcs => lv_ixor hX.1 hX.2.1 hd (k H locs ls hl hP hS hz hn hcs)
  | ishl => obtain ⟨h2, rfl, rfl⟩ := sm_p_of h; obtain ⟨x, y, r, rfl, rfl⟩ := sm_ii_of h2; exact fun H locs ls hl hP hS hz hn hcs => lv_ishl hX.1 hX.2.1 hd (k H locs ls hl hP hS hz hn hcs)
  | ishr => obtain ⟨h2, rfl, rfl⟩ := sm_p_of h; obtain ⟨x, y, r, rfl, rfl⟩ := sm_ii_of h2; exact fun H locs ls hl hP hS hz hn hcs => lv_ishr hX.1 hX.2.1 hd (k H locs ls hl hP hS hz hn hcs)
  | iushr => obtain ⟨h2, rfl, rfl⟩ := sm_p_of h; obtain ⟨x, y, r, rfl, rfl⟩ := sm_ii_of h2; exact fun H locs ls hl hP hS hz hn hcs => lv_iushr hX.1 hX.2.1 hd rfl (k H locs ls hl hP hS hz hn hcs)
  | idiv => obtain ⟨h2, rfl, rfl⟩ := sm_p_of h; obtain ⟨x, y, r, rfl, hy, rfl⟩ := sm_iq_of h2; exact fun H locs ls hl hP hS hz hn hcs => lv_idiv hX.1 hX.2.1 hd hy (k H locs ls hl hP hS hz hn hcs)
  | irem => obtain ⟨h2, rfl, rfl⟩ := sm_p_of h; obtain ⟨x, y, r, rfl, hy, rfl⟩ := sm_iq_of h2; exact fun H locs ls hl hP hS hz hn hcs => lv_irem hX.1 hX.2.1 hd hy (k H locs ls hl hP hS hz hn hcs)
  | ineg => obtain ⟨h2, rfl, rfl⟩ := sm_p_of h; obtain ⟨x, r, rfl, rfl⟩ := sm_i1_of h2; exact fun H locs ls hl hP hS hz hn hcs => lv_ineg hX.1 hX.2.1 hd (k H locs ls hl hP hS hz hn hcs)
  | i2b => obtain ⟨h2, rfl, rfl⟩ := sm_p_of h; obtain ⟨x, r, rfl, rfl⟩ := sm_i1_of h2; exact fun H locs ls hl hP hS hz hn hcs => lv_i2b hX.1 hX.2.1 hd rfl (k H locs ls hl hP hS hz hn hcs)
  | i2l => obtain ⟨h2, rfl, rfl⟩ := sm_p_of h; obtain ⟨x, r, rfl, rfl⟩ := sm_i1_of h2; exact fun H locs ls hl hP hS hz hn hcs => lv_i2l hX.1 hX.2.1 hd rfl (k H locs ls hl hP hS hz hn hcs)
  | l2i => obtain ⟨h2, rfl, rfl⟩ := sm_p_of h; obtain ⟨x, r, rfl, rfl⟩ := sm_l1_of h2; exact fun H locs ls hl hP hS hz hn hcs => lv_l2i hX.1 hX.2.1 hd rfl (k H locs ls hl hP hS hz hn hcs)
  | ladd => obtain ⟨h2, rfl, rfl⟩ := sm_p_of h; obtain ⟨x, y, r, rfl, rfl⟩ := sm_ll_of h2; exact fun H locs ls hl hP hS hz hn hcs => lv_ladd hX.1 hX.2.1 hd (k H locs ls hl hP hS hz hn hcs)
  | lsub => obtain ⟨h2, rfl, rfl⟩ := sm_p_of h; obtain ⟨x, y, r, rfl, rfl⟩ := sm_ll_of h2; exact fun H locs ls hl hP hS hz hn hcs => lv_lsub hX.1 hX.2.1 hd (k H locs ls hl hP hS hz hn hcs)
  | lmul => obtain ⟨h2, rfl, rfl⟩ := sm_p_of h; obtain ⟨x, y, r, rfl, rfl⟩ := sm_ll_of h2; exact fun H locs ls hl hP hS hz hn hcs => lv_lmul hX.1 hX.2.1 hd (k H locs ls hl hP hS hz hn hcs)
  | land => obtain ⟨h2, rfl, rfl⟩ := sm_p_of h; obtain ⟨x, y, r, rfl, rfl⟩ := sm_ll_of h2; exact fun H locs ls hl hP hS hz hn hcs => lv_land hX.1 hX.2.1 hd (k H locs ls hl hP hS hz hn hcs)
  | lor => obtain ⟨h2, rfl, rfl⟩ := sm_p_of h; obtain ⟨x, y, r, rfl, rfl⟩ := sm_ll_of h2; exact fun H locs ls hl hP hS hz hn hcs => lv_lor hX.1 hX.2.1 hd (k H locs ls hl hP hS hz hn hcs)
  | lshl => obtain ⟨h2, rfl, rfl⟩ := sm_p_of h; obtain ⟨x, y, r, rfl, rfl⟩ := sm_li_of h2; exact fun H locs ls hl hP hS hz hn hcs => lv_lshl hX.1 hX.2.1 hd rfl (k H locs ls hl hP hS hz hn hcs)
  | lshr => obtain ⟨h2, rfl, rfl⟩ := sm_p_of h; obtain ⟨x, y, r, rfl, rfl⟩ := sm_li_of h2; exact fun H locs ls hl hP hS hz hn hcs => lv_lshr hX.1 hX.2.1 hd rfl (k H locs ls hl hP hS hz hn hcs)
  | lcmp => obtain ⟨h2, rfl, rfl⟩ := sm_p_of h; obtain ⟨x, y, r, rfl, rfl⟩ := sm_lc_of h2; exact fun H locs ls hl hP hS hz hn hcs => W.lcmp hX.1 hX.2.1 hd (k H locs ls hl hP hS hz hn hcs)
  | dup => obtain ⟨h2, rfl, rfl⟩ := sm_p_of h; obtain ⟨v, r, rfl, hv, rfl⟩ := sm_dup_of h2; exact fun H locs ls hl hP hS hz hn hcs => lv_dup hX.1 hX.2.1 hd ((sm_cv_cat v).trans hv) (k H locs ls hl hP hS hz hn hcs)
  | dup_x1 => obtain ⟨h2, rfl, rfl⟩ := sm_p_of h; obtain ⟨v, u, r, rfl, hv, hu, rfl⟩ := sm_dupx1_of h2; exact fun H locs ls hl hP hS hz hn hcs => lv_dup_x1 hX.1 hX.2.1 hd ((sm_cv_cat v).trans hv) ((sm_cv_cat u).trans hu) (k H locs ls hl hP hS hz hn hcs)
  | dup2 => obtain ⟨h2, rfl, rfl⟩ := sm_p_of h; obtain ⟨v, u, r, rfl, hv, hu, rfl⟩ := sm_dup2_of h2; exact fun H locs ls hl hP hS hz hn hcs => lv_dup2_11 hX.1 hX.2.1 hd ((sm_cv_cat v).trans hv) ((sm_cv_cat u).trans hu) (k H locs ls hl hP hS hz hn hcs)
  | pop => obtain ⟨h2, rfl, rfl⟩ := sm_p_of h; obtain ⟨v, rfl, hv⟩ := sm_pop_of h2; exact fun H locs ls hl hP hS hz hn hcs => lv_pop hX.1 hX.2.1 hd ((sm_cv_cat v).trans hv) (k H locs ls hl hP hS hz hn hcs)
  | iaload => obtain ⟨h2, rfl, rfl⟩ := sm_p_of h; exact sm_k_iald hX hd h2 k
  | baload => obtain ⟨h2, rfl, rfl⟩ := sm_p_of h; exact sm_k_bald hX hd h2 k
  | laload => obtain ⟨h2, rfl, rfl⟩ := sm_p_of h; exact sm_k_lald hX hd h2 k
  | arraylength => obtain ⟨h2, rfl, rfl⟩ := sm_p_of h; exact sm_k_alen hX hd h2 k
  | iastore => exact sm_k_iast hX hd h k
  | bastore => exact sm_k_bast hX hd h k
  | lastore => exact sm_k_last hX hd h k
  | getfield x => obtain ⟨h2, rfl, rfl⟩ := sm_p_of h; exact sm_k_get cf hX hd ho h2 k
  | putfield x => exact sm_k_put cf hX hd (Bool.and_eq_true_iff.mp ho).1 (Bool.and_eq_true_iff.mp ho).2 h k
  | getstatic x => cases h; exact sm_k_gets hX hd ho k
  | invokestatic x => exact sm_k_st4 hX hd ho h k
  | invokespecial x => obtain ⟨h2, rfl, rfl⟩ := sm_p_of h; exact sm_k_oin hX hd ho h2 k
  | _ => cases h
end SmOne
end
section
/-! blocks, calls, methods -/
def sm_blks (M : sm_M) : List sm_B := M.2.2.2.2.2.2.2.2
def sm_tg (M : sm_M) (pc : Nat) (off : Int) (b : Nat) : Bool := match (sm_blks M)[b]? with
  | some B => decide ((pc : Int) + off = (B.1 : Int))
  | none => false
def sm_tgs (M : sm_M) (pc : Nat) : List Int → List Nat → Bool
  | [], [] => true
  | o :: os, b :: bs => sm_tg M pc o b && sm_tgs M pc os bs
  | _, _ => false
def sm_okN (M : sm_M) (x ci p1 p2 p3 : Nat) : Bool := match vwCl[ci]? with
  | some (C, _, N) => sm_has p1 (.classLink M.1.cls x C) && sm_has p2 (.instantiable C N) && sm_has p3 (.initialized C)
  | none => false
def sm_okV (P : Nat → sm_M) (M : sm_M) (x g inst ci p1 p2 p3 : Nat) : Bool := match vwCl[ci]? with
  | some (C, _, _) => decide (inst = 1) && decide ((P g).1.cls = C) && sm_has p1 (.methodLink M.1.cls x (P g).1) && sm_has p2 (.instanceMethod (P g).1) && sm_has p3 (.selects C (P g).1 (P g).1)
  | none => false
def sm_okS (P : Nat → sm_M) (M : sm_M) (x g inst nst p1 p2 : Nat) : Bool := decide (inst = 0) && (if nst = 1 then decide (sm_nest[p1]? = some (M.1.cls, x, (P g).1)) else sm_has p1 (.methodLink M.1.cls x (P g).1)) && sm_has p2 (.static (P g).1)
def sm_okP (P : Nat → sm_M) (M : sm_M) (x g inst nst p1 p2 : Nat) : Bool := decide (inst = 1) && decide ((P g).1.name = "<init>") && decide ((P g).2.2.2.1 = none) && (if nst = 1 then decide (sm_nest[p1]? = some (M.1.cls, x, (P g).1)) else sm_has p1 (.methodLink M.1.cls x (P g).1)) && sm_has p2 (.instanceMethod (P g).1)
def sm_okD (P : Nat → sm_M) (M : sm_M) (i : Instr) (g inst ci : Nat) (r : List Nat) : Bool := match i with
  | .invokevirtual x => sm_okV P M x g inst ci (r.getD 0 0) (r.getD 1 0) (r.getD 2 0)
  | .invokestatic x => sm_okS P M x g inst (r.getD 3 0) (r.getD 0 0) (r.getD 1 0)
  | .invokespecial x => sm_okP P M x g inst (r.getD 3 0) (r.getD 0 0) (r.getD 1 0)
  | _ => false
def sm_okC (P : Nat → sm_M) (M : sm_M) (i : Instr) (g inst ci : Nat) (r : List Nat) : Bool := decide ((P g).2.2.2.2.2.2.2.1.getD 2 0 = 1) && sm_okD P M i g inst ci r
def sm_okE (P : Nat → sm_M) (M : sm_M) (i : Instr) (ops : List Nat) : Bool := match ops with
  | g :: inst :: ci :: a1 :: a2 :: a3 :: a4 :: r => sm_okC P M i g inst ci (a1 :: a2 :: a3 :: a4 :: r)
  | _ => sm_ok1 M i ops
def sm_dec (M : sm_M) (pc : Nat) (i : Instr) : Bool := decide (decode M.2.1 pc = .ok (i, sm_ln i))
def sm_isI (r : Option FieldType) : Bool := match r with
  | some .int => true
  | some .boolean => true
  | _ => false
def sm_isO (r : Option FieldType) : Bool := match r with
  | some (.object _) => true
  | _ => false
def sm_okA (M : sm_M) (at' : ArrayType) (t pos : Nat) : Bool := decide (t < 4) && decide (newarray.typeOf at' = sm_ty t) && sm_has pos (.arrayClass (newarray.typeOf at'))
def sm_okI (P : Nat → sm_M) (M : sm_M) (pc : Nat) (i : Instr) (ops : List Nat) (k : Nat → Bool) : Bool := match i with
  | .goto off => sm_dec M pc (.goto off) && sm_tg M pc off (ops.getD 0 0)
  | .ifCond c off => sm_dec M pc (.ifCond c off) && sm_tg M pc off (ops.getD 0 0) && sm_tg M pc 3 (ops.getD 1 0)
  | .if_icmp c off => sm_dec M pc (.if_icmp c off) && sm_tg M pc off (ops.getD 0 0) && sm_tg M pc 3 (ops.getD 1 0)
  | .ifnull off => sm_dec M pc (.ifnull off) && sm_tg M pc off (ops.getD 0 0) && sm_tg M pc 3 (ops.getD 1 0)
  | .ifnonnull off => sm_dec M pc (.ifnonnull off) && sm_tg M pc off (ops.getD 0 0) && sm_tg M pc 3 (ops.getD 1 0)
  | .tableswitch df lo hi offs => (match decode M.2.1 pc with
    | .ok (j, _) => decide (j = .tableswitch df lo hi offs)
    | _ => false) && sm_tg M pc df (ops.getD 0 0) && sm_tgs M pc offs.toList (ops.drop 1) && decide (lo + offs.toList.length = hi + 1)
  | .lookupswitch df ps => (match decode M.2.1 pc with
    | .ok (j, _) => decide (j = .lookupswitch df ps)
    | _ => false) && sm_tg M pc df (ops.getD 0 0) && sm_tgs M pc (ps.toList.map (fun q => q.2)) (ops.drop 1) && (ps.toList.zip (ps.toList.drop 1)).all (fun (a, next) => a.1 < next.1)
  | .ireturn => sm_dec M pc .ireturn && sm_isI M.2.2.2.1
  | .lreturn => sm_dec M pc .lreturn && decide (M.2.2.2.1 = some .long)
  | .areturn => sm_dec M pc .areturn && sm_isO M.2.2.2.1
  | .return_ => sm_dec M pc .return_ && decide (M.2.2.2.1 = none)
  | .new x => sm_dec M pc (.new x) && sm_okN M x (ops.getD 0 0) (ops.getD 1 0) (ops.getD 2 0) (ops.getD 3 0) && k (pc + 3)
  | .newarray at' => sm_dec M pc (.newarray at') && sm_okA M at' (ops.getD 0 0) (ops.getD 1 0) && k (pc + 2)
  | i => sm_dec M pc i && sm_okE P M i ops && k (pc + sm_ln i)
def sm_okL (P : Nat → sm_M) (M : sm_M) (fall : Nat) : List (Instr × List Nat) → Nat → Bool
  | [], pc => sm_tg M pc 0 fall
  | (i, ops) :: is, pc => sm_okI P M pc i ops (sm_okL P M fall is)
/-- a method's table is in order -/
def sm_okM (P : Nat → sm_M) (M : sm_M) : Bool := plainName M.1.cls && decide (M.1.cls ≠ "java/lang/invoke/MethodHandle") && decide (M.1.cls ≠ "java/lang/invoke/VarHandle") &&
  decide ((parseMethodDescriptor M.1.desc).map (fun d => d.parameters.length) = some M.2.2.2.2.1) && decide (M.2.2.1 ≤ 60) && (match (sm_blks M)[0]? with
    | some B => decide (B.1 = 0)
    | none => false) && (sm_blks M).all (fun B => sm_okL P M B.2.2.1 B.2.2.2 B.1)
def sm_Cal (M : sm_M) : Prop := Cond.code M.1 M.2.1 M.2.2.1 M.2.2.2.1 ∈ sm_wl ∧ Cond.initialized M.1.cls ∈ sm_wl
/-- its table is in order, and if it is called its words are among the tables' -/
def sm_OK (P : Nat → sm_M) (M : sm_M) : Prop := sm_okM P M = true ∧ (M.2.2.2.2.2.2.2.1.getD 2 0 = 1 → sm_Cal M)
theorem sm_dec_of {M : sm_M} {pc : Nat} {i : Instr} (h : sm_dec M pc i = true) : decode M.2.1 pc = .ok (i, sm_ln i) := of_decide_eq_true h
theorem sm_tg_of {M : sm_M} {pc b : Nat} {off : Int} (h : sm_tg M pc off b = true) : ∃ B, (sm_blks M)[b]? = some B ∧ (pc : Int) + off = (B.1 : Int) := by
  unfold sm_tg at h; split at h
  · next B e => exact ⟨B, e, of_decide_eq_true h⟩
  · cases h
def sm_mw (M : sm_M) : List Cond := .code M.1 M.2.1 M.2.2.1 M.2.2.2.1 :: sm_wl
def sm_rm (d : Nat) (M : sm_M) : Room := { frames := d + 1, cells := M.2.2.2.2.2.1, slots := M.2.2.2.2.2.2.1, locals := 80 * d + 100 }
def sm_Pre (base : Nat) (ct : Nat → ClassId) (tt : Nat → Nat) (D : va_G) (S : sm_C) (w : sm_W) (U : State) : Prop := U.heap.size = base + w.1.length ∧ w.1.length ≤ 1000 ∧ va_P D vwCl (sm_ws base ct tt w) U.heap ∧ sm_G base ct tt D S U
def sm_Q (base : Nat) (ct : Nat → ClassId) (tt : Nat → Nat) (D : va_G) (z : sm_Z) : Array Value → State → Outcome → State → Prop := fun _ st oc t => oc = .returned (z.1.map (sm_cv base tt)) ∧ va_P D vwCl (sm_ws base ct tt z.2) t.heap ∧ va_F (sm_A base) st t
def sm_ret (i : Instr) (v : Option Value) (ret : Option FieldType) : Prop := (i = .ireturn ∧ ∃ x, v = some (.int x) ∧ (ret = some .int ∨ (ret = some .boolean ∧ (x = 0 ∨ x = 1)))) ∨ (i = .lreturn ∧ ∃ x, v = some (.long x) ∧ ret = some .long) ∨ (i = .areturn ∧ ∃ x, v = some (.ref x) ∧ ∃ n, ret = some (.object n)) ∨ (i = .return_ ∧ v = none ∧ ret = none)
def sm_end (base : Nat) (ct : Nat → ClassId) (tt : Nat → Nat) (D : va_G) (M : sm_M) (p : Program) (l : Launch) (e : Env) (R : Room) (s : State) (m : MethodId) (args : Array Value) (below : List Frame) (meth : Method) (c : Code) (Q : State → Prop) (z : sm_Z) : Prop :=
  ∀ (H : Heap) (locs : List Loc) (pc : Nat) (ls : Array Slot) (i : Instr), decode M.2.1 pc = .ok (i, 1) → sm_ret i z.1 M.2.2.2.1 → va_P D vwCl (sm_ws base ct tt z.2) H → va_S (sm_A base) s.heap H locs →
    W p l e R s m args below meth c H locs M.2.2.2.2.2.1 M.2.2.2.2.2.2.1 Q (F0 m pc ls ((z.1.map (sm_cv base tt)).toList))
theorem sm_G.moved {base : Nat} {ct : Nat → ClassId} {tt : Nat → Nat} {D : va_G} {S : sm_C} {s U : State} {H : Heap} {locs : List Loc} (h : sm_G base ct tt D S s) (hW : s.WarmedH U.vm) (hU : U.heap = H) (hS : va_S (sm_A base) s.heap H locs) : sm_G base ct tt D S U := by
  obtain ⟨h1, h2, h3, h4, h5, h6⟩ := h
  have hk : ∀ a : Nat, a < s.heap.size → ¬ sm_A base a → U.heap[a]? = s.heap[a]? := fun a ha hn => by rw [hU]; exact hS.2.1 a ha hn
  refine ⟨va_K.moved hW.alike h1, by rw [hU]; exact Nat.le_trans h2 hS.1, fun k q hq => (va_Z.moved hW.alike (h3 k q hq)).kept hk, fun p q hq => ?_, fun p q hq => ?_, fun q hq => va_Nw.warmM hW (h6 q hq)⟩
  · exact ⟨(h4 p q hq).1, (va_T.moved hW.alike (h4 p q hq).2).kept hk⟩
  · exact ⟨(h5 p q hq).1, (va_T.moved hW.alike (h5 p q hq).2).kept hk⟩
theorem sm_blind {base : Nat} {ct : Nat → ClassId} {tt : Nat → Nat} {D : va_G} {S : sm_C} {w : sm_W} {as : List Value} : FrameBlind (va_Pc as (sm_Pre base ct tt D S w)) := by
  intro a U g mk h
  obtain ⟨h0, h1, h2, h3, h4, h5, h6, h7, h8, h9⟩ := h
  refine ⟨h0, h1, h2, h3, va_K.moved (u := U) (U := U.calling g mk a) (Vm.Alike.refl U.vm) h4, h5, fun k q hq => va_Z.moved (u := U) (U := U.calling g mk a) (Vm.Alike.refl U.vm) (h6 k q hq), fun p q hq => ⟨(h7 p q hq).1, va_T.moved (u := U) (U := U.calling g mk a) (Vm.Alike.refl U.vm) (h7 p q hq).2⟩, fun p q hq => ⟨(h8 p q hq).1, va_T.moved (u := U) (U := U.calling g mk a) (Vm.Alike.refl U.vm) (h8 p q hq).2⟩, fun q hq => va_Nw.same rfl (u := U) (U := U.calling g mk a) rfl (h9 q hq)⟩
theorem sm_args_map {base : Nat} {tt : Nat → Nat} : ∀ (vs : List Value) (i : Nat), lv_args i (vs.map (sm_cv base tt)) = (lv_args i vs).map (sm_cq base tt)
  | [], _ => rfl
  | v :: vs, i => by
    show (i, sm_cv base tt v) :: lv_args _ _ = (i, sm_cv base tt v) :: (lv_args _ vs).map _
    rw [sm_cv_cat, sm_args_map vs]
theorem sm_sl_len {base : Nat} {tt : Nat → Nat} (vs : List Value) : (lg_sl (vs.map (sm_cv base tt))).length = (lg_sl vs).length := by
  induction vs with
  | nil => rfl
  | cons v r ih =>
    simp only [lg_sl, List.map_cons, List.flatMap_cons, List.length_append, sm_cv_cat] at ih ⊢
    rw [ih]
    split <;> rfl
theorem sm_pick_of : ∀ {live : List Nat} {lv : sm_V} {vs : List Value}, sm_pick live lv = some vs → ∀ q ∈ live.zip vs, q ∈ lv
  | [], lv, vs, h, q, hq => by simp at hq
  | i :: r, lv, vs, h, q, hq => by
    unfold sm_pick at h
    split at h
    · cases h
    · next v hv =>
      split at h
      · cases h
      · next vs' hvs =>
        cases h
        rcases List.mem_cons.mp hq with rfl | hq
        · exact sm_lk_in hv
        · exact sm_pick_of hvs q hq
section SmMain
variable {base : Nat} {ct : Nat → ClassId} {tt : Nat → Nat} {D : va_G} {S : sm_C} {M : sm_M} {d : Nat} {p : Program} {l : Launch} {e : Env} {R : Room} {s : State} {m : MethodId} {args : Array Value} {below : List Frame} {meth : Method} {c : Code} {Q : State → Prop}
variable {pc : Nat} {lv lv' : sm_V} {st st' r : List Value} {w : sm_W} {cs : Nat × Nat} {ops : List Nat} {z : sm_Z}
theorem sm_sub (h : ∀ q ∈ lv', q ∈ lv) (k : sm_TW base ct tt D M p l e R s m args below meth c Q pc lv' st w cs) : sm_TW base ct tt D M p l e R s m args below meth c Q pc lv st w cs := by
  intro H locs ls hl hP hS hz hn hcs
  refine k H locs ls ⟨hl.1, hl.2.1, fun q hq => ?_⟩ hP hS hz hn hcs
  obtain ⟨u, hu, rfl⟩ := List.mem_map.mp hq
  exact hl.2.2 _ (List.mem_map.mpr ⟨u, h u hu, rfl⟩)
theorem sm_after {mc ms cells slots : Nat} {H : Heap} {locs : List Loc} {ls : Array Slot} {st0 rest : List Value} {a : Array Value} (hr : va_Run p l e R s m args below meth c H locs cells slots mc ms (F0 m pc ls st0) rest (sm_Q base ct tt D z a) (sm_A base)) (hS : va_S (sm_A base) s.heap H locs)
    (kk : ∀ (H1 : Heap) (locs1 : List Loc), va_P D vwCl (sm_ws base ct tt z.2) H1 → va_S (sm_A base) s.heap H1 locs1 → W p l e R s m args below meth c H1 locs1 (cells + mc) (slots + ms) Q (F0 m (pc + 3) ls ((z.1.map (sm_cv base tt)).toList ++ rest))) : W p l e R s m args below meth c H locs cells slots Q (F0 m pc ls st0) := by
  intro T hT X
  obtain ⟨v, st₀, t, T', L, h0, X', hL, e1, e2, ⟨hv, hP1, hz, hk⟩, st⟩ := hr T hT X
  have hv := Outcome.returned.inj hv
  subst hv
  rw [h0] at hz hk
  obtain ⟨t2, a1, b1⟩ := kk T'.heap (locs ++ L) (by rw [e1]; exact hP1) ⟨Nat.le_trans hS.1 (by rw [e1]; exact hz), fun q h1 h2 => by rw [e1, hk q (Nat.lt_of_lt_of_le h1 hS.1) h2]; exact hS.2.1 q h1 h2, fun q hq => by
      rcases List.mem_append.mp hq with h | h
      · exact hS.2.2 q h
      · exact hL q h⟩ T' rfl X'
  exact ⟨t2, st t2 a1, b1⟩
theorem sm_size_le {H : Heap} {locs : List Loc} (hb : base ≤ s.heap.size) (hP : va_P D vwCl (sm_ws base ct tt w) H) (hS : va_S (sm_A base) s.heap H locs) (hz : s.heap.size + cs.1 = base + w.1.length) : base + w.1.length ≤ H.size := by
  cases hw : w.1.length with
  | zero =>
    have := hS.1
    rw [hw] at hz
    omega
  | succ n =>
    have hn : n < w.1.length := by omega
    have h1 : (sm_ws base ct tt w)[n]? = some (sm_E base ct tt w n w.1[n]) := by rw [sm_ws_get, List.getElem?_eq_getElem hn]; rfl
    have h2 : base + n < H.size := (hP n _ h1).lt
    omega
theorem sm_sized {H : Heap} {locs : List Loc} {g : JFrame} (hb : base ≤ s.heap.size) (hP : va_P D vwCl (sm_ws base ct tt w) H) (hS : va_S (sm_A base) s.heap H locs) (hz : s.heap.size + cs.1 = base + w.1.length) (k : H.size = base + w.1.length → W p l e R s m args below meth c H locs cs.1 cs.2 Q g) : W p l e R s m args below meth c H locs cs.1 cs.2 Q g := by
  intro T hT X
  have h1 := X.heapSize
  have h2 := sm_size_le hb hP hS hz
  rw [hT] at h1
  exact k (by omega) T hT X
end SmMain
end
