/-! THE MEANING of a text as a pure machine: the class's reader over a memory of its own (cells 2, 10, 11 and Told's as 12 .. 48; names) -/
abbrev sg : Type := sm_I × (Nat → Int64)
def fnd (s : sm_I) (l : Nat → Int64) (nm : Int64) (kd : Int32) : Nat → Nat → Int32
  | 0, _ => -1
  | m + 1, i => if l i = nm then (if s 10 i = kd then s 11 i else fnd s l nm kd m (i + 1)) else fnd s l nm kd m (i + 1)
def twc (l : Nat → Int64) (nm : Int64) : Nat → Nat → Bool
  | 0, _ => false
  | m + 1, i => if l i = nm then true else twc l nm m (i + 1)
def oy (s : sm_I) (x : Int32) : Nat → Nat → Bool
  | 0, _ => false
  | m + 1, i => if s 18 i = x then true else oy s x m (i + 1)
def cnt (s : sm_I) : Nat := (s 2 5).toNatClampNeg
def fd (a : sg) (nm : Int64) (kd : Int32) : Int32 := fnd a.1 a.2 nm kd (cnt a.1) 0
def u2 (a : sg) (c j : Nat) (v : Int32) : sg := (sm_up a.1 c j v, a.2)
theorem u2_eq (a : sg) (c j : Nat) (v : Int32) : (u2 a c j v).1 c j = v := en_up_eq _ _ _ _
theorem u2_ne (a : sg) (c j : Nat) (v : Int32) {c' j' : Nat} (h : ¬ (c' = c ∧ j' = j)) : (u2 a c j v).1 c' j' = a.1 c' j' := en_up_ne _ _ _ _ h
def mnn (n x : Int32) : Int32 := if n < x + 1 then n else x + 1
def sy_new (b : Bool) (a : sg) : sg := if a.1 12 3 < 10 then u2 (u2 (u2 (if b = true then u2 a 12 6 (a.1 12 6 ||| ((1 : Int32) <<< (a.1 12 3 &&& 31))) else a) 22 (a.1 12 3).toNatClampNeg 1) 23 (a.1 12 3 * 4).toNatClampNeg 1) 12 3 (a.1 12 3 + 1) else a
def nb_new (k : Int32) (a : sg) : Int32 × sg := if k.toInt = 0 then (mnn 4 (a.1 12 0) - 1, u2 a 12 0 (mnn 4 (a.1 12 0))) else if k.toInt = 1 then (mnn 6 (a.1 12 1) - 1, u2 a 12 1 (mnn 6 (a.1 12 1))) else if k.toInt = 3 then (mnn 10 (a.1 12 2) - 1, u2 a 12 2 (mnn 10 (a.1 12 2))) else if k.toInt = 12 then (mnn 5 (a.1 12 4) - 1, u2 a 12 4 (mnn 5 (a.1 12 4))) else ((sy_new (decide (a.1 2 7 = 8)) a).1 12 3 - 1, sy_new (decide (a.1 2 7 = 8)) a)
def nm_kd (a : sg) : Int32 := if a.1 2 7 = 8 then 6 else a.1 2 7
def nmu (l : Nat → Int64) (n : Nat) (v : Int64) : Nat → Int64 := fun j => if j = n then v else l j
def nm_add (nm : Int64) (a : sg) : sg := u2 (u2 (nb_new (nm_kd a) (sm_up a.1 10 (cnt a.1) (nm_kd a), nmu a.2 (cnt a.1) nm)).2 11 (cnt a.1) (nb_new (nm_kd a) (sm_up a.1 10 (cnt a.1) (nm_kd a), nmu a.2 (cnt a.1) nm)).1) 2 5 (a.1 2 5 + 1)
def tk_new (nm : Int64) (a : sg) : Int32 × sg := if twc a.2 nm (cnt a.1) 0 = true then (3, a) else if 35 ≤ a.1 2 5 then (0, a) else (0, nm_add nm a)
def tk_path (s : Int32) (nm : Int64) (a : sg) : Int32 × sg := if fd a nm 1 = -1 then (4, a) else if s = 3 then (0, u2 a 2 8 (fd a nm 1)) else if a.1 2 8 = fd a nm 1 then (5, u2 a 2 9 (fd a nm 1)) else (0, u2 a 2 9 (fd a nm 1))
def pl_last (c : Nat) (r : Int32) (a : sg) : sg := if a.1 12 2 ≤ 0 then a else if 10 < a.1 12 2 then a else u2 a c (a.1 12 2 - 1).toNatClampNeg r
def tk_where (s : Int32) (nm : Int64) (a : sg) : Int32 × sg := if s = 8 then (if fd a nm 0 = -1 then (4, a) else (0, pl_last 14 (fd a nm 0) a)) else (if fd a nm 1 = -1 then (4, a) else (0, pl_last 15 (fd a nm 1) a))
def is_op (x : Int32) (a : sg) : Bool := if x < 0 then false else if 10 ≤ x then false else decide (¬ a.1 18 x.toNatClampNeg = -1)
def tk_open (s : Int32) (nm : Int64) (a : sg) : Int32 × sg := if fd a nm 3 = -1 then (4, a) else if s = 27 then (if is_op (fd a nm 3) a = true then 5 else 0, u2 a 2 8 (fd a nm 3)) else (if a.1 2 8 = fd a nm 3 then 5 else if is_op (fd a nm 3) a = true then 5 else if oy a.1 (a.1 2 8) (a.1 12 2).toNatClampNeg 0 = true then 5 else 0, u2 a 2 9 (fd a nm 3))
def tk_span (s : Int32) (nm : Int64) (a : sg) : Int32 × sg := if fd a nm 3 = -1 then (4, a) else if s = 17 then (0, u2 (u2 a 2 8 (fd a nm 3)) 2 9 (-1)) else (0, u2 a 2 9 (fd a nm 3))
def ad_pt6 (q : Int32) (a : sg) : sg := if q * 4 + a.1 22 q.toNatClampNeg - 1 < 0 then a else if 40 ≤ q * 4 + a.1 22 q.toNatClampNeg - 1 then a else if 3 ≤ a.1 23 (q * 4 + a.1 22 q.toNatClampNeg - 1).toNatClampNeg then a else u2 a 23 (q * 4 + a.1 22 q.toNatClampNeg - 1).toNatClampNeg (a.1 23 (q * 4 + a.1 22 q.toNatClampNeg - 1).toNatClampNeg + 1)
def ad_part (b : Bool) (a : sg) : sg := if a.1 12 3 - 1 < 0 then a else if a.1 12 3 - 1 < 10 then (if b = true then (if 4 ≤ a.1 22 (a.1 12 3 - 1).toNatClampNeg then ad_pt6 (a.1 12 3 - 1) a else ad_pt6 (a.1 12 3 - 1) (u2 a 22 (a.1 12 3 - 1).toNatClampNeg (a.1 22 (a.1 12 3 - 1).toNatClampNeg + 1))) else ad_pt6 (a.1 12 3 - 1) a) else a
def tr_last (v : Int32) (a : sg) : sg := if a.1 12 3 ≤ 0 then a else if 10 < a.1 12 3 then a else u2 a 21 (a.1 12 3 - 1).toNatClampNeg v
def tk_trust (v : Int32) (a : sg) : Int32 × sg := if v = 0 then (5, a) else if v ≤ 100 then (0, tr_last v a) else (5, a)
def ad_w (x y v : Int32) (a : sg) : sg := u2 (u2 a 13 (x * 6 + y).toNatClampNeg v) 13 (y * 6 + x).toNatClampNeg v
def ad_path (x y v : Int32) (a : sg) : sg := if x < 0 then a else if 6 ≤ x then a else if y < 0 then a else if y < 6 then (if a.1 13 (x * 6 + y).toNatClampNeg < 0 then ad_w x y v a else if a.1 13 (x * 6 + y).toNatClampNeg ≤ v then a else ad_w x y v a) else a
def spb (c n : Nat) (row x y lo hi : Int32) (a : sg) : sg := if row < 0 then a else if Int32.ofNat n ≤ row then a else u2 (u2 (u2 (u2 a (c + 1) row.toNatClampNeg x) (c + 2) row.toNatClampNeg y) (c + 3) row.toNatClampNeg lo) (c + 4) row.toNatClampNeg hi
def en_po (v : Int32) (a : sg) : sg := if a.1 2 7 = 2 then ad_path (a.1 2 8) (a.1 2 9) v a else spb 16 10 (a.1 2 8) (a.1 2 8) (a.1 2 9) (a.1 2 10) v a
def va22 (q : Int32) (a : sg) : Int32 := if q < 0 then 0 else if 10 ≤ q then 0 else a.1 22 q.toNatClampNeg
def pa_of (q c : Int32) (a : sg) : Int32 := if q * 4 + c < 0 then 0 else if 40 ≤ q * 4 + c then 0 else a.1 23 (q * 4 + c).toNatClampNeg
def la_span (a : sg) : Int32 := ((a.1 12 3 - 1) * 4 + (va22 (a.1 12 3 - 1) a - 1)) * 3 + pa_of (a.1 12 3 - 1) (va22 (a.1 12 3 - 1) a - 1) a - 1
def en_sp (v : Int32) (a : sg) : sg := if a.1 2 7 = 12 then spb 29 5 (a.1 12 4 - 1) (a.1 2 8) (a.1 2 9) (a.1 2 10) v a else spb 24 120 (la_span a) (a.1 2 8) (a.1 2 9) (a.1 2 10) v a
def sg_n (s v : Int32) : Int32 := if s = 22 then -v else if s = 24 then -v else v
def tk_int (s k v : Int32) (a : sg) : Int32 × sg := if k = 16 then (if s = 5 then (0, en_po (sg_n s v) a) else if fw s k = 26 then (0, en_sp (sg_n s v) a) else (0, u2 a 2 10 (sg_n s v))) else (0, a)
def tk_take (s k : Int32) (v : Int64) (a : sg) : Int32 × sg := if s.toInt = 0 then (0, u2 a 2 7 k) else if s.toInt = 1 ∨ s.toInt = 6 ∨ s.toInt = 11 ∨ s.toInt = 14 ∨ s.toInt = 15 then tk_new v a else if s.toInt = 3 ∨ s.toInt = 4 then tk_path s v a else if s.toInt = 8 ∨ s.toInt = 10 then tk_where s v a else if s.toInt = 27 ∨ s.toInt = 29 then tk_open s v a else if s.toInt = 17 ∨ s.toInt = 20 then tk_span s v a else if s.toInt = 26 then (0, if k = 9 then ad_part true a else if k = 13 then ad_part false a else a) else if s.toInt = 13 then tk_trust v.toInt32 a else tk_int s k v.toInt32 a
/-- one TOKEN -/
def ms (s k : Int32) (v : Int64) (a : sg) : Int32 × sg := if k = 16 ∧ ¬ lg_cmp v 1440 ≤ 0 then (5, a) else tk_take s k v a
/-- the first fault of the meaning, from the TOKEN t on, and what is told then -/
def ME (K : Nat → Int32) (V : Nat → Int64) : Nat → Nat → Int32 → sg → Option (Int32 × Nat) × sg
  | 0, _, _, a => (none, a)
  | m + 1, t, s, a => if K t = 21 then (none, a) else if (ms s (K t) (V t) a).1 = 0 then ME K V m (t + 1) (fw s (K t)) (ms s (K t) (V t) a).2 else (some ((ms s (K t) (V t) a).1, t), a)
/-! the class's memory holds it -/
def kr (Q : Nat) (a : sg) (I : sm_I) (L : sm_L) : Prop := (∀ j, j ≠ 11 → I 2 j = a.1 2 j) ∧ (∀ j, I 10 j = a.1 10 j) ∧ (∀ j, I 11 j = a.1 11 j) ∧ (∀ c j, 12 ≤ c → c < 49 → I (c + (Q - 12)) j = a.1 c j) ∧ (∀ j, L 9 j = a.2 j)
def ko (Q : Nat) (I0 I : sm_I) : Prop := ∀ c j, 12 ≤ c → (c < Q ∨ Q + 37 ≤ c) → I c j = I0 c j
def kw (Q : Nat) (I0 I : sm_I) (L0 L : sm_L) : Prop := (∀ c j, 3 ≤ c → c ≤ 8 → I c j = I0 c j) ∧ (∀ j, L 6 j = L0 6 j) ∧ ko Q I0 I
def kz (Q : Nat) (a : sg) (I : sm_I) (L : sm_L) (I0 : sm_I) (L0 : sm_L) : Prop := kr Q a I L ∧ kw Q I0 I L0 L
theorem kz_t {Q : Nat} {a : sg} {I I0 : sm_I} {L L0 : sm_L} {c j : Nat} {v : Int32} (hQ : 12 ≤ Q) (h1 : 12 ≤ c) (h2 : c < 49) (h : kz Q a I L I0 L0) : kz Q (u2 a c j v) (sm_up I (c + (Q - 12)) j v) L I0 L0 := by
  obtain ⟨⟨q1, q2, q3, q4, q5⟩, q6, q7, q8⟩ := h
  refine ⟨⟨fun i hi => ?_, fun i => ?_, fun i => ?_, fun p i p1 p2 => ?_, q5⟩, fun p i p1 p2 => ?_, q7, fun p i p1 p2 => ?_⟩
  · show _ = sm_up a.1 c j v 2 i
    rw [en_up_ne _ _ _ _ (by omega), en_up_ne _ _ _ _ (by omega)]; exact q1 i hi
  · show _ = sm_up a.1 c j v 10 i
    rw [en_up_ne _ _ _ _ (by omega), en_up_ne _ _ _ _ (by omega)]; exact q2 i
  · show _ = sm_up a.1 c j v 11 i
    rw [en_up_ne _ _ _ _ (by omega), en_up_ne _ _ _ _ (by omega)]; exact q3 i
  · show _ = sm_up a.1 c j v p i
    by_cases e : p = c ∧ i = j
    · rw [e.1, e.2, en_up_eq, en_up_eq]
    · rw [en_up_ne _ _ _ _ (by omega), en_up_ne _ _ _ _ e]; exact q4 p i p1 p2
  · rw [en_up_ne _ _ _ _ (by omega)]; exact q6 p i p1 p2
  · rw [en_up_ne _ _ _ _ (by omega)]; exact q8 p i p1 p2
theorem kz_r {Q : Nat} {a : sg} {I I0 : sm_I} {L L0 : sm_L} {c j : Nat} {v : Int32} (hQ : 12 ≤ Q) (hc : (c = 2 ∧ j ≠ 11) ∨ c = 10 ∨ c = 11) (h : kz Q a I L I0 L0) : kz Q (u2 a c j v) (sm_up I c j v) L I0 L0 := by
  obtain ⟨⟨q1, q2, q3, q4, q5⟩, q6, q7, q8⟩ := h
  have o : ∀ p i, I p i = a.1 p i → sm_up I c j v p i = sm_up a.1 c j v p i := fun p i e => by
    by_cases e2 : p = c ∧ i = j
    · rw [e2.1, e2.2, en_up_eq, en_up_eq]
    · rw [en_up_ne _ _ _ _ e2, en_up_ne _ _ _ _ e2]; exact e
  refine ⟨⟨fun i hi => o 2 i (q1 i hi), fun i => o 10 i (q2 i), fun i => o 11 i (q3 i), fun p i p1 p2 => ?_, q5⟩, fun p i p1 p2 => ?_, q7, fun p i p1 p2 => ?_⟩
  · show _ = sm_up a.1 c j v p i
    rw [en_up_ne _ _ _ _ (by omega), en_up_ne _ _ _ _ (by omega)]; exact q4 p i p1 p2
  · rw [en_up_ne _ _ _ _ (by omega)]; exact q6 p i p1 p2
  · rw [en_up_ne _ _ _ _ (by omega)]; exact q8 p i p1 p2
theorem kz_l {Q : Nat} {a : sg} {I I0 : sm_I} {L L0 : sm_L} {j : Nat} {v : Int64} (h : kz Q a I L I0 L0) : kz Q (a.1, nmu a.2 j v) I (sm_up L 9 j v) I0 L0 := by
  obtain ⟨⟨q1, q2, q3, q4, q5⟩, q6, q7, q8⟩ := h
  refine ⟨⟨q1, q2, q3, q4, fun i => ?_⟩, q6, fun i => ?_, q8⟩
  · show _ = if i = j then v else a.2 i
    by_cases e : i = j
    · rw [e, en_up_eq, if_pos rfl]
    · rw [en_up_ne _ _ _ _ (by omega), if_neg e]; exact q5 i
  · rw [en_up_ne _ _ _ _ (by omega)]; exact q7 i
theorem st_n : ∀ i, i < 46 → 0 ≤ (sm_steps.getD (3 * i + 2) 0).toInt ∧ (sm_steps.getD (3 * i + 2) 0).toInt ≤ 30 := by decide +kernel
theorem fw_r (s k : Int32) : -1 ≤ (fw s k).toInt ∧ (fw s k).toInt ≤ 30 := by
  by_cases c : fw s k = -1
  · rw [c]; decide
  · obtain ⟨i, i1, -, -, i4⟩ := fw_mem c
    rw [i4]
    have := st_n i i1
    omega
/-- without a fault of the grammar there is an end -/
theorem SY_c {K : Nat → Int32} : ∀ (m t : Nat) (s : Int32) (g : gc), t + m = 501 → SY K m t s g = none → ∃ c, t ≤ c ∧ (c ≤ 500 ∧ K c = 21 ∨ c = 501 ∧ m = 0) := by
  intro m
  induction m with
  | zero => intro t s g h _; exact ⟨501, by omega, Or.inr ⟨rfl, rfl⟩⟩
  | succ m ih =>
    intro t s g h hs
    have hs : (if gf s (K t) t g = 0 then (if K t = 21 then none else SY K m (t + 1) (fw s (K t)) (gc_st s (K t) g)) else some (gf s (K t) t g, t)) = none := hs
    by_cases c0 : gf s (K t) t g = 0
    · rw [if_pos c0] at hs
      by_cases c1 : K t = 21
      · exact ⟨t, Nat.le_refl _, Or.inl ⟨by omega, c1⟩⟩
      · rw [if_neg c1] at hs
        obtain ⟨c, d1, d2⟩ := ih (t + 1) _ _ (by omega) hs
        rcases d2 with d2 | d2
        · exact ⟨c, by omega, Or.inl d2⟩
        · exfalso
          have t5 : 500 ≤ t := by omega
          unfold gf at c0
          by_cases b : fw s (K t) = -1 ∨ ((K t = 9 ∨ K t = 13) ∧ g.tell = 12)
          · rw [if_pos b] at c0; exact absurd c0 (by decide)
          · rw [if_neg b, if_neg c1, if_pos t5] at c0; exact absurd c0 (by decide)
    · rw [if_neg c0] at hs; cases hs
