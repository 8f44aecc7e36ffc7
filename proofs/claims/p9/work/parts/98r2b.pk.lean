/-! how the class's book packs TRIES and WAYS -/
def pkT (a b : Nat) (t : Bool) : Int32 := ((Int32.ofNat a <<< ((4 : Int32) &&& 31)) ||| (Int32.ofNat b <<< ((1 : Int32) &&& 31))) ||| (if t = true then 1 else 0)
theorem pkT_d : ∀ a, a < 145 → ∀ b, b < 4 → ∀ t : Bool, (pkT a b t >>> ((4 : Int32) &&& 31)) = Int32.ofNat a ∧ ((pkT a b t >>> ((1 : Int32) &&& 31)) &&& (7 : Int32)) = Int32.ofNat b ∧ (pkT a b t &&& (1 : Int32)) = if t = true then 1 else 0 := by decide +kernel
def gyw (ys : List Nat) (f : Nat → Nat) : Nat → Nat → Nat
  | 0 => fun _ => 0
  | i + 1 => sup (gyw ys f i) (ys.getD i 0) (f i)
theorem gyw_0 {ys : List Nat} {f : Nat → Nat} {a : Nat} : ∀ i, (∀ j, j < i → ys.getD j 0 ≠ a) → gyw ys f i a = 0 := by
  intro i
  induction i with
  | zero => intro _; rfl
  | succ i ih =>
    intro h
    show sup (gyw ys f i) (ys.getD i 0) (f i) a = 0
    rw [sup_ne _ _ (Ne.symm (h i (by omega)))]
    exact ih (fun j hj => h j (by omega))
theorem gyw_at {ys : List Nat} {f : Nat → Nat} {k : Nat} : ∀ i, k < i → (∀ j, k < j → j < i → ys.getD j 0 ≠ ys.getD k 0) → gyw ys f i (ys.getD k 0) = f k := by
  intro i
  induction i with
  | zero => intro h; exact absurd h (Nat.not_lt_zero k)
  | succ i ih =>
    intro hk h
    show sup (gyw ys f i) (ys.getD i 0) (f i) (ys.getD k 0) = f k
    by_cases e : k = i
    · rw [← e, sup_eq]
    · rw [sup_ne _ _ (Ne.symm (h i (by omega) (by omega)))]
      exact ih (by omega) (fun j h1 h2 => h j h1 (by omega))
theorem gyw_cg {ys : List Nat} {f f' : Nat → Nat} : ∀ i, (∀ j, j < i → f j = f' j) → gyw ys f i = gyw ys f' i := by
  intro i
  induction i with
  | zero => intro _; rfl
  | succ i ih =>
    intro h
    show sup (gyw ys f i) (ys.getD i 0) (f i) = sup (gyw ys f' i) (ys.getD i 0) (f' i)
    rw [ih (fun j hj => h j (by omega)), h i (by omega)]
/-- rows of choices: two bits a SAYING, one a MOVE -/
def wbk (x : Int32) (y : Int64) (g : Nat → Nat) : Prop := (∀ b, b < 32 → x.toBitVec.getLsbD b = (decide (b < 20) && (g (b / 2)).testBit (b % 2))) ∧ ∀ b, b < 64 → y.toBitVec.getLsbD b = (decide (b < 45) && decide (g (100 + b) = 1))
theorem wbk_0 : wbk 0 0 (fun _ => 0) := by
  refine ⟨fun b _ => ?_, fun b _ => ?_⟩
  · rw [show (0 : Int32).toBitVec = 0#32 from rfl]; simp
  · rw [show (0 : Int64).toBitVec = 0#64 from rfl]; simp
theorem wbk_s1 : ∀ s, s < 10 → ∀ c, c < 4 → ∀ b, b < 32 → ((Int32.ofNat c) <<< (((2 : Int32) * Int32.ofNat s) &&& 31)).toBitVec.getLsbD b = (decide (b / 2 = s) && c.testBit (b % 2)) := by decide +kernel
theorem wbk_m1 : ∀ k, k < 45 → ∀ c, c < 2 → ∀ b, b < 64 → (((Int32.ofNat c).toInt64) <<< (((Int32.ofNat (100 + k) - (100 : Int32)).toInt64) &&& 63)).toBitVec.getLsbD b = (decide (b = k) && decide (c = 1)) := by decide +kernel
theorem wbk_s {x : Int32} {y : Int64} {g : Nat → Nat} {s c : Nat} (h : wbk x y g) (hs : s < 10) (hc : c < 4) (g0 : g s = 0) : wbk (x ||| ((Int32.ofNat c) <<< (((2 : Int32) * Int32.ofNat s) &&& 31))) y (sup g s c) := by
  refine ⟨fun b hb => ?_, fun b hb => ?_⟩
  · rw [Int32.toBitVec_or, BitVec.getLsbD_or, h.1 b hb, wbk_s1 s hs c hc b hb]
    by_cases e : b / 2 = s
    · rw [e, sup_eq, g0, show decide (b < 20) = true from decide_eq_true (by omega)]
      simp
    · rw [sup_ne _ _ e, show decide (b / 2 = s) = false from decide_eq_false e]
      simp
  · rw [h.2 b hb, sup_ne _ _ (show 100 + b ≠ s by omega)]
theorem wbk_m {x : Int32} {y : Int64} {g : Nat → Nat} {k c : Nat} (h : wbk x y g) (hk : k < 45) (hc : c < 2) (g0 : g (100 + k) = 0) : wbk x (y ||| (((Int32.ofNat c).toInt64) <<< (((Int32.ofNat (100 + k) - (100 : Int32)).toInt64) &&& 63))) (sup g (100 + k) c) := by
  refine ⟨fun b hb => ?_, fun b hb => ?_⟩
  · rw [h.1 b hb]
    by_cases e : b < 20
    · rw [sup_ne _ _ (show b / 2 ≠ 100 + k by omega)]
    · rw [show decide (b < 20) = false from decide_eq_false e]; rfl
  · rw [Int64.toBitVec_or, BitVec.getLsbD_or, h.2 b hb, wbk_m1 k hk c hc b hb]
    by_cases e : b = k
    · rw [e, sup_eq, g0, show decide (k < 45) = true from decide_eq_true hk]
      simp
    · rw [sup_ne _ _ (show 100 + b ≠ 100 + k by omega), show decide (b = k) = false from decide_eq_false e]
      simp
theorem wbk_e1 : ∀ s, s < 10 → ((((2 : Int32) * Int32.ofNat s) &&& 31).toBitVec.smod 32) = BitVec.ofNat 32 (2 * s) := by decide +kernel
theorem wbk_e2 : ∀ k, k < 45 → ((((Int32.ofNat (100 + k) - (100 : Int32)).toInt64) &&& 63).toBitVec.smod 64) = BitVec.ofNat 64 k := by decide +kernel
theorem wbk_v1 : ∀ v, v < 4 → ∀ i, i < 32 → (Int32.ofNat v).toBitVec.getLsbD i = (decide (i < 2) && v.testBit i) := by decide +kernel
theorem wbk_v3 : ∀ i, i < 32 → (3 : Int32).toBitVec.getLsbD i = decide (i < 2) := by decide +kernel
theorem wbk_ds {x : Int32} {y : Int64} {g : Nat → Nat} {s : Nat} (h : wbk x y g) (hs : s < 10) (g4 : g s < 4) : (x >>> (((2 : Int32) * Int32.ofNat s) &&& 31)) &&& (3 : Int32) = Int32.ofNat (g s) := by
  refine Int32.toBitVec_inj.mp (BitVec.eq_of_getLsbD_eq (fun i hi => ?_))
  rw [Int32.toBitVec_and, BitVec.getLsbD_and, Int32.toBitVec_shiftRight, wbk_e1 s hs, BitVec.sshiftRight_eq', BitVec.getLsbD_sshiftRight, wbk_v1 (g s) g4 i hi, wbk_v3 i hi, BitVec.toNat_ofNat, Nat.mod_eq_of_lt (by omega)]
  by_cases c : i < 2
  · rw [if_pos (by omega), h.1 _ (by omega), show decide (i < 2) = true from decide_eq_true c, show (2 * s + i) / 2 = s by omega, show (2 * s + i) % 2 = i by omega, show decide (2 * s + i < 20) = true from decide_eq_true (by omega), show decide (32 ≤ i) = false from decide_eq_false (by omega)]
    simp
  · rw [show decide (i < 2) = false from decide_eq_false c]
    simp
theorem wbk_u1 : ∀ v, v < 2 → ∀ i, i < 32 → (Int32.ofNat v).toBitVec.getLsbD i = (decide (i = 0) && decide (v = 1)) := by decide +kernel
theorem wbk_u3 : ∀ i, i < 64 → (1 : Int64).toBitVec.getLsbD i = decide (i = 0) := by decide +kernel
theorem wbk_dm {x : Int32} {y : Int64} {g : Nat → Nat} {k : Nat} (h : wbk x y g) (hk : k < 45) (g2 : g (100 + k) < 2) : ((y >>> (((Int32.ofNat (100 + k) - (100 : Int32)).toInt64) &&& 63)) &&& (1 : Int64)).toInt32 = Int32.ofNat (g (100 + k)) := by
  refine Int32.toBitVec_inj.mp (BitVec.eq_of_getLsbD_eq (fun i hi => ?_))
  rw [Int64.toBitVec_toInt32, BitVec.getLsbD_signExtend, if_pos (show i < 64 by omega), decide_eq_true hi, Bool.true_and, Int64.toBitVec_and, BitVec.getLsbD_and, Int64.toBitVec_shiftRight, wbk_e2 k hk, BitVec.sshiftRight_eq', BitVec.getLsbD_sshiftRight, wbk_u1 (g (100 + k)) g2 i hi, wbk_u3 i (by omega), BitVec.toNat_ofNat, Nat.mod_eq_of_lt (by omega)]
  by_cases c : i = 0
  · rw [c, if_pos (by omega), h.2 _ (by omega)]
    simp [hk]
  · rw [show decide (i = 0) = false from decide_eq_false c]
    simp
/-- ITEMS stand by their codes -/
theorem sL_mono (set : Int32) : ∀ k i j, i < j → j < (sL set k).length → (sL set k).getD i 0 < (sL set k).getD j 0 := by
  intro k
  induction k with
  | zero => intro i j _ h; exact absurd h (Nat.not_lt_zero j)
  | succ k ih =>
    intro i j hij hj
    have e : sL set (k + 1) = sL set k ++ (if isb set k = true then [k] else []) := rfl
    rw [e] at hj ⊢
    by_cases c : isb set k = true
    · rw [if_pos c] at hj ⊢
      rw [List.length_append] at hj
      have hj : j < (sL set k).length + 1 := hj
      by_cases q : j = (sL set k).length
      · rw [nG_l (by omega), q, nG_n]
        have hi : i < (sL set k).length := by omega
        have : (sL set k).getD i 0 = (sL set k)[i] := by rw [List.getD_eq_getElem?_getD, List.getElem?_eq_getElem hi]; rfl
        rw [this]
        exact sL_in _ _ _ (List.getElem_mem hi)
      · rw [nG_l (by omega), nG_l (by omega)]
        exact ih i j hij (by omega)
    · rw [if_neg c, List.append_nil] at hj ⊢
      exact ih i j hij hj
theorem mL_at (b : Nat) : ∀ k i, i < k → (mL b k).getD i 0 = b + i := by
  intro k
  induction k with
  | zero => intro i h; exact absurd h (Nat.not_lt_zero i)
  | succ k ih =>
    intro i hi
    show (mL b k ++ [b + k]).getD i 0 = b + i
    by_cases c : i = k
    · have : (mL b k ++ [b + k]).getD (mL b k).length 0 = b + k := nG_n
      rw [mL_len] at this
      rw [c]; exact this
    · rw [nG_l (by rw [mL_len]; omega)]
      exact ih i (by omega)
theorem nG_r {xs ys : List Nat} {k : Nat} : (xs ++ ys).getD (xs.length + k) 0 = ys.getD k 0 := by
  rw [List.getD_eq_getElem?_getD, List.getD_eq_getElem?_getD, List.getElem?_append_right (by omega), Nat.add_sub_cancel_left]
theorem kitL_mono {set : Int32} {s m : Nat} (s10 : s ≤ 10) {i j : Nat} (hij : i < j) (hj : j < (kitL set s m).length) : (kitL set s m).getD i 0 < (kitL set s m).getD j 0 := by
  unfold kitL at hj ⊢
  have hl : (sL set s ++ mL 100 m).length = (sL set s).length + m := by rw [List.length_append, mL_len]
  rw [hl] at hj
  have up : ∀ k, (sL set s).length ≤ k → k < (sL set s).length + m → (sL set s ++ mL 100 m).getD k 0 = 100 + (k - (sL set s).length) := fun k h1 h2 => by
    obtain ⟨t, rfl⟩ : ∃ t, k = (sL set s).length + t := ⟨k - (sL set s).length, by omega⟩
    rw [nG_r, mL_at 100 m t (by omega), Nat.add_sub_cancel_left]
  by_cases c : j < (sL set s).length
  · rw [nG_l (by omega), nG_l c]
    exact sL_mono set s i j hij c
  · rw [up j (by omega) hj]
    by_cases c2 : i < (sL set s).length
    · rw [nG_l c2]
      have : (sL set s).getD i 0 = (sL set s)[i] := by rw [List.getD_eq_getElem?_getD, List.getElem?_eq_getElem c2]; rfl
      have := sL_in set s _ (List.getElem_mem c2)
      omega
    · rw [up i (by omega) (by omega)]
      omega
