/-! THE TOKENS of a tape, as a function of its bytes -/
def tk_bl (x : Int32) : Bool := decide (x = 9) || decide (x = 10) || decide (x = 13) || decide (x = 32)
def tk_le (x : Int32) : Bool := decide (97 ≤ x.toInt) && decide (x.toInt ≤ 122)
def tk_di (x : Int32) : Bool := decide (48 ≤ x.toInt) && decide (x.toInt ≤ 57)
def tk_run (f : Int32 → Bool) (b : Nat → Int32) (n : Nat) : Nat → Nat → Nat
  | 0, p => p
  | k + 1, p => if p < n ∧ f (b p) = true then tk_run f b n k (p + 1) else p
/-- the end of a run of such bytes -/
def tk_end (f : Int32 → Bool) (b : Nat → Int32) (n p : Nat) : Nat := tk_run f b n (n - p) p
theorem tk_end_s {f : Int32 → Bool} {b : Nat → Int32} {n p : Nat} (h : p < n) (hf : f (b p) = true) : tk_end f b n p = tk_end f b n (p + 1) := by
  unfold tk_end
  rw [show n - p = (n - (p + 1)) + 1 by omega]
  show (if p < n ∧ f (b p) = true then _ else _) = _
  rw [if_pos ⟨h, hf⟩]
theorem tk_end_n {f : Int32 → Bool} {b : Nat → Int32} {n p : Nat} (h : ¬ (p < n ∧ f (b p) = true)) : tk_end f b n p = p := by
  unfold tk_end
  cases n - p with
  | zero => rfl
  | succ k =>
    show (if p < n ∧ f (b p) = true then _ else _) = _
    rw [if_neg h]
theorem tk_run_le {f : Int32 → Bool} {b : Nat → Int32} {n : Nat} : ∀ (k p : Nat), p ≤ tk_run f b n k p ∧ tk_run f b n k p ≤ p + k := by
  intro k
  induction k with
  | zero => intro p; exact ⟨Nat.le_refl _, Nat.le_refl _⟩
  | succ k ih =>
    intro p
    show p ≤ (if p < n ∧ f (b p) = true then tk_run f b n k (p + 1) else p) ∧ (if p < n ∧ f (b p) = true then tk_run f b n k (p + 1) else p) ≤ p + (k + 1)
    by_cases c : p < n ∧ f (b p) = true
    · rw [if_pos c]; have := ih (p + 1); omega
    · rw [if_neg c]; omega
theorem tk_end_le {f : Int32 → Bool} {b : Nat → Int32} {n p : Nat} : p ≤ tk_end f b n p := (tk_run_le _ _).1
theorem tk_end_n2 {f : Int32 → Bool} {b : Nat → Int32} {n p : Nat} (h : p ≤ n) : tk_end f b n p ≤ n := by
  have := (tk_run_le (f := f) (b := b) (n := n) (n - p) p).2
  unfold tk_end; omega
/-- the bytes from p on, k of them, in a number -/
def tk_cd (f : Int64 → Int32 → Int64) (b : Nat → Int32) (p : Nat) : Nat → Int64
  | 0 => 0
  | k + 1 => f (tk_cd f b p k) (b (p + k))
def tk_f8 (s : Int64) (x : Int32) : Int64 := (s <<< (((8 : Int32)).toInt64 &&& 63)) ||| (x).toInt64
def tk_f10 (s : Int64) (x : Int32) : Int64 := ((s * (10 : Int64)) + (x).toInt64) - (48 : Int64)
def tk_wd (y : Int64) : Nat → Nat → Int32
  | 0, _ => 15
  | k + 1, i => if sm_words.getD i 0 = y then Int32.ofNat i else tk_wd y k (i + 1)
def tk_sg (x : Int32) : Int32 := if x.toInt = 45 then 19 else if x.toInt = 58 then 18 else if x.toInt = 59 then 17 else 20
/-- where the TOKEN at p ends -/
def tk_nx (b : Nat → Int32) (n p : Nat) : Nat := if tk_le (b p) = true then tk_end tk_le b n p else if tk_di (b p) = true then tk_end tk_di b n p else p + 1
def tk_kd (b : Nat → Int32) (n p : Nat) : Int32 := if tk_le (b p) = true then (if tk_end tk_le b n p - p ≤ 8 then tk_wd (tk_cd tk_f8 b p (tk_end tk_le b n p - p)) 15 0 else 20) else if tk_di (b p) = true then (if tk_end tk_di b n p - p ≤ 4 then 16 else 20) else tk_sg (b p)
def tk_vl (b : Nat → Int32) (n p : Nat) : Int64 := if tk_le (b p) = true then tk_cd tk_f8 b p (tk_end tk_le b n p - p) else if tk_di (b p) = true then tk_cd tk_f10 b p (tk_end tk_di b n p - p) else 0
def tk_sk (b : Nat → Int32) (n p : Nat) : Nat := tk_end tk_bl b n p
/-- where the TOKEN of that number begins; the length, where there is none -/
def tk_at (b : Nat → Int32) (n : Nat) : Nat → Nat
  | 0 => tk_sk b n 0
  | i + 1 => if tk_at b n i < n then tk_sk b n (tk_nx b n (tk_at b n i)) else n
theorem tk_end_gt {f : Int32 → Bool} {b : Nat → Int32} {n p : Nat} (h : p < n) (hf : f (b p) = true) : p < tk_end f b n p := by
  rw [tk_end_s h hf]; exact tk_end_le
theorem tk_nx_gt {b : Nat → Int32} {n p : Nat} (h : p < n) : p < tk_nx b n p ∧ tk_nx b n p ≤ n := by
  unfold tk_nx
  by_cases c : tk_le (b p) = true
  · rw [if_pos c]; exact ⟨tk_end_gt h c, tk_end_n2 (by omega)⟩
  · rw [if_neg c]
    by_cases c2 : tk_di (b p) = true
    · rw [if_pos c2]; exact ⟨tk_end_gt h c2, tk_end_n2 (by omega)⟩
    · rw [if_neg c2]; omega
theorem tk_at_le {b : Nat → Int32} {n : Nat} : ∀ i, tk_at b n i ≤ n := by
  intro i
  induction i with
  | zero => exact tk_end_n2 (Nat.zero_le _)
  | succ i ih =>
    show (if tk_at b n i < n then tk_sk b n (tk_nx b n (tk_at b n i)) else n) ≤ n
    by_cases c : tk_at b n i < n
    · rw [if_pos c]; exact tk_end_n2 (tk_nx_gt c).2
    · rw [if_neg c]; exact Nat.le_refl _
/-! the class's scanner: single bytes -/
theorem ks_isBlank {S : sm_C} {d q : Nat} {Φ : sm_Z → Prop} {I : sm_I} {L : sm_L} {R : sm_R} {x : Int32} (h : Φ (some (.int (if tk_bl x = true then 1 else 0)), (xLay, I, L, kT q R))) : sm_wp sm_P S d 298 0 [.int x] [] (xLay, I, L, kT q R) (0, 0) Φ := by
  unfold tk_bl at h
  refine t_X9_isBlank_0 ⟨fun a => ?_, fun a => ⟨fun b => ?_, fun b => ⟨fun c => ?_, fun c => ⟨fun e => ?_, fun e => ?_⟩⟩⟩⟩
  · rw [if_pos (by simp [a])] at h; exact h
  · rw [if_pos (by simp [b])] at h; exact h
  · rw [if_pos (by simp [c])] at h; exact h
  · rw [if_pos (by simp [e])] at h; exact h
  · rw [if_neg (by simp [a, b, c, e])] at h; exact h
theorem ks_isLetter {S : sm_C} {d q : Nat} {Φ : sm_Z → Prop} {I : sm_I} {L : sm_L} {R : sm_R} {x : Int32} (h : Φ (some (.int (if tk_le x = true then 1 else 0)), (xLay, I, L, kT q R))) : sm_wp sm_P S d 300 0 [.int x] [] (xLay, I, L, kT q R) (0, 0) Φ := by
  have c1 : (97 : Int32).toInt = 97 := by decide
  have c2 : (122 : Int32).toInt = 122 := by decide
  unfold tk_le at h
  refine t_X9_isLetter_0 ⟨fun a => ?_, fun a => ⟨fun b => ?_, fun b => ?_⟩⟩
  · rw [kl_lt, c1] at a
    rw [if_neg (by simp; omega)] at h; exact h
  · rw [kl_lt, c2] at b
    rw [if_neg (by simp; omega)] at h; exact h
  · have a := kl_nlt a
    have b := kl_nlt b
    rw [c1] at a
    rw [c2] at b
    rw [if_pos (by simp; omega)] at h; exact h
theorem ks_isDigit {S : sm_C} {d q : Nat} {Φ : sm_Z → Prop} {I : sm_I} {L : sm_L} {R : sm_R} {x : Int32} (h : Φ (some (.int (if tk_di x = true then 1 else 0)), (xLay, I, L, kT q R))) : sm_wp sm_P S d 299 0 [.int x] [] (xLay, I, L, kT q R) (0, 0) Φ := by
  have c1 : (48 : Int32).toInt = 48 := by decide
  have c2 : (57 : Int32).toInt = 57 := by decide
  unfold tk_di at h
  refine t_X9_isDigit_0 ⟨fun a => ?_, fun a => ⟨fun b => ?_, fun b => ?_⟩⟩
  · rw [kl_lt, c1] at a
    rw [if_neg (by simp; omega)] at h; exact h
  · rw [kl_lt, c2] at b
    rw [if_neg (by simp; omega)] at h; exact h
  · have a := kl_nlt a
    have b := kl_nlt b
    rw [c1] at a
    rw [c2] at b
    rw [if_pos (by simp; omega)] at h; exact h
theorem ks_sign {S : sm_C} {d q : Nat} {Φ : sm_Z → Prop} {I : sm_I} {L : sm_L} {R : sm_R} {x : Int32} (h : Φ (some (.int (tk_sg x)), (xLay, I, L, kT q R))) : sm_wp sm_P S d 303 0 [.int x] [] (xLay, I, L, kT q R) (0, 0) Φ := by
  unfold tk_sg at h
  refine t_X9_sign_0 ⟨fun a => ?_, fun a => ⟨fun b => ?_, fun b => ⟨fun c => ?_, fun c => ?_⟩⟩⟩
  · rw [if_pos a] at h; exact h
  · rw [if_neg a, if_pos b] at h; exact h
  · rw [if_neg a, if_neg b, if_pos c] at h; exact h
  · rw [if_neg a, if_neg b, if_neg c] at h; exact h
