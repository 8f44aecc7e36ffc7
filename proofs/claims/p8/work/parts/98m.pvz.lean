/-! a bit of the sure sayings -/
theorem sb_one : ∀ n : Nat, n < 10 → ∀ k : Nat, k < 32 → ((1 : Int32) <<< (Int32.ofNat n &&& 31)).toBitVec.getLsbD k = decide (k = n) := by decide +kernel
theorem sb_bit {f : Nat → Int32} : ∀ n, n ≤ 10 → ∀ k, k < 32 → (sb f n).toBitVec.getLsbD k = (decide (k < n) && !decide (f k = 0)) := by
  intro n
  induction n with
  | zero => intro _ k hk; rw [show (sb f 0).toBitVec = 0#32 from rfl]; simp
  | succ n ih =>
    intro hn k hk
    have i := ih (by omega) k hk
    have e : sb f (n + 1) = if f n = 0 then sb f n else sb f n ||| ((1 : Int32) <<< (Int32.ofNat n &&& 31)) := rfl
    rw [e]
    by_cases c : f n = 0
    · rw [if_pos c, i]
      by_cases q : k = n
      · subst q; simp [c]
      · rw [show decide (k < n + 1) = decide (k < n) from by rw [decide_eq_decide]; omega]
    · rw [if_neg c, Int32.toBitVec_or, BitVec.getLsbD_or, i, sb_one n (by omega) k hk]
      by_cases q : k = n
      · subst q; simp [c]
      · rw [show decide (k < n + 1) = decide (k < n) from by rw [decide_eq_decide]; omega, show decide (k = n) = false from decide_eq_false q, Bool.or_false]
theorem sb_t0 (x : BitVec 32) (k : Nat) (hk : k < 10) : ((x.sshiftRight k) &&& 1#32 = 0#32) ↔ x.getLsbD k = false := by
  constructor
  · intro h
    have q : ((x.sshiftRight k) &&& 1#32).getLsbD 0 = (0#32).getLsbD 0 := by rw [h]
    rw [BitVec.getLsbD_and, BitVec.getLsbD_sshiftRight, if_pos (by omega), Nat.add_zero] at q
    cases e : x.getLsbD k with
    | false => rfl
    | true => rw [e] at q; exact absurd q (by decide)
  · intro h
    apply BitVec.eq_of_getLsbD_eq
    intro i hi
    rw [BitVec.getLsbD_and, BitVec.getLsbD_sshiftRight]
    by_cases c : i = 0
    · subst c; rw [if_pos (by omega), Nat.add_zero, h]; decide
    · simp [c]
theorem sb_test (x y : Int32) (k : Nat) (hk : k < 10) (hy : y.toInt = k) : ((x >>> (y &&& 31)) &&& 1 = 0) ↔ x.toBitVec.getLsbD k = false := by
  have key : ∀ z : Int32, z.toBitVec = x.toBitVec.sshiftRight k → ((z &&& 1 = 0) ↔ x.toBitVec.getLsbD k = false) := fun z hz => by
    rw [← sb_t0 _ k hk, ← hz]
    exact ⟨fun q => congrArg Int32.toBitVec q, fun q => Int32.toBitVec_inj.mp q⟩
  refine key _ ?_
  have e : y = Int32.ofNat k := en_ofI (by rw [hy, Int32.toInt_ofNat_of_lt (by omega)])
  subst e
  rcases (by omega : k = 0 ∨ k = 1 ∨ k = 2 ∨ k = 3 ∨ k = 4 ∨ k = 5 ∨ k = 6 ∨ k = 7 ∨ k = 8 ∨ k = 9) with e | e | e | e | e | e | e | e | e | e <;> subst e <;> rfl
theorem sb_say {f : Nat → Int32} {n k : Nat} {y : Int32} (hn : n ≤ 10) (hk : k < n) (hy : y.toInt = k) : ((sb f n >>> (y &&& 31)) &&& 1 = 0) ↔ f k = 0 := by
  rw [sb_test _ _ k (by omega) hy, sb_bit n hn k (by omega)]
  simp [hk]
