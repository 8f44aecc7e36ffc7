/-! the reference's search is the pure machine (keeps: all WAYS; else up to the first) -/
section
variable {S : sm_C} {d : Nat} {Φ : sm_Z → Prop} {I : sm_I} {L : sm_L} {R : sm_R}
/-- what was written down -/
def slg (xs : List Nat) (tr fd : Nat) (lg : Nat → Nat × Nat × Bool) (wy : Nat → Nat → Nat) (J : sm_I) : Prop := (∀ i, i < tr → i < 1000 → J 154 i = Int32.ofNat (xs.getD (lg i).1 0) ∧ J 155 i = Int32.ofNat (lg i).2.1 ∧ J 156 i = if (lg i).2.2 = true then 1 else 0) ∧ ∀ w i, w < fd → i < xs.length → J 153 (55 * w + i) = Int32.ofNat (wy w i)
def znk (kp : Bool) (I J : sm_I) : Prop := kp = false → ∀ p j, 153 ≤ p → p ≤ 156 → J p j = I p j
def zfin (kp : Bool) (xs : List Nat) (I0 : sm_I) (s : ss) (J : sm_I) : Prop := (zfr I0 J ∧ znk kp I0 J) ∧ (J 107 63).toInt = s.2.2.1 ∧ J 107 64 = (if s.2.2.2.2.1 = true then 1 else 0) ∧ (kp = true → slg xs s.2.2.1 s.2.2.2.1 s.2.2.2.2.2.1 s.2.2.2.2.2.2 J)
def icv (I : sm_I) (l s c : Nat) : List tC := if c < icd I l s then icc I l s c else []
theorem s_icv {I J : sm_I} (h : zfr I J) (l s c : Nat) : icv J l s c = icv I l s c := by
  unfold icv
  rw [s_icd h, s_icc h]
def srl (kp : Bool) (xs : List Nat) (I0 : sm_I) (l n : Nat) (B0 : List tC) (k : Nat) (nx : Nat → Nat) (tr fd : Nat) (lg : Nat → Nat × Nat × Bool) (wy : Nat → Nat → Nat) (J : sm_I) : Prop := (zfr I0 J ∧ znk kp I0 J) ∧ (J 107 63).toInt = tr ∧ J 107 64 = 0 ∧ (∀ j, j ≤ k → J 150 j = Int32.ofNat (nx j) ∧ nx j ≤ icd I0 l (xs.getD j 0)) ∧ (∀ j, j < k → 1 ≤ nx j ∧ J 149 j = Int32.ofNat (nx j - 1)) ∧ (∀ j, j ≤ k → ttop n (cl B0 (fun i c => icv I0 l (xs.getD i 0) c) (fun i => nx i - 1) j) (mT J j)) ∧ (kp = true → slg xs tr fd lg wy J) ∧ (tr ≤ 1000 ∧ fd ≤ tr ∧ (kp = false → fd = 0))
/-- a table one level further down -/
theorem cl_nx {B0 : List tC} {cc : Nat → Nat → List tC} {nx nx' : Nat → Nat} {j : Nat} (e : ∀ i, i < j → nx i = nx' i) : cl B0 cc (fun i => nx i - 1) j = cl B0 cc (fun i => nx' i - 1) j := cl_cg j (fun i hi => by show nx i - 1 = nx' i - 1; rw [e i hi])
theorem rx_way {kp : Bool} {xs : List Nat} {I0 : sm_I} {k fd : Nat} {x1 x2 x3 : Int32} {ch : Nat → Nat} {wy : Nat → Nat → Nat} (hm : (I0 107 59).toInt = xs.length) (m55 : xs.length ≤ 55) (h2 : x2.toInt = fd) (fd0 : fd < 1000) (c4 : ∀ i, i < xs.length → ch i < 128) (h : ∀ J, (∀ p j, p ≠ 153 → J p j = I p j) → (∀ w i, w < fd + 1 → i < xs.length → J 153 (55 * w + i) = Int32.ofNat (sup wy fd ch w i)) → sm_wp sm_P S (d + 1) 186 3 [.ref 107, .int x1, .int (x2 + 1), .int x3] [] (xLay, J, L, kM R) (0, 0) Φ) (e59 : I 107 59 = I0 107 59) (h149 : ∀ i, i < xs.length → I 149 i = Int32.ofNat (ch i)) (hw : ∀ w i, w < fd → i < xs.length → I 153 (55 * w + i) = Int32.ofNat (wy w i)) : ∀ (m i : Nat) (x6 : Int32) (J : sm_I), x6.toInt = i → i + m = xs.length → (∀ p j, ¬ (p = 153 ∧ 55 * fd ≤ j ∧ j < 55 * fd + i) → J p j = I p j) → (∀ q, q < i → J 153 (55 * fd + q) = Int32.ofNat (ch q)) → sm_wp sm_P S (d + 1) 186 17 [.ref 107, .int x1, .int x2, .int x3, .int x6] [] (xLay, J, L, kM R) (0, 0) Φ := by
  have c55 : (55 : Int32).toInt = 55 := by decide
  have m55' : ((55 : Int32) * x2).toInt = 55 * (fd : Int) := ml_mu c55 h2 (by omega) (by omega)
  intro m
  induction m with
  | zero =>
    intro i x6 J h6 hk o v
    have e : J 107 59 = I0 107 59 := (o 107 59 (by omega)).trans e59
    refine p_X12_searches_17 ⟨fun _ => h J (fun p j hp => o p j (by omega)) (fun w q hq hi => ?_), fun a => ?_⟩
    · by_cases c : w = fd
      · rw [c, sup_eq]; exact v q (by omega)
      · rw [sup_ne _ _ c, o 153 _ (by omega)]; exact hw w q (by omega) hi
    · have a := kl_nle a
      rw [e] at a
      omega
  | succ m ih =>
    intro i x6 J h6 hk o v
    have e : J 107 59 = I0 107 59 := (o 107 59 (by omega)).trans e59
    have s6 := ml_in1 (x := x6) (by omega)
    have q1 : ((55 : Int32) * x2 + x6).toInt = ((55 * fd + i : Nat) : Int) := (ml_ad m55' h6 (by omega) (by omega)).trans (by omega)
    refine p_X12_searches_17 ⟨fun a => ?_, fun _ => ⟨kl_in (by omega) (by omega), fun n1 e1 => ⟨kl_in (by omega) (by omega), fun I2 e2 => ?_⟩⟩⟩
    · have a := kl_le.mp a
      rw [e] at a
      omega
    rw [tk_nat h6, o 149 i (by omega), h149 i (by omega)] at e1
    rw [tk_nat q1, e1, nar_y _ (c4 i (by omega))] at e2
    refine ih (i + 1) _ I2 (by omega) (by omega) (fun p j hp => by rw [e2, en_up_ne _ _ _ _ (by omega)]; exact o p j (by omega)) (fun q hq => ?_)
    by_cases c : q = i
    · rw [c, e2, en_up_eq]
    · rw [e2, en_up_ne _ _ _ _ (by omega)]; exact v q (by omega)
end
