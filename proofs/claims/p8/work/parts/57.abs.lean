/-! THE START: both constructors, run over intervals; then both invariants hold -/
noncomputable def ak_acc (_ _ : Nat) (_ : List ab_V) : Bool := false
theorem ak_acc_ok {xs : Nat → Int32} {S : sm_C} : ab_accok xs sm_P S ak_acc := fun _ _ _ _ _ _ _ h => by cases h
def xL1 : List (Nat × Nat) := [(0, 11), (2, 2000), (0, 7), (0, 9), (1, 502), (1, 502), (4, 502), (0, 3), (1, 15), (4, 35), (1, 35), (1, 35), (0, 10), (1, 36), (1, 10), (1, 10), (0, 8), (1, 10), (1, 10), (1, 10), (1, 10), (1, 10), (1, 10), (1, 40), (0, 8), (1, 120), (1, 120), (1, 120), (1, 120), (0, 8), (1, 5), (1, 5), (1, 5), (1, 5), (1, 45), (1, 45), (1, 45), (0, 4), (1, 10), (1, 55), (0, 8), (1, 6), (1, 6), (1, 6), (1, 6), (0, 1), (1, 1000), (1, 1000), (4, 1000), (0, 10), (1, 36), (1, 10), (1, 10), (0, 8), (1, 10), (1, 10), (1, 10), (1, 10), (1, 10), (1, 10), (1, 40), (0, 8), (1, 120), (1, 120), (1, 120), (1, 120), (0, 8), (1, 5), (1, 5), (1, 5), (1, 5), (1, 45), (1, 45), (1, 45), (0, 2), (0, 5), (1, 7381), (1, 11), (1, 11), (1, 11), (1, 60), (1, 60), (0, 2), (0, 5), (1, 6776), (1, 11), (1, 11), (1, 11), (1, 55), (1, 55), (0, 2), (0, 5), (1, 9504), (1, 12), (1, 12), (1, 12), (1, 65), (1, 65), (0, 6), (3, 1024), (1, 252), (1, 252), (1, 55), (0, 0), (1, 64), (1, 1024), (1, 1024)]
noncomputable def ak_M0 : ab_M := (0, .leaf (0, 0, .leaf (0, 0)))
noncomputable def ak_T0 : ab_T := .branch 0 (.leaf (0, 0)) (.leaf (1, 0))
noncomputable def ak_x (M : ab_M) : Bool := [ak_iv 1 1 (ab_tg (ab_tg M.2 75).2.2 8), ak_iv 1 1 (ab_tg (ab_tg M.2 75).2.2 10), ak_iv 1 1 (ab_tg (ab_tg M.2 83).2.2 8), ak_iv 1 1 (ab_tg (ab_tg M.2 83).2.2 10), ak_iv 1 1 (ab_tg (ab_tg M.2 91).2.2 8), ak_iv 1 1 (ab_tg (ab_tg M.2 91).2.2 10), ak_iv 0 0 (ab_tg (ab_tg M.2 0).2.2 20), ak_iv 0 0 (ab_tg (ab_tg M.2 107).2.2 4), ak_iv 0 0 (ab_tg (ab_tg M.2 107).2.2 36), ak_all (ak_iv 0 0) (ab_tg M.2 77).2.2, ak_all (ak_iv 0 0) (ab_tg M.2 85).2.2, ak_all (ak_iv 0 0) (ab_tg M.2 93).2.2, ak_all (ak_iv 0 0) (ab_tg M.2 122).2.2, ak_all (ak_iv 0 0) (ab_tg M.2 125).2.2, ak_all (ak_iv 0 54) (ab_tg M.2 148).2.2, ak_all (ak_iv 0 3) (ab_tg M.2 117).2.2, ak_iv 1 1 (ab_tg (ab_tg M.2 165).2.2 0), ak_iv 3 3 (ab_tg (ab_tg M.2 165).2.2 1), ak_iv 9 9 (ab_tg (ab_tg M.2 165).2.2 2), ak_iv 27 27 (ab_tg (ab_tg M.2 165).2.2 3), ak_iv 81 81 (ab_tg (ab_tg M.2 165).2.2 4), ak_iv 243 243 (ab_tg (ab_tg M.2 165).2.2 5), ak_iv (-1) (-1) (ab_tg (ab_tg M.2 0).2.2 22), ak_iv (-1) (-1) (ab_tg (ab_tg M.2 107).2.2 34)].all id
noncomputable def ak_lg (n : Int) (a : ab_V) : Bool := Nat.beq a.1 4 && en_eq a.2 n
noncomputable def ak_kk (t : ab_T) : Nat → List Int → Bool
  | _, [] => true
  | j, n :: ns => ak_lg n (ab_tg t j) && ak_kk t (j + 1) ns
theorem ak_kk_ok {t : ab_T} : ∀ (l : List Int) (j : Nat), ak_kk t j l = true → ∀ i, i < l.length → ak_lg (l.getD i 0) (ab_tg t (j + i)) = true := by
  intro l
  induction l with
  | nil => intro j h i hi; exact absurd hi (Nat.not_lt_zero i)
  | cons n ns ih =>
    intro j h i hi
    obtain ⟨h1, h2⟩ := Bool.and_eq_true_iff.mp (show (ak_lg n (ab_tg t j) && ak_kk t (j + 1) ns) = true from h)
    cases i with
    | zero => exact h1
    | succ i =>
      have := ih (j + 1) h2 i (Nat.lt_of_succ_lt_succ hi)
      rw [show j + 1 + i = j + (i + 1) by omega] at this
      exact this
def pk_keyI : List Int := [16998, 8740067, 16819, 400577, 411, 257, 13903, 389777, 423, 1111, 47, 31519426, 307058, 1253, 10998956]
theorem pk_keyI_eq : ∀ j : Nat, j < 15 → (pk_key.getD j 0).toInt = pk_keyI.getD j 0 := by decide
noncomputable def ak_fin (M : ab_M) : Bool := ((Nat.beq M.1 166 && ak_ly M 0 xLay) && ((ak_cs kl_tb M 107 && ak_cs ml_tb M 166) && ak_x M) && ak_kk (ab_tg M.2 114).2.2 0 pk_keyI) && sz_ok M
noncomputable def ak_k2 : ab_K := fun r M _ => match r with
  | none => ak_fin M
  | some _ => false
noncomputable def ak_k1 : ab_K := fun r M E => match r with
  | none => (Nat.beq M.1 107 && ak_ly M 0 xL1) && ab_newc M 0 12 ak_T0 (fun M' => ab_run 0 sm_P ak_acc 1000000 59 142 0 [(2, .ofNat 107)] [] M' E (0, 0) ak_k2)
  | some _ => false
set_option maxRecDepth 1000000 in
theorem ak_run : ab_newc ak_M0 0 11 ak_T0 (fun M' => ab_run 0 sm_P ak_acc 1000000 59 54 0 [(2, .ofNat 0)] [] M' [] (0, 0) ak_k1) = true := by decide +kernel
