/-! the reference's cut, exact: single bytes -/
theorem mt_and : ∀ i : Fin 256, ((Int32.ofInt ((i.val : Int) - 128)) &&& 255).toInt = if 128 ≤ i.val then (i.val : Int) - 128 else (i.val : Int) + 128 := by decide +kernel
theorem mt_bt {x : Int32} (h0 : -128 ≤ x.toInt) (h1 : x.toInt ≤ 127) : (0 ≤ x.toInt → x &&& 255 = x) ∧ (x.toInt < 0 → 128 ≤ (x &&& 255).toInt) := by
  have q := mt_and ⟨(x.toInt + 128).toNat, by omega⟩
  have e : (((x.toInt + 128).toNat : Nat) : Int) - 128 = x.toInt := by omega
  simp only at q
  rw [e, Int32.ofInt_toInt] at q
  refine ⟨fun a => ?_, fun a => ?_⟩
  · rw [if_pos (by omega)] at q
    exact en_ofI (by rw [q])
  · rw [if_neg (by omega)] at q
    omega
/-- every byte is one -/
def mt_B (b : Nat → Int32) : Prop := ∀ j, j < 2000 → -128 ≤ (b j).toInt ∧ (b j).toInt ≤ 127
theorem mt_eq {x c : Int32} (h0 : -128 ≤ x.toInt) (h1 : x.toInt ≤ 127) (c0 : 0 ≤ c.toInt) (c1 : c.toInt ≤ 127) : x &&& 255 = c ↔ x = c := by
  have q := mt_bt h0 h1
  by_cases a : 0 ≤ x.toInt
  · rw [q.1 a]
  · have q := q.2 (by omega)
    constructor
    · intro e; rw [e] at q; omega
    · intro e; rw [e] at a; omega
theorem mt_le {x : Int32} (h0 : -128 ≤ x.toInt) (h1 : x.toInt ≤ 127) : tk_le (x &&& 255) = tk_le x := by
  have q := mt_bt h0 h1
  by_cases a : 0 ≤ x.toInt
  · rw [q.1 a]
  · have q := q.2 (by omega)
    unfold tk_le
    rw [show decide ((x &&& 255).toInt ≤ 122) = false from decide_eq_false (by omega), show decide (97 ≤ x.toInt) = false from decide_eq_false (by omega)]
    simp
theorem mt_di {x : Int32} (h0 : -128 ≤ x.toInt) (h1 : x.toInt ≤ 127) : tk_di (x &&& 255) = tk_di x := by
  have q := mt_bt h0 h1
  by_cases a : 0 ≤ x.toInt
  · rw [q.1 a]
  · have q := q.2 (by omega)
    unfold tk_di
    rw [show decide ((x &&& 255).toInt ≤ 57) = false from decide_eq_false (by omega), show decide (48 ≤ x.toInt) = false from decide_eq_false (by omega)]
    simp
def mt_by (b : Nat → Int32) (n p : Nat) : Int32 := if p < n then b p &&& 255 else 0
theorem mt_byteAt {S : sm_C} {d : Nat} {Φ : sm_Z → Prop} {I : sm_I} {L : sm_L} {R : sm_R} {x : Int32} {n p : Nat} (hz : (I 107 4).toInt = n) (hn : n ≤ 2000) (hx : x.toInt = p) (h : Φ (some (.int (mt_by (I 109) n p)), (xLay, I, L, kM R))) : sm_wp sm_P S d 108 0 [.ref 107, .int x] [] (xLay, I, L, kM R) (0, 0) Φ := by
  have np := tk_nat hx
  unfold mt_by at h
  refine u_X12_byteAt_0 ⟨fun a => ?_, fun a => ⟨?_, ?_⟩⟩
  · have := kl_le.mp a
    rw [if_neg (by omega)] at h; exact h
  · have := kl_nle a
    exact kl_in (by omega) (by omega)
  · have := kl_nle a
    rw [if_pos (by omega)] at h
    rw [np]; exact h
theorem mt_isLetter {S : sm_C} {d : Nat} {Φ : sm_Z → Prop} {I : sm_I} {L : sm_L} {R : sm_R} {x : Int32} (h : Φ (some (.int (if tk_le x = true then 1 else 0)), (xLay, I, L, kM R))) : sm_wp sm_P S d 146 0 [.int x] [] (xLay, I, L, kM R) (0, 0) Φ := by
  have c1 : (97 : Int32).toInt = 97 := by decide
  have c2 : (122 : Int32).toInt = 122 := by decide
  unfold tk_le at h
  refine u_X12_isLetter_0 ⟨fun a => ?_, fun a => ⟨fun b => ?_, fun b => ?_⟩⟩
  · rw [kl_lt, c1] at a
    rw [if_neg (by simp; omega)] at h; exact h
  · rw [kl_lt, c2] at b
    rw [if_neg (by simp; omega)] at h; exact h
  · have a := kl_nlt a
    have b := kl_nlt b
    rw [c1] at a
    rw [c2] at b
    rw [if_pos (by simp; omega)] at h; exact h
theorem mt_isDigit {S : sm_C} {d : Nat} {Φ : sm_Z → Prop} {I : sm_I} {L : sm_L} {R : sm_R} {x : Int32} (h : Φ (some (.int (if tk_di x = true then 1 else 0)), (xLay, I, L, kM R))) : sm_wp sm_P S d 144 0 [.int x] [] (xLay, I, L, kM R) (0, 0) Φ := by
  have c1 : (48 : Int32).toInt = 48 := by decide
  have c2 : (57 : Int32).toInt = 57 := by decide
  unfold tk_di at h
  refine u_X12_isDigit_0 ⟨fun a => ?_, fun a => ⟨fun b => ?_, fun b => ?_⟩⟩
  · rw [kl_lt, c1] at a
    rw [if_neg (by simp; omega)] at h; exact h
  · rw [kl_lt, c2] at b
    rw [if_neg (by simp; omega)] at h; exact h
  · have a := kl_nlt a
    have b := kl_nlt b
    rw [c1] at a
    rw [c2] at b
    rw [if_pos (by simp; omega)] at h; exact h
def mt_sg (x : Int32) : Int32 := if x = 59 then 4 else if x = 58 then 5 else if x = 45 then 9 else 3
theorem mt_sign {S : sm_C} {d : Nat} {Φ : sm_Z → Prop} {I : sm_I} {L : sm_L} {R : sm_R} {x : Int32} (h : Φ (some (.int (mt_sg x)), (xLay, I, L, kM R))) : sm_wp sm_P S d 191 0 [.int x] [] (xLay, I, L, kM R) (0, 0) Φ := by
  unfold mt_sg at h
  refine u_X12_sign_0 ⟨fun a => ?_, fun a => ⟨fun b => ?_, fun b => ⟨fun c => ?_, fun c => ?_⟩⟩⟩
  · rw [if_pos a] at h; exact h
  · rw [if_neg a, if_pos b] at h; exact h
  · rw [if_neg a, if_neg b, if_pos c] at h; exact h
  · rw [if_neg a, if_neg b, if_neg c] at h; exact h
theorem mt_token {S : sm_C} {d : Nat} {Φ : sm_Z → Prop} {I : sm_I} {L : sm_L} {R : sm_R} {x1 x2 x3 : Int32} {y4 : Int64} {c : Nat} (hc : (I 107 10).toInt = c) (c5 : c ≤ 502) (h : ∀ (J : sm_I) (K : sm_L), J = sm_up (sm_up (sm_up (sm_up I 110 c x1) 111 c x2) 112 c x3) 107 10 (I 107 10 + 1) → K = sm_up L 113 c y4 → Φ (none, (xLay, J, K, kM R))) : sm_wp sm_P S d 204 0 [.ref 107, .int x1, .int x2, .int x3, .long y4] [] (xLay, I, L, kM R) (0, 0) Φ := by
  have nc := tk_nat hc
  have v : vp_in (I 107 10) 503 := kl_in (by omega) (by omega)
  refine u_X12_token_0 ⟨v, fun I1 e1 => ?_⟩
  have g1 : I1 107 10 = I 107 10 := by rw [e1, en_up_ne _ _ _ _ (by omega)]
  refine ⟨by rw [g1]; exact v, fun I2 e2 => ?_⟩
  have g2 : I2 107 10 = I 107 10 := by rw [e2, en_up_ne _ _ _ _ (by omega), g1]
  refine ⟨by rw [g2]; exact v, fun I3 e3 => ?_⟩
  have g3 : I3 107 10 = I 107 10 := by rw [e3, en_up_ne _ _ _ _ (by omega), g2]
  refine ⟨by rw [g3]; exact v, fun L4 eL I5 e5 => h I5 L4 ?_ ?_⟩
  · rw [e5, g3, e3, g2, e2, g1, e1, nc]
  · rw [eL, g3, nc]
/-! its words and numbers -/
def mt_f27 (s : Int64) (x : Int32) : Int64 := ((27 : Int64) * s) + (((x - (97 : Int32)) + (1 : Int32))).toInt64
def mt_f10 (s : Int32) (x : Int32) : Int32 := (((10 : Int32) * s) + x) - (48 : Int32)
def mt_cd (f : Int32 → Int32 → Int32) (b : Nat → Int32) (p : Nat) : Nat → Int32
  | 0 => 0
  | k + 1 => f (mt_cd f b p k) (b (p + k))
def mt_ky (y : Int64) : Nat → Nat → Int32 → Int32
  | 0, _, c => c
  | m + 1, i, c => mt_ky y m (i + 1) (if pk_key.getD i 0 = y then (20 : Int32) + Int32.ofNat i else c)
def mt_kd (b : Nat → Int32) (n p : Nat) : Int32 := if tk_le (b p) = true then (if tk_end tk_le b n p - p ≤ 8 then (if tk_end tk_le b n p - p ≤ 7 then mt_ky (tk_cd mt_f27 b p (tk_end tk_le b n p - p)) 15 0 1 else 1) else 3) else if tk_di (b p) = true then (if tk_end tk_di b n p - p ≤ 4 then 2 else 3) else mt_sg (b p)
def mt_nm (b : Nat → Int32) (n p : Nat) : Int64 := if tk_le (b p) = true then tk_cd mt_f27 b p (min (tk_end tk_le b n p - p) 8) else 0
def mt_vl (b : Nat → Int32) (n p : Nat) : Int32 := if tk_le (b p) = true then 0 else if tk_di (b p) = true then mt_cd mt_f10 b p (min (tk_end tk_di b n p - p) 4) else 0
theorem mt_key {S : sm_C} {d : Nat} {Φ : sm_Z → Prop} {I : sm_I} {L : sm_L} {R : sm_R} {x1 x3 : Int32} {y : Int64} (hk : pk_ok L) {kd : Int32} (h : sm_wp sm_P S d 204 0 [.ref 107, .int kd, .int x1, .int (0 : Int32), .long y] [] (xLay, I, L, (kM R)) (0, 0) (fun z => ∃ (I1 : sm_I) (L2 : sm_L) (R3 : sm_R), z = (none, (xLay, I1, L2, (kM R3))) ∧ sm_wp sm_P S (d + 1) 119 1 [.ref 107, .int (x1 + x3)] [] (xLay, I1, L2, (kM R3)) (0, 0) Φ)) : ∀ (m i : Nat) (x6 x7 : Int32), x7.toInt = i → i + m = 15 → mt_ky y m i x6 = kd → sm_wp sm_P S (d + 1) 119 20 [.ref 107, .int x1, .int x3, .long y, .int x6, .int x7] [] (xLay, I, L, kM R) (0, 0) Φ := by
  have c15 : (15 : Int32).toInt = 15 := by decide
  intro m
  induction m with
  | zero =>
    intro i x6 x7 hx hm he
    have he : x6 = kd := he
    subst he
    refine u_X12_cut_20 ⟨fun _ => h, fun a => ?_⟩
    have := kl_nle a
    omega
  | succ m ih =>
    intro i x6 x7 hx hm he
    have np := tk_nat hx
    have s := ml_in1 (x := x7) (by omega)
    have e7 : x7 = Int32.ofNat i := en_ofI (by rw [hx, Int32.toInt_ofNat_of_lt (by omega)])
    have he : mt_ky y m (i + 1) (if pk_key.getD i 0 = y then (20 : Int32) + Int32.ofNat i else x6) = kd := he
    refine u_X12_cut_20 ⟨fun a => ?_, fun _ => ⟨kl_in (by omega) (by omega), fun e => ?_, fun e => ?_⟩⟩
    · have := kl_le.mp a
      omega
    · have e := tk_lg.mp e
      rw [np, hk i (by omega)] at e
      rw [if_pos e, ← e7] at he
      exact ih (i + 1) _ _ (by omega) (by omega) he
    · have e : ¬ pk_key.getD i 0 = y := fun c => e (tk_lg.mpr (by rw [np, hk i (by omega)]; exact c))
      rw [if_neg e] at he
      exact ih (i + 1) _ _ (by omega) (by omega) he
