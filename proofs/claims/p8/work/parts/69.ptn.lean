/-! the reference's cut, exact: runs and all TOKENS -/
theorem tk_add {x y : Int32} {p k : Nat} (hx : x.toInt = p) (hy : y.toInt = k) (h : p + k ≤ 4000) : (x + y).toInt = ((p + k : Nat) : Int) := by
  rw [kl_add (by omega) (by omega), hx, hy]; omega
theorem mt_by_t {b : Nat → Int32} {n p : Nat} {f : Int32 → Bool} (hB : mt_B b) (hn : n ≤ 2000) (f0 : f 0 = false) (hf : ∀ x : Int32, -128 ≤ x.toInt → x.toInt ≤ 127 → f (x &&& 255) = f x) : f (mt_by b n p) = true ↔ (p < n ∧ f (b p) = true) := by
  unfold mt_by
  by_cases c : p < n
  · rw [if_pos c, hf _ (hB p (by omega)).1 (hB p (by omega)).2]
    exact ⟨fun h => ⟨c, h⟩, fun h => h.2⟩
  · rw [if_neg c, f0]
    exact ⟨fun h => (by cases h), fun h => absurd h.1 c⟩
theorem mt_by_e {b : Nat → Int32} {n p : Nat} (hB : mt_B b) (hn : n ≤ 2000) (c : p < n) (h : 0 ≤ (b p).toInt) : mt_by b n p = b p := by
  unfold mt_by
  rw [if_pos c]; exact (mt_bt (hB p (by omega)).1 (hB p (by omega)).2).1 h
theorem tk_if1 (c : Bool) : (¬ (if c = true then (1 : Int32) else 0) = 0) ↔ c = true := by cases c <;> decide
theorem tk_le_r {x : Int32} (h : tk_le x = true) : 97 ≤ x.toInt ∧ x.toInt ≤ 122 := by
  unfold tk_le at h; simpa using h
theorem tk_di_r {x : Int32} (h : tk_di x = true) : 48 ≤ x.toInt ∧ x.toInt ≤ 57 := by
  unfold tk_di at h; simpa using h
theorem mt_let {S : sm_C} {d : Nat} {Φ : sm_Z → Prop} {I : sm_I} {L : sm_L} {R : sm_R} {x1 : Int32} {b : Nat → Int32} {n p e c : Nat} (hk : pk_ok L) (hB : mt_B b) (hb : I 109 = b) (hz : (I 107 4).toInt = n) (hn : n ≤ 2000) (hp : x1.toInt = p) (hc : (I 107 10).toInt = c) (c5 : c ≤ 502) (e2 : e ≤ n) (h : ∀ (x : Int32) (J : sm_I) (K : sm_L), x.toInt = e → J = sm_up (sm_up (sm_up (sm_up I 110 c (if e - p ≤ 8 then (if e - p ≤ 7 then mt_ky (tk_cd mt_f27 b p (e - p)) 15 0 1 else 1) else 3)) 111 c x1) 112 c 0) 107 10 (I 107 10 + 1) → K = sm_up L 113 c (tk_cd mt_f27 b p (min (e - p) 8)) → sm_wp sm_P S (d + 1) 119 1 [.ref 107, .int x] [] (xLay, J, K, kM R) (0, 0) Φ) : ∀ (m k : Nat) (x3 : Int32) (y4 : Int64), x3.toInt = k → y4 = tk_cd mt_f27 b p (min k 8) → p + k ≤ e → tk_end tk_le b n (p + k) = e → e - (p + k) < m → sm_wp sm_P S (d + 1) 119 11 [.ref 107, .int x1, .int x3, .long y4] [] (xLay, I, L, kM R) (0, 0) Φ := by
  have c8 : (8 : Int32).toInt = 8 := by decide
  have c7 : (7 : Int32).toInt = 7 := by decide
  intro m
  induction m with
  | zero => intro k x3 y4 _ _ _ _ hM; omega
  | succ m ih =>
    intro k x3 y4 hx hy hk2 he hM
    have sx := tk_add hp hx (by omega)
    have fl := mt_by_t (b := b) (n := n) (p := p + k) (f := tk_le) hB hn (by decide) (fun x => mt_le)
    refine u_X12_cut_11 (mt_byteAt hz hn sx ⟨_, I, L, R, rfl, mt_isLetter ⟨_, I, L, R, rfl, fun a => ?_, fun a => ?_⟩⟩)
    · rw [hb] at a
      have a := (tk_if _).mp a
      have en : ¬ (p + k < n ∧ tk_le (b (p + k)) = true) := fun q => by rw [fl.mpr q] at a; cases a
      rw [tk_end_n en] at he
      have ek : k = e - p := by omega
      subst ek
      have tok : ∀ kd : Int32, kd = (if e - p ≤ 8 then (if e - p ≤ 7 then mt_ky (tk_cd mt_f27 b p (e - p)) 15 0 1 else 1) else 3) → sm_wp sm_P S d 204 0 [.ref 107, .int kd, .int x1, .int (0 : Int32), .long y4] [] (xLay, I, L, (kM R)) (0, 0) (fun z => ∃ (I1 : sm_I) (L2 : sm_L) (R3 : sm_R), z = (none, (xLay, I1, L2, (kM R3))) ∧ sm_wp sm_P S (d + 1) 119 1 [.ref 107, .int (x1 + x3)] [] (xLay, I1, L2, (kM R3)) (0, 0) Φ) := fun kd ekd => mt_token hc c5 (fun J K eJ eK => ⟨J, K, R, rfl, h _ J K (by rw [sx]; omega) (by rw [eJ, ekd]) (by rw [eK, hy])⟩)
      refine ⟨fun g => ⟨fun g7 => tok 1 ?_, fun g7 => ?_⟩, fun g => ⟨fun g7 => tok 3 ?_, fun g7 => ?_⟩⟩
      · have g := kl_le.mp g
        rw [kl_lt] at g7
        rw [if_pos (by omega), if_neg (by omega)]
      · have g7 := kl_nlt g7
        refine mt_key hk (tok _ rfl) 15 0 1 0 (by decide) (by decide) ?_
        rw [if_pos (by omega), if_pos (by omega), hy, Nat.min_eq_left (by omega)]
      · have g := kl_nle g
        rw [if_neg (by omega)]
      · have g := kl_nle g
        have g7 := kl_nlt g7
        omega
    · rw [hb] at a
      have a := fl.mp ((tk_if1 _).mp a)
      have r := tk_le_r a.2
      have se := tk_end_s a.1 a.2
      rw [se] at he
      have hle : p + k + 1 ≤ e := by rw [← he]; exact tk_end_le
      have s := ml_in1 (x := x3) (by omega)
      refine ⟨fun g => ?_, fun g => ?_⟩
      · have g := kl_le.mp g
        exact ih (k + 1) _ _ (by omega) (by rw [hy, Nat.min_eq_right (by omega), Nat.min_eq_right (by omega)]) (by omega) he (by omega)
      · have g := kl_nle g
        have eb : mt_by b n (p + k) = b (p + k) := mt_by_e hB hn a.1 (by omega)
        refine mt_byteAt hz hn sx ⟨_, I, L, R, rfl, u_X12_appends_0 ⟨fun z => ?_, fun _ => ⟨_, I, L, R, rfl, ?_⟩⟩⟩
        · rw [hb, eb] at z
          rw [z] at r
          have z0 : (0 : Int32).toInt = 0 := by decide
          omega
        · rw [hb, eb]
          refine ih (k + 1) _ _ (by omega) ?_ (by omega) he (by omega)
          rw [hy, Nat.min_eq_left (by omega), Nat.min_eq_left (by omega)]
          rfl
theorem mt_dig {S : sm_C} {d : Nat} {Φ : sm_Z → Prop} {I : sm_I} {L : sm_L} {R : sm_R} {x1 : Int32} {b : Nat → Int32} {n p e c : Nat} (hB : mt_B b) (hb : I 109 = b) (hz : (I 107 4).toInt = n) (hn : n ≤ 2000) (hp : x1.toInt = p) (hc : (I 107 10).toInt = c) (c5 : c ≤ 502) (e2 : e ≤ n) (h : ∀ (x : Int32) (J : sm_I) (K : sm_L), x.toInt = e → J = sm_up (sm_up (sm_up (sm_up I 110 c (if e - p ≤ 4 then 2 else 3)) 111 c x1) 112 c (mt_cd mt_f10 b p (min (e - p) 4))) 107 10 (I 107 10 + 1) → K = sm_up L 113 c 0 → sm_wp sm_P S (d + 1) 119 1 [.ref 107, .int x] [] (xLay, J, K, kM R) (0, 0) Φ) : ∀ (m k : Nat) (x3 : Int32) (x4 : Int32), x3.toInt = k → x4 = mt_cd mt_f10 b p (min k 4) → p + k ≤ e → tk_end tk_di b n (p + k) = e → e - (p + k) < m → sm_wp sm_P S (d + 1) 119 27 [.ref 107, .int x1, .int x3, .int x4] [] (xLay, I, L, kM R) (0, 0) Φ := by
  have c4 : (4 : Int32).toInt = 4 := by decide
  intro m
  induction m with
  | zero => intro k x3 x4 _ _ _ _ hM; omega
  | succ m ih =>
    intro k x3 x4 hx hy hk2 he hM
    have sx := tk_add hp hx (by omega)
    have fl := mt_by_t (b := b) (n := n) (p := p + k) (f := tk_di) hB hn (by decide) (fun x => mt_di)
    refine u_X12_cut_27 (mt_byteAt hz hn sx ⟨_, I, L, R, rfl, mt_isDigit ⟨_, I, L, R, rfl, fun a => ?_, fun a => ?_⟩⟩)
    · rw [hb] at a
      have a := (tk_if _).mp a
      have en : ¬ (p + k < n ∧ tk_di (b (p + k)) = true) := fun q => by rw [fl.mpr q] at a; cases a
      rw [tk_end_n en] at he
      have ek : k = e - p := by omega
      subst ek
      refine ⟨fun g => mt_token hc c5 (fun J K eJ eK => ⟨J, K, R, rfl, h _ J K (by rw [sx]; omega) ?_ eK⟩), fun g => mt_token hc c5 (fun J K eJ eK => ⟨J, K, R, rfl, h _ J K (by rw [sx]; omega) ?_ eK⟩)⟩
      · have g := kl_le.mp g
        rw [eJ, hy, if_pos (by omega)]
      · have g := kl_nle g
        rw [eJ, hy, if_neg (by omega)]
    · rw [hb] at a
      have a := fl.mp ((tk_if1 _).mp a)
      have r := tk_di_r a.2
      have se := tk_end_s a.1 a.2
      rw [se] at he
      have hle : p + k + 1 ≤ e := by rw [← he]; exact tk_end_le
      have s := ml_in1 (x := x3) (by omega)
      refine ⟨fun g => ?_, fun g => ?_⟩
      · have g := kl_le.mp g
        exact ih (k + 1) _ _ (by omega) (by rw [hy, Nat.min_eq_right (by omega), Nat.min_eq_right (by omega)]) (by omega) he (by omega)
      · have g := kl_nle g
        have eb : mt_by b n (p + k) = b (p + k) := mt_by_e hB hn a.1 (by omega)
        refine mt_byteAt hz hn sx ⟨_, I, L, R, rfl, fun n24 e24 => ?_⟩
        rw [hb, eb] at e24
        refine ih (k + 1) _ _ (by omega) ?_ (by omega) he (by omega)
        rw [e24, hy, Nat.min_eq_left (by omega), Nat.min_eq_left (by omega)]
        rfl
