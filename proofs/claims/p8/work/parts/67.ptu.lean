/-! the class's scanner: one TOKEN, all TOKENS -/
theorem ks_one {S : sm_C} {d q : Nat} {Φ : sm_Z → Prop} {I : sm_I} {L : sm_L} {R : sm_R} {x2 x3 : Int32} {n p c : Nat} (hn : n ≤ 2000) (h3 : x3.toInt = n) (hp : x2.toInt = p) (pn : p < n) (hc : (I 3 3).toInt = c) (c5 : c ≤ 500) (h : ∀ (r : Int32) (J : sm_I) (Lj : sm_L), r.toInt = tk_nx (I 1) n p → J = sm_up (sm_up (sm_up I 5 c x2) 4 c (tk_kd (I 1) n p)) 3 3 (I 3 3 + 1) → Lj = sm_up L 6 c (tk_vl (I 1) n p) → Φ (some (.int r), (xLay, J, Lj, kT q R))) : sm_wp sm_P S (d + 2) 302 0 [.ref 3, .ref 1, .int x2, .int x3] [] (xLay, I, L, kT q R) (0, 0) Φ := by
  have nc := tk_nat hc
  have np := tk_nat hp
  have v : vp_in (I 3 3) 502 := kl_in (by omega) (by omega)
  have v2 : vp_in x2 2000 := kl_in (by omega) (by omega)
  refine t_X9_scanOne_0 ⟨v, fun I1 e1 => ⟨v2, ?_⟩⟩
  rw [nc] at e1
  have r1 : I1 1 = I 1 := by funext j; rw [e1, en_up_ne _ _ _ _ (by omega)]
  have g1 : I1 3 3 = I 3 3 := by rw [e1, en_up_ne _ _ _ _ (by omega)]
  rw [np, r1]
  refine ks_isLetter ⟨_, I1, L, rfl, fun a => ⟨v2, ?_⟩, fun a => ?_⟩
  · have a := (tk_if _).mp a
    have na : ¬ tk_le (I 1 p) = true := by rw [a]; decide
    unfold tk_nx tk_kd tk_vl at h
    rw [if_neg na, if_neg na, if_neg na] at h
    rw [r1]
    refine ks_isDigit ⟨_, I1, L, rfl, fun z => ⟨v2, ?_⟩, fun z => ?_⟩
    · have z := (tk_if _).mp z
      have nz : ¬ tk_di (I 1 p) = true := by rw [z]; decide
      rw [if_neg nz, if_neg nz, if_neg nz] at h
      rw [r1]
      refine ks_sign ⟨_, I1, L, rfl, by rw [g1]; exact v, fun I2 e2 => ?_⟩
      rw [g1, nc] at e2
      have g2 : I2 3 3 = I 3 3 := by rw [e2, en_up_ne _ _ _ _ (by omega), g1]
      rw [g2]
      refine ⟨v, fun L5 e5 I6 e6 => h _ I6 L5 ?_ ?_ ?_⟩
      · rw [ml_in1 (by omega)]; omega
      · rw [e6, e2, e1]
      · rw [e5, nc]
    · rw [tk_if] at z
      have z : tk_di (I 1 p) = true := by simpa using z
      rw [if_pos z, if_pos z, if_pos z] at h
      refine t_X9_endOfDigits_0 (ks_eod hn h3 (e := tk_end tk_di (I 1) n p) (fun r hr => ⟨r, I1, L, rfl, ?_⟩) (n - p + 1) p x2 hp (by rw [r1]) (by omega))
      refine ks_dig (b := I 1) (c := c) (p := p) (e := tk_end tk_di (I 1) n p) r1 (by rw [g1]; exact hc) c5 hp hr tk_end_le (Nat.le_trans (tk_end_n2 (by omega)) hn) (fun J Lj eJ eL => h r J Lj hr ?_ eL) (tk_end tk_di (I 1) n p - p + 1) 0 x2 0 (by omega) rfl tk_end_le (by omega)
      rw [eJ, g1, e1]
  · rw [tk_if] at a
    have a : tk_le (I 1 p) = true := by simpa using a
    unfold tk_nx tk_kd tk_vl at h
    rw [if_pos a, if_pos a, if_pos a] at h
    refine t_X9_endOfLetters_0 (ks_eol hn h3 (e := tk_end tk_le (I 1) n p) (fun r hr => ⟨r, I1, L, rfl, ?_⟩) (n - p + 1) p x2 hp (by rw [r1]) (by omega))
    refine ks_let (b := I 1) (c := c) (p := p) (e := tk_end tk_le (I 1) n p) r1 (by rw [g1]; exact hc) c5 hp hr tk_end_le (Nat.le_trans (tk_end_n2 (by omega)) hn) (fun J Lj eJ eL => h r J Lj hr ?_ eL) (tk_end tk_le (I 1) n p - p + 1) 0 x2 0 (by omega) rfl tk_end_le (by omega)
    rw [eJ, g1, e1]
/-- the rows of the TOKENS below c -/
def tk_rows (b : Nat → Int32) (n c : Nat) (I : sm_I) (L : sm_L) : Prop := ∀ i, i < c → tk_at b n i < n ∧ I 4 i = tk_kd b n (tk_at b n i) ∧ (I 5 i).toInt = tk_at b n i ∧ L 6 i = tk_vl b n (tk_at b n i)
def ks_fr (I J : sm_I) (L K : sm_L) : Prop := (∀ a j, a ≠ 4 → a ≠ 5 → ¬ (a = 3 ∧ j = 3) → J a j = I a j) ∧ ∀ a j, a ≠ 6 → K a j = L a j
theorem ks_scan1 {S : sm_C} {d q : Nat} {Φ : sm_Z → Prop} {I0 : sm_I} {L0 : sm_L} {R : sm_R} {x2 : Int32} {b : Nat → Int32} {n : Nat} (hn : n ≤ 2000) (h2 : x2.toInt = n) (hb : I0 1 = b) (h : ∀ (c : Nat) (J : sm_I) (K : sm_L), c ≤ 501 → (J 3 3).toInt = c → tk_rows b n c J K → J 4 c = 21 → (J 5 c).toInt = n → (c ≤ 500 → tk_at b n c = n) → ks_fr I0 J L0 K → Φ (none, (xLay, J, K, kT q R))) : ∀ (m : Nat) (I : sm_I) (L : sm_L) (x3 x4 : Int32) (p c : Nat), x3.toInt = p → p ≤ n → 0 ≤ x4.toInt → x4.toInt ≤ p → (I 3 3).toInt = c → c ≤ 501 → tk_rows b n c I L → tk_sk b n p = tk_at b n c → ks_fr I0 I L0 L → n - p < m → sm_wp sm_P S (d + 3) 301 1 [.ref 3, .ref 1, .int x2, .int x3, .int x4] [] (xLay, I, L, kT q R) (0, 0) Φ := by
  have c2k : (2000 : Int32).toInt = 2000 := by decide
  have c500 : (500 : Int32).toInt = 500 := by decide
  intro m
  induction m with
  | zero => intro I L x3 x4 p c _ _ _ _ _ _ _ _ _ hM; omega
  | succ m ih =>
    intro I L x3 x4 p c hx pn h40 h4 hc c5 hr hs hf hM
    have nc := tk_nat hc
    have np := tk_nat hx
    have v : vp_in (I 3 3) 502 := kl_in (by omega) (by omega)
    have rb : I 1 = b := by funext j; rw [hf.1 1 j (by decide) (by decide) (by omega), hb]
    have out : (c ≤ 500 → tk_at b n c = n) → (vp_in (I 3 3) 502) ∧ ∀ I1 : sm_I, I1 = (sm_up I 4 (I 3 3).toNatClampNeg (21 : Int32)) → (vp_in (I1 3 3) 502) ∧ ∀ I2 : sm_I, I2 = (sm_up I1 5 (I1 3 3).toNatClampNeg x2) → Φ (none, (xLay, I2, L, (kT q R))) := by
      intro ha
      refine ⟨v, fun I1 e1 => ?_⟩
      rw [nc] at e1
      have g1 : I1 3 3 = I 3 3 := by rw [e1, en_up_ne _ _ _ _ (by omega)]
      rw [g1, nc]
      refine ⟨v, fun I2 e2 => h c I2 L c5 ?_ (fun i hi => ?_) ?_ ?_ ha ⟨fun a j a1 a2 a3 => ?_, hf.2⟩⟩
      · rw [e2, en_up_ne _ _ _ _ (by omega), g1]; exact hc
      · rw [e2, en_up_ne _ _ _ _ (by omega), e1, en_up_ne _ _ _ _ (by omega), en_up_ne _ _ _ _ (by omega), en_up_ne _ _ _ _ (by omega)]
        exact hr i hi
      · rw [e2, en_up_ne _ _ _ _ (by omega), e1, en_up_eq]
      · rw [e2, en_up_eq]; exact h2
      · rw [e2, en_up_ne _ _ _ _ (by omega), e1, en_up_ne _ _ _ _ (by omega)]; exact hf.1 a j a1 a2 a3
    have en : p = n → tk_at b n c = n := fun e => by
      rw [← hs, e]; unfold tk_sk; exact tk_end_n (by omega)
    refine t_X9_scan_1 ⟨fun a => out (fun _ => ?_), fun a => ⟨fun a2 => out (fun _ => ?_), fun a2 => ⟨fun a3 => out (fun _ => ?_), fun a3 => ⟨?_, ?_⟩⟩⟩⟩
    · have := kl_le.mp a
      exact en (by omega)
    · have := kl_le.mp a2
      exact en (by omega)
    · rw [kl_lt, c500] at a3; omega
    · have := kl_nle a2
      exact kl_in (by omega) (by omega)
    · have a2 := kl_nle a2
      have a3 := kl_nlt a3
      have a := kl_nle a
      have s4 := ml_in1 (x := x4) (by omega)
      have s3 := ml_in1 (x := x3) (by omega)
      rw [np, rb]
      refine ks_isBlank ⟨_, I, L, rfl, fun z => ?_, fun z => ?_⟩
      · have z := (tk_if _).mp z
        have sp : tk_at b n c = p := by
          rw [← hs]; unfold tk_sk; exact tk_end_n (by rw [z]; simp)
        refine ks_one hn h2 hx (by omega) hc (by omega) (fun r J K er eJ eK => ⟨r, J, K, rfl, ?_⟩)
        rw [rb] at er eJ eK
        have nx := tk_nx_gt (b := b) (n := n) (p := p) (by omega)
        have s := ml_in1 (x := I 3 3) (by omega)
        refine ih J K r _ (tk_nx b n p) (c + 1) er nx.2 (by omega) (by omega) ?_ (by omega) (fun i hi => ?_) ?_ ⟨fun a j a1 a2 a3 => ?_, fun a j a1 => ?_⟩ (by omega)
        · rw [eJ, en_up_eq, s]; omega
        · by_cases e : i = c
          · subst e
            rw [sp, eJ, eK, en_up_ne _ _ _ _ (by omega), en_up_eq, en_up_ne _ _ _ _ (by omega), en_up_ne _ _ _ _ (by omega), en_up_eq, en_up_eq]
            exact ⟨by omega, rfl, hx, rfl⟩
          · rw [eJ, eK, en_up_ne _ _ _ _ (by omega), en_up_ne _ _ _ _ (by omega), en_up_ne _ _ _ _ (by omega), en_up_ne _ _ _ _ (by omega), en_up_ne _ _ _ _ (by omega), en_up_ne _ _ _ _ (by omega), en_up_ne _ _ _ _ (by omega)]
            exact hr i (by omega)
        · show tk_sk b n (tk_nx b n p) = (if tk_at b n c < n then tk_sk b n (tk_nx b n (tk_at b n c)) else n)
          rw [sp, if_pos (by omega)]
        · rw [eJ, en_up_ne _ _ _ _ (by omega), en_up_ne _ _ _ _ (by omega), en_up_ne _ _ _ _ (by omega)]; exact hf.1 a j a1 a2 a3
        · rw [eK, en_up_ne _ _ _ _ (by omega)]; exact hf.2 a j a1
      · rw [tk_if] at z
        have z : tk_bl (b p) = true := by simpa using z
        refine ih I L _ _ (p + 1) c (by omega) (by omega) (by omega) (by omega) hc c5 hr ?_ hf (by omega)
        rw [← hs]; unfold tk_sk; exact (tk_end_s (by omega) z).symm
theorem ks_scan {S : sm_C} {d q : Nat} {Φ : sm_Z → Prop} {I : sm_I} {L : sm_L} {R : sm_R} {x2 : Int32} {n : Nat} (hn : n ≤ 2000) (h2 : x2.toInt = n) (h : ∀ (c : Nat) (J : sm_I) (K : sm_L), c ≤ 501 → (J 3 3).toInt = c → tk_rows (I 1) n c J K → J 4 c = 21 → (J 5 c).toInt = n → (c ≤ 500 → tk_at (I 1) n c = n) → ks_fr I J L K → Φ (none, (xLay, J, K, kT q R))) : sm_wp sm_P S (d + 3) 301 0 [.ref 3, .ref 1, .int x2] [] (xLay, I, L, kT q R) (0, 0) Φ := by
  refine t_X9_scan_0 (ks_scan1 (I0 := I) (L0 := L) (b := I 1) hn h2 rfl h (n + 1) _ L 0 0 0 0 (by decide) (by omega) (by decide) (by decide) (by rw [en_up_eq]; decide) (by omega) (fun i hi => absurd hi (Nat.not_lt_zero i)) rfl ⟨fun a j a1 a2 a3 => ?_, fun _ _ _ => rfl⟩ (by omega))
  rw [en_up_ne _ _ _ _ (by omega)]
