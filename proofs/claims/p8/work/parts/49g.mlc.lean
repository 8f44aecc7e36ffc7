/-! cut -/
def ml_Dc (p j : Nat) : Prop := (p = 107 ∧ j = 10) ∨ p = 110 ∨ p = 111 ∨ p = 112
def ml_cf (I J : sm_I) : Prop := ∀ p j, ¬ ml_Dc p j → J p j = I p j
theorem ml_cf_rf {I : sm_I} : ml_cf I I := fun _ _ _ => rfl
theorem ml_cf_tr {I J K : sm_I} (h : ml_cf I J) (g : ml_cf J K) : ml_cf I K := fun p j a => (g p j a).trans (h p j a)
def ml_by (I : sm_I) (x : Int32) : Int32 := if I 107 4 ≤ x then 0 else I 109 x.toNatClampNeg &&& 255
theorem ml_sz {I : sm_I} {L : sm_L} {R : sm_R} (hm : en_mem ml_tb mlX (xLay, I, L, R)) : 0 ≤ (I 107 4).toInt ∧ (I 107 4).toInt ≤ 2000 := hm.2.1 107 4 (0, 2000) (by decide +kernel)
theorem ml_tk {I : sm_I} {L : sm_L} {R : sm_R} (hm : en_mem ml_tb mlX (xLay, I, L, R)) : 0 ≤ (I 107 10).toInt ∧ (I 107 10).toInt ≤ 501 := hm.2.1 107 10 (0, 501) (by decide +kernel)
theorem mx_byteAt {S : sm_C} {d : Nat} {Φ : sm_Z → Prop} {I : sm_I} {L : sm_L} {R : sm_R} {x : Int32} (h0 : 0 ≤ x.toInt) (hm : en_mem ml_tb mlX (xLay, I, L, R)) (h : Φ (some (.int (ml_by I x)), (xLay, I, L, kM R))) : sm_wp sm_P S d 108 0 [.ref 107, .int x] [] (xLay, I, L, kM R) (0, 0) Φ := by
  have b := ml_sz hm
  unfold ml_by at h
  refine u_X12_byteAt_0 ⟨fun a => ?_, fun a => ⟨?_, ?_⟩⟩
  · rw [if_pos a] at h; exact h
  · have := kl_nle a
    exact kl_in h0 (by omega)
  · rw [if_neg a] at h; exact h
theorem mx_isLetter {S : sm_C} {d : Nat} {Φ : sm_Z → Prop} {I : sm_I} {L : sm_L} {R : sm_R} {x : Int32} (h : ∀ r : Int32, (¬ r = 0 → 97 ≤ x.toInt) → Φ (some (.int r), (xLay, I, L, kM R))) : sm_wp sm_P S d 146 0 [.int x] [] (xLay, I, L, kM R) (0, 0) Φ := by
  have c : (97 : Int32).toInt = 97 := by decide
  refine u_X12_isLetter_0 ⟨fun _ => h 0 (fun q => absurd rfl q), fun a => ⟨fun _ => h 0 (fun q => absurd rfl q), fun _ => h 1 (fun _ => ?_)⟩⟩
  have := kl_nlt a
  rw [c] at this
  exact this
theorem mx_isDigit {S : sm_C} {d : Nat} {Φ : sm_Z → Prop} {I : sm_I} {L : sm_L} {R : sm_R} {x : Int32} (h : ∀ r : Int32, (¬ r = 0 → 48 ≤ x.toInt ∧ x.toInt ≤ 57) → Φ (some (.int r), (xLay, I, L, kM R))) : sm_wp sm_P S d 144 0 [.int x] [] (xLay, I, L, kM R) (0, 0) Φ := by
  have c : (48 : Int32).toInt = 48 := by decide
  have c' : (57 : Int32).toInt = 57 := by decide
  refine u_X12_isDigit_0 ⟨fun _ => h 0 (fun q => absurd rfl q), fun a => ⟨fun _ => h 0 (fun q => absurd rfl q), fun b => h 1 (fun _ => ?_)⟩⟩
  have a := kl_nlt a
  have b := kl_nlt b
  rw [c] at a
  rw [c'] at b
  exact ⟨a, b⟩
theorem ml_by_lt {I : sm_I} {x : Int32} (h : 48 ≤ (ml_by I x).toInt) : x.toInt < (I 107 4).toInt := by
  unfold ml_by at h
  by_cases c : I 107 4 ≤ x
  · rw [if_pos c, kl_0] at h; omega
  · exact kl_nle c
theorem mx_token {S : sm_C} {d : Nat} {Φ : sm_Z → Prop} {I : sm_I} {L : sm_L} {R : sm_R} {x1 x2 x3 : Int32} {y4 : Int64} (b1 : 0 ≤ x1.toInt ∧ x1.toInt ≤ 34) (b2 : 0 ≤ x2.toInt ∧ x2.toInt ≤ 2000) (b3 : 0 ≤ x3.toInt ∧ x3.toInt ≤ 9999) (ht : (I 107 10).toInt ≤ 500) (hm : en_mem ml_tb mlX (xLay, I, L, R)) (h : ∀ (J : sm_I) (L' : sm_L), en_mem ml_tb mlX (xLay, J, L', R) → ml_cf I J → (J 107 10).toInt = (I 107 10).toInt + 1 → Φ (none, (xLay, J, L', kM R))) : sm_wp sm_P S d 204 0 [.ref 107, .int x1, .int x2, .int x3, .long y4] [] (xLay, I, L, kM R) (0, 0) Φ := by
  have bt := ml_tk hm
  have v : vp_in (I 107 10) 503 := kl_in bt.1 (by omega)
  refine u_X12_token_0 ⟨v, fun I1 e1 => ?_⟩
  have g1 : I1 107 10 = I 107 10 := by rw [e1, en_up_ne _ _ _ _ (by omega)]
  have m1 : en_mem ml_tb mlX (xLay, I1, L, R) := by rw [e1]; exact ml_we2 hm rfl (n := 503) (q := (0, 34)) rfl b1
  refine ⟨by rw [g1]; exact v, fun I2 e2 => ?_⟩
  rw [g1] at e2
  have g2 : I2 107 10 = I 107 10 := by rw [e2, en_up_ne _ _ _ _ (by omega), g1]
  have m2 : en_mem ml_tb mlX (xLay, I2, L, R) := by rw [e2]; exact ml_we2 m1 rfl (n := 503) (q := (0, 2000)) rfl b2
  refine ⟨by rw [g2]; exact v, fun I3 e3 => ?_⟩
  rw [g2] at e3
  have g3 : I3 107 10 = I 107 10 := by rw [e3, en_up_ne _ _ _ _ (by omega), g2]
  have m3 : en_mem ml_tb mlX (xLay, I3, L, R) := by rw [e3]; exact ml_we2 m2 rfl (n := 503) (q := (0, 9999)) rfl b3
  refine ⟨by rw [g3]; exact v, fun L4 eL I5 e5 => ?_⟩
  rw [g3] at e5
  have s := ml_in1 (x := I 107 10) (by omega)
  have m5 : en_mem ml_tb mlX (xLay, I5, L, R) := by
    rw [e5]
    exact ml_wf m3 (by decide +kernel) (q := (0, 501)) (by decide +kernel) (by show 0 ≤ _ ∧ _ ≤ (501 : Int); omega)
  refine h I5 L4 ⟨m5.1, m5.2.1, m5.2.2.1, m5.2.2.2.1, m5.2.2.2.2.1, m5.2.2.2.2.2.1, m5.2.2.2.2.2.2.1, m5.2.2.2.2.2.2.2.1, m5.2.2.2.2.2.2.2.2.1, pk_cg (L := L) (L' := L4) (fun j => by rw [eL]; exact en_up_ne _ _ _ _ (by omega)) m5.2.2.2.2.2.2.2.2.2⟩ (fun p j hp => ?_) (by rw [e5, en_up_eq]; exact s)
  unfold ml_Dc at hp
  rw [e5, en_up_ne _ _ _ _ (by omega), e3, en_up_ne _ _ _ _ (by omega), e2, en_up_ne _ _ _ _ (by omega), e1, en_up_ne _ _ _ _ (by omega)]
theorem mx_appends {S : sm_C} {d : Nat} {Φ : sm_Z → Prop} {I : sm_I} {L : sm_L} {R : sm_R} {y : Int64} {x : Int32} (h : ∀ r : Int64, Φ (some (.long r), (xLay, I, L, kM R))) : sm_wp sm_P S d 95 0 [.long y, .int x] [] (xLay, I, L, kM R) (0, 0) Φ := u_X12_appends_0 ⟨fun _ => h _, fun _ => h _⟩
theorem mx_sign {S : sm_C} {d : Nat} {Φ : sm_Z → Prop} {I : sm_I} {L : sm_L} {R : sm_R} {x : Int32} (h : ∀ r : Int32, 0 ≤ r.toInt → r.toInt ≤ 34 → Φ (some (.int r), (xLay, I, L, kM R))) : sm_wp sm_P S d 191 0 [.int x] [] (xLay, I, L, kM R) (0, 0) Φ := u_X12_sign_0 ⟨fun _ => h _ (by decide) (by decide), fun _ => ⟨fun _ => h _ (by decide) (by decide), fun _ => ⟨fun _ => h _ (by decide) (by decide), fun _ => h _ (by decide) (by decide)⟩⟩⟩
theorem mx_cut1 {S : sm_C} {d : Nat} {Φ : sm_Z → Prop} {I0 : sm_I} {R : sm_R} (h : ∀ (J : sm_I) (L' : sm_L), en_mem ml_tb mlX (xLay, J, L', R) → ml_cf I0 J → Φ (none, (xLay, J, L', kM R))) : ∀ (m : Nat) (I : sm_I) (L : sm_L) (x1 : Int32), en_mem ml_tb mlX (xLay, I, L, R) → ml_cf I0 I → 0 ≤ x1.toInt → x1.toInt ≤ 2000 → (2000 - x1.toInt) + (501 - (I 107 10).toInt) < m → sm_wp sm_P S (d + 1) 119 1 [.ref 107, .int x1] [] (xLay, I, L, kM R) (0, 0) Φ := by
  intro m
  induction m with
  | zero =>
    intro I L x1 hm hc h0 h1 hM
    have := ml_tk hm
    omega
  | succ m ih =>
    intro I L x1 hm hc h0 h1 hM
    have bs := ml_sz hm
    have bt := ml_tk hm
    have c500 : (500 : Int32).toInt = 500 := by decide
    refine u_X12_cut_1 ⟨fun _ => h I L hm hc, fun a => ?_⟩
    have a := kl_nlt a
    rw [c500] at a
    clear c500
    -- a token, then on
    have tok : ∀ (k v n : Int32) (y : Int64), (0 ≤ k.toInt ∧ k.toInt ≤ 34) → (0 ≤ v.toInt ∧ v.toInt ≤ 9999) → x1.toInt ≤ n.toInt → n.toInt ≤ 2000 → sm_wp sm_P S d 204 0 [.ref 107, .int k, .int x1, .int v, .long y] [] (xLay, I, L, kM R) (0, 0) (fun z => ∃ (I1 : sm_I) (L2 : sm_L) (R3 : sm_R), z = (none, (xLay, I1, L2, (kM R3))) ∧ sm_wp sm_P S (d + 1) 119 1 [.ref 107, .int n] [] (xLay, I1, L2, (kM R3)) (0, 0) Φ) := fun k v n y bk bv n0 n1 => mx_token bk ⟨h0, h1⟩ bv a hm (fun J L' mJ cJ tJ => ⟨J, L', R, rfl, ih J L' n mJ (ml_cf_tr hc cJ) (by omega) n1 (by omega)⟩)
    have w20 : ∀ (q : Nat) (x3 : Int32) (y : Int64) (x6 x7 : Int32), 0 ≤ x3.toInt → x1.toInt + x3.toInt ≤ 2000 → (0 ≤ x6.toInt ∧ x6.toInt ≤ 34) → 0 ≤ x7.toInt → 15 - x7.toInt ≤ q → sm_wp sm_P S (d + 1) 119 20 [.ref 107, .int x1, .int x3, .long y, .int x6, .int x7] [] (xLay, I, L, kM R) (0, 0) Φ := by
      intro q
      induction q with
      | zero =>
        intro x3 y x6 x7 k0 k1 b6 k7 hq
        have s : (x1 + x3).toInt = x1.toInt + x3.toInt := ml_ad rfl rfl (by omega) (by omega)
        refine u_X12_cut_20 ⟨fun _ => tok x6 0 _ y b6 (by decide) (by omega) (by omega), fun c => ?_⟩
        have c := kl_nle c
        have c15 : (15 : Int32).toInt = 15 := by decide
        rw [c15] at c
        omega
      | succ q ihq =>
        intro x3 y x6 x7 k0 k1 b6 k7 hq
        have s : (x1 + x3).toInt = x1.toInt + x3.toInt := ml_ad rfl rfl (by omega) (by omega)
        refine u_X12_cut_20 ⟨fun _ => tok x6 0 _ y b6 (by decide) (by omega) (by omega), fun c => ?_⟩
        have c := kl_nle c
        have c15 : (15 : Int32).toInt = 15 := by decide
        rw [c15] at c
        clear c15
        have s7 := ml_in1 (x := x7) (by omega)
        have s20 : ((20 : Int32) + x7).toInt = 20 + x7.toInt := ml_ad (by decide) rfl (by omega) (by omega)
        exact ⟨kl_in k7 (by omega), fun _ => ihq x3 y _ _ k0 k1 (by omega) (by omega) (by omega), fun _ => ihq x3 y _ _ k0 k1 b6 (by omega) (by omega)⟩
    have w11 : ∀ (q : Nat) (x3 : Int32) (y : Int64), 0 ≤ x3.toInt → x1.toInt + x3.toInt ≤ 2000 → 2000 - x1.toInt - x3.toInt < q → sm_wp sm_P S (d + 1) 119 11 [.ref 107, .int x1, .int x3, .long y] [] (xLay, I, L, kM R) (0, 0) Φ := by
      intro q
      induction q with
      | zero => intro x3 y k0 k1 hq; omega
      | succ q ihq =>
        intro x3 y k0 k1 hq
        have s : (x1 + x3).toInt = x1.toInt + x3.toInt := ml_ad rfl rfl (by omega) (by omega)
        refine u_X12_cut_11 (mx_byteAt (by omega) hm ⟨_, I, L, R, rfl, mx_isLetter (fun r8 hr => ⟨r8, I, L, R, rfl, fun _ => ⟨fun _ => ⟨fun _ => tok 1 0 _ y (by decide) (by decide) (by omega) (by omega), fun _ => w20 15 x3 y 1 0 k0 k1 (by decide) (by decide) (by decide)⟩, fun _ => ⟨fun _ => tok 3 0 _ y (by decide) (by decide) (by omega) (by omega), fun _ => w20 15 x3 y 3 0 k0 k1 (by decide) (by decide) (by decide)⟩⟩, fun c => ?_⟩)⟩)
        have lt := ml_by_lt (I := I) (x := x1 + x3) (by have := hr c; omega)
        rw [s] at lt
        have s3 := ml_in1 (x := x3) (by omega)
        exact ⟨fun _ => ihq _ _ (by omega) (by omega) (by omega), fun _ => mx_byteAt (by omega) hm ⟨_, I, L, R, rfl, mx_appends (fun r => ⟨r, I, L, R, rfl, ihq _ _ (by omega) (by omega) (by omega)⟩)⟩⟩
    have w27 : ∀ (q : Nat) (x3 x4 : Int32), 0 ≤ x3.toInt → x1.toInt + x3.toInt ≤ 2000 → (0 ≤ x4.toInt ∧ (x3.toInt = 0 → x4.toInt ≤ 0) ∧ (x3.toInt = 1 → x4.toInt ≤ 9) ∧ (x3.toInt = 2 → x4.toInt ≤ 99) ∧ (x3.toInt = 3 → x4.toInt ≤ 999) ∧ x4.toInt ≤ 9999) → 2000 - x1.toInt - x3.toInt < q → sm_wp sm_P S (d + 1) 119 27 [.ref 107, .int x1, .int x3, .int x4] [] (xLay, I, L, kM R) (0, 0) Φ := by
      intro q
      induction q with
      | zero => intro x3 x4 k0 k1 b4 hq; omega
      | succ q ihq =>
        intro x3 x4 k0 k1 b4 hq
        have s : (x1 + x3).toInt = x1.toInt + x3.toInt := ml_ad rfl rfl (by omega) (by omega)
        refine u_X12_cut_27 (mx_byteAt (by omega) hm ⟨_, I, L, R, rfl, mx_isDigit (fun r8 hr => ⟨r8, I, L, R, rfl, fun _ => ⟨fun _ => tok 2 x4 _ _ (by decide) ⟨b4.1, b4.2.2.2.2.2⟩ (by omega) (by omega), fun _ => tok 3 x4 _ _ (by decide) ⟨b4.1, b4.2.2.2.2.2⟩ (by omega) (by omega)⟩, fun c => ?_⟩)⟩)
        have dg := hr c
        have lt := ml_by_lt (I := I) (x := x1 + x3) dg.1
        rw [s] at lt
        have s3 := ml_in1 (x := x3) (by omega)
        refine ⟨fun c4 => ?_, fun c4 => mx_byteAt (by omega) hm ⟨_, I, L, R, rfl, fun n24 e24 => ?_⟩⟩
        · have c4 := kl_le.mp c4
          rw [(by decide : (4 : Int32).toInt = 4)] at c4
          exact ihq _ _ (by omega) (by omega) ⟨b4.1, by omega, by omega, by omega, by omega, b4.2.2.2.2.2⟩ (by omega)
        · have c4 := kl_nle c4
          rw [(by decide : (4 : Int32).toInt = 4)] at c4
          generalize ml_by I (x1 + x3) = w at dg e24
          have q1 : ((10 : Int32) * x4).toInt = 10 * x4.toInt := ml_mu (by decide) rfl (by omega) (by omega)
          have q2 : ((10 : Int32) * x4 + w).toInt = 10 * x4.toInt + w.toInt := ml_ad q1 rfl (by omega) (by omega)
          have q3 : n24.toInt = 10 * x4.toInt + w.toInt - 48 := by
            rw [e24, Int32.toInt_sub, q2, (by decide : (48 : Int32).toInt = 48)]; exact en_bmod (by omega) (by omega) (Or.inl rfl)
          clear e24 q1 q2
          exact ihq _ n24 (by omega) (by omega) ⟨by omega, by omega, by omega, by omega, by omega, by omega⟩ (by omega)
    refine mx_byteAt h0 hm ⟨_, I, L, R, rfl, fun lt => ?_, fun _ => mx_token (by decide) bs (by decide) a hm (fun J L' mJ cJ _ => ⟨J, L', R, rfl, h J L' mJ (ml_cf_tr hc cJ)⟩)⟩
    have lt := kl_lt.mp lt
    have s1 := ml_in1 (x := x1) (by omega)
    have on : sm_wp sm_P S (d + 1) 119 1 [.ref 107, .int (x1 + 1)] [] (xLay, I, L, kM R) (0, 0) Φ := ih I L _ hm hc (by omega) (by omega) (by omega)
    refine ⟨fun _ => on, fun _ => ⟨fun _ => on, fun _ => ⟨fun _ => on, fun _ => ⟨fun _ => on, fun _ => ?_⟩⟩⟩⟩
    refine mx_isLetter (fun r8 _ => ⟨r8, I, L, R, rfl, fun _ => mx_isDigit (fun r12 _ => ⟨r12, I, L, R, rfl, fun _ => mx_sign (fun r16 k0 k1 => ⟨r16, I, L, R, rfl, tok r16 0 _ _ ⟨k0, k1⟩ (by decide) (by omega) (by omega)⟩), fun _ => w27 2001 0 0 (by decide) (by rw [kl_0]; omega) (by decide) (by rw [kl_0]; omega)⟩), fun _ => w11 2001 0 0 (by decide) (by rw [kl_0]; omega) (by rw [kl_0]; omega)⟩)
theorem mx_cut {S : sm_C} {d : Nat} {Φ : sm_Z → Prop} {I : sm_I} {L : sm_L} {R : sm_R} (hm : en_mem ml_tb mlX (xLay, I, L, R)) (h : ∀ (J : sm_I) (L' : sm_L), en_mem ml_tb mlX (xLay, J, L', R) → ml_cf I J → Φ (none, (xLay, J, L', kM R))) : sm_wp sm_P S (d + 1) 119 0 [.ref 107] [] (xLay, I, L, kM R) (0, 0) Φ := by
  refine u_X12_cut_0 ?_
  refine mx_cut1 (I0 := I) h 2502 _ L 0 (ml_wf hm (by decide +kernel) (q := (0, 501)) (by decide +kernel) (by decide)) (fun p j hp => ?_) (by decide) (by decide) (by rw [en_up_eq]; decide)
  unfold ml_Dc at hp
  exact en_up_ne _ _ _ _ (by omega)
