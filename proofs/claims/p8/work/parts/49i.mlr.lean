/-! read -/
def ml_RW : en_W := mlc_65.2.2.2.2.1
theorem ml_rwa : ∀ p, p < 166 → 108 ≤ p → en_wall ml_RW p = true := by decide +kernel
theorem ml_wallok {W : en_W} {p j : Nat} (h : en_wall W p = true) : en_wok W p j = true := by
  obtain ⟨⟨b, l2⟩, g1, g2⟩ := List.any_eq_true.mp h
  obtain ⟨g2, g3⟩ := Bool.and_eq_true_iff.mp g2
  refine List.any_eq_true.mpr ⟨(b, l2), g1, ?_⟩
  cases l2 with
  | nil => rw [g2]; rfl
  | cons _ _ => cases g3
theorem ml_rw {p j : Nat} (h0 : 108 ≤ p) (h1 : p ≤ 165) : en_wok ml_RW p j = true := ml_wallok (ml_rwa p (by omega) h0)
theorem ml_rwf : ∀ j, j < 21 → (j = 0 ∨ j = 2 ∨ j = 4 ∨ 10 ≤ j) → en_wok ml_RW 107 j = true := by decide +kernel
theorem ml_fro {W : en_W} {w0 : sm_W} {I J : sm_I} {L L' : sm_L} {R : sm_R} (h : en_fr W w0 (xLay, I, L, R)) (o : ∀ p j, en_wok W p j = false → J p j = I p j) : en_fr W w0 (xLay, J, L', R) := ⟨h.1, fun p j hw => ⟨(o p j hw).trans (h.2 p j hw).1, (h.2 p j hw).2⟩⟩
theorem ml_frD {w0 : sm_W} {l : Nat} {I J : sm_I} {L L' : sm_L} {R : sm_R} (h : en_fr ml_RW w0 (xLay, I, L, R)) (p : ml_pS (ml_Dl l) I J) : en_fr ml_RW w0 (xLay, J, L', R) := ml_fro h (fun a b hw => p.1 a b (fun c => by
  unfold ml_Dl at c
  rcases c with ⟨c1, c2⟩ | ⟨c1, c2, -⟩
  · rw [c1, c2, ml_rwf 20 (by decide) (by decide)] at hw; cases hw
  · rw [ml_rw (by omega) (by omega)] at hw; cases hw) (fun c => by
  rw [c.1, ml_rwf b (by omega) (by omega)] at hw; cases hw))
theorem mx_read29 {S : sm_C} {d : Nat} {Φ : sm_Z → Prop} {w0 : sm_W} {L : sm_L} {R : sm_R} (hΦ : ∀ (r : Int32) (I : sm_I) (L : sm_L) (R : sm_R), 0 ≤ r.toInt → r.toInt ≤ 5 → en_mem ml_tb mlX (xLay, I, L, R) → en_fr ml_RW w0 (xLay, I, L, R) → I 107 2 = 0 → Φ (some (.int r), (xLay, I, L, kM R))) : ∀ (m : Nat) (I : sm_I) (x1 : Int32), en_mem ml_tb mlX (xLay, I, L, R) → en_fr ml_RW w0 (xLay, I, L, R) → I 107 2 = 0 → 0 ≤ x1.toInt → x1.toInt ≤ 60 → 60 - x1.toInt < m → sm_wp sm_P S (d + 1) 182 29 [.ref 107, .int x1] [] (xLay, I, L, kM R) (0, 0) Φ := by
  intro m
  induction m with
  | zero => intro I x1 hm hf hz h0 h1 hM; omega
  | succ m ih =>
    intro I x1 hm hf hz h0 h1 hM
    refine u_X12_read_29 ⟨fun _ => ?_, fun a => ?_⟩
    · have m1 : en_mem ml_tb mlX (xLay, sm_up I 107 54 0, L, R) := ml_wf hm (by decide +kernel) (q := (0, 6)) (by decide +kernel) (by decide)
      refine ml_cv (c := mlc_64) mlh_64 (Nat.zero_le _) ⟨⟨rfl, rfl⟩, trivial⟩ m1 ml_pf0 rfl (fun I2 L2 R2 m2 f2 => mx_meets m2 (fun I3 m3 f3 => ⟨I3, L2, R2, rfl, u_X12_changes_0 (fun I4 e4 => ⟨I4, L2, R2, rfl, ?_⟩)⟩))
      have hf2 : en_fr ml_RW w0 (xLay, I2, L2, R2) := ml_frt (ml_fr hf (by decide +kernel)) f2 (by decide +kernel)
      refine hΦ 0 I4 L2 R2 (by decide) (by decide) ?_ ?_ ?_
      · rw [e4]
        exact ml_wf (ml_wf m3 (by decide +kernel) (q := (0, 1)) (by decide +kernel) (by decide)) (by decide +kernel) (q := (0, 1)) (by decide +kernel) (by decide)
      · rw [e4]
        refine ml_fr (ml_fr (ml_fro hf2 (fun p j hw => f3 p j (fun c => ?_))) (by decide +kernel)) (by decide +kernel)
        rcases c with ⟨c1, c2⟩ | c | c | c
        · rw [c1, c2] at hw; exact absurd hw (by decide +kernel)
        · rw [ml_rw (by omega) (by omega)] at hw; cases hw
        · rw [ml_rw (by omega) (by omega)] at hw; cases hw
        · rw [ml_rw (by omega) (by omega)] at hw; cases hw
      · rw [e4, en_up_ne _ _ _ _ (by omega), en_up_ne _ _ _ _ (by omega), f3 _ _ (by omega), ml_g f2 (by decide), en_up_ne _ _ _ _ (by omega), hz]
    · have a := kl_nle a
      rw [(by decide : (60 : Int32).toInt = 60)] at a
      have s1 := ml_in1 (x := x1) (by omega)
      refine ⟨kl_in h0 (by omega), fun I2 e2 => ih I2 _ ?_ ?_ ?_ (by omega) (by omega) (by omega)⟩
      · rw [e2]
        exact ml_we2 hm rfl (n := 60) (q := (-1, 3)) rfl (by decide)
      · rw [e2]; exact ml_fr hf (ml_rw (by decide) (by decide))
      · rw [e2, en_up_ne _ _ _ _ (by omega), hz]
theorem mx_read26 {S : sm_C} {d : Nat} {Φ : sm_Z → Prop} {w0 : sm_W} {L : sm_L} {R : sm_R} (hΦ : ∀ (r : Int32) (I : sm_I) (L : sm_L) (R : sm_R), 0 ≤ r.toInt → r.toInt ≤ 5 → en_mem ml_tb mlX (xLay, I, L, R) → en_fr ml_RW w0 (xLay, I, L, R) → I 107 2 = 0 → Φ (some (.int r), (xLay, I, L, kM R))) : ∀ (m : Nat) (I : sm_I) (x1 : Int32), en_mem ml_tb mlX (xLay, I, L, R) → en_fr ml_RW w0 (xLay, I, L, R) → I 107 2 = 0 → 0 ≤ x1.toInt → x1.toInt ≤ 10 → 10 - x1.toInt < m → sm_wp sm_P S (d + 1) 182 26 [.ref 107, .int x1] [] (xLay, I, L, kM R) (0, 0) Φ := by
  intro m
  induction m with
  | zero => intro I x1 hm hf hz h0 h1 hM; omega
  | succ m ih =>
    intro I x1 hm hf hz h0 h1 hM
    refine u_X12_read_26 ⟨fun _ => mx_read29 hΦ 61 I 0 hm hf hz (by decide) (by decide) (by decide), fun a => ?_⟩
    have a := kl_nle a
    rw [(by decide : (10 : Int32).toInt = 10)] at a
    have s1 := ml_in1 (x := x1) (by omega)
    refine ⟨kl_in h0 (by omega), fun I1 e1 => ⟨kl_in h0 (by omega), fun I2 e2 => ih I2 _ ?_ ?_ ?_ (by omega) (by omega) (by omega)⟩⟩
    · rw [e2, e1]
      exact ml_we2 (ml_we2 hm rfl (n := 10) (q := (0, 1)) rfl (ml_boo 0)) rfl (n := 10) (q := (-1, 1440)) rfl (by decide)
    · rw [e2, e1]; exact ml_fr (ml_fr hf (ml_rw (by decide) (by decide))) (ml_rw (by decide) (by decide))
    · rw [e2, en_up_ne _ _ _ _ (by omega), e1, en_up_ne _ _ _ _ (by omega), hz]
theorem mx_read21 {S : sm_C} {d : Nat} {Φ : sm_Z → Prop} {w0 : sm_W} {I : sm_I} {L : sm_L} {R : sm_R} {s1 : Int32} {l s : Nat} (hls : ml_ls l s) (hT : ml_TI l s I) (b1 : -1 ≤ s1.toInt ∧ s1.toInt ≤ 2000) (hm : en_mem ml_tb mlX (xLay, I, L, R)) (hf : en_fr ml_RW w0 (xLay, I, L, R)) (hz : I 107 2 = 0) (hΦ : ∀ (r : Int32) (I : sm_I) (L : sm_L) (R : sm_R), 0 ≤ r.toInt → r.toInt ≤ 5 → en_mem ml_tb mlX (xLay, I, L, R) → en_fr ml_RW w0 (xLay, I, L, R) → I 107 2 = 0 → Φ (some (.int r), (xLay, I, L, kM R))) : sm_wp sm_P S (d + 1) 182 21 [.ref 107] [.int s1, .ref 107] (xLay, I, L, kM R) (0, 0) Φ := by
  obtain ⟨hl, hs⟩ := ml_l1 hls
  have m1 : en_mem ml_tb mlX (xLay, sm_up I 107 17 s1, L, R) := ml_wf hm (by decide +kernel) (q := (-1, 2000)) (by decide +kernel) b1
  have f1 : en_fr ml_RW w0 (xLay, sm_up I 107 17 s1, L, R) := ml_fr hf (by decide +kernel)
  have z1 : sm_up I 107 17 s1 107 2 = 0 := by rw [en_up_ne _ _ _ _ (by omega)]; exact hz
  have b15 : 0 ≤ (sm_up I 107 17 s1 107 15).toInt ∧ (sm_up I 107 17 s1 107 15).toInt ≤ 5 := m1.2.1 107 15 (0, 5) (by decide +kernel)
  have b13 : 0 ≤ (sm_up I 107 17 s1 107 13).toInt ∧ (sm_up I 107 17 s1 107 13).toInt ≤ 5 := m1.2.1 107 13 (0, 5) (by decide +kernel)
  refine u_X12_read_21 ⟨fun _ => ⟨fun c => fun I1 e1 => ?_, fun _ => hΦ _ _ L R b15.1 b15.2 m1 f1 z1⟩, fun _ => hΦ _ _ L R b13.1 b13.2 m1 f1 z1⟩
  have c15 : I 107 15 = 0 := by
    have c := kl_le.mp c
    rw [kl_0] at c
    have e : sm_up I 107 17 s1 107 15 = I 107 15 := en_up_ne _ _ _ _ (by omega)
    rw [e] at c b15
    exact en_ofI (by rw [kl_0]; omega)
  have e19 : sm_up I 107 17 s1 107 19 = I 107 19 := en_up_ne _ _ _ _ (by omega)
  rw [e19] at e1
  have o1 : ∀ p j, ¬ (p = 107 ∧ (j = 17 ∨ j = 18)) → I1 p j = I p j := fun p j hp => by rw [e1, en_up_ne _ _ _ _ (by omega), en_up_ne _ _ _ _ (by omega)]
  have g18 : I1 107 18 = I 107 19 := by rw [e1, en_up_eq]
  have mI : en_mem ml_tb mlX (xLay, I1, L, R) := by
    have X := hm.2.2.2.2
    have hX : mlX (xLay, I1, L, R) := by
      refine ⟨rfl, fun k hk => ?_, fun k hk => ?_, mlP_cg (fun j => o1 165 j (by omega)) X.2.2.2.1, mlN_cg (fun j => o1 116 j (by omega)) (fun j => o1 117 j (by omega)) X.2.2.2.2.1, X.2.2.2.2.2⟩
      · show (I1 148 k).toInt ≤ 54 ∨ 60 ≤ (I1 148 k).toInt
        rw [o1 148 k (by omega)]; exact X.2.1 k hk
      · have hk : (k : Int) = (I1 107 18).toInt := hk
        rw [g18, hT.2.1] at hk
        have hk : k = s := by omega
        subst hk
        exact mlV_cg (fun p hp j => o1 p j (by omega)) (hT.2.2.2 c15)
    rw [e1] at hX ⊢
    refine ml_wr m1 hX (fun q hq => ?_)
    have e : en_int ml_tb 107 18 = some (0, 1) := by decide +kernel
    rw [e] at hq
    rw [← Option.some.inj hq]
    show 0 ≤ (I 107 19).toInt ∧ (I 107 19).toInt ≤ 1
    have := hT.2.1
    omega
  exact mx_read26 hΦ 11 I1 0 mI (by rw [e1]; exact ml_fr f1 (by decide +kernel)) (by rw [o1 _ _ (by omega)]; exact hz) (by decide) (by decide) (by decide)
theorem mx_read13 {S : sm_C} {d : Nat} {Φ : sm_Z → Prop} {w0 : sm_W} {R : sm_R} {l s : Nat} (hls : ml_ls l s) (hΦ : ∀ (r : Int32) (I : sm_I) (L : sm_L) (R : sm_R), 0 ≤ r.toInt → r.toInt ≤ 5 → en_mem ml_tb mlX (xLay, I, L, R) → en_fr ml_RW w0 (xLay, I, L, R) → I 107 2 = 0 → Φ (some (.int r), (xLay, I, L, kM R))) : ∀ (m : Nat) (I : sm_I) (L : sm_L), ml_TI l s I → en_mem ml_tb mlX (xLay, I, L, R) → en_fr ml_RW w0 (xLay, I, L, R) → I 107 2 = 0 → (I 107 13 = 0 → 500 - (I 107 11).toInt < m) → sm_wp sm_P S (d + 8) 182 13 [.ref 107] [] (xLay, I, L, kM R) (0, 0) Φ := by
  have out : ∀ (I : sm_I) (L : sm_L), ml_TI l s I → en_mem ml_tb mlX (xLay, I, L, R) → en_fr ml_RW w0 (xLay, I, L, R) → I 107 2 = 0 → (((I 107 13) ≤ 0 → (((I 107 15) ≤ 0 → sm_wp sm_P S (d + 8) 182 21 [.ref 107] [.int (-1 : Int32), .ref 107] (xLay, I, L, (kM R)) (0, 0) Φ) ∧ (¬ (I 107 15) ≤ 0 → sm_wp sm_P S (d + 8) 182 21 [.ref 107] [.int (I 107 16), .ref 107] (xLay, I, L, (kM R)) (0, 0) Φ))) ∧ (¬ (I 107 13) ≤ 0 → sm_wp sm_P S (d + 8) 182 21 [.ref 107] [.int (I 107 14), .ref 107] (xLay, I, L, (kM R)) (0, 0) Φ)) := by
    intro I L hT hm hf hz
    have b16 : 0 ≤ (I 107 16).toInt ∧ (I 107 16).toInt ≤ 2000 := hm.2.1 107 16 (0, 2000) (by decide +kernel)
    have b14 : 0 ≤ (I 107 14).toInt ∧ (I 107 14).toInt ≤ 2000 := hm.2.1 107 14 (0, 2000) (by decide +kernel)
    exact ⟨fun _ => ⟨fun _ => mx_read21 hls hT (by decide) hm hf hz hΦ, fun _ => mx_read21 hls hT (by omega) hm hf hz hΦ⟩, fun _ => mx_read21 hls hT (by omega) hm hf hz hΦ⟩
  intro m
  induction m with
  | zero =>
    intro I L hT hm hf hz hM
    refine u_X12_read_13 ⟨fun c => ?_, fun _ => out I L hT hm hf hz⟩
    have := hM c
    have bt : 0 ≤ (I 107 11).toInt ∧ (I 107 11).toInt ≤ 500 := ml_t hm
    omega
  | succ m ih =>
    intro I L hT hm hf hz hM
    refine u_X12_read_13 ⟨fun c => mx_is hm (fun r _ _ => ⟨r, I, L, R, rfl, fun _ => mx_tell hls hm hT (fun J L' o => ⟨J, L', R, rfl, ?_⟩), fun _ => out I L hT hm hf hz⟩), fun _ => out I L hT hm hf hz⟩
    have M := hM c
    obtain ⟨mJ, pJ, TJ, gJ⟩ := o
    refine ih J L' TJ mJ (ml_frD hf pJ) ?_ (fun cJ => ?_)
    · rw [pJ.1 107 2 (by unfold ml_Dl; omega) (by omega)]; exact hz
    · rcases gJ with g | g
      · exact absurd cJ g
      · omega
theorem mx_read11 {S : sm_C} {d : Nat} {Φ : sm_Z → Prop} {w0 : sm_W} {L : sm_L} {R : sm_R} {l s : Nat} (hls : ml_ls l s) (hΦ : ∀ (r : Int32) (I : sm_I) (L : sm_L) (R : sm_R), 0 ≤ r.toInt → r.toInt ≤ 5 → en_mem ml_tb mlX (xLay, I, L, R) → en_fr ml_RW w0 (xLay, I, L, R) → I 107 2 = 0 → Φ (some (.int r), (xLay, I, L, kM R))) : ∀ (m : Nat) (I : sm_I) (x1 : Int32), ml_TI l s I → en_mem ml_tb mlX (xLay, I, L, R) → en_fr ml_RW w0 (xLay, I, L, R) → I 107 2 = 0 → 0 ≤ x1.toInt → x1.toInt ≤ 10 → 10 - x1.toInt < m → sm_wp sm_P S (d + 8) 182 11 [.ref 107, .int x1] [] (xLay, I, L, kM R) (0, 0) Φ := by
  obtain ⟨hl, hs⟩ := ml_l1 hls
  intro m
  induction m with
  | zero => intro I x1 hT hm hf hz h0 h1 hM; omega
  | succ m ih =>
    intro I x1 hT hm hf hz h0 h1 hM
    have bt : 0 ≤ (I 107 11).toInt ∧ (I 107 11).toInt ≤ 500 := ml_t hm
    refine u_X12_read_11 ⟨fun _ => mx_read13 hls hΦ 501 I L hT hm hf hz (fun _ => by omega), fun a n1 e1 => ?_⟩
    have a := kl_nle a
    rw [(by decide : (10 : Int32).toInt = 10)] at a
    have s1 := ml_in1 (x := x1) (by omega)
    have q1 : ((10 : Int32) * (I 107 19)).toInt = 10 * (s : Int) := ml_mu (by decide) hT.2.1 (by omega) (by omega)
    have q2 : n1.toInt = 10 * (s : Int) + x1.toInt := by rw [e1]; exact ml_ad q1 rfl (by omega) (by omega)
    refine ⟨kl_in (by omega) (by omega), fun I2 e2 => ?_⟩
    have nn0 := kl_nat (i := n1) (by omega)
    have hls0 := hls
    unfold ml_ls at hls0
    have w := ml_w0 (L := L) (R := R) (l := l) (p := 135) (j := n1.toNatClampNeg) (x := -1) (n := 20) (q := (-1, 247)) hl hT.1 (by unfold ml_D0 ml_hm; omega) hm rfl (by decide)
    rw [← e2] at w
    exact ih I2 _ (ml_TI_0 hls hm w.2 hT) w.1 (by rw [e2]; exact ml_fr hf (ml_rw (by decide) (by decide))) (by rw [e2, en_up_ne _ _ _ _ (by omega)]; exact hz) (by omega) (by omega) (by omega)
theorem mx_read5 {S : sm_C} {d : Nat} {Φ : sm_Z → Prop} {w0 : sm_W} {L : sm_L} {R : sm_R} {l s : Nat} (hls : ml_ls l s) (hΦ : ∀ (r : Int32) (I : sm_I) (L : sm_L) (R : sm_R), 0 ≤ r.toInt → r.toInt ≤ 5 → en_mem ml_tb mlX (xLay, I, L, R) → en_fr ml_RW w0 (xLay, I, L, R) → I 107 2 = 0 → Φ (some (.int r), (xLay, I, L, kM R))) : ∀ (m : Nat) (I : sm_I) (x1 : Int32), ml_TI l s I → en_mem ml_tb mlX (xLay, I, L, R) → en_fr ml_RW w0 (xLay, I, L, R) → I 107 2 = 0 → 0 ≤ x1.toInt → x1.toInt ≤ 36 → 36 - x1.toInt < m → sm_wp sm_P S (d + 8) 182 5 [.ref 107, .int x1] [] (xLay, I, L, kM R) (0, 0) Φ := by
  obtain ⟨hl, hs⟩ := ml_l1 hls
  intro m
  induction m with
  | zero => intro I x1 hT hm hf hz h0 h1 hM; omega
  | succ m ih =>
    intro I x1 hT hm hf hz h0 h1 hM
    have s1 := ml_in1 (x := x1) (by omega)
    have w : ∀ v : Int32, x1.toInt < 36 → ∀ n3 : Int32, n3 = (((36 : Int32) * (I 107 19)) + x1) → (vp_in n3 72) ∧ ∀ I4 : sm_I, I4 = (sm_up I 121 n3.toNatClampNeg v) → sm_wp sm_P S (d + 8) 182 5 [.ref 107, .int (x1 + (1 : Int32))] [] (xLay, I4, L, (kM R)) (0, 0) Φ := by
      intro v a n3 e3
      have q1 : ((36 : Int32) * (I 107 19)).toInt = 36 * (s : Int) := ml_mu (by decide) hT.2.1 (by omega) (by omega)
      have q2 : n3.toInt = 36 * (s : Int) + x1.toInt := by rw [e3]; exact ml_ad q1 rfl (by omega) (by omega)
      refine ⟨kl_in (by omega) (by omega), fun I2 e2 => ?_⟩
      have nn0 := kl_nat (i := n3) (by omega)
      have hls0 := hls
      unfold ml_ls at hls0
      have w := ml_w0 (L := L) (R := R) (l := l) (p := 121) (j := n3.toNatClampNeg) (x := v) (n := 72) (q := (-2147483648, 2147483647)) hl hT.1 (by unfold ml_D0 ml_hm; omega) hm rfl en_crange
      rw [← e2] at w
      exact ih I2 _ (ml_TI_0 hls hm w.2 hT) w.1 (by rw [e2]; exact ml_fr hf (ml_rw (by decide) (by decide))) (by rw [e2, en_up_ne _ _ _ _ (by omega)]; exact hz) (by omega) (by omega) (by omega)
    refine u_X12_read_5 ⟨fun _ => mx_read11 hls hΦ 11 I 0 hT hm hf hz (by decide) (by decide) (by decide), fun a => ?_⟩
    have a := kl_nle a
    rw [(by decide : (36 : Int32).toInt = 36)] at a
    exact ⟨by decide, fun _ => w _ a, fun _ => w _ a⟩
/-- a counter of the side set to 0 -/
theorem ml_z0 {I : sm_I} {L : sm_L} {R : sm_R} {w0 : sm_W} {l s p : Nat} (hls : ml_ls l s) (hv : (I 107 18).toInt = l) (hp : p = 118 ∨ p = 119 ∨ p = 120 ∨ p = 122 ∨ p = 125 ∨ p = 134 ∨ p = 136) (hm : en_mem ml_tb mlX (xLay, I, L, R)) (hf : en_fr ml_RW w0 (xLay, I, L, R)) : en_mem ml_tb mlX (xLay, sm_up I p s 0, L, R) ∧ en_fr ml_RW w0 (xLay, sm_up I p s 0, L, R) := by
  obtain ⟨hl, hs⟩ := ml_l1 hls
  unfold ml_ls at hls
  refine ⟨ml_wt (l := l) hl hv ⟨by omega, by omega, by unfold ml_hl; omega⟩ (by omega) hm (fun q hq => ?_), ml_fr hf (ml_rw (by omega) (by omega))⟩
  rw [kl_0]
  rcases hp with e | e | e | e | e | e | e <;> subst e <;> rcases hls with ⟨-, e⟩ | ⟨-, e⟩ <;> subst e
  all_goals
    first
    | (rw [show en_int ml_tb 118 _ = some (0, 4) from rfl] at hq; rw [← Option.some.inj hq]; decide)
    | (rw [show en_int ml_tb 119 _ = some (0, 6) from rfl] at hq; rw [← Option.some.inj hq]; decide)
    | (rw [show en_int ml_tb 120 _ = some (0, 12) from rfl] at hq; rw [← Option.some.inj hq]; decide)
    | (rw [show en_int ml_tb 122 _ = some (0, 10) from rfl] at hq; rw [← Option.some.inj hq]; decide)
    | (rw [show en_int ml_tb 125 _ = some (0, 10) from rfl] at hq; rw [← Option.some.inj hq]; decide)
    | (rw [show en_int ml_tb 134 _ = some (0, 4) from rfl] at hq; rw [← Option.some.inj hq]; decide)
    | (rw [show en_int ml_tb 136 _ = some (0, 5) from rfl] at hq; rw [← Option.some.inj hq]; decide)
theorem mx_read1 {S : sm_C} {d : Nat} {Φ : sm_Z → Prop} {w0 : sm_W} {L : sm_L} {R : sm_R} (hΦ : ∀ (r : Int32) (I : sm_I) (L : sm_L) (R : sm_R), 0 ≤ r.toInt → r.toInt ≤ 5 → en_mem ml_tb mlX (xLay, I, L, R) → en_fr ml_RW w0 (xLay, I, L, R) → I 107 2 = 0 → Φ (some (.int r), (xLay, I, L, kM R))) : ∀ (m : Nat) (I : sm_I) (x1 : Int32), en_mem ml_tb mlX (xLay, I, L, R) → en_fr ml_RW w0 (xLay, I, L, R) → 0 ≤ x1.toInt → x1.toInt ≤ 2000 → 2000 - x1.toInt < m → sm_wp sm_P S (d + 8) 182 1 [.ref 107, .int x1] [] (xLay, I, L, kM R) (0, 0) Φ := by
  intro m
  induction m with
  | zero => intro I x1 hm hf h0 h1 hM; omega
  | succ m ih =>
    intro I x1 hm hf h0 h1 hM
    have bs := ml_sz hm
    refine u_X12_read_1 ⟨fun _ => ?_, fun a => ?_⟩
    · refine mx_cut (ml_wf hm (by decide +kernel) (q := (0, 2000)) (by decide +kernel) (by decide)) (fun I1 L1 m1 c1 => ⟨I1, L1, R, rfl, fun I5 e5 I6 e6 I7 e7 I8 e8 I9 e9 => ?_⟩)
      have hf0 : en_fr ml_RW w0 (xLay, sm_up I 107 2 0, L, R) := ml_fr hf (by decide +kernel)
      have hf1 : en_fr ml_RW w0 (xLay, I1, L1, R) := ml_fro hf0 (fun p j hw => c1 p j (fun c => by
        unfold ml_Dc at c
        rcases c with ⟨a, b⟩ | c | c | c
        · rw [a, b] at hw; exact absurd hw (by decide +kernel)
        · rw [ml_rw (by omega) (by omega)] at hw; cases hw
        · rw [ml_rw (by omega) (by omega)] at hw; cases hw
        · rw [ml_rw (by omega) (by omega)] at hw; cases hw))
      have z1 : I1 107 2 = 0 := by rw [c1 107 2 (by unfold ml_Dc; omega), en_up_eq]
      have m5 : en_mem ml_tb mlX (xLay, I5, L1, R) := by rw [e5]; exact ml_wf m1 (by decide +kernel) (q := (0, 500)) (by decide +kernel) (by decide)
      have m6 : en_mem ml_tb mlX (xLay, I6, L1, R) := by rw [e6]; exact ml_wf m5 (by decide +kernel) (q := (0, 5)) (by decide +kernel) (by decide)
      have m7 : en_mem ml_tb mlX (xLay, I7, L1, R) := by rw [e7]; exact ml_wf m6 (by decide +kernel) (q := (0, 5)) (by decide +kernel) (by decide)
      obtain ⟨l0, l1, ln, lc⟩ := ml_live m7
      have l0 : 0 ≤ (I7 107 18).toInt := l0
      have l1 : (I7 107 18).toInt ≤ 1 := l1
      have ln : ((I7 107 18).toNatClampNeg : Int) = (I7 107 18).toInt := ln
      have s19 : ((1 : Int32) - I7 107 18).toInt = 1 - (I7 107 18).toInt := by
        rw [Int32.toInt_sub, kl_1]; exact en_bmod (by omega) (by omega) (Or.inl rfl)
      have m8 : en_mem ml_tb mlX (xLay, I8, L1, R) := by rw [e8]; exact ml_wf m7 (by decide +kernel) (q := (0, 1)) (by decide +kernel) (by show 0 ≤ _ ∧ _ ≤ (1 : Int); omega)
      have m9 : en_mem ml_tb mlX (xLay, I9, L1, R) := by rw [e9]; exact ml_wf m8 (by decide +kernel) (q := (0, 50)) (by decide +kernel) (by decide)
      have f9 : en_fr ml_RW w0 (xLay, I9, L1, R) := by
        rw [e9, e8, e7, e6, e5]
        exact ml_fr (ml_fr (ml_fr (ml_fr (ml_fr hf1 (by decide +kernel)) (by decide +kernel)) (by decide +kernel)) (by decide +kernel)) (by decide +kernel)
      have g19 : (I9 107 19).toInt = 1 - (I7 107 18).toInt := by rw [e9, en_up_ne _ _ _ _ (by omega), e8, en_up_eq]; exact s19
      have g18 : (I9 107 18).toInt = (I7 107 18).toInt := by rw [e9, en_up_ne _ _ _ _ (by omega), e8, en_up_ne _ _ _ _ (by omega)]
      have z9 : I9 107 2 = 0 := by rw [e9, en_up_ne _ _ _ _ (by omega), e8, en_up_ne _ _ _ _ (by omega), e7, en_up_ne _ _ _ _ (by omega), e6, en_up_ne _ _ _ _ (by omega), e5, en_up_ne _ _ _ _ (by omega), z1]
      have n20 : I9 107 20 = 0 := by rw [e9, en_up_eq]
      obtain ⟨l, s, hls, hl, hs⟩ : ∃ l s : Nat, ml_ls l s ∧ (I9 107 18).toInt = l ∧ (I9 107 19).toInt = s := by
        rcases (by omega : (I7 107 18).toInt = 0 ∨ (I7 107 18).toInt = 1) with c | c
        · exact ⟨0, 1, Or.inl ⟨rfl, rfl⟩, by rw [g18, c]; rfl, by rw [g19, c]; rfl⟩
        · exact ⟨1, 0, Or.inr ⟨rfl, rfl⟩, by rw [g18, c]; rfl, by rw [g19, c]; rfl⟩
      have ns := kl_nat (i := I9 107 19) (by omega)
      have sn : (I9 107 19).toNatClampNeg = s := by omega
      have sv : vp_in (I9 107 19) 2 := kl_in (by omega) (by omega)
      clear s19 g18 g19 l0 l1 ln lc m5 m6 m7 m8 e5 e6 e7 e8 e9
      have st : ∀ (J : sm_I), (∀ p j, ¬ ((p = 118 ∨ p = 119 ∨ p = 120 ∨ p = 122 ∨ p = 125 ∨ p = 134 ∨ p = 136) ∧ j = s) → J p j = I9 p j) → J 107 19 = I9 107 19 ∧ (J 107 18).toInt = l := fun J o => ⟨o 107 19 (by omega), by rw [o 107 18 (by omega)]; exact hl⟩
      refine ⟨sv, fun I10 e10 => ?_⟩
      rw [sn] at e10
      have o10 : ∀ p j, ¬ ((p = 118 ∨ p = 119 ∨ p = 120 ∨ p = 122 ∨ p = 125 ∨ p = 134 ∨ p = 136) ∧ j = s) → I10 p j = I9 p j := fun p j hp => by rw [e10, en_up_ne _ _ _ _ (by omega)]
      have k10 := ml_z0 (p := 118) hls hl (by omega) m9 f9
      rw [← e10] at k10
      rw [(st I10 o10).1]
      refine ⟨sv, fun I11 e11 => ?_⟩
      rw [sn] at e11
      have o11 : ∀ p j, ¬ ((p = 118 ∨ p = 119 ∨ p = 120 ∨ p = 122 ∨ p = 125 ∨ p = 134 ∨ p = 136) ∧ j = s) → I11 p j = I9 p j := fun p j hp => by rw [e11, en_up_ne _ _ _ _ (by omega), o10 p j hp]
      have k11 := ml_z0 (p := 119) hls (st I10 o10).2 (by omega) k10.1 k10.2
      rw [← e11] at k11
      rw [(st I11 o11).1]
      refine ⟨sv, fun I12 e12 => ?_⟩
      rw [sn] at e12
      have o12 : ∀ p j, ¬ ((p = 118 ∨ p = 119 ∨ p = 120 ∨ p = 122 ∨ p = 125 ∨ p = 134 ∨ p = 136) ∧ j = s) → I12 p j = I9 p j := fun p j hp => by rw [e12, en_up_ne _ _ _ _ (by omega), o11 p j hp]
      have k12 := ml_z0 (p := 120) hls (st I11 o11).2 (by omega) k11.1 k11.2
      rw [← e12] at k12
      rw [(st I12 o12).1]
      refine ⟨sv, fun I13 e13 => ?_⟩
      rw [sn] at e13
      have o13 : ∀ p j, ¬ ((p = 118 ∨ p = 119 ∨ p = 120 ∨ p = 122 ∨ p = 125 ∨ p = 134 ∨ p = 136) ∧ j = s) → I13 p j = I9 p j := fun p j hp => by rw [e13, en_up_ne _ _ _ _ (by omega), o12 p j hp]
      have k13 := ml_z0 (p := 122) hls (st I12 o12).2 (by omega) k12.1 k12.2
      rw [← e13] at k13
      rw [(st I13 o13).1]
      refine ⟨sv, fun I14 e14 => ?_⟩
      rw [sn] at e14
      have o14 : ∀ p j, ¬ ((p = 118 ∨ p = 119 ∨ p = 120 ∨ p = 122 ∨ p = 125 ∨ p = 134 ∨ p = 136) ∧ j = s) → I14 p j = I9 p j := fun p j hp => by rw [e14, en_up_ne _ _ _ _ (by omega), o13 p j hp]
      have k14 := ml_z0 (p := 125) hls (st I13 o13).2 (by omega) k13.1 k13.2
      rw [← e14] at k14
      rw [(st I14 o14).1]
      refine ⟨sv, fun I15 e15 => ?_⟩
      rw [sn] at e15
      have o15 : ∀ p j, ¬ ((p = 118 ∨ p = 119 ∨ p = 120 ∨ p = 122 ∨ p = 125 ∨ p = 134 ∨ p = 136) ∧ j = s) → I15 p j = I9 p j := fun p j hp => by rw [e15, en_up_ne _ _ _ _ (by omega), o14 p j hp]
      have k15 := ml_z0 (p := 134) hls (st I14 o14).2 (by omega) k14.1 k14.2
      rw [← e15] at k15
      rw [(st I15 o15).1]
      refine ⟨sv, fun I16 e16 => ?_⟩
      rw [sn] at e16
      have o16 : ∀ p j, ¬ ((p = 118 ∨ p = 119 ∨ p = 120 ∨ p = 122 ∨ p = 125 ∨ p = 134 ∨ p = 136) ∧ j = s) → I16 p j = I9 p j := fun p j hp => by rw [e16, en_up_ne _ _ _ _ (by omega), o15 p j hp]
      have k16 := ml_z0 (p := 136) hls (st I15 o15).2 (by omega) k15.1 k15.2
      rw [← e16] at k16
      have z122 : I16 122 s = 0 := by rw [e16, en_up_ne _ _ _ _ (by omega), e15, en_up_ne _ _ _ _ (by omega), e14, en_up_ne _ _ _ _ (by omega), e13, en_up_eq]
      have z125 : I16 125 s = 0 := by rw [e16, en_up_ne _ _ _ _ (by omega), e15, en_up_ne _ _ _ _ (by omega), e14, en_up_eq]
      have T16 : ml_TI l s I16 := by
        have b := ml_cs (ml_l1 hls).2 k16.1
        refine ⟨(st I16 o16).2, by rw [(st I16 o16).1]; exact hs, ?_, fun _ => ⟨fun i hi => ?_, fun k c i hk => ?_⟩⟩
        · rw [o16 107 20 (by omega), n20, kl_0]
          unfold ml_sum
          omega
        · rw [z122, kl_0] at hi; omega
        · rw [z125, kl_0] at hk; omega
      exact mx_read5 hls hΦ 37 I16 0 T16 k16.1 k16.2 (by rw [o16 107 2 (by omega), z9]) (by decide) (by decide) (by decide)
    · have a := kl_nle a
      have s1 := ml_in1 (x := x1) (by omega)
      have v : vp_in x1 2000 := kl_in h0 (by omega)
      refine ⟨v, v, fun I18 e18 => ih I18 _ ?_ ?_ (by omega) (by omega) (by omega)⟩
      · rw [e18]
        exact ml_we2 hm rfl (n := 2000) (q := (-128, 127)) rfl (ml_byte _)
      · rw [e18]; exact ml_fr hf (ml_rw (by decide) (by decide))
/-- read, and that nothing is left on the tape -/
theorem mx_read {S : sm_C} {d : Nat} {Φ : sm_Z → Prop} {I : sm_I} {L : sm_L} {R : sm_R} (hm : en_mem ml_tb mlX (xLay, I, L, R)) (hΦ : ∀ (r : Int32) (J : sm_I) (L' : sm_L) (R' : sm_R), 0 ≤ r.toInt → r.toInt ≤ 5 → en_mem ml_tb mlX (xLay, J, L', R') → en_fr ml_RW (xLay, I, L, R) (xLay, J, L', R') → J 107 2 = 0 → Φ (some (.int r), (xLay, J, L', kM R'))) : sm_wp sm_P S (d + 8) 182 0 [.ref 107] [] (xLay, I, L, kM R) (0, 0) Φ := by
  have b : 0 ≤ (I 107 2).toInt ∧ (I 107 2).toInt ≤ 2000 := ml_taped hm
  refine u_X12_read_0 (mx_read1 hΦ 2001 _ 0 (ml_wf hm (by decide +kernel) (q := (0, 2000)) (by decide +kernel) b) (ml_fr en_fr_rf (by decide +kernel)) (by decide) (by decide) (by decide))
theorem mlh_65 {Sc : sm_C} : en_hold ml_tb mlX sm_P Sc mlc_65 := by
  intro d hd vs w hv hm _
  obtain ⟨vs1, rfl, hv1⟩ := kl_vr (q := 107) rfl hv
  obtain rfl := kl_v0 hv1
  have hd : 8 ≤ d := hd
  obtain ⟨d, rfl⟩ : ∃ d', d = d' + 8 := ⟨d - 8, by omega⟩
  refine ml_top hm (fun I L R hw hm => ?_)
  exact mx_read hm (fun r J L' R' r0 r1 m f _ => ⟨_, J, L', R', rfl, Or.inl ⟨rfl, r0, r1⟩, m, f⟩)
