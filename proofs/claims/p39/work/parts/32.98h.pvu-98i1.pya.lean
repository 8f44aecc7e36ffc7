section
/-! the reference's read, exact, from its start -/
theorem nar_b : ∀ i : Fin 256, vp_nar .byte (Int32.ofInt ((i.val : Int) - 128)) = Int32.ofInt ((i.val : Int) - 128) := by decide +kernel
theorem nar_e {x : Int32} (h0 : -128 ≤ x.toInt) (h1 : x.toInt ≤ 127) : vp_nar .byte x = x := by
  have e : x = Int32.ofInt (((⟨(x.toInt + 128).toNat, by omega⟩ : Fin 256).val : Int) - 128) := by
    show x = Int32.ofInt (((x.toInt + 128).toNat : Int) - 128)
    rw [show (((x.toInt + 128).toNat : Int) - 128) = x.toInt by omega]
    exact (Int32.ofInt_toInt x).symm
  rw [e]; exact nar_b _
theorem w7 : ∀ i : Nat, i < 36 → ((Int32.ofNat i - Int32.ofNat i / 7 * 7 = 0) ↔ i % 7 = 0) := by decide +kernel
theorem ME_cg {K K' : Nat → Int32} {V V' : Nat → Int64} (hK : ∀ i, K i = K' i) (hV : ∀ i, K i ≠ 21 → V i = V' i) : ∀ (m t : Nat) (s : Int32) (a : sg), ME K V m t s a = ME K' V' m t s a := by
  intro m
  induction m with
  | zero => intro t s a; rfl
  | succ m ih =>
    intro t s a
    show (if K t = 21 then (none, a) else if (ms s (K t) (V t) a).1 = 0 then ME K V m (t + 1) (fw s (K t)) (ms s (K t) (V t) a).2 else (some ((ms s (K t) (V t) a).1, t), a)) = (if K' t = 21 then (none, a) else if (ms s (K' t) (V' t) a).1 = 0 then ME K' V' m (t + 1) (fw s (K' t)) (ms s (K' t) (V' t) a).2 else (some ((ms s (K' t) (V' t) a).1, t), a))
    rw [← hK t]
    by_cases c : K t = 21
    · rw [if_pos c, if_pos c]
    · rw [if_neg c, if_neg c, hV t c, ih]
/-- the pure machine before the first TOKEN -/
def ini (a : sg) : Prop := a.1 2 5 = 0 ∧ (∀ j, j < 5 → a.1 12 j = 0) ∧ a.1 12 6 = 0 ∧ (∀ i, i < 10 → a.1 14 i = -1 ∧ a.1 15 i = -1 ∧ a.1 18 i = -1 ∧ a.1 21 i = 1) ∧ (∀ i, i < 40 → a.1 23 i = 0) ∧ ∀ i, i < 36 → a.1 13 i = if i % 7 = 0 then 0 else -2
section
variable {S : sm_C} {d : Nat} {Φ : sm_Z → Prop} {I : sm_I} {L : sm_L} {R : sm_R} {l s : Nat}
theorem rL_0 {K : Nat → Int32} {V W : Nat → Int64} {a : sg} (hs : s ≤ 1) (ha : ini a) (h20 : I 107 20 = 0) (hz : ∀ p, p = 118 ∨ p = 119 ∨ p = 120 ∨ p = 122 ∨ p = 125 ∨ p = 134 ∨ p = 136 → I p s = 0) (h121 : ∀ i, i < 36 → I 121 (36 * s + i) = if i % 7 = 0 then 0 else -1) (h135 : ∀ i, i < 10 → I 135 (10 * s + i) = -1) : rL K V W s 0 a I L := by
  obtain ⟨a1, a2, a3, a4, a5, a6⟩ := ha
  have c0 : cntm I = 0 := by unfold cntm; rw [h20]; decide
  refine ⟨⟨by rw [a1, h20], ?_⟩, ?_, fun i hi => ?_, ⟨fun i hi => Or.inl ⟨h135 i hi, (a4 i hi).2.2.1⟩, fun k hk => ?_⟩, fun i hi => ?_, ⟨fun i hi => ⟨fun q => ?_, fun _ => ⟨(a4 i hi).2.2.2, fun q hq => a5 _ (by omega)⟩⟩, ?_⟩, fun q hq hq2 => ?_, fun i hi => ?_⟩
  · rw [c0]; exact ⟨fun _ => 0, fun i hi => absurd hi (Nat.not_lt_zero i)⟩
  · exact ⟨by rw [a2 0 (by decide), hz 118 (by omega)], by rw [a2 1 (by decide), hz 119 (by omega)], by rw [a2 2 (by decide), hz 122 (by omega)], by rw [a2 3 (by decide), hz 125 (by omega)], by rw [a2 4 (by decide), hz 136 (by omega)]⟩
  · rw [hz 122 (by omega), kl_0]
    exact ⟨fun q => by omega, fun _ => ⟨(a4 i hi).1, (a4 i hi).2.1⟩⟩
  · rw [hz 134 (by omega), kl_0] at hk; omega
  · rw [h121 i hi, a6 i hi]
    by_cases c : i % 7 = 0
    · rw [if_pos c, if_pos c]; exact Or.inr ⟨by decide, rfl⟩
    · rw [if_neg c, if_neg c]; exact Or.inl ⟨rfl, rfl⟩
  · rw [hz 125 (by omega), kl_0] at q; omega
  · rw [a3, hz 125 (by omega)]; rfl
  · rw [hz 136 (by omega), kl_0] at hq2; omega
  · rw [c0] at hi; exact absurd hi (Nat.not_lt_zero i)
variable {K : Nat → Int32} {P : Nat → Nat} {V W : Nat → Int64} {N : Nat → Int32} {c : Nat} {a0 : sg}
theorem y_read11 {I0 : sm_I} (hT : TS K P V W N c) (hls : ml_ls l s) (ha : ini a0) (hΦ : ∀ (r : Int32) (J : sm_I) (L' : sm_L) (R' : sm_R), RDx P (SY K 501 0 0 gc0) (ME K V 501 0 0 a0) r J → LVx l I0 r J → Φ (some (.int r), (xLay, J, L', kM R'))) : ∀ (k : Nat) (I : sm_I) (x1 : Int32) (i : Nat), x1.toInt = i → i + k = 10 → ml_TI l s I → lvf l I0 I → en_mem ml_tb mlX (xLay, I, L, R) → tx K P W N c I L → I 107 11 = 0 → I 107 13 = 0 → I 107 15 = 0 → I 107 20 = 0 → (∀ p, p = 118 ∨ p = 119 ∨ p = 120 ∨ p = 122 ∨ p = 125 ∨ p = 134 ∨ p = 136 → I p s = 0) → (∀ j, j < 36 → I 121 (36 * s + j) = if j % 7 = 0 then 0 else -1) → (∀ j, j < i → I 135 (10 * s + j) = -1) → sm_wp sm_P S (d + 8) 182 11 [.ref 107, .int x1] [] (xLay, I, L, kM R) (0, 0) Φ := by
  obtain ⟨hl, hs⟩ := ml_l1 hls
  have c10 : (10 : Int32).toInt = 10 := by decide
  intro k
  induction k with
  | zero =>
    intro I x1 i hx hk hI hv hm ht z11 z13 z15 z20 hz h121 h135
    refine u_X12_read_11 ⟨fun _ => ?_, fun q => ?_⟩
    · refine x_read13 hT hls hΦ 501 I L (some (0, 0, gc0)) (some a0) hI hv hm ⟨⟨ht, by rw [z11]; decide, by rw [z11]; decide, z13, by rw [z11]; rfl, Nat.zero_le _, rfl, fun q => absurd rfl q⟩, fun _ => ⟨z15, rfl⟩⟩ (Or.inr ⟨0, gc0, rfl, ?_, fun a ea => ?_, by omega⟩)
      · refine ⟨?_, ?_, ?_, ?_, ?_, ?_, ?_⟩
        · rw [hz 118 (by omega)]; rfl
        · rw [hz 119 (by omega)]; rfl
        · rw [hz 120 (by omega)]; rfl
        · rw [hz 122 (by omega)]; rfl
        · rw [hz 125 (by omega)]; rfl
        · rw [hz 134 (by omega)]; rfl
        · rw [hz 136 (by omega)]; rfl
      · have e := Option.some.inj ea
        subst e
        exact rL_0 hs ha z20 hz h121 (fun j hj => h135 j (by omega))
    · have := kl_nle q
      omega
  | succ k ih =>
    intro I x1 i hx hk hI hv hm ht z11 z13 z15 z20 hz h121 h135
    have s1 := ml_in1 (x := x1) (by omega)
    refine u_X12_read_11 ⟨fun q => ?_, fun _ n1 e1 => ?_⟩
    · have := kl_le.mp q
      omega
    · have q1 : ((10 : Int32) * (I 107 19)).toInt = 10 * (s : Int) := ml_mu (by decide) hI.2.1 (by omega) (by omega)
      have q2 : n1.toInt = ((10 * s + i : Nat) : Int) := by rw [e1, ml_ad q1 rfl (by omega) (by omega)]; omega
      have n1n := tk_nat q2
      refine ⟨kl_in (by omega) (by omega), fun I2 e2 => ?_⟩
      have w := ml_w0 (L := L) (R := R) (l := l) (p := 135) (j := n1.toNatClampNeg) (x := -1) (n := 20) (q := (-1, 247)) hl hI.1 (by unfold ml_D0 ml_hm; unfold ml_ls at hls; omega) hm rfl (by decide)
      rw [← e2] at w
      have o2 : ∀ p j, p ≠ 135 → I2 p j = I p j := fun p j hp => by rw [e2, en_up_ne _ _ _ _ (by omega)]
      refine ih I2 _ (i + 1) (by omega) (by omega) (ml_TI_0 hls hm w.2 hI) (fun p j h => by rw [e2, en_up_ne _ _ _ _ (by unfold ml_hl ml_hm at h; unfold ml_ls at hls; omega)]; exact hv p j h) w.1 (tx_fr ht (fun p j _ _ => o2 p j (by omega))) (by rw [o2 _ _ (by decide)]; exact z11) (by rw [o2 _ _ (by decide)]; exact z13) (by rw [o2 _ _ (by decide)]; exact z15) (by rw [o2 _ _ (by decide)]; exact z20) (fun p hp => by rw [o2 p s (by omega)]; exact hz p hp) (fun j hj => by rw [o2 _ _ (by decide)]; exact h121 j hj) (fun j hj => ?_)
      by_cases cj : j = i
      · rw [cj, e2, n1n, en_up_eq]
      · rw [e2, n1n, en_up_ne _ _ _ _ (by omega)]; exact h135 j (by omega)
theorem y_read5 {I0 : sm_I} (hT : TS K P V W N c) (hls : ml_ls l s) (ha : ini a0) (hΦ : ∀ (r : Int32) (J : sm_I) (L' : sm_L) (R' : sm_R), RDx P (SY K 501 0 0 gc0) (ME K V 501 0 0 a0) r J → LVx l I0 r J → Φ (some (.int r), (xLay, J, L', kM R'))) : ∀ (k : Nat) (I : sm_I) (x1 : Int32) (i : Nat), x1.toInt = i → i + k = 36 → ml_TI l s I → lvf l I0 I → en_mem ml_tb mlX (xLay, I, L, R) → tx K P W N c I L → I 107 11 = 0 → I 107 13 = 0 → I 107 15 = 0 → I 107 20 = 0 → (∀ p, p = 118 ∨ p = 119 ∨ p = 120 ∨ p = 122 ∨ p = 125 ∨ p = 134 ∨ p = 136 → I p s = 0) → (∀ j, j < i → I 121 (36 * s + j) = if j % 7 = 0 then 0 else -1) → sm_wp sm_P S (d + 8) 182 5 [.ref 107, .int x1] [] (xLay, I, L, kM R) (0, 0) Φ := by
  obtain ⟨hl, hs⟩ := ml_l1 hls
  have c36 : (36 : Int32).toInt = 36 := by decide
  intro k
  induction k with
  | zero =>
    intro I x1 i hx hk hI hv hm ht z11 z13 z15 z20 hz h121
    refine u_X12_read_5 ⟨fun _ => y_read11 hT hls ha hΦ 10 I 0 0 (by decide) (by decide) hI hv hm ht z11 z13 z15 z20 hz (fun j hj => h121 j (by omega)) (fun j hj => absurd hj (Nat.not_lt_zero j)), fun q => ?_⟩
    have := kl_nle q
    omega
  | succ k ih =>
    intro I x1 i hx hk hI hv hm ht z11 z13 z15 z20 hz h121
    have s1 := ml_in1 (x := x1) (by omega)
    have ex : x1 = Int32.ofNat i := en_ofI (by rw [hx, Int32.toInt_ofNat_of_lt (by omega)])
    have w : ∀ v : Int32, v = (if i % 7 = 0 then 0 else -1) → ∀ n3 : Int32, n3 = (((36 : Int32) * (I 107 19)) + x1) → (vp_in n3 72) ∧ ∀ I4 : sm_I, I4 = (sm_up I 121 n3.toNatClampNeg v) → sm_wp sm_P S (d + 8) 182 5 [.ref 107, .int (x1 + (1 : Int32))] [] (xLay, I4, L, (kM R)) (0, 0) Φ := by
      intro v ev n3 e3
      have q1 : ((36 : Int32) * (I 107 19)).toInt = 36 * (s : Int) := ml_mu (by decide) hI.2.1 (by omega) (by omega)
      have q2 : n3.toInt = ((36 * s + i : Nat) : Int) := by rw [e3, ml_ad q1 rfl (by omega) (by omega)]; omega
      have n3n := tk_nat q2
      refine ⟨kl_in (by omega) (by omega), fun I2 e2 => ?_⟩
      have w := ml_w0 (L := L) (R := R) (l := l) (p := 121) (j := n3.toNatClampNeg) (x := v) (n := 72) (q := (-2147483648, 2147483647)) hl hI.1 (by unfold ml_D0 ml_hm; unfold ml_ls at hls; omega) hm rfl en_crange
      rw [← e2] at w
      have o2 : ∀ p j, p ≠ 121 → I2 p j = I p j := fun p j hp => by rw [e2, en_up_ne _ _ _ _ (by omega)]
      refine ih I2 _ (i + 1) (by omega) (by omega) (ml_TI_0 hls hm w.2 hI) (fun p j h => by rw [e2, en_up_ne _ _ _ _ (by unfold ml_hl ml_hm at h; unfold ml_ls at hls; omega)]; exact hv p j h) w.1 (tx_fr ht (fun p j _ _ => o2 p j (by omega))) (by rw [o2 _ _ (by decide)]; exact z11) (by rw [o2 _ _ (by decide)]; exact z13) (by rw [o2 _ _ (by decide)]; exact z15) (by rw [o2 _ _ (by decide)]; exact z20) (fun p hp => by rw [o2 p s (by omega)]; exact hz p hp) (fun j hj => ?_)
      by_cases cj : j = i
      · rw [cj, e2, n3n, en_up_eq]; exact ev
      · rw [e2, n3n, en_up_ne _ _ _ _ (by omega)]; exact h121 j (by omega)
    refine u_X12_read_5 ⟨fun q => ?_, fun _ => ⟨by decide, fun q => w 0 ?_, fun q => w (-1) ?_⟩⟩
    · have := kl_le.mp q
      omega
    · rw [ex, w7 i (by omega)] at q
      rw [if_pos q]
    · rw [ex, w7 i (by omega)] at q
      rw [if_neg q]
/-- the text is taken off the tape -/
theorem y_read1 {I0 : sm_I} {l0 : Nat} {b : Nat → Int32} {n : Nat} (n2 : n ≤ 2000) (ha : ini a0) (hΦ : ∀ (r : Int32) (J : sm_I) (L' : sm_L) (R' : sm_R), RDx (tk_at b n) (SY (tk_K b n) 501 0 0 gc0) (ME (tk_K b n) (fun i => tk_vl b n (tk_at b n i)) 501 0 0 a0) r J → LVx l0 I0 r J → Φ (some (.int r), (xLay, J, L', kM R'))) : ∀ (k : Nat) (I : sm_I) (x1 : Int32) (i : Nat), x1.toInt = i → i + k = n → en_mem ml_tb mlX (xLay, I, L, R) → (I 107 18).toInt = l0 → lvf l0 I0 I → (I 107 4).toInt = n → (∀ j, j < n → I 108 j = b j) → (∀ j, j < i → I 109 j = b j) → sm_wp sm_P S (d + 8) 182 1 [.ref 107, .int x1] [] (xLay, I, L, kM R) (0, 0) Φ := by
  intro k
  induction k with
  | zero =>
    intro I x1 i hx hk hm h18 hv h4 h108 h109
    have m0 : en_mem ml_tb mlX (xLay, sm_up I 107 2 0, L, R) := ml_wf hm (by decide +kernel) (q := (0, 2000)) (by decide +kernel) (by decide)
    have pk : pk_ok L := hm.2.2.2.2.2.2.2.2.2
    have e109 : ∀ j, sm_up I 107 2 0 109 j = I 109 j := fun j => en_up_ne _ _ _ _ (by omega)
    have e4 : (sm_up I 107 2 0 107 4).toInt = n := by rw [en_up_ne _ _ _ _ (by omega)]; exact h4
    have hB : mt_B (sm_up I 107 2 0 109) := fun j hj => by
      rw [e109]
      exact ml_row hm (p := 109) (n := 2000) (q := (-128, 127)) (fun _ => rfl) j hj
    have hbb : ∀ j, j < n → sm_up I 107 2 0 109 j = b j := fun j hj => by rw [e109]; exact h109 j (by omega)
    have A : sm_wp sm_P S (d + 7) 119 0 [.ref 107] [] (xLay, sm_up I 107 2 0, L, kM R) (0, 0) (fun z => ∃ (J : sm_I) (L' : sm_L), z = (none, (xLay, J, L', kM R)) ∧ en_mem ml_tb mlX (xLay, J, L', R)) := mx_cut m0 (fun J L' mJ _ => ⟨J, L', rfl, mJ⟩)
    have B : sm_wp sm_P S (d + 7) 119 0 [.ref 107] [] (xLay, sm_up I 107 2 0, L, kM R) (0, 0) (fun z => ∃ (J : sm_I) (L' : sm_L), z = (none, (xLay, J, L', kM R)) ∧ ∃ c, c ≤ 501 ∧ mt_rows (sm_up I 107 2 0 109) n c J L' ∧ mt_fin (sm_up I 107 2 0 109) n c J ∧ ∀ p j, (p = 107 ∧ j = 18) ∨ (118 ≤ p ∧ p ≤ 136) ∨ 137 ≤ p ∨ (p = 107 ∧ 46 ≤ j) → J p j = sm_up I 107 2 0 p j) := mt_cut pk hB e4 n2 (fun c J K c5 hr hf fr => ⟨J, K, rfl, c, c5, hr, hf, fun p j q => fr.1 p j (by omega) (by omega) (by omega) (by omega)⟩)
    refine u_X12_read_1 ⟨fun _ => sm_wp_mono (sm_wp_and A B) (fun zz hz => ?_), fun q => ?_⟩
    · obtain ⟨⟨I1, L1, ez, m1⟩, J2, L2, ez2, c, c5, hr, hf, fc⟩ := hz
      have e1 := ez.symm.trans ez2
      have eJ : I1 = J2 := congrArg (fun q : sm_Z => q.2.2.1) e1
      have eL : L1 = L2 := congrArg (fun q : sm_Z => q.2.2.2.1) e1
      subst eJ
      subst eL
      refine ⟨I1, L1, R, ez, fun I5 e5 I6 e6 I7 e7 I8 e8 I9 e9 => ?_⟩
      -- the stream
      obtain ⟨b', eb'⟩ : ∃ b', b' = sm_up I 107 2 0 109 := ⟨_, rfl⟩
      rw [← eb'] at hr hf hbb
      have hat : ∀ i, i < c → tk_at b' n i < n := fun i hi => (hr i hi).1
      have hend : c ≤ 500 → tk_at b' n c = n := fun q => by
        rcases hf with f | f
        · omega
        · exact f.2.2.1
      have hT := TS_of c5 hat hend
      have hK := mt_K hr hf
      have tx1 : tx (tk_K b' n) (tk_at b' n) (fun i => mt_nm b' n (tk_at b' n i)) (fun i => mt_vl b' n (tk_at b' n i)) c I1 L1 := ⟨fun i hi h5 => hK i hi h5, fun i hi h5 => ⟨(hr i hi).2.2.2.1, (hr i hi).2.2.2.2⟩⟩
      have eK : tk_K b' n = tk_K b n := funext (tk_K_cg hbb)
      have eP : tk_at b' n = tk_at b n := funext (tk_at_cg hbb)
      have eM : ME (tk_K b' n) (fun i => tk_vl b' n (tk_at b' n i)) 501 0 0 a0 = ME (tk_K b n) (fun i => tk_vl b n (tk_at b n i)) 501 0 0 a0 := ME_cg (tk_K_cg hbb) (fun i q => by
        have lt : tk_at b' n i < n := by
          rcases Nat.lt_or_ge (tk_at b' n i) n with y | y
          · exact y
          · exact absurd (tk_K_21.mpr y) q
        show tk_vl b' n (tk_at b' n i) = tk_vl b n (tk_at b n i)
        rw [← tk_at_cg hbb, tk_vl_cg hbb lt]) 501 0 0 a0
      rw [← eM, ← eK, ← eP] at hΦ
      clear eM eK eP A B
      -- from here on as the contract has it
      have m5 : en_mem ml_tb mlX (xLay, I5, L1, R) := by rw [e5]; exact ml_wf m1 (by decide +kernel) (q := (0, 500)) (by decide +kernel) (by decide)
      have m6 : en_mem ml_tb mlX (xLay, I6, L1, R) := by rw [e6]; exact ml_wf m5 (by decide +kernel) (q := (0, 5)) (by decide +kernel) (by decide)
      have m7 : en_mem ml_tb mlX (xLay, I7, L1, R) := by rw [e7]; exact ml_wf m6 (by decide +kernel) (q := (0, 5)) (by decide +kernel) (by decide)
      obtain ⟨b0, l1, ln, lc⟩ := ml_live m7
      have b0 : 0 ≤ (I7 107 18).toInt := b0
      have l1 : (I7 107 18).toInt ≤ 1 := l1
      have s19 : ((1 : Int32) - I7 107 18).toInt = 1 - (I7 107 18).toInt := by
        rw [Int32.toInt_sub, kl_1]; exact en_bmod (by omega) (by omega) (Or.inl rfl)
      have m8 : en_mem ml_tb mlX (xLay, I8, L1, R) := by rw [e8]; exact ml_wf m7 (by decide +kernel) (q := (0, 1)) (by decide +kernel) (by show 0 ≤ _ ∧ _ ≤ (1 : Int); omega)
      have m9 : en_mem ml_tb mlX (xLay, I9, L1, R) := by rw [e9]; exact ml_wf m8 (by decide +kernel) (q := (0, 50)) (by decide +kernel) (by decide)
      have f9 : en_fr ml_RW (xLay, I9, L1, R) (xLay, I9, L1, R) := en_fr_rf
      have g19 : (I9 107 19).toInt = 1 - (I7 107 18).toInt := by rw [e9, en_up_ne _ _ _ _ (by omega), e8, en_up_eq]; exact s19
      have g18 : (I9 107 18).toInt = (I7 107 18).toInt := by rw [e9, en_up_ne _ _ _ _ (by omega), e8, en_up_ne _ _ _ _ (by omega)]
      have y11 : I9 107 11 = 0 := by rw [e9, en_up_ne _ _ _ _ (by omega), e8, en_up_ne _ _ _ _ (by omega), e7, en_up_ne _ _ _ _ (by omega), e6, en_up_ne _ _ _ _ (by omega), e5, en_up_eq]
      have y13 : I9 107 13 = 0 := by rw [e9, en_up_ne _ _ _ _ (by omega), e8, en_up_ne _ _ _ _ (by omega), e7, en_up_ne _ _ _ _ (by omega), e6, en_up_eq]
      have y15 : I9 107 15 = 0 := by rw [e9, en_up_ne _ _ _ _ (by omega), e8, en_up_ne _ _ _ _ (by omega), e7, en_up_eq]
      have n20 : I9 107 20 = 0 := by rw [e9, en_up_eq]
      have tx9 := tx_fr tx1 (J := I9) (fun p j _ _ => by rw [e9, en_up_ne _ _ _ _ (by omega), e8, en_up_ne _ _ _ _ (by omega), e7, en_up_ne _ _ _ _ (by omega), e6, en_up_ne _ _ _ _ (by omega), e5, en_up_ne _ _ _ _ (by omega)])
      obtain ⟨l, s, hls, hl, hs⟩ : ∃ l s : Nat, ml_ls l s ∧ (I9 107 18).toInt = l ∧ (I9 107 19).toInt = s := by
        rcases (by omega : (I7 107 18).toInt = 0 ∨ (I7 107 18).toInt = 1) with c | c
        · exact ⟨0, 1, Or.inl ⟨rfl, rfl⟩, by rw [g18, c]; rfl, by rw [g19, c]; rfl⟩
        · exact ⟨1, 0, Or.inr ⟨rfl, rfl⟩, by rw [g18, c]; rfl, by rw [g19, c]; rfl⟩
      have ns := kl_nat (i := I9 107 19) (by omega)
      have sn : (I9 107 19).toNatClampNeg = s := by omega
      have sv : vp_in (I9 107 19) 2 := kl_in (by omega) (by omega)
      have o9 : ∀ p j, (p = 107 ∧ j = 18) ∨ (118 ≤ p ∧ p ≤ 136) ∨ 137 ≤ p ∨ (p = 107 ∧ 46 ≤ j) → I9 p j = I p j := fun p j q => by
        rw [e9, en_up_ne _ _ _ _ (by omega), e8, en_up_ne _ _ _ _ (by omega), e7, en_up_ne _ _ _ _ (by omega), e6, en_up_ne _ _ _ _ (by omega), e5, en_up_ne _ _ _ _ (by omega), fc p j q, en_up_ne _ _ _ _ (by omega)]
      have el : l0 = l := by
        have := o9 107 18 (Or.inl ⟨rfl, rfl⟩)
        rw [this] at hl
        omega
      subst el
      clear s19 g18 g19 b0 l1 ln lc m5 m6 m7 m8 e5 e6 e7 e8 e9
      have st : ∀ (J : sm_I), (∀ p j, ¬ ((p = 118 ∨ p = 119 ∨ p = 120 ∨ p = 122 ∨ p = 125 ∨ p = 134 ∨ p = 136) ∧ j = s) → J p j = I9 p j) → J 107 19 = I9 107 19 ∧ (J 107 18).toInt = l0 := fun J o => ⟨o 107 19 (by omega), by rw [o 107 18 (by omega)]; exact hl⟩
      refine ⟨sv, fun I10 e10 => ?_⟩
      rw [sn] at e10
      have o10 : ∀ p j, ¬ ((p = 118 ∨ p = 119 ∨ p = 120 ∨ p = 122 ∨ p = 125 ∨ p = 134 ∨ p = 136) ∧ j = s) → I10 p j = I9 p j := fun p j hp => by rw [e10, en_up_ne _ _ _ _ (by omega)]
      have k10 := ml_z0 (p := 118) hls hl (by omega) m9 f9
      rw [← e10] at k10
      rw [(st I10 o10).1]
      refine ⟨sv, fun I11 e11 => ?_⟩
      rw [sn] at e11
      have o11 : ∀ p j, ¬ ((p = 118 ∨ p = 119 ∨ p = 120 ∨ p = 122 ∨ p = 125 ∨ p = 134 ∨ p = 136) ∧ j = s) → I11 p j = I9 p j := fun p j hp => by rw [e11, en_up_ne _ _ _ _ (by omega), o10 p j hp]
      have k11 := ml_z0 (p := 119) hls (st I10 o10).2 (by omega) k10.1 k10.2
      rw [← e11] at k11
      rw [(st I11 o11).1]
      refine ⟨sv, fun I12 e12 => ?_⟩
      rw [sn] at e12
      have o12 : ∀ p j, ¬ ((p = 118 ∨ p = 119 ∨ p = 120 ∨ p = 122 ∨ p = 125 ∨ p = 134 ∨ p = 136) ∧ j = s) → I12 p j = I9 p j := fun p j hp => by rw [e12, en_up_ne _ _ _ _ (by omega), o11 p j hp]
      have k12 := ml_z0 (p := 120) hls (st I11 o11).2 (by omega) k11.1 k11.2
      rw [← e12] at k12
      rw [(st I12 o12).1]
      refine ⟨sv, fun I13 e13 => ?_⟩
      rw [sn] at e13
      have o13 : ∀ p j, ¬ ((p = 118 ∨ p = 119 ∨ p = 120 ∨ p = 122 ∨ p = 125 ∨ p = 134 ∨ p = 136) ∧ j = s) → I13 p j = I9 p j := fun p j hp => by rw [e13, en_up_ne _ _ _ _ (by omega), o12 p j hp]
      have k13 := ml_z0 (p := 122) hls (st I12 o12).2 (by omega) k12.1 k12.2
      rw [← e13] at k13
      rw [(st I13 o13).1]
      refine ⟨sv, fun I14 e14 => ?_⟩
      rw [sn] at e14
      have o14 : ∀ p j, ¬ ((p = 118 ∨ p = 119 ∨ p = 120 ∨ p = 122 ∨ p = 125 ∨ p = 134 ∨ p = 136) ∧ j = s) → I14 p j = I9 p j := fun p j hp => by rw [e14, en_up_ne _ _ _ _ (by omega), o13 p j hp]
      have k14 := ml_z0 (p := 125) hls (st I13 o13).2 (by omega) k13.1 k13.2
      rw [← e14] at k14
      rw [(st I14 o14).1]
      refine ⟨sv, fun I15 e15 => ?_⟩
      rw [sn] at e15
      have o15 : ∀ p j, ¬ ((p = 118 ∨ p = 119 ∨ p = 120 ∨ p = 122 ∨ p = 125 ∨ p = 134 ∨ p = 136) ∧ j = s) → I15 p j = I9 p j := fun p j hp => by rw [e15, en_up_ne _ _ _ _ (by omega), o14 p j hp]
      have k15 := ml_z0 (p := 134) hls (st I14 o14).2 (by omega) k14.1 k14.2
      rw [← e15] at k15
      rw [(st I15 o15).1]
      refine ⟨sv, fun I16 e16 => ?_⟩
      rw [sn] at e16
      have o16 : ∀ p j, ¬ ((p = 118 ∨ p = 119 ∨ p = 120 ∨ p = 122 ∨ p = 125 ∨ p = 134 ∨ p = 136) ∧ j = s) → I16 p j = I9 p j := fun p j hp => by rw [e16, en_up_ne _ _ _ _ (by omega), o15 p j hp]
      have k16 := ml_z0 (p := 136) hls (st I15 o15).2 (by omega) k15.1 k15.2
      rw [← e16] at k16
      have zz : ∀ p, p = 118 ∨ p = 119 ∨ p = 120 ∨ p = 122 ∨ p = 125 ∨ p = 134 ∨ p = 136 → I16 p s = 0 := fun p hp => by
        rcases hp with rfl | rfl | rfl | rfl | rfl | rfl | rfl
        · rw [e16, en_up_ne _ _ _ _ (by omega), e15, en_up_ne _ _ _ _ (by omega), e14, en_up_ne _ _ _ _ (by omega), e13, en_up_ne _ _ _ _ (by omega), e12, en_up_ne _ _ _ _ (by omega), e11, en_up_ne _ _ _ _ (by omega), e10, en_up_eq]
        · rw [e16, en_up_ne _ _ _ _ (by omega), e15, en_up_ne _ _ _ _ (by omega), e14, en_up_ne _ _ _ _ (by omega), e13, en_up_ne _ _ _ _ (by omega), e12, en_up_ne _ _ _ _ (by omega), e11, en_up_eq]
        · rw [e16, en_up_ne _ _ _ _ (by omega), e15, en_up_ne _ _ _ _ (by omega), e14, en_up_ne _ _ _ _ (by omega), e13, en_up_ne _ _ _ _ (by omega), e12, en_up_eq]
        · rw [e16, en_up_ne _ _ _ _ (by omega), e15, en_up_ne _ _ _ _ (by omega), e14, en_up_ne _ _ _ _ (by omega), e13, en_up_eq]
        · rw [e16, en_up_ne _ _ _ _ (by omega), e15, en_up_ne _ _ _ _ (by omega), e14, en_up_eq]
        · rw [e16, en_up_ne _ _ _ _ (by omega), e15, en_up_eq]
        · rw [e16, en_up_eq]
      have T16 : ml_TI l0 s I16 := by
        have bq := ml_cs (ml_l1 hls).2 k16.1
        refine ⟨(st I16 o16).2, by rw [(st I16 o16).1]; exact hs, ?_, fun _ => ⟨fun i hi => ?_, fun k c i hk => ?_⟩⟩
        · rw [o16 107 20 (by omega), n20, kl_0]
          unfold ml_sum
          omega
        · rw [zz 122 (by omega), kl_0] at hi; omega
        · rw [zz 125 (by omega), kl_0] at hk; omega
      exact y_read5 hT hls ha hΦ 36 I16 0 0 (by decide) (by decide) T16 (fun p j q => by
        have q2 := lv_p q
        rw [o16 p j (by unfold ml_hl ml_hm at q; unfold ml_ls at hls; omega), o9 p j (Or.inr q2)]
        exact hv p j q) k16.1 (tx_fr tx9 (fun p j _ _ => o16 p j (by omega))) (by rw [o16 _ _ (by omega)]; exact y11) (by rw [o16 _ _ (by omega)]; exact y13) (by rw [o16 _ _ (by omega)]; exact y15) (by rw [o16 _ _ (by omega)]; exact n20) zz (fun j hj => absurd hj (Nat.not_lt_zero j))
    · have := kl_nle q
      omega
  | succ k ih =>
    intro I x1 i hx hk hm h18 hv h4 h108 h109
    have s1 := ml_in1 (x := x1) (by omega)
    have nx := tk_nat hx
    refine u_X12_read_1 ⟨fun q => ?_, fun _ => ⟨kl_in (by omega) (by omega), kl_in (by omega) (by omega), fun I18 e18 => ?_⟩⟩
    · have := kl_le.mp q
      omega
    · have bb : -128 ≤ (I 108 i).toInt ∧ (I 108 i).toInt ≤ 127 := ml_row hm (p := 108) (n := 2000) (q := (-128, 127)) (fun _ => rfl) i (by omega)
      rw [nx, nar_e bb.1 bb.2] at e18
      have o18 : ∀ p j, ¬ (p = 109 ∧ j = i) → I18 p j = I p j := fun p j hp => by rw [e18, en_up_ne _ _ _ _ hp]
      refine ih I18 _ (i + 1) (by omega) (by omega) ?_ (by rw [o18 _ _ (by omega)]; exact h18) (fun p j q => by
        have q2 := lv_p q
        rw [o18 _ _ (by omega)]; exact hv p j q) (by rw [o18 _ _ (by omega)]; exact h4) (fun j hj => by rw [o18 _ _ (by omega)]; exact h108 j hj) (fun j hj => ?_)
      · rw [e18]
        exact ml_we2 hm rfl (n := 2000) (q := (-128, 127)) rfl bb
      · by_cases cj : j = i
        · rw [cj, e18, en_up_eq]; exact h108 i (by omega)
        · rw [o18 _ _ (by omega)]; exact h109 j (by omega)
theorem y_read {l0 : Nat} {b : Nat → Int32} {n : Nat} (h18 : (I 107 18).toInt = l0) (hn : (I 107 2).toInt = n) (hm : en_mem ml_tb mlX (xLay, I, L, R)) (hb : ∀ j, j < n → I 108 j = b j) (ha : ini a0) (hΦ : ∀ (r : Int32) (J : sm_I) (L' : sm_L) (R' : sm_R), RDx (tk_at b n) (SY (tk_K b n) 501 0 0 gc0) (ME (tk_K b n) (fun i => tk_vl b n (tk_at b n i)) 501 0 0 a0) r J → LVx l0 I r J → Φ (some (.int r), (xLay, J, L', kM R'))) : sm_wp sm_P S (d + 8) 182 0 [.ref 107] [] (xLay, I, L, kM R) (0, 0) Φ := by
  have bq : 0 ≤ (I 107 2).toInt ∧ (I 107 2).toInt ≤ 2000 := ml_taped hm
  refine u_X12_read_0 (y_read1 (by omega) ha hΦ n _ 0 0 (by decide) (by omega) (ml_wf hm (by decide +kernel) (q := (0, 2000)) (by decide +kernel) bq) (by rw [en_up_ne _ _ _ _ (by omega)]; exact h18) (fun p j q => by
    have q2 := lv_p q
    rw [en_up_ne _ _ _ _ (by omega)]) (by rw [en_up_eq]; exact hn) (fun j hj => by rw [en_up_ne _ _ _ _ (by omega)]; exact hb j hj) (fun j hj => absurd hj (Nat.not_lt_zero j)))
end
end
section
/-! the ways of a text are both ways, between PLACES that are told -/
theorem st_3 : ∀ i, i < 46 → sm_steps.getD (3 * i + 2) 0 = 3 → sm_steps.getD (3 * i) 0 = 0 ∧ sm_steps.getD (3 * i + 1) 0 = 2 := by decide +kernel
theorem st_4 : ∀ i, i < 46 → sm_steps.getD (3 * i + 2) 0 = 4 → sm_steps.getD (3 * i) 0 = 3 := by decide +kernel
theorem st_5 : ∀ i, i < 46 → sm_steps.getD (3 * i + 2) 0 = 5 → sm_steps.getD (3 * i) 0 = 4 ∨ sm_steps.getD (3 * i) 0 = 30 := by decide +kernel
theorem st_o : ∀ i, i < 46 → (sm_steps.getD (3 * i + 2) 0 = 27 → sm_steps.getD (3 * i) 0 = 0 ∧ sm_steps.getD (3 * i + 1) 0 = 10) ∧ (sm_steps.getD (3 * i + 2) 0 = 28 → sm_steps.getD (3 * i) 0 = 27) ∧ (sm_steps.getD (3 * i + 2) 0 = 29 → sm_steps.getD (3 * i) 0 = 28) ∧ (sm_steps.getD (3 * i + 2) 0 = 30 → sm_steps.getD (3 * i) 0 = 29) := by decide +kernel
theorem fw_f {s k x : Int32} (h : fw s k = x) (hx : x ≠ -1) : ∃ i, i < 46 ∧ sm_steps.getD (3 * i) 0 = s ∧ sm_steps.getD (3 * i + 1) 0 = k ∧ sm_steps.getD (3 * i + 2) 0 = x := by
  obtain ⟨i, h1, h2, h3, h4⟩ := fw_mem (s := s) (k := k) (by rw [h]; exact hx)
  exact ⟨i, h1, h2, h3, h4.symm.trans h⟩
/-- what a step that tells no way and no name leaves as it is -/
def cor (a b : sg) : Prop := (∀ j, b.1 10 j = a.1 10 j) ∧ (∀ j, b.1 11 j = a.1 11 j) ∧ (∀ j, b.1 13 j = a.1 13 j) ∧ b.1 2 5 = a.1 2 5 ∧ b.1 2 7 = a.1 2 7 ∧ b.1 12 1 = a.1 12 1 ∧ b.2 = a.2
theorem cor_rf {a : sg} : cor a a := ⟨fun _ => rfl, fun _ => rfl, fun _ => rfl, rfl, rfl, rfl, rfl⟩
theorem cor_u2 {a0 a : sg} {c j : Nat} {v : Int32} (g : cor a0 a) (h : c ≠ 10 ∧ c ≠ 11 ∧ c ≠ 13 ∧ ¬ (c = 2 ∧ (j = 5 ∨ j = 7)) ∧ ¬ (c = 12 ∧ j = 1)) : cor a0 (u2 a c j v) := by
  obtain ⟨g1, g2, g3, g4, g5, g6, g7⟩ := g
  exact ⟨fun i => by rw [u2_ne _ _ _ _ (by omega)]; exact g1 i, fun i => by rw [u2_ne _ _ _ _ (by omega)]; exact g2 i, fun i => by rw [u2_ne _ _ _ _ (by omega)]; exact g3 i, by rw [u2_ne _ _ _ _ (by omega)]; exact g4, by rw [u2_ne _ _ _ _ (by omega)]; exact g5, by rw [u2_ne _ _ _ _ (by omega)]; exact g6, g7⟩
theorem cor_pl {a : sg} {c : Nat} {r : Int32} (h : c = 14 ∨ c = 15) : cor a (pl_last c r a) := by
  unfold pl_last
  split
  · exact cor_rf
  · split
    · exact cor_rf
    · exact cor_u2 cor_rf (by omega)
theorem cor_p6 {a0 a : sg} {q : Int32} (g : cor a0 a) : cor a0 (ad_pt6 q a) := by
  unfold ad_pt6
  split
  · exact g
  · split
    · exact g
    · split
      · exact g
      · exact cor_u2 g (by omega)
theorem cor_part {a : sg} {b : Bool} : cor a (ad_part b a) := by
  unfold ad_part
  split
  · exact cor_rf
  · split
    · split
      · split
        · exact cor_p6 cor_rf
        · exact cor_p6 (cor_u2 cor_rf (by omega))
      · exact cor_p6 cor_rf
    · exact cor_rf
theorem cor_tr {a : sg} {v : Int32} : cor a (tr_last v a) := by
  unfold tr_last
  split
  · exact cor_rf
  · split
    · exact cor_rf
    · exact cor_u2 cor_rf (by omega)
theorem cor_spb {a : sg} {c n : Nat} {row x y lo hi : Int32} (h : c = 16 ∨ c = 24 ∨ c = 29) : cor a (spb c n row x y lo hi a) := by
  unfold spb
  split
  · exact cor_rf
  · split
    · exact cor_rf
    · exact cor_u2 (cor_u2 (cor_u2 (cor_u2 cor_rf (by omega)) (by omega)) (by omega)) (by omega)
theorem cor_sp {a : sg} {v : Int32} : cor a (en_sp v a) := by
  unfold en_sp
  split
  · exact cor_spb (by omega)
  · exact cor_spb (by omega)
theorem cor_where {a : sg} {s : Int32} {nm : Int64} : cor a (tk_where s nm a).2 := by
  unfold tk_where
  split
  · split
    · exact cor_rf
    · exact cor_pl (by omega)
  · split
    · exact cor_rf
    · exact cor_pl (by omega)
theorem cor_open {a : sg} {s : Int32} {nm : Int64} : cor a (tk_open s nm a).2 := by
  unfold tk_open
  split
  · exact cor_rf
  · split
    · exact cor_u2 cor_rf (by omega)
    · exact cor_u2 cor_rf (by omega)
theorem cor_span {a : sg} {s : Int32} {nm : Int64} : cor a (tk_span s nm a).2 := by
  unfold tk_span
  split
  · exact cor_rf
  · split
    · exact cor_u2 (cor_u2 cor_rf (by omega)) (by omega)
    · exact cor_u2 cor_rf (by omega)
theorem cor_trust {a : sg} {v : Int32} : cor a (tk_trust v a).2 := by
  unfold tk_trust
  split
  · exact cor_rf
  · split
    · exact cor_tr
    · exact cor_rf
theorem cor_int {a : sg} {s k v : Int32} (h : s ≠ 5) : cor a (tk_int s k v a).2 := by
  unfold tk_int
  split
  · split
    · exact cor_sp
    · exact cor_u2 cor_rf (by omega)
  · exact cor_rf
/-- names of PLACES -/
def wn (a : sg) : Prop := (0 ≤ (a.1 12 1).toInt ∧ (a.1 12 1).toInt ≤ 6) ∧ (0 ≤ (a.1 2 5).toInt ∧ (a.1 2 5).toInt ≤ 35) ∧ ∀ i, i < cnt a.1 → a.1 10 i = 1 → 0 ≤ (a.1 11 i).toInt ∧ (a.1 11 i).toInt < (a.1 12 1).toInt
def pg (a : sg) (x : Int32) : Prop := 0 ≤ x.toInt ∧ x.toInt < (a.1 12 1).toInt
def ws (s : Int32) (a : sg) : Prop := (s = 3 ∨ s = 4 → a.1 2 7 = 2) ∧ (s = 27 ∨ s = 28 ∨ s = 29 ∨ s = 30 → a.1 2 7 = 10) ∧ (s = 4 → pg a (a.1 2 8)) ∧ (s = 5 → a.1 2 7 = 2 → pg a (a.1 2 8) ∧ pg a (a.1 2 9) ∧ a.1 2 8 ≠ a.1 2 9)
def WI (s : Int32) (a : sg) : Prop := wn a ∧ wt a ∧ ws s a
theorem wn_cor {a b : sg} (h : cor a b) (k : wn a) : wn b := by
  obtain ⟨h1, h2, h3, h4, h5, h6, -⟩ := h
  obtain ⟨k1, k2, k3⟩ := k
  refine ⟨by rw [h6]; exact k1, by rw [h4]; exact k2, fun i hi hk => ?_⟩
  unfold cnt at hi
  rw [h4] at hi
  rw [h1 i] at hk
  rw [h2 i, h6]
  exact k3 i hi hk
theorem wt_cor {a b : sg} (h : cor a b) (k : wt a) : wt b := by
  obtain ⟨-, -, h3, -, -, h6, -⟩ := h
  obtain ⟨k1, k2, k3, k4⟩ := k
  exact ⟨fun x y hx hy => by rw [h3, h3]; exact k1 x y hx hy, fun x hx => by rw [h3]; exact k2 x hx, fun x y hx hy n q => by rw [h6] at q; rw [h3]; exact k3 x y hx hy n q, fun i hi => by rw [h3]; exact k4 i hi⟩
theorem fnd_1 {a : sg} {nm : Int64} (h : wn a) : ∀ m i, i + m ≤ cnt a.1 → fnd a.1 a.2 nm 1 m i ≠ -1 → pg a (fnd a.1 a.2 nm 1 m i) := by
  intro m
  induction m with
  | zero => intro i _ hn; exact absurd rfl hn
  | succ m ih =>
    intro i hm hn
    have e : fnd a.1 a.2 nm 1 (m + 1) i = (if a.2 i = nm then (if a.1 10 i = 1 then a.1 11 i else fnd a.1 a.2 nm 1 m (i + 1)) else fnd a.1 a.2 nm 1 m (i + 1)) := rfl
    rw [e] at hn ⊢
    by_cases c1 : a.2 i = nm
    · rw [if_pos c1] at hn ⊢
      by_cases c2 : a.1 10 i = 1
      · rw [if_pos c2]
        exact h.2.2 i (by omega) c2
      · rw [if_neg c2] at hn ⊢
        exact ih (i + 1) (by omega) hn
    · rw [if_neg c1] at hn ⊢
      exact ih (i + 1) (by omega) hn
theorem fd_1 {a : sg} {nm : Int64} (h : wn a) (hn : fd a nm 1 ≠ -1) : pg a (fd a nm 1) := fnd_1 h (cnt a.1) 0 (by omega) hn
/-- a way -/
theorem wt_path {a : sg} {x y v : Int32} (h : wt a) (hn : wn a) (hx : pg a x) (hy : pg a y) (xy : x ≠ y) (v0 : 0 ≤ v.toInt) (v1 : v.toInt ≤ 1440) : wt (ad_path x y v a) ∧ wn (ad_path x y v a) ∧ (ad_path x y v a).1 2 7 = a.1 2 7 := by
  have c6 : (6 : Int32).toInt = 6 := by decide
  obtain ⟨x0, x1⟩ := hx
  obtain ⟨y0, y1⟩ := hy
  have p6 := hn.1
  obtain ⟨X, eX⟩ : ∃ X : Nat, x.toInt = X := ⟨x.toInt.toNat, by omega⟩
  obtain ⟨Y, eY⟩ : ∃ Y : Nat, y.toInt = Y := ⟨y.toInt.toNat, by omega⟩
  have XY : X ≠ Y := fun e => xy (en_ofI (by omega))
  have q1 : (x * (6 : Int32)).toInt = (X : Int) * 6 := ml_mu eX c6 (by omega) (by omega)
  have q2 : ((x * (6 : Int32)) + y).toInt = ((6 * X + Y : Nat) : Int) := (ml_ad q1 eY (by omega) (by omega)).trans (by omega)
  have q3 : (y * (6 : Int32)).toInt = (Y : Int) * 6 := ml_mu eY c6 (by omega) (by omega)
  have q4 : ((y * (6 : Int32)) + x).toInt = ((6 * Y + X : Nat) : Int) := (ml_ad q3 eX (by omega) (by omega)).trans (by omega)
  have w : wt (ad_w x y v a) ∧ wn (ad_w x y v a) ∧ (ad_w x y v a).1 2 7 = a.1 2 7 := by
    have e : ad_w x y v a = u2 (u2 a 13 (6 * X + Y) v) 13 (6 * Y + X) v := by
      unfold ad_w
      rw [tk_nat q2, tk_nat q4]
    rw [e]
    have g12 : (u2 (u2 a 13 (6 * X + Y) v) 13 (6 * Y + X) v).1 12 1 = a.1 12 1 := by rw [u2_ne _ _ _ _ (by omega), u2_ne _ _ _ _ (by omega)]
    have at_ : ∀ u t : Nat, u < 6 → t < 6 → (u2 (u2 a 13 (6 * X + Y) v) 13 (6 * Y + X) v).1 13 (6 * u + t) = if (u = X ∧ t = Y) ∨ (u = Y ∧ t = X) then v else a.1 13 (6 * u + t) := fun u t hu ht => by
      by_cases c1 : u = Y ∧ t = X
      · rw [if_pos (Or.inr c1), c1.1, c1.2, u2_eq]
      · rw [u2_ne _ _ _ _ (by omega)]
        by_cases c2 : u = X ∧ t = Y
        · rw [if_pos (Or.inl c2), c2.1, c2.2, u2_eq]
        · rw [u2_ne _ _ _ _ (by omega), if_neg (by omega)]
    refine ⟨⟨fun u t hu ht => ?_, fun u hu => ?_, fun u t hu ht n q => ?_, fun i hi => ?_⟩, ⟨by rw [g12]; exact hn.1, by rw [u2_ne _ _ _ _ (by omega), u2_ne _ _ _ _ (by omega)]; exact hn.2.1, fun i hi hk => ?_⟩, by rw [u2_ne _ _ _ _ (by omega), u2_ne _ _ _ _ (by omega)]⟩
    · rw [at_ u t hu ht, at_ t u ht hu, h.1 u t hu ht]
      by_cases c : (u = X ∧ t = Y) ∨ (u = Y ∧ t = X)
      · rw [if_pos c, if_pos (by omega)]
      · rw [if_neg c, if_neg (by omega)]
    · rw [show 7 * u = 6 * u + u by omega, at_ u u hu hu, if_neg (by omega), show 6 * u + u = 7 * u by omega]
      exact h.2.1 u hu
    · rw [g12] at q
      rw [at_ u t hu ht, if_neg (by omega)]
      exact h.2.2.1 u t hu ht n q
    · have e2 : i = 6 * (i / 6) + i % 6 := by omega
      rw [e2, at_ _ _ (by omega) (by omega)]
      split
      · exact Or.inr ⟨v0, v1⟩
      · exact h.2.2.2 _ (by omega)
    · unfold cnt at hi
      rw [u2_ne _ _ _ _ (by omega), u2_ne _ _ _ _ (by omega)] at hi hk
      rw [g12, u2_ne _ _ _ _ (by omega), u2_ne _ _ _ _ (by omega)]
      exact hn.2.2 i hi hk
  unfold ad_path
  split
  · exact ⟨h, hn, rfl⟩
  · split
    · exact ⟨h, hn, rfl⟩
    · split
      · exact ⟨h, hn, rfl⟩
      · split
        · split
          · exact w
          · split
            · exact ⟨h, hn, rfl⟩
            · exact w
        · exact ⟨h, hn, rfl⟩
/-- a new name -/
theorem mnn_i {n x : Int32} (h0 : 0 ≤ n.toInt) (hx0 : 0 ≤ x.toInt) (hx : x.toInt ≤ 1000) : (mnn n x).toInt = if n.toInt < x.toInt + 1 then n.toInt else x.toInt + 1 := by
  have s := ml_in1 (x := x) (by omega)
  unfold mnn
  by_cases c : n < x + 1
  · rw [if_pos c]
    have c := kl_lt.mp c
    rw [if_pos (by omega)]
  · rw [if_neg c]
    have c := kl_nlt c
    rw [if_neg (by omega)]; exact s
theorem wi_new {a : sg} {nm : Int64} (hn : wn a) (ht : wt a) (h35 : a.1 2 5 ≠ 35 ∨ True) : wn (tk_new nm a).2 ∧ wt (tk_new nm a).2 := by
  unfold tk_new
  split
  · exact ⟨hn, ht⟩
  · split
    · exact ⟨hn, ht⟩
    · next c2 =>
      have c2 := kl_nle c2
      rw [(by decide : (35 : Int32).toInt = 35)] at c2
      have n25 := kl_nat hn.2.1.1
      have s25 := ml_in1 (x := a.1 2 5) (by omega)
      show wn (nm_add nm a) ∧ wt (nm_add nm a)
      obtain ⟨b, eb⟩ : ∃ b : sg, b = (sm_up a.1 10 (cnt a.1) (nm_kd a), nmu a.2 (cnt a.1) nm) := ⟨_, rfl⟩
      have b10 : ∀ j, b.1 10 j = if j = cnt a.1 then nm_kd a else a.1 10 j := fun j => by
        rw [eb]
        show sm_up a.1 10 (cnt a.1) (nm_kd a) 10 j = _
        by_cases c : j = cnt a.1
        · rw [if_pos c, c, en_up_eq]
        · rw [if_neg c, en_up_ne _ _ _ _ (by omega)]
      have bo : ∀ c j, c ≠ 10 → b.1 c j = a.1 c j := fun c j hc => by
        rw [eb]
        exact en_up_ne _ _ _ _ (by omega)
      have fin : ∀ (num : Int32) (d : sg), (∀ j, d.1 10 j = b.1 10 j) → (∀ j, d.1 11 j = b.1 11 j) → (∀ j, d.1 13 j = b.1 13 j) → d.1 2 5 = b.1 2 5 → ((a.1 12 1).toInt ≤ (d.1 12 1).toInt ∧ (d.1 12 1).toInt ≤ 6) → (nm_kd a = 1 → 0 ≤ num.toInt ∧ num.toInt < (d.1 12 1).toInt) → wn (u2 (u2 d 11 (cnt a.1) num) 2 5 (a.1 2 5 + 1)) ∧ wt (u2 (u2 d 11 (cnt a.1) num) 2 5 (a.1 2 5 + 1)) := by
        intro num d d10 d11 d13 d25 dp hnum
        have g12 : (u2 (u2 d 11 (cnt a.1) num) 2 5 (a.1 2 5 + 1)).1 12 1 = d.1 12 1 := by rw [u2_ne _ _ _ _ (by omega), u2_ne _ _ _ _ (by omega)]
        have g13 : ∀ j, (u2 (u2 d 11 (cnt a.1) num) 2 5 (a.1 2 5 + 1)).1 13 j = a.1 13 j := fun j => by rw [u2_ne _ _ _ _ (by omega), u2_ne _ _ _ _ (by omega), d13, bo _ _ (by omega)]
        have p0 := hn.1
        refine ⟨⟨by rw [g12]; omega, by rw [u2_eq]; omega, fun i hi hk => ?_⟩, ⟨fun x y hx hy => by rw [g13, g13]; exact ht.1 x y hx hy, fun x hx => by rw [g13]; exact ht.2.1 x hx, fun x y hx hy n q => ?_, fun i hi => by rw [g13]; exact ht.2.2.2 i hi⟩⟩
        · have ci : cnt (u2 (u2 d 11 (cnt a.1) num) 2 5 (a.1 2 5 + 1)).1 = cnt a.1 + 1 := by
            unfold cnt
            rw [u2_eq]
            have := kl_nat (i := a.1 2 5 + 1) (by omega)
            omega
          rw [ci] at hi
          rw [u2_ne _ _ _ _ (by omega), u2_ne _ _ _ _ (by omega), d10, b10] at hk
          rw [g12, u2_ne _ _ _ _ (by omega)]
          by_cases c : i = cnt a.1
          · rw [if_pos c] at hk
            rw [c, u2_eq]; exact hnum hk
          · rw [if_neg c] at hk
            rw [u2_ne _ _ _ _ (by omega), d11, bo _ _ (by omega)]
            have := hn.2.2 i (by omega) hk
            omega
        · rw [g12] at q
          rw [g13]; exact ht.2.2.1 x y hx hy n (by omega)
      have p0 := hn.1
      have b12 : b.1 12 1 = a.1 12 1 := bo _ _ (by decide)
      unfold nm_add
      rw [← eb]
      have nk1 : ∀ {n : Int32}, n.toInt ≠ 1 → n ≠ 1 := fun {n} h e => h (by rw [e]; decide)
      unfold nb_new
      split
      · next k0 =>
        refine fin _ _ (fun j => by rw [u2_ne _ _ _ _ (by omega)]) (fun j => by rw [u2_ne _ _ _ _ (by omega)]) (fun j => by rw [u2_ne _ _ _ _ (by omega)]) (by rw [u2_ne _ _ _ _ (by omega)]) (by rw [u2_ne _ _ _ _ (by omega), b12]; omega) (fun e => absurd e (nk1 (by omega)))
      · split
        · next k0 k1 =>
          have m6 := mnn_i (n := 6) (x := b.1 12 1) (by decide) (by rw [b12]; omega) (by rw [b12]; omega)
          rw [b12, (by decide : (6 : Int32).toInt = 6)] at m6
          have s6 : (mnn 6 (b.1 12 1) - 1).toInt = (mnn 6 (b.1 12 1)).toInt - 1 := by
            rw [b12, Int32.toInt_sub, kl_1]
            exact en_bmod (by split at m6 <;> omega) (by split at m6 <;> omega) (Or.inl rfl)
          refine fin _ _ (fun j => by rw [u2_ne _ _ _ _ (by omega)]) (fun j => by rw [u2_ne _ _ _ _ (by omega)]) (fun j => by rw [u2_ne _ _ _ _ (by omega)]) (by rw [u2_ne _ _ _ _ (by omega)]) (by rw [u2_eq, b12]; split at m6 <;> omega) (fun _ => by rw [u2_eq, s6, b12]; split at m6 <;> omega)
        · split
          · refine fin _ _ (fun j => by rw [u2_ne _ _ _ _ (by omega)]) (fun j => by rw [u2_ne _ _ _ _ (by omega)]) (fun j => by rw [u2_ne _ _ _ _ (by omega)]) (by rw [u2_ne _ _ _ _ (by omega)]) (by rw [u2_ne _ _ _ _ (by omega), b12]; omega) (fun e => absurd e (nk1 (by omega)))
          · split
            · refine fin _ _ (fun j => by rw [u2_ne _ _ _ _ (by omega)]) (fun j => by rw [u2_ne _ _ _ _ (by omega)]) (fun j => by rw [u2_ne _ _ _ _ (by omega)]) (by rw [u2_ne _ _ _ _ (by omega)]) (by rw [u2_ne _ _ _ _ (by omega), b12]; omega) (fun e => absurd e (nk1 (by omega)))
            · have sn : ∀ t : Bool, cor b (sy_new t b) := fun t => by
                unfold sy_new
                split
                · refine cor_u2 (cor_u2 (cor_u2 ?_ (by omega)) (by omega)) (by omega)
                  split
                  · exact cor_u2 cor_rf (by omega)
                  · exact cor_rf
                · exact cor_rf
              obtain ⟨c1, c2, c3, c4, -, c6, -⟩ := sn (decide (b.1 2 7 = 8))
              exact fin _ _ c1 c2 c3 c4 (by rw [c6, b12]; omega) (fun e => absurd e (nk1 (by omega)))
/-- one TOKEN -/
theorem ms_wi {s k : Int32} {v : Int64} {a : sg} (h : WI s a) (hv : k = 16 → 0 ≤ v.toInt) (h0 : (ms s k v a).1 = 0) : WI (fw s k) (ms s k v a).2 := by
  obtain ⟨hn, ht, hs⟩ := h
  obtain ⟨g0, e0⟩ : ¬ (k = 16 ∧ ¬ lg_cmp v 1440 ≤ 0) ∧ ms s k v a = tk_take s k v a := by
    unfold ms at h0 ⊢
    by_cases c : k = 16 ∧ ¬ lg_cmp v 1440 ≤ 0
    · rw [if_pos c] at h0; exact absurd h0 (by show ¬ (5 : Int32) = 0; decide)
    · exact ⟨c, by rw [if_neg c]⟩
  rw [e0] at h0 ⊢
  have iv : ∀ {n : Int32} {m : Int}, s.toInt = m → n.toInt = m → s = n := fun e f => en_ofI (by rw [e, f])
  -- where nothing of a way is under way behind the step
  have far : ∀ b : sg, wn b → wt b → (∀ x : Int32, s = x → x ≠ 0 ∧ x ≠ 3 ∧ x ≠ 4 ∧ x ≠ 27 ∧ x ≠ 28 ∧ x ≠ 29 ∧ x ≠ 30) → WI (fw s k) b := fun b b1 b2 nx => by
    obtain ⟨n0, n3, n4, n27, n28, n29, n30⟩ := nx s rfl
    refine ⟨b1, b2, fun q => ?_, fun q => ?_, fun q => ?_, fun q => ?_⟩
    · rcases q with q | q
      · obtain ⟨i, i1, i2, i3, i4⟩ := fw_f q (by decide)
        exact absurd (i2.symm.trans (st_3 i i1 i4).1) n0
      · obtain ⟨i, i1, i2, i3, i4⟩ := fw_f q (by decide)
        exact absurd (i2.symm.trans (st_4 i i1 i4)) n3
    · rcases q with q | q | q | q
      · obtain ⟨i, i1, i2, i3, i4⟩ := fw_f q (by decide)
        exact absurd (i2.symm.trans ((st_o i i1).1 i4).1) n0
      · obtain ⟨i, i1, i2, i3, i4⟩ := fw_f q (by decide)
        exact absurd (i2.symm.trans ((st_o i i1).2.1 i4)) n27
      · obtain ⟨i, i1, i2, i3, i4⟩ := fw_f q (by decide)
        exact absurd (i2.symm.trans ((st_o i i1).2.2.1 i4)) n28
      · obtain ⟨i, i1, i2, i3, i4⟩ := fw_f q (by decide)
        exact absurd (i2.symm.trans ((st_o i i1).2.2.2 i4)) n29
    · obtain ⟨i, i1, i2, i3, i4⟩ := fw_f q (by decide)
      exact absurd (i2.symm.trans (st_4 i i1 i4)) n3
    · obtain ⟨i, i1, i2, i3, i4⟩ := fw_f q (by decide)
      rcases st_5 i i1 i4 with e | e
      · exact absurd (i2.symm.trans e) n4
      · exact absurd (i2.symm.trans e) n30
  have farc : ∀ b : sg, cor a b → (∀ x : Int32, s = x → x ≠ 0 ∧ x ≠ 3 ∧ x ≠ 4 ∧ x ≠ 27 ∧ x ≠ 28 ∧ x ≠ 29 ∧ x ≠ 30) → WI (fw s k) b := fun b c nx => far b (wn_cor c hn) (wt_cor c ht) nx
  -- open: the tell stays open
  have opn : ∀ b : sg, cor a b → s = 27 ∨ s = 28 ∨ s = 29 ∨ s = 30 → WI (fw s k) b := fun b c so => by
    have t7 : b.1 2 7 = 10 := by rw [c.2.2.2.2.1]; exact hs.2.1 so
    have n4 : ∀ x, x = 4 → fw s k ≠ x := fun x e q => by
      subst e
      obtain ⟨i, i1, i2, i3, i4⟩ := fw_f q (by decide)
      have := i2.symm.trans (st_4 i i1 i4)
      rw [this] at so
      revert so; decide
    refine ⟨wn_cor c hn, wt_cor c ht, fun q => ?_, fun _ => t7, fun q => absurd q (n4 4 rfl), fun q t2 => ?_⟩
    · rcases q with q | q
      · obtain ⟨i, i1, i2, i3, i4⟩ := fw_f q (by decide)
        have := i2.symm.trans (st_3 i i1 i4).1
        rw [this] at so
        exact absurd so (by decide)
      · exact absurd q (n4 4 rfl)
    · rw [t7] at t2
      exact absurd t2 (by decide)
  have nfar : ∀ (m : Int), s.toInt = m → m ≠ 0 → m ≠ 3 → m ≠ 4 → m ≠ 27 → m ≠ 28 → m ≠ 29 → m ≠ 30 → ∀ x : Int32, s = x → x ≠ 0 ∧ x ≠ 3 ∧ x ≠ 4 ∧ x ≠ 27 ∧ x ≠ 28 ∧ x ≠ 29 ∧ x ≠ 30 := fun m e a1 a2 a3 a4 a5 a6 a7 x ex => by
    subst ex
    refine ⟨fun q => a1 ?_, fun q => a2 ?_, fun q => a3 ?_, fun q => a4 ?_, fun q => a5 ?_, fun q => a6 ?_, fun q => a7 ?_⟩ <;> rw [← e, q] <;> decide
  unfold tk_take at h0 ⊢
  by_cases c0 : s.toInt = 0
  · rw [if_pos c0] at h0 ⊢
    show WI (fw s k) (u2 a 2 7 k)
    have es : s = 0 := iv c0 (by decide)
    have w1 : wn (u2 a 2 7 k) := ⟨by rw [u2_ne _ _ _ _ (by omega)]; exact hn.1, by rw [u2_ne _ _ _ _ (by omega)]; exact hn.2.1, fun i hi hk => by
      unfold cnt at hi
      rw [u2_ne _ _ _ _ (by omega)] at hi hk
      rw [u2_ne _ _ _ _ (by omega), u2_ne _ _ _ _ (by omega)]
      exact hn.2.2 i hi hk⟩
    have w2 : wt (u2 a 2 7 k) := ⟨fun x y hx hy => by rw [u2_ne _ _ _ _ (by omega), u2_ne _ _ _ _ (by omega)]; exact ht.1 x y hx hy, fun x hx => by rw [u2_ne _ _ _ _ (by omega)]; exact ht.2.1 x hx, fun x y hx hy n q => by
      rw [u2_ne _ _ _ _ (by omega)] at q
      rw [u2_ne _ _ _ _ (by omega)]; exact ht.2.2.1 x y hx hy n q, fun i hi => by rw [u2_ne _ _ _ _ (by omega)]; exact ht.2.2.2 i hi⟩
    refine ⟨w1, w2, fun q => ?_, fun q => ?_, fun q => ?_, fun q => ?_⟩
    · rw [u2_eq]
      rcases q with q | q
      · obtain ⟨i, i1, i2, i3, i4⟩ := fw_f q (by decide)
        exact i3.symm.trans (st_3 i i1 i4).2
      · obtain ⟨i, i1, i2, i3, i4⟩ := fw_f q (by decide)
        exact absurd ((i2.symm.trans (st_4 i i1 i4)).symm.trans es) (by decide)
    · rw [u2_eq]
      rcases q with q | q | q | q
      · obtain ⟨i, i1, i2, i3, i4⟩ := fw_f q (by decide)
        exact i3.symm.trans ((st_o i i1).1 i4).2
      · obtain ⟨i, i1, i2, i3, i4⟩ := fw_f q (by decide)
        exact absurd ((i2.symm.trans ((st_o i i1).2.1 i4)).symm.trans es) (by decide)
      · obtain ⟨i, i1, i2, i3, i4⟩ := fw_f q (by decide)
        exact absurd ((i2.symm.trans ((st_o i i1).2.2.1 i4)).symm.trans es) (by decide)
      · obtain ⟨i, i1, i2, i3, i4⟩ := fw_f q (by decide)
        exact absurd ((i2.symm.trans ((st_o i i1).2.2.2 i4)).symm.trans es) (by decide)
    · obtain ⟨i, i1, i2, i3, i4⟩ := fw_f q (by decide)
      exact absurd ((i2.symm.trans (st_4 i i1 i4)).symm.trans es) (by decide)
    · obtain ⟨i, i1, i2, i3, i4⟩ := fw_f q (by decide)
      rcases st_5 i i1 i4 with e | e
      · exact absurd ((i2.symm.trans e).symm.trans es) (by decide)
      · exact absurd ((i2.symm.trans e).symm.trans es) (by decide)
  rw [if_neg c0] at h0 ⊢
  by_cases c1 : s.toInt = 1 ∨ s.toInt = 6 ∨ s.toInt = 11 ∨ s.toInt = 14 ∨ s.toInt = 15
  · rw [if_pos c1] at h0 ⊢
    obtain ⟨b1, b2⟩ := wi_new (nm := v) hn ht (Or.inr trivial)
    exact far _ b1 b2 (nfar s.toInt rfl (by omega) (by omega) (by omega) (by omega) (by omega) (by omega) (by omega))
  rw [if_neg c1] at h0 ⊢
  by_cases c2 : s.toInt = 3 ∨ s.toInt = 4
  · rw [if_pos c2] at h0 ⊢
    unfold tk_path at h0 ⊢
    by_cases f1 : fd a v 1 = -1
    · rw [if_pos f1] at h0; exact absurd h0 (by show ¬ (4 : Int32) = 0; decide)
    rw [if_neg f1] at h0 ⊢
    have pf := fd_1 hn f1
    have t7 : a.1 2 7 = 2 := hs.1 (c2.elim (fun e => Or.inl (iv e (by decide))) (fun e => Or.inr (iv e (by decide))))
    by_cases s3 : s = 3
    · rw [if_pos s3] at h0 ⊢
      show WI (fw s k) (u2 a 2 8 (fd a v 1))
      have c := cor_u2 (a0 := a) (a := a) (c := 2) (j := 8) (v := fd a v 1) cor_rf (by omega)
      have w7 : (u2 a 2 8 (fd a v 1)).1 2 7 = 2 := c.2.2.2.2.1.trans t7
      refine ⟨wn_cor c hn, wt_cor c ht, fun _ => w7, fun q => ?_, fun _ => ?_, fun q => ?_⟩
      · rcases q with q | q | q | q
        · obtain ⟨i, i1, i2, i3, i4⟩ := fw_f q (by decide)
          exact absurd ((i2.symm.trans ((st_o i i1).1 i4).1).symm.trans s3) (by decide)
        · obtain ⟨i, i1, i2, i3, i4⟩ := fw_f q (by decide)
          exact absurd ((i2.symm.trans ((st_o i i1).2.1 i4)).symm.trans s3) (by decide)
        · obtain ⟨i, i1, i2, i3, i4⟩ := fw_f q (by decide)
          exact absurd ((i2.symm.trans ((st_o i i1).2.2.1 i4)).symm.trans s3) (by decide)
        · obtain ⟨i, i1, i2, i3, i4⟩ := fw_f q (by decide)
          exact absurd ((i2.symm.trans ((st_o i i1).2.2.2 i4)).symm.trans s3) (by decide)
      · rw [u2_eq]
        unfold pg
        rw [c.2.2.2.2.2.1]; exact pf
      · obtain ⟨i, i1, i2, i3, i4⟩ := fw_f q (by decide)
        rcases st_5 i i1 i4 with e | e
        · exact absurd ((i2.symm.trans e).symm.trans s3) (by decide)
        · exact absurd ((i2.symm.trans e).symm.trans s3) (by decide)
    · rw [if_neg s3] at h0 ⊢
      have s4 : s = 4 := c2.elim (fun e => absurd (iv e (by decide)) s3) (fun e => iv e (by decide))
      by_cases e8 : a.1 2 8 = fd a v 1
      · rw [if_pos e8] at h0; exact absurd h0 (by show ¬ (5 : Int32) = 0; decide)
      rw [if_neg e8] at h0 ⊢
      show WI (fw s k) (u2 a 2 9 (fd a v 1))
      have c := cor_u2 (a0 := a) (a := a) (c := 2) (j := 9) (v := fd a v 1) cor_rf (by omega)
      have w7 : (u2 a 2 9 (fd a v 1)).1 2 7 = 2 := c.2.2.2.2.1.trans t7
      refine ⟨wn_cor c hn, wt_cor c ht, fun _ => w7, fun q => ?_, fun q => ?_, fun _ _ => ?_⟩
      · rcases q with q | q | q | q
        · obtain ⟨i, i1, i2, i3, i4⟩ := fw_f q (by decide)
          exact absurd ((i2.symm.trans ((st_o i i1).1 i4).1).symm.trans s4) (by decide)
        · obtain ⟨i, i1, i2, i3, i4⟩ := fw_f q (by decide)
          exact absurd ((i2.symm.trans ((st_o i i1).2.1 i4)).symm.trans s4) (by decide)
        · obtain ⟨i, i1, i2, i3, i4⟩ := fw_f q (by decide)
          exact absurd ((i2.symm.trans ((st_o i i1).2.2.1 i4)).symm.trans s4) (by decide)
        · obtain ⟨i, i1, i2, i3, i4⟩ := fw_f q (by decide)
          exact absurd ((i2.symm.trans ((st_o i i1).2.2.2 i4)).symm.trans s4) (by decide)
      · obtain ⟨i, i1, i2, i3, i4⟩ := fw_f q (by decide)
        exact absurd ((i2.symm.trans (st_4 i i1 i4)).symm.trans s4) (by decide)
      · have g8 := hs.2.2.1 s4
        unfold pg at g8 ⊢
        rw [c.2.2.2.2.2.1, u2_ne _ _ _ _ (by omega), u2_eq]
        exact ⟨g8, pf, e8⟩
  rw [if_neg c2] at h0 ⊢
  by_cases c3 : s.toInt = 8 ∨ s.toInt = 10
  · rw [if_pos c3] at h0 ⊢
    exact farc _ cor_where (nfar s.toInt rfl (by omega) (by omega) (by omega) (by omega) (by omega) (by omega) (by omega))
  rw [if_neg c3] at h0 ⊢
  by_cases c4 : s.toInt = 27 ∨ s.toInt = 29
  · rw [if_pos c4] at h0 ⊢
    exact opn _ cor_open (c4.elim (fun e => Or.inl (iv e (by decide))) (fun e => Or.inr (Or.inr (Or.inl (iv e (by decide))))))
  rw [if_neg c4] at h0 ⊢
  by_cases c5 : s.toInt = 17 ∨ s.toInt = 20
  · rw [if_pos c5] at h0 ⊢
    exact farc _ cor_span (nfar s.toInt rfl (by omega) (by omega) (by omega) (by omega) (by omega) (by omega) (by omega))
  rw [if_neg c5] at h0 ⊢
  by_cases c6 : s.toInt = 26
  · rw [if_pos c6] at h0 ⊢
    refine farc _ ?_ (nfar s.toInt rfl (by omega) (by omega) (by omega) (by omega) (by omega) (by omega) (by omega))
    show cor a (if k = 9 then ad_part true a else if k = 13 then ad_part false a else a)
    split
    · exact cor_part
    · split
      · exact cor_part
      · exact cor_rf
  rw [if_neg c6] at h0 ⊢
  by_cases c7 : s.toInt = 13
  · rw [if_pos c7] at h0 ⊢
    exact farc _ cor_trust (nfar s.toInt rfl (by omega) (by omega) (by omega) (by omega) (by omega) (by omega) (by omega))
  rw [if_neg c7] at h0 ⊢
  by_cases s5 : s = 5
  · have m5 : s.toInt = 5 := by rw [s5]; decide
    unfold tk_int at h0 ⊢
    by_cases k16 : k = 16
    · rw [if_pos k16, if_pos s5] at h0 ⊢
      show WI (fw s k) (en_po (sg_n s v.toInt32) a)
      have v1 : v.toInt ≤ 1440 := by
        have : lg_cmp v 1440 ≤ 0 := Decidable.byContradiction (fun q => g0 ⟨k16, q⟩)
        have := lg_le.mp this
        rw [(by decide : (1440 : Int64).toInt = 1440)] at this
        exact this
      have v0 := hv k16
      have vi : v.toInt32.toInt = v.toInt := by
        rw [Int64.toInt_toInt32]
        exact en_bmod (by omega) (by omega) (Or.inl rfl)
      have sn : sg_n s v.toInt32 = v.toInt32 := by
        unfold sg_n
        rw [s5, if_neg (by decide), if_neg (by decide)]
      rw [sn]
      unfold en_po
      by_cases t2 : a.1 2 7 = 2
      · rw [if_pos t2]
        obtain ⟨p1, p2, p3⟩ := hs.2.2.2 s5 t2
        obtain ⟨w1, w2, -⟩ := wt_path ht hn p1 p2 p3 (by rw [vi]; exact v0) (by rw [vi]; exact v1)
        exact far _ w2 w1 (nfar 5 m5 (by decide) (by decide) (by decide) (by decide) (by decide) (by decide) (by decide))
      · rw [if_neg t2]
        exact farc _ (cor_spb (by omega)) (nfar 5 m5 (by decide) (by decide) (by decide) (by decide) (by decide) (by decide) (by decide))
    · rw [if_neg k16]
      exact farc _ cor_rf (nfar 5 m5 (by decide) (by decide) (by decide) (by decide) (by decide) (by decide) (by decide))
  · by_cases so : s = 28 ∨ s = 30
    · exact opn _ (cor_int s5) (so.elim (fun e => Or.inr (Or.inl e)) (fun e => Or.inr (Or.inr (Or.inr e))))
    · refine farc _ (cor_int s5) (nfar s.toInt rfl (by omega) (by omega) (by omega) (by omega) (fun e => so (Or.inl (iv e (by decide)))) (by omega) (fun e => so (Or.inr (iv e (by decide)))))
theorem ME_wi {K : Nat → Int32} {V : Nat → Int64} (hV : ∀ i, K i = 16 → 0 ≤ (V i).toInt) : ∀ (m t : Nat) (s : Int32) (a : sg), WI s a → (ME K V m t s a).1 = none → ∃ s', WI s' (ME K V m t s a).2 := by
  intro m
  induction m with
  | zero => intro t s a h _; exact ⟨s, h⟩
  | succ m ih =>
    intro t s a h h0
    have e : ME K V (m + 1) t s a = (if K t = 21 then (none, a) else if (ms s (K t) (V t) a).1 = 0 then ME K V m (t + 1) (fw s (K t)) (ms s (K t) (V t) a).2 else (some ((ms s (K t) (V t) a).1, t), a)) := rfl
    rw [e] at h0 ⊢
    by_cases c : K t = 21
    · rw [if_pos c]; exact ⟨s, h⟩
    · rw [if_neg c] at h0 ⊢
      by_cases c2 : (ms s (K t) (V t) a).1 = 0
      · rw [if_pos c2] at h0 ⊢
        exact ih (t + 1) _ _ (ms_wi h (hV t) c2) h0
      · rw [if_neg c2] at h0
        cases h0
theorem WI_0 {a : sg} (h : ini a) : WI 0 a := by
  obtain ⟨a1, a2, -, -, -, a6⟩ := h
  have p : a.1 12 1 = 0 := a2 1 (by decide)
  refine ⟨⟨by rw [p]; decide, by rw [a1]; decide, fun i hi => ?_⟩, ⟨fun x y hx hy => ?_, fun x hx => ?_, fun x y hx hy n _ => ?_, fun i hi => ?_⟩, fun q => absurd q (by decide), fun q => absurd q (by decide), fun q => absurd q (by decide), fun q => absurd q (by decide)⟩
  · unfold cnt at hi
    rw [a1] at hi
    exact absurd hi (Nat.not_lt_zero i)
  · rw [a6 _ (by omega), a6 _ (by omega)]
    by_cases c : (6 * x + y) % 7 = 0
    · rw [if_pos c, if_pos (by omega)]
    · rw [if_neg c, if_neg (by omega)]
  · rw [a6 _ (by omega), if_pos (by omega)]
  · rw [a6 _ (by omega), if_neg (by omega)]
  · rw [a6 i hi]
    split
    · exact Or.inr (by decide)
    · exact Or.inl rfl
theorem tk_V {b : Nat → Int32} {n : Nat} : ∀ i, tk_K b n i = 16 → 0 ≤ (tk_vl b n (tk_at b n i)).toInt := fun i q => by
  have lt : tk_at b n i < n := by
    rcases Nat.lt_or_ge (tk_at b n i) n with y | y
    · exact y
    · rw [tk_K_21.mpr y] at q
      exact absurd q (by decide)
  have kd : tk_K b n i = tk_kd b n (tk_at b n i) := by unfold tk_K; rw [if_pos lt]
  rw [kd] at q
  obtain ⟨v, v1, v2, -⟩ := in_eq q
  rw [v2]; omega
theorem wt_nv {a : sg} (h : wt a) {i : Nat} (hi : i < 36) : -1 ≤ nv (a.1 13 i) ∧ nv (a.1 13 i) ≤ 1440 := by
  rcases h.2.2.2 i hi with c | c
  · rw [c]; decide
  · unfold nv
    rw [if_neg (by omega)]; omega
theorem wt_WB {a : sg} (h : wt a) : WB 1440 (fun i => nv (a.1 13 i)) := ⟨fun i hi => wt_nv h hi, fun x hx => by
  show nv (a.1 13 (7 * x)) = 0
  rw [h.2.1 x hx]; decide⟩
theorem wt_WS {a : sg} (hn : wn a) (h : wt a) : WS (a.1 12 1).toNatClampNeg (fun i => nv (a.1 13 i)) := by
  have p := kl_nat hn.1.1
  refine ⟨fun x y hx hy => ?_, fun x y hx hy n q => ?_⟩
  · show nv (a.1 13 (6 * x + y)) = nv (a.1 13 (6 * y + x))
    rw [h.1 x y hx hy]
  · show nv (a.1 13 (6 * x + y)) = -1
    rw [h.2.2.1 x y hx hy n (by omega)]; decide
end
section
/-! the class's read: what it answers -/
def RDk (b : Nat → Int32) (n : Nat) (a0 : sg) (r : Int32) (J : sm_I) : Prop := ini a0 ∧ (∀ f j, SY (tk_K b n) 501 0 0 gc0 = some (f, j) → r = f ∧ f ≠ 0 ∧ (J 2 11).toInt = tk_at b n j) ∧ (SY (tk_K b n) 501 0 0 gc0 = none → (∀ f j, (ME (tk_K b n) (fun i => tk_vl b n (tk_at b n i)) 501 0 0 a0).1 = some (f, j) → r = f ∧ f ≠ 0 ∧ (J 2 11).toInt = tk_at b n j) ∧ ((ME (tk_K b n) (fun i => tk_vl b n (tk_at b n i)) 501 0 0 a0).1 = none → r = 0))
-- walks and moves of a Told, out of what is told
def bpA (a : sg) : Prop := ∀ i : Nat, (i : Int) < (a.1 12 2).toInt → a.1 14 i ≠ -1 → 0 ≤ (a.1 15 i).toInt ∧ (a.1 15 i).toInt ≤ 5
def alst (a : sg) : List (Nat × Nat) := mall (mvc (a.1 14) (a.1 15)) (a.1 12 2).toNatClampNeg (a.1 12 2).toNatClampNeg
def wmQ (Q : Nat) (a : sg) (J : sm_I) : Prop := (∀ i, i < 36 → (J (Q + 1) i = -2 ∨ 0 ≤ (J (Q + 1) i).toInt) ∧ nv (J (Q + 1) i) = Ft (a.1 12 1).toNatClampNeg (fun i => nv (a.1 13 i)) i) ∧ (bpA a → (J Q 5).toInt = (((alst a).length : Nat) : Int) ∧ ∀ j, j < (alst a).length → J (Q + 22) j = Int32.ofNat ((alst a).getD j (0, 0)).1 ∧ J (Q + 23) j = Int32.ofNat ((alst a).getD j (0, 0)).2 ∧ J (Q + 24) j = J (Q + 1) (6 * (a.1 15 ((alst a).getD j (0, 0)).1).toNatClampNeg + (a.1 15 ((alst a).getD j (0, 0)).2).toNatClampNeg))
def RDt (Q : Nat) (b : Nat → Int32) (n : Nat) (a0 : sg) (I J : sm_I) : Prop := ko Q I J ∧ (SY (tk_K b n) 501 0 0 gc0 = none → (ME (tk_K b n) (fun i => tk_vl b n (tk_at b n i)) 501 0 0 a0).1 = none → (∀ c j, 12 ≤ c → c < 34 → c ≠ 13 → ¬ (c = 12 ∧ j = 5) → J (c + (Q - 12)) j = (ME (tk_K b n) (fun i => tk_vl b n (tk_at b n i)) 501 0 0 a0).2.1 c j) ∧ (wn (ME (tk_K b n) (fun i => tk_vl b n (tk_at b n i)) 501 0 0 a0).2 ∧ wt (ME (tk_K b n) (fun i => tk_vl b n (tk_at b n i)) 501 0 0 a0).2) ∧ wmQ Q (ME (tk_K b n) (fun i => tk_vl b n (tk_at b n i)) 501 0 0 a0).2 J)
theorem lw_rg {W : en_W} {Q c j : Nat} (h : W.all (fun q => Nat.ble Q q.1 && Nat.blt q.1 (Q + 37)) = true) (hc : c < Q ∨ Q + 37 ≤ c) : en_wok W c j = false := by
  cases e : en_wok W c j with
  | false => rfl
  | true =>
    obtain ⟨q, g1, g2⟩ := List.any_eq_true.mp e
    have e : q.1 = c := Nat.eq_of_beq_eq_true (Bool.and_eq_true_iff.mp g2).1
    obtain ⟨l1, l2⟩ := Bool.and_eq_true_iff.mp (List.all_eq_true.mp h q g1)
    have l1 := Nat.le_of_ble_eq_true l1
    have l2 := Nat.le_of_ble_eq_true l2
    have l2 : q.1 < Q + 37 := l2
    omega
theorem lw_rv {Q c j : Nat} (h : c ≠ 13) : en_wok [(13 + Q, [])] (c + Q) j = false := by
  cases e : en_wok [(13 + Q, [])] (c + Q) j with
  | false => rfl
  | true =>
    obtain ⟨q, g1, g2⟩ := List.any_eq_true.mp e
    have e : q.1 = c + Q := Nat.eq_of_beq_eq_true (Bool.and_eq_true_iff.mp g2).1
    rw [List.mem_singleton.mp g1] at e
    have e : 13 + Q = c + Q := e
    omega
theorem lw_rw {Q c j : Nat} (h : c < 34) (h2 : ¬ (c = 12 ∧ j = 5)) : en_wok [(12 + Q, [5]), (34 + Q, []), (35 + Q, []), (36 + Q, [])] (c + Q) j = false := by
  cases e : en_wok [(12 + Q, [5]), (34 + Q, []), (35 + Q, []), (36 + Q, [])] (c + Q) j with
  | false => rfl
  | true =>
    obtain ⟨q, g1, g2⟩ := List.any_eq_true.mp e
    obtain ⟨g2, g3⟩ := Bool.and_eq_true_iff.mp g2
    have e : q.1 = c + Q := Nat.eq_of_beq_eq_true g2
    rcases List.mem_cons.mp g1 with g | g
    · subst g
      have e : 12 + Q = c + Q := e
      have g3 : (Nat.beq 5 j || false) = true ∨ (Nat.beq j 5 || false) = true := by first | exact Or.inl g3 | exact Or.inr g3
      rcases g3 with g3 | g3
      · rw [Bool.or_false] at g3
        have := Nat.eq_of_beq_eq_true g3
        omega
      · rw [Bool.or_false] at g3
        have := Nat.eq_of_beq_eq_true g3
        omega
    rcases List.mem_cons.mp g with g | g
    · subst g
      have e : 34 + Q = c + Q := e
      omega
    rcases List.mem_cons.mp g with g | g
    · subst g
      have e : 35 + Q = c + Q := e
      omega
    have g := List.mem_singleton.mp g
    subst g
    have e : 36 + Q = c + Q := e
    omega
theorem kpr9 {o : Option Value} (h : en_pr (9, 0, 0) o) : o = none := by
  cases o with
  | none => rfl
  | some v =>
    exfalso
    rcases h with q1 | ⟨q1, -⟩
    · cases v with
      | int r => have q1 : (9 : Nat) = 0 := q1.1; omega
      | long _ => have q1 : (9 : Nat) = 5 := q1; omega
      | null => have q1 : (9 : Nat) = 1 := q1; omega
      | ref p => have q1 : (9 : Nat) = 2 := q1.1; omega
      | float _ => exact q1.elim
      | double _ => exact q1.elim
      | retAddr _ => exact q1.elim
    · have q1 : (9 : Nat) = 3 := q1
      omega
theorem SY_le {K : Nat → Int32} {c : Nat} (hc : K c = 21) : ∀ (m t : Nat) (s : Int32) (g : gc), t ≤ c → ∀ f j, SY K m t s g = some (f, j) → j ≤ c := by
  intro m
  induction m with
  | zero => intro t s g ht f j q; cases q
  | succ m ih =>
    intro t s g ht f j q
    have q : (if gf s (K t) t g = 0 then (if K t = 21 then none else SY K m (t + 1) (fw s (K t)) (gc_st s (K t) g)) else some (gf s (K t) t g, t)) = some (f, j) := q
    by_cases c0 : gf s (K t) t g = 0
    · rw [if_pos c0] at q
      by_cases c1 : K t = 21
      · rw [if_pos c1] at q; cases q
      · rw [if_neg c1] at q
        have : t ≠ c := fun y => c1 (by rw [y]; exact hc)
        exact ih (t + 1) _ _ (by omega) f j q
    · rw [if_neg c0] at q
      have : t = j := congrArg Prod.snd (Option.some.inj q)
      omega
end
section
/-! readTape once more, its last two calls by contract (wip/pe/mkx.py) -/
theorem sm_cvQ12 {P : Nat → sm_M} {S : sm_C} {d g : Nat} {as : List Value} {w : sm_W} {cs : Nat × Nat} {lay : List (Nat × Nat)} {C : sm_I → sm_L → sm_R → Prop} {K : sm_Z → Prop} (h : sm_wp P S d g 0 as [] w cs (fun z => ∃ (I2 : sm_I) (L2 : sm_L) (R2 : sm_R), z = (none, (lay, I2, L2, kQ12 R2)) ∧ C I2 L2 R2)) (hC : ∀ (I2 : sm_I) (L2 : sm_L) (R2 : sm_R), C I2 L2 R2 → K (none, (lay, I2, L2, kQ12 R2))) : sm_wp P S d g 0 as [] w cs K := sm_wp_mono h (fun z q => by
  obtain ⟨I2, L2, R2, e, c⟩ := q
  subst e
  exact hC I2 L2 R2 c)
theorem s12x_X7_readTape_0 {S : sm_C} {d : Nat} {Φ : sm_Z → Prop} {I : sm_I} {L : sm_L} {R : sm_R} {x2 : Int32} (h : sm_wp sm_P S d 16 0 [.ref 12] [] (xLay, I, L, (kQ12 R)) (0, 0) (fun z => ∃ (I1 : sm_I) (L2 : sm_L), z = (none, (xLay, I1, L2, (kQ12 R))) ∧ sm_wp sm_P S d 301 0 [.ref 3, .ref 1, .int x2] [] (xLay, (sm_up I1 2 5 (0 : Int32)), L2, (kQ12 R)) (0, 0) (fun z => ∃ (I4 : sm_I) (L5 : sm_L), z = (none, (xLay, I4, L5, (kQ12 R))) ∧ sm_wp sm_P S d 277 0 [.ref 2] [] (xLay, I4, L5, (kQ12 R)) (0, 0) (fun z => ∃ (r9 : Int32) (I7 : sm_I) (L8 : sm_L), z = (some (.int r9), (xLay, I7, L8, (kQ12 R))) ∧ ((r9 = 0 → sm_wp sm_P S d 274 0 [.ref 2] [] (xLay, I7, L8, (kQ12 R)) (0, 0) (fun z => ∃ (r21 : Int32) (I19 : sm_I) (L20 : sm_L), z = (some (.int r21), (xLay, I19, L20, (kQ12 R))) ∧ ((r21 = 0 → sm_wp sm_P S d 18 0 [.ref 12] [] (xLay, I19, L20, (kQ12 R)) (0, 0) (fun z => ∃ (I22 : sm_I) (L23 : sm_L) (R23 : sm_R), z = (none, (xLay, I22, L23, (kQ12 R23))) ∧ sm_wp sm_P S d 17 0 [.ref 12] [] (xLay, I22, L23, (kQ12 R23)) (0, 0) (fun z => ∃ (I25 : sm_I) (L26 : sm_L) (R26 : sm_R), z = (none, (xLay, I25, L26, (kQ12 R26))) ∧ Φ (some (.int r21), (xLay, I25, L26, (kQ12 R26)))))) ∧ (¬ r21 = 0 → Φ (some (.int r21), (xLay, I19, L20, (kQ12 R))))))) ∧ (¬ r9 = 0 → ((r9 = 0 → sm_wp sm_P S d 18 0 [.ref 12] [] (xLay, I7, L8, (kQ12 R)) (0, 0) (fun z => ∃ (I10 : sm_I) (L11 : sm_L), z = (none, (xLay, I10, L11, (kQ12 R))) ∧ sm_wp sm_P S d 17 0 [.ref 12] [] (xLay, I10, L11, (kQ12 R)) (0, 0) (fun z => ∃ (I13 : sm_I) (L14 : sm_L), z = (none, (xLay, I13, L14, (kQ12 R))) ∧ Φ (some (.int r9), (xLay, I13, L14, (kQ12 R)))))) ∧ (¬ r9 = 0 → Φ (some (.int r9), (xLay, I7, L8, (kQ12 R))))))))))) : sm_wp sm_P S (d + 1) 276 0 [.ref 2, .ref 1, .int x2] [] (xLay, I, L, (kQ12 R)) (0, 0) Φ := sm_wp_step (sm_cv0 (h) (fun I1 L2 q35 => sm_cv0 (q35) (fun I4 L5 q34 => sm_ci0 (q34) (fun r9 I7 L8 q33 => ⟨fun q32 => sm_ci0 (((q33).1 q32)) (fun r21 I19 L20 q31 => ⟨fun q30 => sm_cvQ12 (((q31).1 q30)) (fun I22 L23 R23 q29 => sm_cvQ12 (q29) (fun I25 L26 R26 q28 => q28)), fun q30 => ((q31).2 q30)⟩), fun q32 => ⟨fun q18 => sm_cv0 (((((q33).2 q32)).1 q18)) (fun I10 L11 q17 => sm_cv0 (q17) (fun I13 L14 q16 => q16)), fun q18 => ((((q33).2 q32)).2 q18)⟩⟩))))
theorem kQ12_r : ∀ t, t ∈ kQ12l → (t.1 = 2 ∧ t.2.1 = 6 ∧ t.2.2 = 12) ∨ en_refs kl_tb t.1 t.2.1 = [t.2.2] := by decide +kernel
theorem kQ12_eq {w : sm_W} (hm : en_mem kl_tb klX w) (h26 : w.2.2.2 2 6 = some 12) : kQ12 w.2.2.2 = w.2.2.2 := by
  funext x j
  unfold kQ12
  split
  · next t ht =>
    have mem := List.mem_of_find?_eq_some ht
    have pr := List.find?_some ht
    obtain ⟨p1, p2⟩ := Bool.and_eq_true_iff.mp pr
    have e1 : t.1 = x := Nat.eq_of_beq_eq_true p1
    have e2 : t.2.1 = j := Nat.eq_of_beq_eq_true p2
    rcases kQ12_r t mem with ⟨q1, q2, q3⟩ | q
    · rw [← e1, ← e2, q1, q2, q3]; exact h26.symm
    · obtain ⟨a, g1, g2⟩ := hm.2.2.1 t.1 t.2.1 (by rw [q]; exact List.cons_ne_nil _ _)
      rw [q] at g1
      rw [← e1, ← e2, g2, List.mem_singleton.mp g1]
  · rfl
theorem sm_cvQ49 {P : Nat → sm_M} {S : sm_C} {d g : Nat} {as : List Value} {w : sm_W} {cs : Nat × Nat} {lay : List (Nat × Nat)} {C : sm_I → sm_L → sm_R → Prop} {K : sm_Z → Prop} (h : sm_wp P S d g 0 as [] w cs (fun z => ∃ (I2 : sm_I) (L2 : sm_L) (R2 : sm_R), z = (none, (lay, I2, L2, kQ49 R2)) ∧ C I2 L2 R2)) (hC : ∀ (I2 : sm_I) (L2 : sm_L) (R2 : sm_R), C I2 L2 R2 → K (none, (lay, I2, L2, kQ49 R2))) : sm_wp P S d g 0 as [] w cs K := sm_wp_mono h (fun z q => by
  obtain ⟨I2, L2, R2, e, c⟩ := q
  subst e
  exact hC I2 L2 R2 c)
theorem s49x_X7_readTape_0 {S : sm_C} {d : Nat} {Φ : sm_Z → Prop} {I : sm_I} {L : sm_L} {R : sm_R} {x2 : Int32} (h : sm_wp sm_P S d 16 0 [.ref 49] [] (xLay, I, L, (kQ49 R)) (0, 0) (fun z => ∃ (I1 : sm_I) (L2 : sm_L), z = (none, (xLay, I1, L2, (kQ49 R))) ∧ sm_wp sm_P S d 301 0 [.ref 3, .ref 1, .int x2] [] (xLay, (sm_up I1 2 5 (0 : Int32)), L2, (kQ49 R)) (0, 0) (fun z => ∃ (I4 : sm_I) (L5 : sm_L), z = (none, (xLay, I4, L5, (kQ49 R))) ∧ sm_wp sm_P S d 277 0 [.ref 2] [] (xLay, I4, L5, (kQ49 R)) (0, 0) (fun z => ∃ (r9 : Int32) (I7 : sm_I) (L8 : sm_L), z = (some (.int r9), (xLay, I7, L8, (kQ49 R))) ∧ ((r9 = 0 → sm_wp sm_P S d 274 0 [.ref 2] [] (xLay, I7, L8, (kQ49 R)) (0, 0) (fun z => ∃ (r21 : Int32) (I19 : sm_I) (L20 : sm_L), z = (some (.int r21), (xLay, I19, L20, (kQ49 R))) ∧ ((r21 = 0 → sm_wp sm_P S d 18 0 [.ref 49] [] (xLay, I19, L20, (kQ49 R)) (0, 0) (fun z => ∃ (I22 : sm_I) (L23 : sm_L) (R23 : sm_R), z = (none, (xLay, I22, L23, (kQ49 R23))) ∧ sm_wp sm_P S d 17 0 [.ref 49] [] (xLay, I22, L23, (kQ49 R23)) (0, 0) (fun z => ∃ (I25 : sm_I) (L26 : sm_L) (R26 : sm_R), z = (none, (xLay, I25, L26, (kQ49 R26))) ∧ Φ (some (.int r21), (xLay, I25, L26, (kQ49 R26)))))) ∧ (¬ r21 = 0 → Φ (some (.int r21), (xLay, I19, L20, (kQ49 R))))))) ∧ (¬ r9 = 0 → ((r9 = 0 → sm_wp sm_P S d 18 0 [.ref 49] [] (xLay, I7, L8, (kQ49 R)) (0, 0) (fun z => ∃ (I10 : sm_I) (L11 : sm_L), z = (none, (xLay, I10, L11, (kQ49 R))) ∧ sm_wp sm_P S d 17 0 [.ref 49] [] (xLay, I10, L11, (kQ49 R)) (0, 0) (fun z => ∃ (I13 : sm_I) (L14 : sm_L), z = (none, (xLay, I13, L14, (kQ49 R))) ∧ Φ (some (.int r9), (xLay, I13, L14, (kQ49 R)))))) ∧ (¬ r9 = 0 → Φ (some (.int r9), (xLay, I7, L8, (kQ49 R))))))))))) : sm_wp sm_P S (d + 1) 276 0 [.ref 2, .ref 1, .int x2] [] (xLay, I, L, (kQ49 R)) (0, 0) Φ := sm_wp_step (sm_cv0 (h) (fun I1 L2 q35 => sm_cv0 (q35) (fun I4 L5 q34 => sm_ci0 (q34) (fun r9 I7 L8 q33 => ⟨fun q32 => sm_ci0 (((q33).1 q32)) (fun r21 I19 L20 q31 => ⟨fun q30 => sm_cvQ49 (((q31).1 q30)) (fun I22 L23 R23 q29 => sm_cvQ49 (q29) (fun I25 L26 R26 q28 => q28)), fun q30 => ((q31).2 q30)⟩), fun q32 => ⟨fun q18 => sm_cv0 (((((q33).2 q32)).1 q18)) (fun I10 L11 q17 => sm_cv0 (q17) (fun I13 L14 q16 => q16)), fun q18 => ((((q33).2 q32)).2 q18)⟩⟩))))
theorem kQ49_r : ∀ t, t ∈ kQ49l → (t.1 = 2 ∧ t.2.1 = 6 ∧ t.2.2 = 49) ∨ en_refs kl_tb t.1 t.2.1 = [t.2.2] := by decide +kernel
theorem kQ49_eq {w : sm_W} (hm : en_mem kl_tb klX w) (h26 : w.2.2.2 2 6 = some 49) : kQ49 w.2.2.2 = w.2.2.2 := by
  funext x j
  unfold kQ49
  split
  · next t ht =>
    have mem := List.mem_of_find?_eq_some ht
    have pr := List.find?_some ht
    obtain ⟨p1, p2⟩ := Bool.and_eq_true_iff.mp pr
    have e1 : t.1 = x := Nat.eq_of_beq_eq_true p1
    have e2 : t.2.1 = j := Nat.eq_of_beq_eq_true p2
    rcases kQ49_r t mem with ⟨q1, q2, q3⟩ | q
    · rw [← e1, ← e2, q1, q2, q3]; exact h26.symm
    · obtain ⟨a, g1, g2⟩ := hm.2.2.1 t.1 t.2.1 (by rw [q]; exact List.cons_ne_nil _ _)
      rw [q] at g1
      rw [← e1, ← e2, g2, List.mem_singleton.mp g1]
  · rfl
end
section
/-! conditions of the class's small methods, told = q, and of the reference's (wip/pe/symp.py) -/
def kPl : List (Nat × Nat × Nat) := [(0, 0, 1), (0, 1, 2), (0, 2, 37), (0, 3, 45), (0, 4, 74), (0, 5, 82), (0, 6, 90), (0, 7, 98), (0, 8, 103), (37, 2, 38), (37, 3, 39), (37, 4, 40), (40, 0, 41), (40, 1, 42), (40, 2, 43), (40, 3, 44)]
def kP (q : Nat) (R : sm_R) : sm_R := fun x j => match kPl.find? (fun t => Nat.beq t.1 x && Nat.beq t.2.1 j) with
  | some t => some t.2.2
  | none => bif Nat.beq x 0 && Nat.beq j 9 then some q else R x j
theorem p12_X11_isSaying_0 {S : sm_C} {d : Nat} {Φ : sm_Z → Prop} {I : sm_I} {L : sm_L} {R : sm_R} {x1 : Int32} (h : ((x1 < 0 → Φ (some (.int (0 : Int32)), (xLay, I, L, (kP 12 R)))) ∧ (¬ x1 < 0 → (((I 12 3) ≤ x1 → Φ (some (.int (0 : Int32)), (xLay, I, L, (kP 12 R)))) ∧ (¬ (I 12 3) ≤ x1 → Φ (some (.int (1 : Int32)), (xLay, I, L, (kP 12 R)))))))) : sm_wp sm_P S d 62 0 [.ref 0, .int x1] [] (xLay, I, L, (kP 12 R)) (0, 0) Φ := sm_wp_step (⟨fun q2 => ⟨Or.inl rfl, ((h).1 q2)⟩, fun q2 => ⟨fun q1 => ⟨Or.inl rfl, ((((h).2 q2)).1 q1)⟩, fun q1 => ⟨Or.inr rfl, ((((h).2 q2)).2 q1)⟩⟩⟩)
theorem p49_X11_isSaying_0 {S : sm_C} {d : Nat} {Φ : sm_Z → Prop} {I : sm_I} {L : sm_L} {R : sm_R} {x1 : Int32} (h : ((x1 < 0 → Φ (some (.int (0 : Int32)), (xLay, I, L, (kP 49 R)))) ∧ (¬ x1 < 0 → (((I 49 3) ≤ x1 → Φ (some (.int (0 : Int32)), (xLay, I, L, (kP 49 R)))) ∧ (¬ (I 49 3) ≤ x1 → Φ (some (.int (1 : Int32)), (xLay, I, L, (kP 49 R)))))))) : sm_wp sm_P S d 62 0 [.ref 0, .int x1] [] (xLay, I, L, (kP 49 R)) (0, 0) Φ := sm_wp_step (⟨fun q2 => ⟨Or.inl rfl, ((h).1 q2)⟩, fun q2 => ⟨fun q1 => ⟨Or.inl rfl, ((((h).2 q2)).1 q1)⟩, fun q1 => ⟨Or.inr rfl, ((((h).2 q2)).2 q1)⟩⟩⟩)
theorem p12_X11_isSay_0 {S : sm_C} {d : Nat} {Φ : sm_Z → Prop} {I : sm_I} {L : sm_L} {R : sm_R} {x1 : Int32} (h : sm_wp sm_P S d 62 0 [.ref 0, .int x1] [] (xLay, I, L, (kP 12 R)) (0, 0) (fun z => ∃ (r3 : Int32) (I1 : sm_I) (L2 : sm_L), z = (some (.int r3), (xLay, I1, L2, (kP 12 R))) ∧ ((r3 = 0 → Φ (some (.int (0 : Int32)), (xLay, I1, L2, (kP 12 R)))) ∧ (¬ r3 = 0 → (((((I1 12 6) >>> (x1 &&& 31)) &&& (1 : Int32)) = 0 → Φ (some (.int (1 : Int32)), (xLay, I1, L2, (kP 12 R)))) ∧ (¬ (((I1 12 6) >>> (x1 &&& 31)) &&& (1 : Int32)) = 0 → Φ (some (.int (0 : Int32)), (xLay, I1, L2, (kP 12 R))))))))) : sm_wp sm_P S (d + 1) 61 0 [.ref 0, .int x1] [] (xLay, I, L, (kP 12 R)) (0, 0) Φ := sm_wp_step (sm_ci0 (h) (fun r3 I1 L2 q6 => ⟨fun q5 => ⟨Or.inl rfl, ((q6).1 q5)⟩, fun q5 => ⟨fun q4 => ⟨Or.inr rfl, ((((q6).2 q5)).1 q4)⟩, fun q4 => ⟨Or.inl rfl, ((((q6).2 q5)).2 q4)⟩⟩⟩))
theorem p49_X11_isSay_0 {S : sm_C} {d : Nat} {Φ : sm_Z → Prop} {I : sm_I} {L : sm_L} {R : sm_R} {x1 : Int32} (h : sm_wp sm_P S d 62 0 [.ref 0, .int x1] [] (xLay, I, L, (kP 49 R)) (0, 0) (fun z => ∃ (r3 : Int32) (I1 : sm_I) (L2 : sm_L), z = (some (.int r3), (xLay, I1, L2, (kP 49 R))) ∧ ((r3 = 0 → Φ (some (.int (0 : Int32)), (xLay, I1, L2, (kP 49 R)))) ∧ (¬ r3 = 0 → (((((I1 49 6) >>> (x1 &&& 31)) &&& (1 : Int32)) = 0 → Φ (some (.int (1 : Int32)), (xLay, I1, L2, (kP 49 R)))) ∧ (¬ (((I1 49 6) >>> (x1 &&& 31)) &&& (1 : Int32)) = 0 → Φ (some (.int (0 : Int32)), (xLay, I1, L2, (kP 49 R))))))))) : sm_wp sm_P S (d + 1) 61 0 [.ref 0, .int x1] [] (xLay, I, L, (kP 49 R)) (0, 0) Φ := sm_wp_step (sm_ci0 (h) (fun r3 I1 L2 q6 => ⟨fun q5 => ⟨Or.inl rfl, ((q6).1 q5)⟩, fun q5 => ⟨fun q4 => ⟨Or.inr rfl, ((((q6).2 q5)).1 q4)⟩, fun q4 => ⟨Or.inl rfl, ((((q6).2 q5)).2 q4)⟩⟩⟩))
theorem p12_X11_isTime_0 {S : sm_C} {d : Nat} {Φ : sm_Z → Prop} {I : sm_I} {L : sm_L} {R : sm_R} {x1 : Int32} (h : ((x1 < 0 → Φ (some (.int (0 : Int32)), (xLay, I, L, (kP 12 R)))) ∧ (¬ x1 < 0 → (((I 12 2) ≤ x1 → Φ (some (.int (0 : Int32)), (xLay, I, L, (kP 12 R)))) ∧ (¬ (I 12 2) ≤ x1 → Φ (some (.int (1 : Int32)), (xLay, I, L, (kP 12 R)))))))) : sm_wp sm_P S d 63 0 [.ref 0, .int x1] [] (xLay, I, L, (kP 12 R)) (0, 0) Φ := sm_wp_step (⟨fun q2 => ⟨Or.inl rfl, ((h).1 q2)⟩, fun q2 => ⟨fun q1 => ⟨Or.inl rfl, ((((h).2 q2)).1 q1)⟩, fun q1 => ⟨Or.inr rfl, ((((h).2 q2)).2 q1)⟩⟩⟩)
theorem p49_X11_isTime_0 {S : sm_C} {d : Nat} {Φ : sm_Z → Prop} {I : sm_I} {L : sm_L} {R : sm_R} {x1 : Int32} (h : ((x1 < 0 → Φ (some (.int (0 : Int32)), (xLay, I, L, (kP 49 R)))) ∧ (¬ x1 < 0 → (((I 49 2) ≤ x1 → Φ (some (.int (0 : Int32)), (xLay, I, L, (kP 49 R)))) ∧ (¬ (I 49 2) ≤ x1 → Φ (some (.int (1 : Int32)), (xLay, I, L, (kP 49 R)))))))) : sm_wp sm_P S d 63 0 [.ref 0, .int x1] [] (xLay, I, L, (kP 49 R)) (0, 0) Φ := sm_wp_step (⟨fun q2 => ⟨Or.inl rfl, ((h).1 q2)⟩, fun q2 => ⟨fun q1 => ⟨Or.inl rfl, ((((h).2 q2)).1 q1)⟩, fun q1 => ⟨Or.inr rfl, ((((h).2 q2)).2 q1)⟩⟩⟩)
theorem p_X11_doubt_0 {S : sm_C} {d : Nat} {Φ : sm_Z → Prop} {I : sm_I} {L : sm_L} {R : sm_R} {q : Nat} {x1 : Int32} {x2 : Int32} (h : sm_wp sm_P S d 61 0 [.ref 0, .int x1] [] (xLay, I, L, (kP q R)) (0, 0) (fun z => ∃ (r3 : Int32) (I1 : sm_I) (L2 : sm_L), z = (some (.int r3), (xLay, I1, L2, (kP q R))) ∧ ((r3 = 0 → Φ (some (.int (0 : Int32)), (xLay, I1, L2, (kP q R)))) ∧ (¬ r3 = 0 → ∀ n4 : Int32, n4 = ((1 : Int32) <<< (x1 &&& 31)) → ((x2 = 0 → ∀ n5 : Int32, n5 = ((I1 37 0) &&& (n4 ^^^ (-1 : Int32))) → sm_wp sm_P S d 86 0 [.ref 0] [] (xLay, (sm_up I1 37 0 n5), L2, (kP q R)) (0, 0) (fun z => ∃ (I6 : sm_I) (L7 : sm_L), z = (none, (xLay, I6, L7, (kP q R))) ∧ Φ (some (.int (1 : Int32)), (xLay, I6, L7, (kP q R))))) ∧ (¬ x2 = 0 → ∀ I10 : sm_I, I10 = (sm_up I1 37 0 ((I1 37 0) ||| n4)) → (vp_in x1 55) ∧ ∀ I11 : sm_I, I11 = (sm_up I10 39 x1.toNatClampNeg (-1 : Int32)) → sm_wp sm_P S d 86 0 [.ref 0] [] (xLay, I11, L2, (kP q R)) (0, 0) (fun z => ∃ (I12 : sm_I) (L13 : sm_L), z = (none, (xLay, I12, L13, (kP q R))) ∧ Φ (some (.int (1 : Int32)), (xLay, I12, L13, (kP q R)))))))))) : sm_wp sm_P S (d + 1) 39 0 [.ref 0, .int x1, .int x2] [] (xLay, I, L, (kP q R)) (0, 0) Φ := sm_wp_step (sm_ci0 (h) (fun r3 I1 L2 q18 => ⟨fun q17 => ⟨Or.inl rfl, ((q18).1 q17)⟩, fun q17 => ⟨fun q16 => sm_cv0 (((((((q18).2 q17) _ rfl)).1 q16) _ rfl)) (fun I6 L7 q9 => ⟨Or.inr rfl, q9⟩), fun q16 => ⟨(((((((q18).2 q17) _ rfl)).2 q16) _ rfl)).1, sm_cv0 (((((((((q18).2 q17) _ rfl)).2 q16) _ rfl)).2 _ rfl)) (fun I12 L13 q15 => ⟨Or.inr rfl, q15⟩)⟩⟩⟩))
theorem p_X11_set_0 {S : sm_C} {d : Nat} {Φ : sm_Z → Prop} {I : sm_I} {L : sm_L} {R : sm_R} {q : Nat} {x1 : Int32} {x2 : Int32} (h : sm_wp sm_P S d 63 0 [.ref 0, .int x1] [] (xLay, I, L, (kP q R)) (0, 0) (fun z => ∃ (r3 : Int32) (I1 : sm_I) (L2 : sm_L), z = (some (.int r3), (xLay, I1, L2, (kP q R))) ∧ ((r3 = 0 → Φ (some (.int (0 : Int32)), (xLay, I1, L2, (kP q R)))) ∧ (¬ r3 = 0 → ((x2 = (-1 : Int32) → (vp_in x1 10) ∧ ∀ I4 : sm_I, I4 = (sm_up I1 38 x1.toNatClampNeg x2) → Φ (some (.int (1 : Int32)), (xLay, I4, L2, (kP q R)))) ∧ (¬ x2 = (-1 : Int32) → sm_wp sm_P S d 58 0 [.int x2] [] (xLay, I1, L2, (kP q R)) (0, 0) (fun z => ∃ (r7 : Int32) (I5 : sm_I) (L6 : sm_L), z = (some (.int r7), (xLay, I5, L6, (kP q R))) ∧ ((r7 = 0 → Φ (some (.int (0 : Int32)), (xLay, I5, L6, (kP q R)))) ∧ (¬ r7 = 0 → (vp_in x1 10) ∧ ∀ I8 : sm_I, I8 = (sm_up I5 38 x1.toNatClampNeg x2) → Φ (some (.int (1 : Int32)), (xLay, I8, L6, (kP q R)))))))))))) : sm_wp sm_P S (d + 1) 83 0 [.ref 0, .int x1, .int x2] [] (xLay, I, L, (kP q R)) (0, 0) Φ := sm_wp_step (sm_ci0 (h) (fun r3 I1 L2 q13 => ⟨fun q12 => ⟨Or.inl rfl, ((q13).1 q12)⟩, fun q12 => ⟨fun q11 => ⟨(((((q13).2 q12)).1 q11)).1, ⟨Or.inr rfl, ((((((q13).2 q12)).1 q11)).2 _ rfl)⟩⟩, fun q11 => sm_ci0 (((((q13).2 q12)).2 q11)) (fun r7 I5 L6 q10 => ⟨fun q9 => ⟨Or.inl rfl, ((q10).1 q9)⟩, fun q9 => ⟨(((q10).2 q9)).1, ⟨Or.inr rfl, ((((q10).2 q9)).2 _ rfl)⟩⟩⟩)⟩⟩))
theorem p_X11_more_0 {S : sm_C} {d : Nat} {Φ : sm_Z → Prop} {I : sm_I} {L : sm_L} {R : sm_R} {q : Nat} {x1 : Int32} {x2 : Int32} {x3 : Int32} {x4 : Int32} (h : sm_wp sm_P S d 63 0 [.ref 0, .int x1] [] (xLay, I, L, (kP q R)) (0, 0) (fun z => ∃ (r3 : Int32) (I1 : sm_I) (L2 : sm_L), z = (some (.int r3), (xLay, I1, L2, (kP q R))) ∧ ((r3 = 0 → sm_wp sm_P S (d + 1) 69 5 [.ref 0, .int x1, .int x2, .int x3, .int x4] [.int (0 : Int32)] (xLay, I1, L2, (kP q R)) (0, 0) Φ) ∧ (¬ r3 = 0 → ((x2 = (-1 : Int32) → sm_wp sm_P S (d + 1) 69 5 [.ref 0, .int x1, .int x2, .int x3, .int x4] [.int (1 : Int32)] (xLay, I1, L2, (kP q R)) (0, 0) Φ) ∧ (¬ x2 = (-1 : Int32) → sm_wp sm_P S d 63 0 [.ref 0, .int x2] [] (xLay, I1, L2, (kP q R)) (0, 0) (fun z => ∃ (r6 : Int32) (I4 : sm_I) (L5 : sm_L), z = (some (.int r6), (xLay, I4, L5, (kP q R))) ∧ ((r6 = 0 → sm_wp sm_P S (d + 1) 69 5 [.ref 0, .int x1, .int x2, .int x3, .int x4] [.int (0 : Int32)] (xLay, I4, L5, (kP q R)) (0, 0) Φ) ∧ (¬ r6 = 0 → sm_wp sm_P S (d + 1) 69 5 [.ref 0, .int x1, .int x2, .int x3, .int x4] [.int (1 : Int32)] (xLay, I4, L5, (kP q R)) (0, 0) Φ))))))))) : sm_wp sm_P S (d + 1) 69 0 [.ref 0, .int x1, .int x2, .int x3, .int x4] [] (xLay, I, L, (kP q R)) (0, 0) Φ := sm_wp_step (sm_ci0 (h) (fun r3 I1 L2 q11 => ⟨fun q10 => ((q11).1 q10), fun q10 => ⟨fun q9 => ((((q11).2 q10)).1 q9), fun q9 => sm_ci0 (((((q11).2 q10)).2 q9)) (fun r6 I4 L5 q8 => ⟨fun q7 => ((q8).1 q7), fun q7 => ((q8).2 q7)⟩)⟩⟩))
theorem p_X11_more_5 {S : sm_C} {d : Nat} {Φ : sm_Z → Prop} {I : sm_I} {L : sm_L} {R : sm_R} {q : Nat} {x1 : Int32} {x2 : Int32} {x3 : Int32} {x4 : Int32} {s0 : Int32} (h : ((s0 = 0 → Φ (some (.int (-1 : Int32)), (xLay, I, L, (kP q R)))) ∧ (¬ s0 = 0 → (((if x4 < x3 then x4 else x3) < (-1440 : Int32) → Φ (some (.int (-1 : Int32)), (xLay, I, L, (kP q R)))) ∧ (¬ (if x4 < x3 then x4 else x3) < (-1440 : Int32) → (((if x3 < x4 then x4 else x3) ≤ (1440 : Int32) → (((I 37 1) < (6 : Int32) → sm_wp sm_P S d 294 0 [.ref 40, .int (I 37 1), .int x1, .int x2] [] (xLay, I, L, (kP q R)) (0, 0) (fun z => ∃ (I1 : sm_I) (L2 : sm_L), z = (none, (xLay, I1, L2, (kP q R))) ∧ sm_wp sm_P S d 286 0 [.ref 40, .int (I1 37 1), .int x3, .int x4] [] (xLay, I1, L2, (kP q R)) (0, 0) (fun z => ∃ (I4 : sm_I) (L5 : sm_L), z = (none, (xLay, I4, L5, (kP q R))) ∧ ∀ I7 : sm_I, I7 = (sm_up I4 37 1 ((I4 37 1) + (1 : Int32))) → sm_wp sm_P S d 86 0 [.ref 0] [] (xLay, I7, L5, (kP q R)) (0, 0) (fun z => ∃ (I8 : sm_I) (L9 : sm_L), z = (none, (xLay, I8, L9, (kP q R))) ∧ Φ (some (.int (I8 37 1)), (xLay, I8, L9, (kP q R))))))) ∧ (¬ (I 37 1) < (6 : Int32) → Φ (some (.int (-1 : Int32)), (xLay, I, L, (kP q R)))))) ∧ (¬ (if x3 < x4 then x4 else x3) ≤ (1440 : Int32) → Φ (some (.int (-1 : Int32)), (xLay, I, L, (kP q R)))))))))) : sm_wp sm_P S (d + 1) 69 5 [.ref 0, .int x1, .int x2, .int x3, .int x4] [.int s0] (xLay, I, L, (kP q R)) (0, 0) Φ := sm_wp_step (⟨fun q17 => ((h).1 q17), fun q17 => ⟨fun q16 => ((((h).2 q17)).1 q16), fun q16 => ⟨fun q15 => ⟨fun q14 => sm_cv0 (((((((((h).2 q17)).2 q16)).1 q15)).1 q14)) (fun I1 L2 q13 => sm_cv0 (q13) (fun I4 L5 q12 => sm_cv0 ((q12 _ rfl)) (fun I8 L9 q11 => q11))), fun q14 => ((((((((h).2 q17)).2 q16)).1 q15)).2 q14)⟩, fun q15 => ((((((h).2 q17)).2 q16)).2 q15)⟩⟩⟩)
theorem p_X11_fewer_0 {S : sm_C} {d : Nat} {Φ : sm_Z → Prop} {I : sm_I} {L : sm_L} {R : sm_R} {q : Nat} (h : ((0 < (I 37 1) → ∀ I1 : sm_I, I1 = (sm_up I 37 1 ((I 37 1) - (1 : Int32))) → sm_wp sm_P S d 86 0 [.ref 0] [] (xLay, I1, L, (kP q R)) (0, 0) (fun z => ∃ (I2 : sm_I) (L3 : sm_L), z = (none, (xLay, I2, L3, (kP q R))) ∧ Φ (some (.int (I2 37 1)), (xLay, I2, L3, (kP q R))))) ∧ (¬ 0 < (I 37 1) → Φ (some (.int (-1 : Int32)), (xLay, I, L, (kP q R)))))) : sm_wp sm_P S (d + 1) 43 0 [.ref 0] [] (xLay, I, L, (kP q R)) (0, 0) Φ := sm_wp_step (⟨fun q6 => sm_cv0 ((((h).1 q6) _ rfl)) (fun I2 L3 q5 => q5), fun q6 => ((h).2 q6)⟩)
theorem p_X11_stale_0 {S : sm_C} {d : Nat} {Φ : sm_Z → Prop} {I : sm_I} {L : sm_L} {R : sm_R} {q : Nat} (h : ∀ I1 : sm_I, I1 = (sm_up (sm_up I 0 12 (0 : Int32)) 0 13 (0 : Int32)) → ∀ I2 : sm_I, I2 = (sm_up (sm_up I1 98 8 (0 : Int32)) 103 5 (0 : Int32)) → Φ (none, (xLay, (sm_up I2 98 9 (0 : Int32)), L, (kP q R)))) : sm_wp sm_P S d 86 0 [.ref 0] [] (xLay, I, L, (kP q R)) (0, 0) Φ := sm_wp_step (⟨Or.inl rfl, ⟨Or.inl rfl, ⟨Or.inl rfl, ⟨Or.inl rfl, ⟨Or.inl rfl, ((h _ rfl) _ rfl)⟩⟩⟩⟩⟩)
theorem p_X11_isMinute_0 {S : sm_C} {d : Nat} {Φ : sm_Z → Prop} {I : sm_I} {L : sm_L} {R : sm_R} {q : Nat} {x0 : Int32} (h : ((x0 < 0 → Φ (some (.int (0 : Int32)), (xLay, I, L, (kP q R)))) ∧ (¬ x0 < 0 → (((1440 : Int32) < x0 → Φ (some (.int (0 : Int32)), (xLay, I, L, (kP q R)))) ∧ (¬ (1440 : Int32) < x0 → Φ (some (.int (1 : Int32)), (xLay, I, L, (kP q R)))))))) : sm_wp sm_P S d 58 0 [.int x0] [] (xLay, I, L, (kP q R)) (0, 0) Φ := sm_wp_step (⟨fun q2 => ⟨Or.inl rfl, ((h).1 q2)⟩, fun q2 => ⟨fun q1 => ⟨Or.inl rfl, ((((h).2 q2)).1 q1)⟩, fun q1 => ⟨Or.inr rfl, ((((h).2 q2)).2 q1)⟩⟩⟩)
theorem p40_X8_hasRow_0 {S : sm_C} {d : Nat} {Φ : sm_Z → Prop} {I : sm_I} {L : sm_L} {R : sm_R} {q : Nat} {x1 : Int32} (h : ((x1 < 0 → Φ (some (.int (0 : Int32)), (xLay, I, L, (kP q R)))) ∧ (¬ x1 < 0 → (((Int32.ofNat 6) ≤ x1 → Φ (some (.int (0 : Int32)), (xLay, I, L, (kP q R)))) ∧ (¬ (Int32.ofNat 6) ≤ x1 → Φ (some (.int (1 : Int32)), (xLay, I, L, (kP q R)))))))) : sm_wp sm_P S d 287 0 [.ref 40, .int x1] [] (xLay, I, L, (kP q R)) (0, 0) Φ := sm_wp_step (⟨fun q2 => ⟨Or.inl rfl, ((h).1 q2)⟩, fun q2 => ⟨fun q1 => ⟨Or.inl rfl, ((((h).2 q2)).1 q1)⟩, fun q1 => ⟨Or.inr rfl, ((((h).2 q2)).2 q1)⟩⟩⟩)
theorem p40_X8_put_0 {S : sm_C} {d : Nat} {Φ : sm_Z → Prop} {I : sm_I} {L : sm_L} {R : sm_R} {q : Nat} {x1 : Int32} {x2 : Int32} {x3 : Int32} (h : sm_wp sm_P S d 287 0 [.ref 40, .int x1] [] (xLay, I, L, (kP q R)) (0, 0) (fun z => ∃ (r3 : Int32) (I1 : sm_I) (L2 : sm_L), z = (some (.int r3), (xLay, I1, L2, (kP q R))) ∧ ((r3 = 0 → Φ (none, (xLay, I1, L2, (kP q R)))) ∧ (¬ r3 = 0 → (vp_in x1 6) ∧ ∀ I4 : sm_I, I4 = (sm_up I1 41 x1.toNatClampNeg x2) → (vp_in x1 6) ∧ ∀ I5 : sm_I, I5 = (sm_up I4 42 x1.toNatClampNeg x3) → Φ (none, (xLay, I5, L2, (kP q R))))))) : sm_wp sm_P S (d + 1) 294 0 [.ref 40, .int x1, .int x2, .int x3] [] (xLay, I, L, (kP q R)) (0, 0) Φ := sm_wp_step (sm_ci0 (h) (fun r3 I1 L2 q7 => ⟨fun q6 => ((q7).1 q6), fun q6 => ⟨(((q7).2 q6)).1, ⟨(((((q7).2 q6)).2 _ rfl)).1, ((((((q7).2 q6)).2 _ rfl)).2 _ rfl)⟩⟩⟩))
theorem p40_X8_bound_0 {S : sm_C} {d : Nat} {Φ : sm_Z → Prop} {I : sm_I} {L : sm_L} {R : sm_R} {q : Nat} {x1 : Int32} {x2 : Int32} {x3 : Int32} (h : sm_wp sm_P S d 287 0 [.ref 40, .int x1] [] (xLay, I, L, (kP q R)) (0, 0) (fun z => ∃ (r3 : Int32) (I1 : sm_I) (L2 : sm_L), z = (some (.int r3), (xLay, I1, L2, (kP q R))) ∧ ((r3 = 0 → Φ (none, (xLay, I1, L2, (kP q R)))) ∧ (¬ r3 = 0 → (vp_in x1 6) ∧ ∀ I4 : sm_I, I4 = (sm_up I1 43 x1.toNatClampNeg x2) → (vp_in x1 6) ∧ ∀ I5 : sm_I, I5 = (sm_up I4 44 x1.toNatClampNeg x3) → Φ (none, (xLay, I5, L2, (kP q R))))))) : sm_wp sm_P S (d + 1) 286 0 [.ref 40, .int x1, .int x2, .int x3] [] (xLay, I, L, (kP q R)) (0, 0) Φ := sm_wp_step (sm_ci0 (h) (fun r3 I1 L2 q7 => ⟨fun q6 => ((q7).1 q6), fun q6 => ⟨(((q7).2 q6)).1, ⟨(((((q7).2 q6)).2 _ rfl)).1, ((((((q7).2 q6)).2 _ rfl)).2 _ rfl)⟩⟩⟩))
theorem p_X4_clear_0 {S : sm_C} {d : Nat} {Φ : sm_Z → Prop} {I : sm_I} {L : sm_L} {R : sm_R} {q : Nat} (h : ∀ I1 : sm_I, I1 = (sm_up (sm_up I 37 0 (0 : Int32)) 37 1 (0 : Int32)) → sm_wp sm_P S d 306 0 [.ref 38, .int (-1 : Int32)] [] (xLay, I1, L, (kP q R)) (0, 0) (fun z => ∃ (I2 : sm_I) (L3 : sm_L), z = (none, (xLay, I2, L3, (kP q R))) ∧ sm_wp sm_P S d 306 0 [.ref 39, .int (-1 : Int32)] [] (xLay, I2, L3, (kP q R)) (0, 0) (fun z => ∃ (I5 : sm_I) (L6 : sm_L), z = (none, (xLay, I5, L6, (kP q R))) ∧ Φ (none, (xLay, I5, L6, (kP q R)))))) : sm_wp sm_P S (d + 1) 245 0 [.ref 37] [] (xLay, I, L, (kP q R)) (0, 0) Φ := sm_wp_step (sm_cv0 ((h _ rfl)) (fun I2 L3 q9 => sm_cv0 (q9) (fun I5 L6 q8 => q8)))
theorem p38_J7_fill_53178_0 {S : sm_C} {d : Nat} {Φ : sm_Z → Prop} {I : sm_I} {L : sm_L} {R : sm_R} {q : Nat} {x1 : Int32} (h : sm_wp sm_P S d 306 1 [.ref 38, .int x1, .int (0 : Int32), .int (Int32.ofNat 10)] [] (xLay, I, L, (kP q R)) (0, 0) Φ) : sm_wp sm_P S d 306 0 [.ref 38, .int x1] [] (xLay, I, L, (kP q R)) (0, 0) Φ := sm_wp_step (h)
theorem p38_J7_fill_53178_1 {S : sm_C} {d : Nat} {Φ : sm_Z → Prop} {I : sm_I} {L : sm_L} {R : sm_R} {q : Nat} {x1 : Int32} {x2 : Int32} {x3 : Int32} (h : ((x3 ≤ x2 → Φ (none, (xLay, I, L, (kP q R)))) ∧ (¬ x3 ≤ x2 → (vp_in x2 10) ∧ ∀ I1 : sm_I, I1 = (sm_up I 38 x2.toNatClampNeg x1) → sm_wp sm_P S d 306 1 [.ref 38, .int x1, .int (x2 + (1 : Int32)), .int x3] [] (xLay, I1, L, (kP q R)) (0, 0) Φ))) : sm_wp sm_P S d 306 1 [.ref 38, .int x1, .int x2, .int x3] [] (xLay, I, L, (kP q R)) (0, 0) Φ := sm_wp_step (⟨fun q2 => ((h).1 q2), fun q2 => ⟨(((h).2 q2)).1, ((((h).2 q2)).2 _ rfl)⟩⟩)
theorem p39_J7_fill_53178_0 {S : sm_C} {d : Nat} {Φ : sm_Z → Prop} {I : sm_I} {L : sm_L} {R : sm_R} {q : Nat} {x1 : Int32} (h : sm_wp sm_P S d 306 1 [.ref 39, .int x1, .int (0 : Int32), .int (Int32.ofNat 55)] [] (xLay, I, L, (kP q R)) (0, 0) Φ) : sm_wp sm_P S d 306 0 [.ref 39, .int x1] [] (xLay, I, L, (kP q R)) (0, 0) Φ := sm_wp_step (h)
theorem p39_J7_fill_53178_1 {S : sm_C} {d : Nat} {Φ : sm_Z → Prop} {I : sm_I} {L : sm_L} {R : sm_R} {q : Nat} {x1 : Int32} {x2 : Int32} {x3 : Int32} (h : ((x3 ≤ x2 → Φ (none, (xLay, I, L, (kP q R)))) ∧ (¬ x3 ≤ x2 → (vp_in x2 55) ∧ ∀ I1 : sm_I, I1 = (sm_up I 39 x2.toNatClampNeg x1) → sm_wp sm_P S d 306 1 [.ref 39, .int x1, .int (x2 + (1 : Int32)), .int x3] [] (xLay, I1, L, (kP q R)) (0, 0) Φ))) : sm_wp sm_P S d 306 1 [.ref 39, .int x1, .int x2, .int x3] [] (xLay, I, L, (kP q R)) (0, 0) Φ := sm_wp_step (⟨fun q2 => ((h).1 q2), fun q2 => ⟨(((h).2 q2)).1, ((((h).2 q2)).2 _ rfl)⟩⟩)
theorem p_X12_isTime_0 {S : sm_C} {d : Nat} {Φ : sm_Z → Prop} {I : sm_I} {L : sm_L} {R : sm_R} {x1 : Int32} (h : (vp_in (I 107 18) 2) ∧ ∀ n1 : Int32, n1 = ((I 122 (I 107 18).toNatClampNeg) - (1 : Int32)) → sm_wp sm_P S d 141 0 [.int x1, .int (0 : Int32), .int n1] [] (xLay, I, L, (kM R)) (0, 0) (fun z => ∃ (r4 : Int32) (I2 : sm_I) (L3 : sm_L), z = (some (.int r4), (xLay, I2, L3, (kM R))) ∧ (r4 = 0 ∨ r4 = 1) ∧ Φ (some (.int r4), (xLay, I2, L3, (kM R))))) : sm_wp sm_P S (d + 1) 150 0 [.ref 107, .int x1] [] (xLay, I, L, (kM R)) (0, 0) Φ := sm_wp_step (⟨(h).1, sm_ci0 (((h).2 _ rfl)) (fun r4 I2 L3 q5 => ⟨(q5).1, (q5).2⟩)⟩)
theorem p_X12_isMinute_0 {S : sm_C} {d : Nat} {Φ : sm_Z → Prop} {I : sm_I} {L : sm_L} {R : sm_R} {x1 : Int32} (h : sm_wp sm_P S d 141 0 [.int x1, .int (0 : Int32), .int (1440 : Int32)] [] (xLay, I, L, (kM R)) (0, 0) (fun z => ∃ (r3 : Int32) (I1 : sm_I) (L2 : sm_L), z = (some (.int r3), (xLay, I1, L2, (kM R))) ∧ (r3 = 0 ∨ r3 = 1) ∧ Φ (some (.int r3), (xLay, I1, L2, (kM R))))) : sm_wp sm_P S (d + 1) 147 0 [.ref 107, .int x1] [] (xLay, I, L, (kM R)) (0, 0) Φ := sm_wp_step (sm_ci0 (h) (fun r3 I1 L2 q4 => ⟨(q4).1, (q4).2⟩))
theorem p_X12_doubt_0 {S : sm_C} {d : Nat} {Φ : sm_Z → Prop} {I : sm_I} {L : sm_L} {R : sm_R} {x1 : Int32} {x2 : Int32} (h : sm_wp sm_P S d 149 0 [.ref 107, .int x1] [] (xLay, I, L, (kM R)) (0, 0) (fun z => ∃ (r3 : Int32) (I1 : sm_I) (L2 : sm_L), z = (some (.int r3), (xLay, I1, L2, (kM R))) ∧ ((r3 = 0 → Φ (some (.int (0 : Int32)), (xLay, I1, L2, (kM R)))) ∧ (¬ r3 = 0 → ∀ n4 : Int32, n4 = (((10 : Int32) * (I1 107 18)) + x1) → (vp_in n4 20) ∧ (((I1 126 n4.toNatClampNeg) = 0 → (vp_in x1 10) ∧ ∀ I5 : sm_I, I5 = (sm_up I1 137 x1.toNatClampNeg (vp_nar .boolean x2)) → ((x2 = 0 → sm_wp sm_P S d 110 0 [.ref 107] [] (xLay, I5, L2, (kM R)) (0, 0) (fun z => ∃ (I6 : sm_I) (L7 : sm_L), z = (none, (xLay, I6, L7, (kM R))) ∧ Φ (some (.int (1 : Int32)), (xLay, I6, L7, (kM R))))) ∧ (¬ x2 = 0 → (vp_in x1 60) ∧ ∀ I10 : sm_I, I10 = (sm_up I5 160 x1.toNatClampNeg (-1 : Int32)) → sm_wp sm_P S d 110 0 [.ref 107] [] (xLay, I10, L2, (kM R)) (0, 0) (fun z => ∃ (I11 : sm_I) (L12 : sm_L), z = (none, (xLay, I11, L12, (kM R))) ∧ Φ (some (.int (1 : Int32)), (xLay, I11, L12, (kM R))))))) ∧ (¬ (I1 126 n4.toNatClampNeg) = 0 → Φ (some (.int (0 : Int32)), (xLay, I1, L2, (kM R))))))))) : sm_wp sm_P S (d + 1) 120 0 [.ref 107, .int x1, .int x2] [] (xLay, I, L, (kM R)) (0, 0) Φ := sm_wp_step (sm_ci0 (h) (fun r3 I1 L2 q18 => ⟨fun q17 => ⟨Or.inl rfl, ((q18).1 q17)⟩, fun q17 => ⟨((((q18).2 q17) _ rfl)).1, ⟨fun q16 => ⟨(((((((q18).2 q17) _ rfl)).2).1 q16)).1, ⟨fun q15 => sm_cv0 (((((((((((q18).2 q17) _ rfl)).2).1 q16)).2 _ rfl)).1 q15)) (fun I6 L7 q9 => ⟨Or.inr rfl, q9⟩), fun q15 => ⟨(((((((((((q18).2 q17) _ rfl)).2).1 q16)).2 _ rfl)).2 q15)).1, sm_cv0 (((((((((((((q18).2 q17) _ rfl)).2).1 q16)).2 _ rfl)).2 q15)).2 _ rfl)) (fun I11 L12 q14 => ⟨Or.inr rfl, q14⟩)⟩⟩⟩, fun q16 => ⟨Or.inl rfl, ((((((q18).2 q17) _ rfl)).2).2 q16)⟩⟩⟩⟩))
theorem p_X12_set_0 {S : sm_C} {d : Nat} {Φ : sm_Z → Prop} {I : sm_I} {L : sm_L} {R : sm_R} {x1 : Int32} {x2 : Int32} (h : sm_wp sm_P S d 150 0 [.ref 107, .int x1] [] (xLay, I, L, (kM R)) (0, 0) (fun z => ∃ (r3 : Int32) (I1 : sm_I) (L2 : sm_L), z = (some (.int r3), (xLay, I1, L2, (kM R))) ∧ ((r3 = 0 → Φ (some (.int (0 : Int32)), (xLay, I1, L2, (kM R)))) ∧ (¬ r3 = 0 → ((x2 = (-1 : Int32) → (vp_in x1 10) ∧ ∀ I4 : sm_I, I4 = (sm_up I1 138 x1.toNatClampNeg x2) → Φ (some (.int (1 : Int32)), (xLay, I4, L2, (kM R)))) ∧ (¬ x2 = (-1 : Int32) → sm_wp sm_P S d 147 0 [.ref 107, .int x2] [] (xLay, I1, L2, (kM R)) (0, 0) (fun z => ∃ (r7 : Int32) (I5 : sm_I) (L6 : sm_L), z = (some (.int r7), (xLay, I5, L6, (kM R))) ∧ ((r7 = 0 → Φ (some (.int (0 : Int32)), (xLay, I5, L6, (kM R)))) ∧ (¬ r7 = 0 → (vp_in x1 10) ∧ ∀ I8 : sm_I, I8 = (sm_up I5 138 x1.toNatClampNeg x2) → Φ (some (.int (1 : Int32)), (xLay, I8, L6, (kM R)))))))))))) : sm_wp sm_P S (d + 1) 188 0 [.ref 107, .int x1, .int x2] [] (xLay, I, L, (kM R)) (0, 0) Φ := sm_wp_step (sm_ci0 (h) (fun r3 I1 L2 q13 => ⟨fun q12 => ⟨Or.inl rfl, ((q13).1 q12)⟩, fun q12 => ⟨fun q11 => ⟨(((((q13).2 q12)).1 q11)).1, ⟨Or.inr rfl, ((((((q13).2 q12)).1 q11)).2 _ rfl)⟩⟩, fun q11 => sm_ci0 (((((q13).2 q12)).2 q11)) (fun r7 I5 L6 q10 => ⟨fun q9 => ⟨Or.inl rfl, ((q10).1 q9)⟩, fun q9 => ⟨(((q10).2 q9)).1, ⟨Or.inr rfl, ((((q10).2 q9)).2 _ rfl)⟩⟩⟩)⟩⟩))
theorem p_X12_more_0 {S : sm_C} {d : Nat} {Φ : sm_Z → Prop} {I : sm_I} {L : sm_L} {R : sm_R} {x1 : Int32} {x2 : Int32} {x3 : Int32} {x4 : Int32} (h : (((I 107 54) = (6 : Int32) → Φ (some (.int (-1 : Int32)), (xLay, I, L, (kM R)))) ∧ (¬ (I 107 54) = (6 : Int32) → sm_wp sm_P S d 150 0 [.ref 107, .int x1] [] (xLay, I, L, (kM R)) (0, 0) (fun z => ∃ (r3 : Int32) (I1 : sm_I) (L2 : sm_L), z = (some (.int r3), (xLay, I1, L2, (kM R))) ∧ ((r3 = 0 → Φ (some (.int (-1 : Int32)), (xLay, I1, L2, (kM R)))) ∧ (¬ r3 = 0 → ((x2 = (-1 : Int32) → sm_wp sm_P S d 141 0 [.int x3, .int (-1440 : Int32), .int (1440 : Int32)] [] (xLay, I1, L2, (kM R)) (0, 0) (fun z => ∃ (r6 : Int32) (I4 : sm_I) (L5 : sm_L), z = (some (.int r6), (xLay, I4, L5, (kM R))) ∧ ((r6 = 0 → Φ (some (.int (-1 : Int32)), (xLay, I4, L5, (kM R)))) ∧ (¬ r6 = 0 → sm_wp sm_P S d 141 0 [.int x4, .int (-1440 : Int32), .int (1440 : Int32)] [] (xLay, I4, L5, (kM R)) (0, 0) (fun z => ∃ (r9 : Int32) (I7 : sm_I) (L8 : sm_L), z = (some (.int r9), (xLay, I7, L8, (kM R))) ∧ ((r9 = 0 → Φ (some (.int (-1 : Int32)), (xLay, I7, L8, (kM R)))) ∧ (¬ r9 = 0 → (vp_in (I7 107 54) 6) ∧ ∀ I10 : sm_I, I10 = (sm_up I7 144 (I7 107 54).toNatClampNeg x1) → (vp_in (I10 107 54) 6) ∧ ∀ I11 : sm_I, I11 = (sm_up I10 145 (I10 107 54).toNatClampNeg x2) → (vp_in (I11 107 54) 6) ∧ ∀ I12 : sm_I, I12 = (sm_up I11 146 (I11 107 54).toNatClampNeg x3) → (vp_in (I12 107 54) 6) ∧ ∀ I13 : sm_I, I13 = (sm_up I12 147 (I12 107 54).toNatClampNeg x4) → ∀ I14 : sm_I, I14 = (sm_up I13 107 54 ((I13 107 54) + (1 : Int32))) → sm_wp sm_P S d 110 0 [.ref 107] [] (xLay, I14, L8, (kM R)) (0, 0) (fun z => ∃ (I15 : sm_I) (L16 : sm_L), z = (none, (xLay, I15, L16, (kM R))) ∧ Φ (some (.int (I15 107 54)), (xLay, I15, L16, (kM R))))))))))) ∧ (¬ x2 = (-1 : Int32) → sm_wp sm_P S d 150 0 [.ref 107, .int x2] [] (xLay, I1, L2, (kM R)) (0, 0) (fun z => ∃ (r25 : Int32) (I23 : sm_I) (L24 : sm_L), z = (some (.int r25), (xLay, I23, L24, (kM R))) ∧ ((r25 = 0 → Φ (some (.int (-1 : Int32)), (xLay, I23, L24, (kM R)))) ∧ (¬ r25 = 0 → sm_wp sm_P S d 141 0 [.int x3, .int (-1440 : Int32), .int (1440 : Int32)] [] (xLay, I23, L24, (kM R)) (0, 0) (fun z => ∃ (r28 : Int32) (I26 : sm_I) (L27 : sm_L), z = (some (.int r28), (xLay, I26, L27, (kM R))) ∧ ((r28 = 0 → Φ (some (.int (-1 : Int32)), (xLay, I26, L27, (kM R)))) ∧ (¬ r28 = 0 → sm_wp sm_P S d 141 0 [.int x4, .int (-1440 : Int32), .int (1440 : Int32)] [] (xLay, I26, L27, (kM R)) (0, 0) (fun z => ∃ (r31 : Int32) (I29 : sm_I) (L30 : sm_L), z = (some (.int r31), (xLay, I29, L30, (kM R))) ∧ ((r31 = 0 → Φ (some (.int (-1 : Int32)), (xLay, I29, L30, (kM R)))) ∧ (¬ r31 = 0 → (vp_in (I29 107 54) 6) ∧ ∀ I32 : sm_I, I32 = (sm_up I29 144 (I29 107 54).toNatClampNeg x1) → (vp_in (I32 107 54) 6) ∧ ∀ I33 : sm_I, I33 = (sm_up I32 145 (I32 107 54).toNatClampNeg x2) → (vp_in (I33 107 54) 6) ∧ ∀ I34 : sm_I, I34 = (sm_up I33 146 (I33 107 54).toNatClampNeg x3) → (vp_in (I34 107 54) 6) ∧ ∀ I35 : sm_I, I35 = (sm_up I34 147 (I34 107 54).toNatClampNeg x4) → ∀ I36 : sm_I, I36 = (sm_up I35 107 54 ((I35 107 54) + (1 : Int32))) → sm_wp sm_P S d 110 0 [.ref 107] [] (xLay, I36, L30, (kM R)) (0, 0) (fun z => ∃ (I37 : sm_I) (L38 : sm_L), z = (none, (xLay, I37, L38, (kM R))) ∧ Φ (some (.int (I37 107 54)), (xLay, I37, L38, (kM R))))))))))))))))))))) : sm_wp sm_P S (d + 1) 163 0 [.ref 107, .int x1, .int x2, .int x3, .int x4] [] (xLay, I, L, (kM R)) (0, 0) Φ := sm_wp_step (⟨fun q50 => ((h).1 q50), fun q50 => sm_ci0 (((h).2 q50)) (fun r3 I1 L2 q49 => ⟨fun q48 => ((q49).1 q48), fun q48 => ⟨fun q47 => sm_ci0 (((((q49).2 q48)).1 q47)) (fun r6 I4 L5 q22 => ⟨fun q21 => ((q22).1 q21), fun q21 => sm_ci0 (((q22).2 q21)) (fun r9 I7 L8 q20 => ⟨fun q19 => ((q20).1 q19), fun q19 => ⟨(((q20).2 q19)).1, ⟨(((((q20).2 q19)).2 _ rfl)).1, ⟨(((((((q20).2 q19)).2 _ rfl)).2 _ rfl)).1, ⟨(((((((((q20).2 q19)).2 _ rfl)).2 _ rfl)).2 _ rfl)).1, sm_cv0 ((((((((((((q20).2 q19)).2 _ rfl)).2 _ rfl)).2 _ rfl)).2 _ rfl) _ rfl)) (fun I15 L16 q18 => q18)⟩⟩⟩⟩⟩)⟩), fun q47 => sm_ci0 (((((q49).2 q48)).2 q47)) (fun r25 I23 L24 q46 => ⟨fun q45 => ((q46).1 q45), fun q45 => sm_ci0 (((q46).2 q45)) (fun r28 I26 L27 q44 => ⟨fun q43 => ((q44).1 q43), fun q43 => sm_ci0 (((q44).2 q43)) (fun r31 I29 L30 q42 => ⟨fun q41 => ((q42).1 q41), fun q41 => ⟨(((q42).2 q41)).1, ⟨(((((q42).2 q41)).2 _ rfl)).1, ⟨(((((((q42).2 q41)).2 _ rfl)).2 _ rfl)).1, ⟨(((((((((q42).2 q41)).2 _ rfl)).2 _ rfl)).2 _ rfl)).1, sm_cv0 ((((((((((((q42).2 q41)).2 _ rfl)).2 _ rfl)).2 _ rfl)).2 _ rfl) _ rfl)) (fun I37 L38 q40 => q40)⟩⟩⟩⟩⟩)⟩)⟩)⟩⟩)⟩)
theorem p_X12_fewer_0 {S : sm_C} {d : Nat} {Φ : sm_Z → Prop} {I : sm_I} {L : sm_L} {R : sm_R} (h : (((I 107 54) = 0 → Φ (some (.int (-1 : Int32)), (xLay, I, L, (kM R)))) ∧ (¬ (I 107 54) = 0 → ∀ I1 : sm_I, I1 = (sm_up I 107 54 ((I 107 54) - (1 : Int32))) → sm_wp sm_P S d 110 0 [.ref 107] [] (xLay, I1, L, (kM R)) (0, 0) (fun z => ∃ (I2 : sm_I) (L3 : sm_L), z = (none, (xLay, I2, L3, (kM R))) ∧ Φ (some (.int (I2 107 54)), (xLay, I2, L3, (kM R))))))) : sm_wp sm_P S (d + 1) 125 0 [.ref 107] [] (xLay, I, L, (kM R)) (0, 0) Φ := sm_wp_step (⟨fun q6 => ((h).1 q6), fun q6 => sm_cv0 ((((h).2 q6) _ rfl)) (fun I2 L3 q5 => q5)⟩)
theorem p_X12_changes_0 {S : sm_C} {d : Nat} {Φ : sm_Z → Prop} {I : sm_I} {L : sm_L} {R : sm_R} (h : ∀ I1 : sm_I, I1 = (sm_up (sm_up I 107 70 (0 : Int32)) 107 79 (0 : Int32)) → Φ (none, (xLay, I1, L, (kM R)))) : sm_wp sm_P S d 110 0 [.ref 107] [] (xLay, I, L, (kM R)) (0, 0) Φ := sm_wp_step (⟨Or.inl rfl, ⟨Or.inl rfl, (h _ rfl)⟩⟩)
theorem p_X12_isSaying_0 {S : sm_C} {d : Nat} {Φ : sm_Z → Prop} {I : sm_I} {L : sm_L} {R : sm_R} {x1 : Int32} (h : (vp_in (I 107 18) 2) ∧ ∀ n1 : Int32, n1 = ((I 125 (I 107 18).toNatClampNeg) - (1 : Int32)) → sm_wp sm_P S d 141 0 [.int x1, .int (0 : Int32), .int n1] [] (xLay, I, L, (kM R)) (0, 0) (fun z => ∃ (r4 : Int32) (I2 : sm_I) (L3 : sm_L), z = (some (.int r4), (xLay, I2, L3, (kM R))) ∧ (r4 = 0 ∨ r4 = 1) ∧ Φ (some (.int r4), (xLay, I2, L3, (kM R))))) : sm_wp sm_P S (d + 1) 149 0 [.ref 107, .int x1] [] (xLay, I, L, (kM R)) (0, 0) Φ := sm_wp_step (⟨(h).1, sm_ci0 (((h).2 _ rfl)) (fun r4 I2 L3 q5 => ⟨(q5).1, (q5).2⟩)⟩)
theorem p_X12_in_0 {S : sm_C} {d : Nat} {Φ : sm_Z → Prop} {I : sm_I} {L : sm_L} {R : sm_R} {x0 : Int32} {x1 : Int32} {x2 : Int32} (h : ((x0 < x1 → Φ (some (.int (0 : Int32)), (xLay, I, L, (kM R)))) ∧ (¬ x0 < x1 → ((x2 < x0 → Φ (some (.int (0 : Int32)), (xLay, I, L, (kM R)))) ∧ (¬ x2 < x0 → Φ (some (.int (1 : Int32)), (xLay, I, L, (kM R)))))))) : sm_wp sm_P S d 141 0 [.int x0, .int x1, .int x2] [] (xLay, I, L, (kM R)) (0, 0) Φ := sm_wp_step (⟨fun q2 => ⟨Or.inl rfl, ((h).1 q2)⟩, fun q2 => ⟨fun q1 => ⟨Or.inl rfl, ((((h).2 q2)).1 q1)⟩, fun q1 => ⟨Or.inr rfl, ((((h).2 q2)).2 q1)⟩⟩⟩)
end
