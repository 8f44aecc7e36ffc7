/-! the reference's read, exact, from its start -/
theorem nar_b : ∀ i : Fin 256, vp_nar .byte (Int32.ofInt ((i.val : Int) - 128)) = Int32.ofInt ((i.val : Int) - 128) := by decide +kernel
theorem nar_e {x : Int32} (h0 : -128 ≤ x.toInt) (h1 : x.toInt ≤ 127) : vp_nar .byte x = x := by
  have e : x = Int32.ofInt (((⟨(x.toInt + 128).toNat, by omega⟩ : Fin 256).val : Int) - 128) := by
    show x = Int32.ofInt (((x.toInt + 128).toNat : Int) - 128)
    rw [show (((x.toInt + 128).toNat : Int) - 128) = x.toInt by omega]
    exact (Int32.ofInt_toInt x).symm
  rw [e]; exact nar_b _
theorem w7 : ∀ i : Nat, i < 36 → ((Int32.ofNat i - Int32.ofNat i / 7 * 7 = 0) ↔ i % 7 = 0) := by decide +kernel
theorem ME_cg {K K' : Nat → Int32} {V V' : Nat → Int64} (hK : ∀ i, K i = K' i) (hV : ∀ i, K i ≠ 21 → V i = V' i) : ∀ (m t : Nat) (s : Int32) (a : sg), ME K V m t s a = ME K' V' m t s a := by
  intro m
  induction m with
  | zero => intro t s a; rfl
  | succ m ih =>
    intro t s a
    show (if K t = 21 then (none, a) else if (ms s (K t) (V t) a).1 = 0 then ME K V m (t + 1) (fw s (K t)) (ms s (K t) (V t) a).2 else (some ((ms s (K t) (V t) a).1, t), a)) = (if K' t = 21 then (none, a) else if (ms s (K' t) (V' t) a).1 = 0 then ME K' V' m (t + 1) (fw s (K' t)) (ms s (K' t) (V' t) a).2 else (some ((ms s (K' t) (V' t) a).1, t), a))
    rw [← hK t]
    by_cases c : K t = 21
    · rw [if_pos c, if_pos c]
    · rw [if_neg c, if_neg c, hV t c, ih]
/-- the pure machine before the first TOKEN -/
def ini (a : sg) : Prop := a.1 2 5 = 0 ∧ (∀ j, j < 5 → a.1 12 j = 0) ∧ a.1 12 6 = 0 ∧ (∀ i, i < 10 → a.1 14 i = -1 ∧ a.1 15 i = -1 ∧ a.1 18 i = -1 ∧ a.1 21 i = 1) ∧ (∀ i, i < 40 → a.1 23 i = 0) ∧ ∀ i, i < 36 → a.1 13 i = if i % 7 = 0 then 0 else -2
section
variable {S : sm_C} {d : Nat} {Φ : sm_Z → Prop} {I : sm_I} {L : sm_L} {R : sm_R} {l s : Nat}
theorem rL_0 {K : Nat → Int32} {V W : Nat → Int64} {a : sg} (hs : s ≤ 1) (ha : ini a) (h20 : I 107 20 = 0) (hz : ∀ p, p = 118 ∨ p = 119 ∨ p = 120 ∨ p = 122 ∨ p = 125 ∨ p = 134 ∨ p = 136 → I p s = 0) (h121 : ∀ i, i < 36 → I 121 (36 * s + i) = if i % 7 = 0 then 0 else -1) (h135 : ∀ i, i < 10 → I 135 (10 * s + i) = -1) : rL K V W s 0 a I L := by
  obtain ⟨a1, a2, a3, a4, a5, a6⟩ := ha
  have c0 : cntm I = 0 := by unfold cntm; rw [h20]; decide
  refine ⟨⟨by rw [a1, h20], ?_⟩, ?_, fun i hi => ?_, ⟨fun i hi => Or.inl ⟨h135 i hi, (a4 i hi).2.2.1⟩, fun k hk => ?_⟩, fun i hi => ?_, ⟨fun i hi => ⟨fun q => ?_, fun _ => ⟨(a4 i hi).2.2.2, fun q hq => a5 _ (by omega)⟩⟩, ?_⟩, fun q hq hq2 => ?_, fun i hi => ?_⟩
  · rw [c0]; exact ⟨fun _ => 0, fun i hi => absurd hi (Nat.not_lt_zero i)⟩
  · exact ⟨by rw [a2 0 (by decide), hz 118 (by omega)], by rw [a2 1 (by decide), hz 119 (by omega)], by rw [a2 2 (by decide), hz 122 (by omega)], by rw [a2 3 (by decide), hz 125 (by omega)], by rw [a2 4 (by decide), hz 136 (by omega)]⟩
  · rw [hz 122 (by omega), kl_0]
    exact ⟨fun q => by omega, fun _ => ⟨(a4 i hi).1, (a4 i hi).2.1⟩⟩
  · rw [hz 134 (by omega), kl_0] at hk; omega
  · rw [h121 i hi, a6 i hi]
    by_cases c : i % 7 = 0
    · rw [if_pos c, if_pos c]; exact Or.inr ⟨by decide, rfl⟩
    · rw [if_neg c, if_neg c]; exact Or.inl ⟨rfl, rfl⟩
  · rw [hz 125 (by omega), kl_0] at q; omega
  · rw [a3, hz 125 (by omega)]; rfl
  · rw [hz 136 (by omega), kl_0] at hq2; omega
  · rw [c0] at hi; exact absurd hi (Nat.not_lt_zero i)
variable {K : Nat → Int32} {P : Nat → Nat} {V W : Nat → Int64} {N : Nat → Int32} {c : Nat} {a0 : sg}
theorem y_read11 {I0 : sm_I} (hT : TS K P V W N c) (hls : ml_ls l s) (ha : ini a0) (hΦ : ∀ (r : Int32) (J : sm_I) (L' : sm_L) (R' : sm_R), RDx P (SY K 501 0 0 gc0) (ME K V 501 0 0 a0) r J → LVx l I0 r J → Φ (some (.int r), (xLay, J, L', kM R'))) : ∀ (k : Nat) (I : sm_I) (x1 : Int32) (i : Nat), x1.toInt = i → i + k = 10 → ml_TI l s I → lvf l I0 I → en_mem ml_tb mlX (xLay, I, L, R) → tx K P W N c I L → I 107 11 = 0 → I 107 13 = 0 → I 107 15 = 0 → I 107 20 = 0 → (∀ p, p = 118 ∨ p = 119 ∨ p = 120 ∨ p = 122 ∨ p = 125 ∨ p = 134 ∨ p = 136 → I p s = 0) → (∀ j, j < 36 → I 121 (36 * s + j) = if j % 7 = 0 then 0 else -1) → (∀ j, j < i → I 135 (10 * s + j) = -1) → sm_wp sm_P S (d + 8) 182 11 [.ref 107, .int x1] [] (xLay, I, L, kM R) (0, 0) Φ := by
  obtain ⟨hl, hs⟩ := ml_l1 hls
  have c10 : (10 : Int32).toInt = 10 := by decide
  intro k
  induction k with
  | zero =>
    intro I x1 i hx hk hI hv hm ht z11 z13 z15 z20 hz h121 h135
    refine u_X12_read_11 ⟨fun _ => ?_, fun q => ?_⟩
    · refine x_read13 hT hls hΦ 501 I L (some (0, 0, gc0)) (some a0) hI hv hm ⟨⟨ht, by rw [z11]; decide, by rw [z11]; decide, z13, by rw [z11]; rfl, Nat.zero_le _, rfl, fun q => absurd rfl q⟩, fun _ => ⟨z15, rfl⟩⟩ (Or.inr ⟨0, gc0, rfl, ?_, fun a ea => ?_, by omega⟩)
      · refine ⟨?_, ?_, ?_, ?_, ?_, ?_, ?_⟩
        · rw [hz 118 (by omega)]; rfl
        · rw [hz 119 (by omega)]; rfl
        · rw [hz 120 (by omega)]; rfl
        · rw [hz 122 (by omega)]; rfl
        · rw [hz 125 (by omega)]; rfl
        · rw [hz 134 (by omega)]; rfl
        · rw [hz 136 (by omega)]; rfl
      · have e := Option.some.inj ea
        subst e
        exact rL_0 hs ha z20 hz h121 (fun j hj => h135 j (by omega))
    · have := kl_nle q
      omega
  | succ k ih =>
    intro I x1 i hx hk hI hv hm ht z11 z13 z15 z20 hz h121 h135
    have s1 := ml_in1 (x := x1) (by omega)
    refine u_X12_read_11 ⟨fun q => ?_, fun _ n1 e1 => ?_⟩
    · have := kl_le.mp q
      omega
    · have q1 : ((10 : Int32) * (I 107 19)).toInt = 10 * (s : Int) := ml_mu (by decide) hI.2.1 (by omega) (by omega)
      have q2 : n1.toInt = ((10 * s + i : Nat) : Int) := by rw [e1, ml_ad q1 rfl (by omega) (by omega)]; omega
      have n1n := tk_nat q2
      refine ⟨kl_in (by omega) (by omega), fun I2 e2 => ?_⟩
      have w := ml_w0 (L := L) (R := R) (l := l) (p := 135) (j := n1.toNatClampNeg) (x := -1) (n := 20) (q := (-1, 247)) hl hI.1 (by unfold ml_D0 ml_hm; unfold ml_ls at hls; omega) hm rfl (by decide)
      rw [← e2] at w
      have o2 : ∀ p j, p ≠ 135 → I2 p j = I p j := fun p j hp => by rw [e2, en_up_ne _ _ _ _ (by omega)]
      refine ih I2 _ (i + 1) (by omega) (by omega) (ml_TI_0 hls hm w.2 hI) (fun p j h => by rw [e2, en_up_ne _ _ _ _ (by unfold ml_hl ml_hm at h; unfold ml_ls at hls; omega)]; exact hv p j h) w.1 (tx_fr ht (fun p j _ _ => o2 p j (by omega))) (by rw [o2 _ _ (by decide)]; exact z11) (by rw [o2 _ _ (by decide)]; exact z13) (by rw [o2 _ _ (by decide)]; exact z15) (by rw [o2 _ _ (by decide)]; exact z20) (fun p hp => by rw [o2 p s (by omega)]; exact hz p hp) (fun j hj => by rw [o2 _ _ (by decide)]; exact h121 j hj) (fun j hj => ?_)
      by_cases cj : j = i
      · rw [cj, e2, n1n, en_up_eq]
      · rw [e2, n1n, en_up_ne _ _ _ _ (by omega)]; exact h135 j (by omega)
theorem y_read5 {I0 : sm_I} (hT : TS K P V W N c) (hls : ml_ls l s) (ha : ini a0) (hΦ : ∀ (r : Int32) (J : sm_I) (L' : sm_L) (R' : sm_R), RDx P (SY K 501 0 0 gc0) (ME K V 501 0 0 a0) r J → LVx l I0 r J → Φ (some (.int r), (xLay, J, L', kM R'))) : ∀ (k : Nat) (I : sm_I) (x1 : Int32) (i : Nat), x1.toInt = i → i + k = 36 → ml_TI l s I → lvf l I0 I → en_mem ml_tb mlX (xLay, I, L, R) → tx K P W N c I L → I 107 11 = 0 → I 107 13 = 0 → I 107 15 = 0 → I 107 20 = 0 → (∀ p, p = 118 ∨ p = 119 ∨ p = 120 ∨ p = 122 ∨ p = 125 ∨ p = 134 ∨ p = 136 → I p s = 0) → (∀ j, j < i → I 121 (36 * s + j) = if j % 7 = 0 then 0 else -1) → sm_wp sm_P S (d + 8) 182 5 [.ref 107, .int x1] [] (xLay, I, L, kM R) (0, 0) Φ := by
  obtain ⟨hl, hs⟩ := ml_l1 hls
  have c36 : (36 : Int32).toInt = 36 := by decide
  intro k
  induction k with
  | zero =>
    intro I x1 i hx hk hI hv hm ht z11 z13 z15 z20 hz h121
    refine u_X12_read_5 ⟨fun _ => y_read11 hT hls ha hΦ 10 I 0 0 (by decide) (by decide) hI hv hm ht z11 z13 z15 z20 hz (fun j hj => h121 j (by omega)) (fun j hj => absurd hj (Nat.not_lt_zero j)), fun q => ?_⟩
    have := kl_nle q
    omega
  | succ k ih =>
    intro I x1 i hx hk hI hv hm ht z11 z13 z15 z20 hz h121
    have s1 := ml_in1 (x := x1) (by omega)
    have ex : x1 = Int32.ofNat i := en_ofI (by rw [hx, Int32.toInt_ofNat_of_lt (by omega)])
    have w : ∀ v : Int32, v = (if i % 7 = 0 then 0 else -1) → ∀ n3 : Int32, n3 = (((36 : Int32) * (I 107 19)) + x1) → (vp_in n3 72) ∧ ∀ I4 : sm_I, I4 = (sm_up I 121 n3.toNatClampNeg v) → sm_wp sm_P S (d + 8) 182 5 [.ref 107, .int (x1 + (1 : Int32))] [] (xLay, I4, L, (kM R)) (0, 0) Φ := by
      intro v ev n3 e3
      have q1 : ((36 : Int32) * (I 107 19)).toInt = 36 * (s : Int) := ml_mu (by decide) hI.2.1 (by omega) (by omega)
      have q2 : n3.toInt = ((36 * s + i : Nat) : Int) := by rw [e3, ml_ad q1 rfl (by omega) (by omega)]; omega
      have n3n := tk_nat q2
      refine ⟨kl_in (by omega) (by omega), fun I2 e2 => ?_⟩
      have w := ml_w0 (L := L) (R := R) (l := l) (p := 121) (j := n3.toNatClampNeg) (x := v) (n := 72) (q := (-2147483648, 2147483647)) hl hI.1 (by unfold ml_D0 ml_hm; unfold ml_ls at hls; omega) hm rfl en_crange
      rw [← e2] at w
      have o2 : ∀ p j, p ≠ 121 → I2 p j = I p j := fun p j hp => by rw [e2, en_up_ne _ _ _ _ (by omega)]
      refine ih I2 _ (i + 1) (by omega) (by omega) (ml_TI_0 hls hm w.2 hI) (fun p j h => by rw [e2, en_up_ne _ _ _ _ (by unfold ml_hl ml_hm at h; unfold ml_ls at hls; omega)]; exact hv p j h) w.1 (tx_fr ht (fun p j _ _ => o2 p j (by omega))) (by rw [o2 _ _ (by decide)]; exact z11) (by rw [o2 _ _ (by decide)]; exact z13) (by rw [o2 _ _ (by decide)]; exact z15) (by rw [o2 _ _ (by decide)]; exact z20) (fun p hp => by rw [o2 p s (by omega)]; exact hz p hp) (fun j hj => ?_)
      by_cases cj : j = i
      · rw [cj, e2, n3n, en_up_eq]; exact ev
      · rw [e2, n3n, en_up_ne _ _ _ _ (by omega)]; exact h121 j (by omega)
    refine u_X12_read_5 ⟨fun q => ?_, fun _ => ⟨by decide, fun q => w 0 ?_, fun q => w (-1) ?_⟩⟩
    · have := kl_le.mp q
      omega
    · rw [ex, w7 i (by omega)] at q
      rw [if_pos q]
    · rw [ex, w7 i (by omega)] at q
      rw [if_neg q]
/-- the text is taken off the tape -/
theorem y_read1 {I0 : sm_I} {l0 : Nat} {b : Nat → Int32} {n : Nat} (n2 : n ≤ 2000) (ha : ini a0) (hΦ : ∀ (r : Int32) (J : sm_I) (L' : sm_L) (R' : sm_R), RDx (tk_at b n) (SY (tk_K b n) 501 0 0 gc0) (ME (tk_K b n) (fun i => tk_vl b n (tk_at b n i)) 501 0 0 a0) r J → LVx l0 I0 r J → Φ (some (.int r), (xLay, J, L', kM R'))) : ∀ (k : Nat) (I : sm_I) (x1 : Int32) (i : Nat), x1.toInt = i → i + k = n → en_mem ml_tb mlX (xLay, I, L, R) → (I 107 18).toInt = l0 → lvf l0 I0 I → (I 107 4).toInt = n → (∀ j, j < n → I 108 j = b j) → (∀ j, j < i → I 109 j = b j) → sm_wp sm_P S (d + 8) 182 1 [.ref 107, .int x1] [] (xLay, I, L, kM R) (0, 0) Φ := by
  intro k
  induction k with
  | zero =>
    intro I x1 i hx hk hm h18 hv h4 h108 h109
    have m0 : en_mem ml_tb mlX (xLay, sm_up I 107 2 0, L, R) := ml_wf hm (by decide +kernel) (q := (0, 2000)) (by decide +kernel) (by decide)
    have pk : pk_ok L := hm.2.2.2.2.2.2.2.2.2
    have e109 : ∀ j, sm_up I 107 2 0 109 j = I 109 j := fun j => en_up_ne _ _ _ _ (by omega)
    have e4 : (sm_up I 107 2 0 107 4).toInt = n := by rw [en_up_ne _ _ _ _ (by omega)]; exact h4
    have hB : mt_B (sm_up I 107 2 0 109) := fun j hj => by
      rw [e109]
      exact ml_row hm (p := 109) (n := 2000) (q := (-128, 127)) (fun _ => rfl) j hj
    have hbb : ∀ j, j < n → sm_up I 107 2 0 109 j = b j := fun j hj => by rw [e109]; exact h109 j (by omega)
    have A : sm_wp sm_P S (d + 7) 119 0 [.ref 107] [] (xLay, sm_up I 107 2 0, L, kM R) (0, 0) (fun z => ∃ (J : sm_I) (L' : sm_L), z = (none, (xLay, J, L', kM R)) ∧ en_mem ml_tb mlX (xLay, J, L', R)) := mx_cut m0 (fun J L' mJ _ => ⟨J, L', rfl, mJ⟩)
    have B : sm_wp sm_P S (d + 7) 119 0 [.ref 107] [] (xLay, sm_up I 107 2 0, L, kM R) (0, 0) (fun z => ∃ (J : sm_I) (L' : sm_L), z = (none, (xLay, J, L', kM R)) ∧ ∃ c, c ≤ 501 ∧ mt_rows (sm_up I 107 2 0 109) n c J L' ∧ mt_fin (sm_up I 107 2 0 109) n c J ∧ ∀ p j, (p = 107 ∧ j = 18) ∨ (118 ≤ p ∧ p ≤ 136) ∨ 137 ≤ p ∨ (p = 107 ∧ 46 ≤ j) → J p j = sm_up I 107 2 0 p j) := mt_cut pk hB e4 n2 (fun c J K c5 hr hf fr => ⟨J, K, rfl, c, c5, hr, hf, fun p j q => fr.1 p j (by omega) (by omega) (by omega) (by omega)⟩)
    refine u_X12_read_1 ⟨fun _ => sm_wp_mono (sm_wp_and A B) (fun zz hz => ?_), fun q => ?_⟩
    · obtain ⟨⟨I1, L1, ez, m1⟩, J2, L2, ez2, c, c5, hr, hf, fc⟩ := hz
      have e1 := ez.symm.trans ez2
      have eJ : I1 = J2 := congrArg (fun q : sm_Z => q.2.2.1) e1
      have eL : L1 = L2 := congrArg (fun q : sm_Z => q.2.2.2.1) e1
      subst eJ
      subst eL
      refine ⟨I1, L1, R, ez, fun I5 e5 I6 e6 I7 e7 I8 e8 I9 e9 => ?_⟩
      -- the stream
      obtain ⟨b', eb'⟩ : ∃ b', b' = sm_up I 107 2 0 109 := ⟨_, rfl⟩
      rw [← eb'] at hr hf hbb
      have hat : ∀ i, i < c → tk_at b' n i < n := fun i hi => (hr i hi).1
      have hend : c ≤ 500 → tk_at b' n c = n := fun q => by
        rcases hf with f | f
        · omega
        · exact f.2.2.1
      have hT := TS_of c5 hat hend
      have hK := mt_K hr hf
      have tx1 : tx (tk_K b' n) (tk_at b' n) (fun i => mt_nm b' n (tk_at b' n i)) (fun i => mt_vl b' n (tk_at b' n i)) c I1 L1 := ⟨fun i hi h5 => hK i hi h5, fun i hi h5 => ⟨(hr i hi).2.2.2.1, (hr i hi).2.2.2.2⟩⟩
      have eK : tk_K b' n = tk_K b n := funext (tk_K_cg hbb)
      have eP : tk_at b' n = tk_at b n := funext (tk_at_cg hbb)
      have eM : ME (tk_K b' n) (fun i => tk_vl b' n (tk_at b' n i)) 501 0 0 a0 = ME (tk_K b n) (fun i => tk_vl b n (tk_at b n i)) 501 0 0 a0 := ME_cg (tk_K_cg hbb) (fun i q => by
        have lt : tk_at b' n i < n := by
          rcases Nat.lt_or_ge (tk_at b' n i) n with y | y
          · exact y
          · exact absurd (tk_K_21.mpr y) q
        show tk_vl b' n (tk_at b' n i) = tk_vl b n (tk_at b n i)
        rw [← tk_at_cg hbb, tk_vl_cg hbb lt]) 501 0 0 a0
      rw [← eM, ← eK, ← eP] at hΦ
      clear eM eK eP A B
      -- from here on as the contract has it
      have m5 : en_mem ml_tb mlX (xLay, I5, L1, R) := by rw [e5]; exact ml_wf m1 (by decide +kernel) (q := (0, 500)) (by decide +kernel) (by decide)
      have m6 : en_mem ml_tb mlX (xLay, I6, L1, R) := by rw [e6]; exact ml_wf m5 (by decide +kernel) (q := (0, 5)) (by decide +kernel) (by decide)
      have m7 : en_mem ml_tb mlX (xLay, I7, L1, R) := by rw [e7]; exact ml_wf m6 (by decide +kernel) (q := (0, 5)) (by decide +kernel) (by decide)
      obtain ⟨b0, l1, ln, lc⟩ := ml_live m7
      have b0 : 0 ≤ (I7 107 18).toInt := b0
      have l1 : (I7 107 18).toInt ≤ 1 := l1
      have s19 : ((1 : Int32) - I7 107 18).toInt = 1 - (I7 107 18).toInt := by
        rw [Int32.toInt_sub, kl_1]; exact en_bmod (by omega) (by omega) (Or.inl rfl)
      have m8 : en_mem ml_tb mlX (xLay, I8, L1, R) := by rw [e8]; exact ml_wf m7 (by decide +kernel) (q := (0, 1)) (by decide +kernel) (by show 0 ≤ _ ∧ _ ≤ (1 : Int); omega)
      have m9 : en_mem ml_tb mlX (xLay, I9, L1, R) := by rw [e9]; exact ml_wf m8 (by decide +kernel) (q := (0, 50)) (by decide +kernel) (by decide)
      have f9 : en_fr ml_RW (xLay, I9, L1, R) (xLay, I9, L1, R) := en_fr_rf
      have g19 : (I9 107 19).toInt = 1 - (I7 107 18).toInt := by rw [e9, en_up_ne _ _ _ _ (by omega), e8, en_up_eq]; exact s19
      have g18 : (I9 107 18).toInt = (I7 107 18).toInt := by rw [e9, en_up_ne _ _ _ _ (by omega), e8, en_up_ne _ _ _ _ (by omega)]
      have y11 : I9 107 11 = 0 := by rw [e9, en_up_ne _ _ _ _ (by omega), e8, en_up_ne _ _ _ _ (by omega), e7, en_up_ne _ _ _ _ (by omega), e6, en_up_ne _ _ _ _ (by omega), e5, en_up_eq]
      have y13 : I9 107 13 = 0 := by rw [e9, en_up_ne _ _ _ _ (by omega), e8, en_up_ne _ _ _ _ (by omega), e7, en_up_ne _ _ _ _ (by omega), e6, en_up_eq]
      have y15 : I9 107 15 = 0 := by rw [e9, en_up_ne _ _ _ _ (by omega), e8, en_up_ne _ _ _ _ (by omega), e7, en_up_eq]
      have n20 : I9 107 20 = 0 := by rw [e9, en_up_eq]
      have tx9 := tx_fr tx1 (J := I9) (fun p j _ _ => by rw [e9, en_up_ne _ _ _ _ (by omega), e8, en_up_ne _ _ _ _ (by omega), e7, en_up_ne _ _ _ _ (by omega), e6, en_up_ne _ _ _ _ (by omega), e5, en_up_ne _ _ _ _ (by omega)])
      obtain ⟨l, s, hls, hl, hs⟩ : ∃ l s : Nat, ml_ls l s ∧ (I9 107 18).toInt = l ∧ (I9 107 19).toInt = s := by
        rcases (by omega : (I7 107 18).toInt = 0 ∨ (I7 107 18).toInt = 1) with c | c
        · exact ⟨0, 1, Or.inl ⟨rfl, rfl⟩, by rw [g18, c]; rfl, by rw [g19, c]; rfl⟩
        · exact ⟨1, 0, Or.inr ⟨rfl, rfl⟩, by rw [g18, c]; rfl, by rw [g19, c]; rfl⟩
      have ns := kl_nat (i := I9 107 19) (by omega)
      have sn : (I9 107 19).toNatClampNeg = s := by omega
      have sv : vp_in (I9 107 19) 2 := kl_in (by omega) (by omega)
      have o9 : ∀ p j, (p = 107 ∧ j = 18) ∨ (118 ≤ p ∧ p ≤ 136) ∨ 137 ≤ p ∨ (p = 107 ∧ 46 ≤ j) → I9 p j = I p j := fun p j q => by
        rw [e9, en_up_ne _ _ _ _ (by omega), e8, en_up_ne _ _ _ _ (by omega), e7, en_up_ne _ _ _ _ (by omega), e6, en_up_ne _ _ _ _ (by omega), e5, en_up_ne _ _ _ _ (by omega), fc p j q, en_up_ne _ _ _ _ (by omega)]
      have el : l0 = l := by
        have := o9 107 18 (Or.inl ⟨rfl, rfl⟩)
        rw [this] at hl
        omega
      subst el
      clear s19 g18 g19 b0 l1 ln lc m5 m6 m7 m8 e5 e6 e7 e8 e9
      have st : ∀ (J : sm_I), (∀ p j, ¬ ((p = 118 ∨ p = 119 ∨ p = 120 ∨ p = 122 ∨ p = 125 ∨ p = 134 ∨ p = 136) ∧ j = s) → J p j = I9 p j) → J 107 19 = I9 107 19 ∧ (J 107 18).toInt = l0 := fun J o => ⟨o 107 19 (by omega), by rw [o 107 18 (by omega)]; exact hl⟩
      refine ⟨sv, fun I10 e10 => ?_⟩
      rw [sn] at e10
      have o10 : ∀ p j, ¬ ((p = 118 ∨ p = 119 ∨ p = 120 ∨ p = 122 ∨ p = 125 ∨ p = 134 ∨ p = 136) ∧ j = s) → I10 p j = I9 p j := fun p j hp => by rw [e10, en_up_ne _ _ _ _ (by omega)]
      have k10 := ml_z0 (p := 118) hls hl (by omega) m9 f9
      rw [← e10] at k10
      rw [(st I10 o10).1]
      refine ⟨sv, fun I11 e11 => ?_⟩
      rw [sn] at e11
      have o11 : ∀ p j, ¬ ((p = 118 ∨ p = 119 ∨ p = 120 ∨ p = 122 ∨ p = 125 ∨ p = 134 ∨ p = 136) ∧ j = s) → I11 p j = I9 p j := fun p j hp => by rw [e11, en_up_ne _ _ _ _ (by omega), o10 p j hp]
      have k11 := ml_z0 (p := 119) hls (st I10 o10).2 (by omega) k10.1 k10.2
      rw [← e11] at k11
      rw [(st I11 o11).1]
      refine ⟨sv, fun I12 e12 => ?_⟩
      rw [sn] at e12
      have o12 : ∀ p j, ¬ ((p = 118 ∨ p = 119 ∨ p = 120 ∨ p = 122 ∨ p = 125 ∨ p = 134 ∨ p = 136) ∧ j = s) → I12 p j = I9 p j := fun p j hp => by rw [e12, en_up_ne _ _ _ _ (by omega), o11 p j hp]
      have k12 := ml_z0 (p := 120) hls (st I11 o11).2 (by omega) k11.1 k11.2
      rw [← e12] at k12
      rw [(st I12 o12).1]
      refine ⟨sv, fun I13 e13 => ?_⟩
      rw [sn] at e13
      have o13 : ∀ p j, ¬ ((p = 118 ∨ p = 119 ∨ p = 120 ∨ p = 122 ∨ p = 125 ∨ p = 134 ∨ p = 136) ∧ j = s) → I13 p j = I9 p j := fun p j hp => by rw [e13, en_up_ne _ _ _ _ (by omega), o12 p j hp]
      have k13 := ml_z0 (p := 122) hls (st I12 o12).2 (by omega) k12.1 k12.2
      rw [← e13] at k13
      rw [(st I13 o13).1]
      refine ⟨sv, fun I14 e14 => ?_⟩
      rw [sn] at e14
      have o14 : ∀ p j, ¬ ((p = 118 ∨ p = 119 ∨ p = 120 ∨ p = 122 ∨ p = 125 ∨ p = 134 ∨ p = 136) ∧ j = s) → I14 p j = I9 p j := fun p j hp => by rw [e14, en_up_ne _ _ _ _ (by omega), o13 p j hp]
      have k14 := ml_z0 (p := 125) hls (st I13 o13).2 (by omega) k13.1 k13.2
      rw [← e14] at k14
      rw [(st I14 o14).1]
      refine ⟨sv, fun I15 e15 => ?_⟩
      rw [sn] at e15
      have o15 : ∀ p j, ¬ ((p = 118 ∨ p = 119 ∨ p = 120 ∨ p = 122 ∨ p = 125 ∨ p = 134 ∨ p = 136) ∧ j = s) → I15 p j = I9 p j := fun p j hp => by rw [e15, en_up_ne _ _ _ _ (by omega), o14 p j hp]
      have k15 := ml_z0 (p := 134) hls (st I14 o14).2 (by omega) k14.1 k14.2
      rw [← e15] at k15
      rw [(st I15 o15).1]
      refine ⟨sv, fun I16 e16 => ?_⟩
      rw [sn] at e16
      have o16 : ∀ p j, ¬ ((p = 118 ∨ p = 119 ∨ p = 120 ∨ p = 122 ∨ p = 125 ∨ p = 134 ∨ p = 136) ∧ j = s) → I16 p j = I9 p j := fun p j hp => by rw [e16, en_up_ne _ _ _ _ (by omega), o15 p j hp]
      have k16 := ml_z0 (p := 136) hls (st I15 o15).2 (by omega) k15.1 k15.2
      rw [← e16] at k16
      have zz : ∀ p, p = 118 ∨ p = 119 ∨ p = 120 ∨ p = 122 ∨ p = 125 ∨ p = 134 ∨ p = 136 → I16 p s = 0 := fun p hp => by
        rcases hp with rfl | rfl | rfl | rfl | rfl | rfl | rfl
        · rw [e16, en_up_ne _ _ _ _ (by omega), e15, en_up_ne _ _ _ _ (by omega), e14, en_up_ne _ _ _ _ (by omega), e13, en_up_ne _ _ _ _ (by omega), e12, en_up_ne _ _ _ _ (by omega), e11, en_up_ne _ _ _ _ (by omega), e10, en_up_eq]
        · rw [e16, en_up_ne _ _ _ _ (by omega), e15, en_up_ne _ _ _ _ (by omega), e14, en_up_ne _ _ _ _ (by omega), e13, en_up_ne _ _ _ _ (by omega), e12, en_up_ne _ _ _ _ (by omega), e11, en_up_eq]
        · rw [e16, en_up_ne _ _ _ _ (by omega), e15, en_up_ne _ _ _ _ (by omega), e14, en_up_ne _ _ _ _ (by omega), e13, en_up_ne _ _ _ _ (by omega), e12, en_up_eq]
        · rw [e16, en_up_ne _ _ _ _ (by omega), e15, en_up_ne _ _ _ _ (by omega), e14, en_up_ne _ _ _ _ (by omega), e13, en_up_eq]
        · rw [e16, en_up_ne _ _ _ _ (by omega), e15, en_up_ne _ _ _ _ (by omega), e14, en_up_eq]
        · rw [e16, en_up_ne _ _ _ _ (by omega), e15, en_up_eq]
        · rw [e16, en_up_eq]
      have T16 : ml_TI l0 s I16 := by
        have bq := ml_cs (ml_l1 hls).2 k16.1
        refine ⟨(st I16 o16).2, by rw [(st I16 o16).1]; exact hs, ?_, fun _ => ⟨fun i hi => ?_, fun k c i hk => ?_⟩⟩
        · rw [o16 107 20 (by omega), n20, kl_0]
          unfold ml_sum
          omega
        · rw [zz 122 (by omega), kl_0] at hi; omega
        · rw [zz 125 (by omega), kl_0] at hk; omega
      exact y_read5 hT hls ha hΦ 36 I16 0 0 (by decide) (by decide) T16 (fun p j q => by
        have q2 := lv_p q
        rw [o16 p j (by unfold ml_hl ml_hm at q; unfold ml_ls at hls; omega), o9 p j (Or.inr q2)]
        exact hv p j q) k16.1 (tx_fr tx9 (fun p j _ _ => o16 p j (by omega))) (by rw [o16 _ _ (by omega)]; exact y11) (by rw [o16 _ _ (by omega)]; exact y13) (by rw [o16 _ _ (by omega)]; exact y15) (by rw [o16 _ _ (by omega)]; exact n20) zz (fun j hj => absurd hj (Nat.not_lt_zero j))
    · have := kl_nle q
      omega
  | succ k ih =>
    intro I x1 i hx hk hm h18 hv h4 h108 h109
    have s1 := ml_in1 (x := x1) (by omega)
    have nx := tk_nat hx
    refine u_X12_read_1 ⟨fun q => ?_, fun _ => ⟨kl_in (by omega) (by omega), kl_in (by omega) (by omega), fun I18 e18 => ?_⟩⟩
    · have := kl_le.mp q
      omega
    · have bb : -128 ≤ (I 108 i).toInt ∧ (I 108 i).toInt ≤ 127 := ml_row hm (p := 108) (n := 2000) (q := (-128, 127)) (fun _ => rfl) i (by omega)
      rw [nx, nar_e bb.1 bb.2] at e18
      have o18 : ∀ p j, ¬ (p = 109 ∧ j = i) → I18 p j = I p j := fun p j hp => by rw [e18, en_up_ne _ _ _ _ hp]
      refine ih I18 _ (i + 1) (by omega) (by omega) ?_ (by rw [o18 _ _ (by omega)]; exact h18) (fun p j q => by
        have q2 := lv_p q
        rw [o18 _ _ (by omega)]; exact hv p j q) (by rw [o18 _ _ (by omega)]; exact h4) (fun j hj => by rw [o18 _ _ (by omega)]; exact h108 j hj) (fun j hj => ?_)
      · rw [e18]
        exact ml_we2 hm rfl (n := 2000) (q := (-128, 127)) rfl bb
      · by_cases cj : j = i
        · rw [cj, e18, en_up_eq]; exact h108 i (by omega)
        · rw [o18 _ _ (by omega)]; exact h109 j (by omega)
theorem y_read {l0 : Nat} {b : Nat → Int32} {n : Nat} (h18 : (I 107 18).toInt = l0) (hn : (I 107 2).toInt = n) (hm : en_mem ml_tb mlX (xLay, I, L, R)) (hb : ∀ j, j < n → I 108 j = b j) (ha : ini a0) (hΦ : ∀ (r : Int32) (J : sm_I) (L' : sm_L) (R' : sm_R), RDx (tk_at b n) (SY (tk_K b n) 501 0 0 gc0) (ME (tk_K b n) (fun i => tk_vl b n (tk_at b n i)) 501 0 0 a0) r J → LVx l0 I r J → Φ (some (.int r), (xLay, J, L', kM R'))) : sm_wp sm_P S (d + 8) 182 0 [.ref 107] [] (xLay, I, L, kM R) (0, 0) Φ := by
  have bq : 0 ≤ (I 107 2).toInt ∧ (I 107 2).toInt ≤ 2000 := ml_taped hm
  refine u_X12_read_0 (y_read1 (by omega) ha hΦ n _ 0 0 (by decide) (by omega) (ml_wf hm (by decide +kernel) (q := (0, 2000)) (by decide +kernel) bq) (by rw [en_up_ne _ _ _ _ (by omega)]; exact h18) (fun p j q => by
    have q2 := lv_p q
    rw [en_up_ne _ _ _ _ (by omega)]) (by rw [en_up_eq]; exact hn) (fun j hj => by rw [en_up_ne _ _ _ _ (by omega)]; exact hb j hj) (fun j hj => absurd hj (Nat.not_lt_zero j)))
end
