/-! all that is told, on both sides -/
def sb (f : Nat → Int32) : Nat → Int32
  | 0 => 0
  | n + 1 => if f n = 0 then sb f n else sb f n ||| ((1 : Int32) <<< (Int32.ofNat n &&& 31))
theorem sb_cg {f g : Nat → Int32} : ∀ n, (∀ i, i < n → f i = g i) → sb f n = sb g n := by
  intro n
  induction n with
  | zero => intro _; rfl
  | succ n ih =>
    intro h
    show (if f n = 0 then sb f n else sb f n ||| ((1 : Int32) <<< (Int32.ofNat n &&& 31))) = (if g n = 0 then sb g n else sb g n ||| ((1 : Int32) <<< (Int32.ofNat n &&& 31)))
    rw [ih (fun i hi => h i (by omega)), h n (by omega)]
def rC (s : Nat) (a : sg) (I : sm_I) : Prop := a.1 12 0 = I 118 s ∧ a.1 12 1 = I 119 s ∧ a.1 12 2 = I 122 s ∧ a.1 12 3 = I 125 s ∧ a.1 12 4 = I 136 s
def rT (s : Nat) (a : sg) (I : sm_I) : Prop := ∀ i : Nat, i < 10 → ((i : Int) < (I 122 s).toInt → a.1 14 i = I 123 (10 * s + i) ∧ a.1 15 i = I 124 (10 * s + i)) ∧ ((I 122 s).toInt ≤ i → a.1 14 i = -1 ∧ a.1 15 i = -1)
def rO1 (s i k : Nat) (a : sg) (I : sm_I) : Prop := (k : Int) < (I 134 s).toInt ∧ (i : Int) < (I 122 s).toInt ∧ (I 135 (10 * s + i)).toInt = ((240 + 4 * s + k : Nat) : Int) ∧ I 130 (240 + 4 * s + k) = Int32.ofNat i ∧ a.1 17 i = Int32.ofNat i ∧ a.1 18 i = I 131 (240 + 4 * s + k) ∧ a.1 18 i ≠ -1 ∧ a.1 19 i = I 132 (240 + 4 * s + k) ∧ a.1 20 i = I 133 (240 + 4 * s + k)
def rO (s : Nat) (a : sg) (I : sm_I) : Prop := (∀ i : Nat, i < 10 → (I 135 (10 * s + i) = -1 ∧ a.1 18 i = -1) ∨ ∃ k : Nat, rO1 s i k a I) ∧ (∀ k : Nat, (k : Int) < (I 134 s).toInt → ∃ i : Nat, i < 10 ∧ rO1 s i k a I)
def rW (s : Nat) (a : sg) (I : sm_I) : Prop := ∀ i : Nat, i < 36 → (I 121 (36 * s + i) = -1 ∧ a.1 13 i = -2) ∨ (0 ≤ (I 121 (36 * s + i)).toInt ∧ a.1 13 i = I 121 (36 * s + i))
def rP (s i q : Nat) (a : sg) (I : sm_I) : Prop := ∀ p : Nat, (p : Int) < (I 129 (4 * (10 * s + i) + q)).toInt → a.1 25 (12 * i + 3 * q + p) = I 130 (120 * s + 12 * i + 3 * q + p) ∧ a.1 26 (12 * i + 3 * q + p) = I 131 (120 * s + 12 * i + 3 * q + p) ∧ a.1 27 (12 * i + 3 * q + p) = I 132 (120 * s + 12 * i + 3 * q + p) ∧ a.1 28 (12 * i + 3 * q + p) = I 133 (120 * s + 12 * i + 3 * q + p)
def rA (s i q : Nat) (a : sg) (I : sm_I) : Prop := a.1 23 (4 * i + q) = I 129 (4 * (10 * s + i) + q) ∧ 1 ≤ (I 129 (4 * (10 * s + i) + q)).toInt ∧ (I 129 (4 * (10 * s + i) + q)).toInt ≤ 3 ∧ rP s i q a I
def rY (s i : Nat) (a : sg) (I : sm_I) : Prop := a.1 21 i = I 127 (10 * s + i) ∧ a.1 22 i = I 128 (10 * s + i) ∧ 1 ≤ (I 128 (10 * s + i)).toInt ∧ (I 128 (10 * s + i)).toInt ≤ 4 ∧ ∀ q : Nat, (q : Int) < (I 128 (10 * s + i)).toInt → rA s i q a I
def rS (s : Nat) (a : sg) (I : sm_I) : Prop := (∀ i : Nat, i < 10 → ((i : Int) < (I 125 s).toInt → rY s i a I) ∧ ((I 125 s).toInt ≤ i → a.1 21 i = 1 ∧ ∀ q : Nat, q < 4 → a.1 23 (4 * i + q) = 0)) ∧ a.1 12 6 = sb (fun i => I 126 (10 * s + i)) (I 125 s).toNatClampNeg
def rQ (s : Nat) (a : sg) (I : sm_I) : Prop := ∀ q : Nat, q < 5 → (q : Int) < (I 136 s).toInt → a.1 30 q = I 130 (248 + 6 * s + q) ∧ a.1 31 q = I 131 (248 + 6 * s + q) ∧ a.1 32 q = I 132 (248 + 6 * s + q) ∧ a.1 33 q = I 133 (248 + 6 * s + q)
/-- a TIME's number is below how many there are -/
def rB (s : Nat) (I : sm_I) : Prop := ∀ i, i < cntm I → I 116 i = 2 → (I 117 i).toInt < (I 122 s).toInt
def rL (K : Nat → Int32) (V W : Nat → Int64) (s t : Nat) (a : sg) (I : sm_I) (L : sm_L) : Prop := (a.1 2 5 = I 107 20 ∧ rN K V W t (cntm I) a I L) ∧ rC s a I ∧ rT s a I ∧ rO s a I ∧ rW s a I ∧ rS s a I ∧ rQ s a I ∧ rB s I
/-- how many of each are told, as the grammar counts them -/
def rG (s : Nat) (g : gc) (I : sm_I) : Prop := (I 118 s).toInt = g.tells 0 ∧ (I 119 s).toInt = g.tells 1 ∧ (I 120 s).toInt = g.tells 2 ∧ (I 122 s).toInt = g.tells 3 ∧ (I 125 s).toInt = g.tells 6 ∧ (I 134 s).toInt = g.tells 10 ∧ (I 136 s).toInt = g.tells 12
section
variable {s : Nat} {a a' : sg} {I J : sm_I}
theorem rT_cg (h : rT s a I) (ha : ∀ c j, c = 14 ∨ c = 15 → a'.1 c j = a.1 c j) (hI : ∀ p j, (p = 122 ∧ j = s) ∨ p = 123 ∨ p = 124 → J p j = I p j) : rT s a' J := fun i hi => by
  rw [ha 14 i (Or.inl rfl), ha 15 i (Or.inr rfl), hI 122 s (Or.inl ⟨rfl, rfl⟩), hI 123 _ (Or.inr (Or.inl rfl)), hI 124 _ (Or.inr (Or.inr rfl))]
  exact h i hi
theorem rO1_cg {i k : Nat} (h : rO1 s i k a I) (h4 : (I 134 s).toInt ≤ 4) (ha : ∀ c, 17 ≤ c → c ≤ 20 → a'.1 c i = a.1 c i) (h34 : (I 134 s).toInt ≤ (J 134 s).toInt) (h22 : (I 122 s).toInt ≤ (J 122 s).toInt) (h35 : J 135 (10 * s + i) = I 135 (10 * s + i)) (hI : ∀ p j, 130 ≤ p → p ≤ 133 → 240 + 4 * s ≤ j → (j : Int) < 240 + 4 * s + (I 134 s).toInt → J p j = I p j) : rO1 s i k a' J := by
  obtain ⟨q1, q2, q3, q4, q5, q6, q7, q8, q9⟩ := h
  unfold rO1
  rw [ha 17 (by decide) (by decide), ha 18 (by decide) (by decide), ha 19 (by decide) (by decide), ha 20 (by decide) (by decide), h35, hI 130 _ (by decide) (by decide) (by omega) (by omega), hI 131 _ (by decide) (by decide) (by omega) (by omega), hI 132 _ (by decide) (by decide) (by omega) (by omega), hI 133 _ (by decide) (by decide) (by omega) (by omega)]
  exact ⟨by omega, by omega, q3, q4, q5, q6, q7, q8, q9⟩
theorem rO_cg (h : rO s a I) (h4 : (I 134 s).toInt ≤ 4) (ha : ∀ c j, 17 ≤ c → c ≤ 20 → a'.1 c j = a.1 c j) (h22 : (I 122 s).toInt ≤ (J 122 s).toInt) (h34 : J 134 s = I 134 s) (h35 : ∀ j, J 135 j = I 135 j) (hI : ∀ p j, 130 ≤ p → p ≤ 133 → 240 + 4 * s ≤ j → (j : Int) < 240 + 4 * s + (I 134 s).toInt → J p j = I p j) : rO s a' J := by
  refine ⟨fun i hi => ?_, fun k hk => ?_⟩
  · rcases h.1 i hi with q | ⟨k, q⟩
    · left; rw [ha 18 i (by decide) (by decide), h35]; exact q
    · exact Or.inr ⟨k, rO1_cg q h4 (fun c c1 c2 => ha c i c1 c2) (by rw [h34]; exact Int.le_refl _) h22 (h35 _) hI⟩
  · rw [h34] at hk
    obtain ⟨i, hi, q⟩ := h.2 k hk
    exact ⟨i, hi, rO1_cg q h4 (fun c c1 c2 => ha c i c1 c2) (by rw [h34]; exact Int.le_refl _) h22 (h35 _) hI⟩
theorem rW_cg (h : rW s a I) (ha : ∀ j, a'.1 13 j = a.1 13 j) (hI : ∀ j, J 121 j = I 121 j) : rW s a' J := fun i hi => by
  rw [ha, hI]; exact h i hi
theorem rP_cg {i q : Nat} (h : rP s i q a I) (i9 : i < 10) (q4 : q < 4) (b : (I 129 (4 * (10 * s + i) + q)).toInt ≤ 3) (ha : ∀ c j, 25 ≤ c → c ≤ 28 → 12 * i + 3 * q ≤ j → j < 12 * i + 3 * q + 3 → a'.1 c j = a.1 c j) (h9 : J 129 (4 * (10 * s + i) + q) = I 129 (4 * (10 * s + i) + q)) (hI : ∀ p j, 130 ≤ p → p ≤ 133 → 120 * s + 12 * i + 3 * q ≤ j → j < 120 * s + 12 * i + 3 * q + 3 → J p j = I p j) : rP s i q a' J := fun p hp => by
  rw [h9] at hp
  rw [ha 25 _ (by decide) (by decide) (by omega) (by omega), ha 26 _ (by decide) (by decide) (by omega) (by omega), ha 27 _ (by decide) (by decide) (by omega) (by omega), ha 28 _ (by decide) (by decide) (by omega) (by omega), hI 130 _ (by decide) (by decide) (by omega) (by omega), hI 131 _ (by decide) (by decide) (by omega) (by omega), hI 132 _ (by decide) (by decide) (by omega) (by omega), hI 133 _ (by decide) (by decide) (by omega) (by omega)]
  exact h p hp
theorem rA_cg {i q : Nat} (h : rA s i q a I) (i9 : i < 10) (q4 : q < 4) (ha : ∀ c j, 25 ≤ c → c ≤ 28 → 12 * i + 3 * q ≤ j → j < 12 * i + 3 * q + 3 → a'.1 c j = a.1 c j) (h23 : a'.1 23 (4 * i + q) = a.1 23 (4 * i + q)) (h9 : J 129 (4 * (10 * s + i) + q) = I 129 (4 * (10 * s + i) + q)) (hI : ∀ p j, 130 ≤ p → p ≤ 133 → 120 * s + 12 * i + 3 * q ≤ j → j < 120 * s + 12 * i + 3 * q + 3 → J p j = I p j) : rA s i q a' J := by
  obtain ⟨q1, q2, q3, q5⟩ := h
  refine ⟨?_, ?_, ?_, rP_cg q5 i9 q4 q3 ha h9 hI⟩
  · rw [h23, h9]; exact q1
  · rw [h9]; exact q2
  · rw [h9]; exact q3
theorem rY_cg {i : Nat} (h : rY s i a I) (i9 : i < 10) (h21 : a'.1 21 i = a.1 21 i) (h22 : a'.1 22 i = a.1 22 i) (h23 : ∀ j, 4 * i ≤ j → j < 4 * i + 4 → a'.1 23 j = a.1 23 j) (ha : ∀ c j, 25 ≤ c → c ≤ 28 → 12 * i ≤ j → j < 12 * i + 12 → a'.1 c j = a.1 c j) (h7 : J 127 (10 * s + i) = I 127 (10 * s + i)) (h8 : J 128 (10 * s + i) = I 128 (10 * s + i)) (h9 : ∀ j, 4 * (10 * s + i) ≤ j → j < 4 * (10 * s + i) + 4 → J 129 j = I 129 j) (hI : ∀ p j, 130 ≤ p → p ≤ 133 → 120 * s + 12 * i ≤ j → j < 120 * s + 12 * i + 12 → J p j = I p j) : rY s i a' J := by
  obtain ⟨q1, q2, q3, q4, q5⟩ := h
  refine ⟨?_, ?_, ?_, ?_, fun q hq => ?_⟩
  · rw [h21, h7]; exact q1
  · rw [h22, h8]; exact q2
  · rw [h8]; exact q3
  · rw [h8]; exact q4
  · rw [h8] at hq
    exact rA_cg (q5 q hq) i9 (by omega) (fun c j c1 c2 j1 j2 => ha c j c1 c2 (by omega) (by omega)) (h23 _ (by omega) (by omega)) (h9 _ (by omega) (by omega)) (fun p j p1 p2 j1 j2 => hI p j p1 p2 (by omega) (by omega))
theorem rS_cg (h : rS s a I) (b1 : (I 125 s).toInt ≤ 10) (hs : s ≤ 1) (ha : ∀ c j, (c = 12 ∧ j = 6) ∨ (21 ≤ c ∧ c ≤ 23) ∨ (25 ≤ c ∧ c ≤ 28) → a'.1 c j = a.1 c j) (hI : ∀ p j, (p = 125 ∧ j = s) ∨ (126 ≤ p ∧ p ≤ 129) ∨ (130 ≤ p ∧ p ≤ 133 ∧ j < 240) → J p j = I p j) : rS s a' J := by
  have b0 := (I 125 s).toNatClampNeg
  refine ⟨fun i hi => ⟨fun q => ?_, fun q => ?_⟩, ?_⟩
  · rw [hI 125 s (by omega)] at q
    exact rY_cg ((h.1 i hi).1 q) hi (ha _ _ (by omega)) (ha _ _ (by omega)) (fun j _ _ => ha _ _ (by omega)) (fun c j c1 c2 _ _ => ha _ _ (by omega)) (hI _ _ (by omega)) (hI _ _ (by omega)) (fun j _ _ => hI _ _ (by omega)) (fun p j p1 p2 _ _ => hI _ _ (by omega))
  · rw [hI 125 s (by omega)] at q
    refine ⟨by rw [ha 21 _ (by omega)]; exact ((h.1 i hi).2 q).1, fun k hk => by rw [ha 23 _ (by omega)]; exact ((h.1 i hi).2 q).2 k hk⟩
  · rw [ha 12 6 (by omega), hI 125 s (by omega), h.2]
    exact sb_cg _ (fun i _ => (hI 126 _ (by omega)).symm)
theorem rQ_cg (h : rQ s a I) (ha : ∀ c j, 30 ≤ c → c ≤ 33 → a'.1 c j = a.1 c j) (hI : ∀ p j, (p = 136 ∧ j = s) ∨ (130 ≤ p ∧ p ≤ 133 ∧ 248 + 6 * s ≤ j ∧ j < 253 + 6 * s) → J p j = I p j) : rQ s a' J := fun q hq hq2 => by
  rw [hI 136 s (by omega)] at hq2
  rw [ha 30 q (by decide) (by decide), ha 31 q (by decide) (by decide), ha 32 q (by decide) (by decide), ha 33 q (by decide) (by decide), hI 130 _ (by omega), hI 131 _ (by omega), hI 132 _ (by omega), hI 133 _ (by omega)]
  exact h q hq hq2
theorem rB_cg (h : rB s I) (h20 : J 107 20 = I 107 20) (hI : ∀ i, i < cntm I → J 116 i = I 116 i ∧ J 117 i = I 117 i) (h22 : (I 122 s).toInt ≤ (J 122 s).toInt) : rB s J := fun i hi e => by
  have ec : cntm J = cntm I := by unfold cntm; rw [h20]
  rw [ec] at hi
  rw [(hI i hi).1] at e
  rw [(hI i hi).2]
  have := h i hi e
  omega
theorem rB_new {so x : Int32} (h : rB s I) (b0 : 0 ≤ (I 107 20).toInt) (b1 : (I 107 20).toInt ≤ 40) (h20 : J 107 20 = I 107 20 + 1) (e116 : J 116 (cntm I) = so) (e117 : J 117 (cntm I) = x) (hI : ∀ i, i < cntm I → J 116 i = I 116 i ∧ J 117 i = I 117 i) (h22 : (I 122 s).toInt ≤ (J 122 s).toInt) (hso : so = 2 → x.toInt < (J 122 s).toInt) : rB s J := fun i hi e => by
  have ecJ : cntm J = cntm I + 1 := by
    have n := kl_nat b0
    have s' := ml_in1 (x := I 107 20) (by omega)
    unfold cntm
    rw [h20]
    exact tk_nat (by omega)
  by_cases ci : i = cntm I
  · rw [ci, e116] at e
    rw [ci, e117]; exact hso e
  · rw [(hI i (by omega)).1] at e
    rw [(hI i (by omega)).2]
    have := h i (by omega) e
    omega
theorem gc0_t {k : Int32} {g : gc} {j : Nat} (hk : k.toInt < 15) : (gc_st 0 k g).tells j = if j = gw k then g.tells j + 1 else g.tells j := by
  unfold gc_st; rw [if_pos ⟨rfl, hk⟩]
theorem gc0_l {k : Int32} {g : gc} (hk : k.toInt < 15) : (gc_st 0 k g).tell = k := by
  unfold gc_st; rw [if_pos ⟨rfl, hk⟩]
theorem gc0_a {k : Int32} {g : gc} (hk : k.toInt < 15) : (gc_st 0 k g).alls = 1 ∧ (gc_st 0 k g).parts = 1 := by
  unfold gc_st; rw [if_pos ⟨rfl, hk⟩]; exact ⟨rfl, rfl⟩
/-- a name of a counted kind -/
theorem nmA {v : Int64} {k mx : Int32} {f : Nat} (hk : a.1 2 7 = k) (k8 : k ≠ 8) (nb : ∀ b : sg, nb_new k b = (mnn mx (b.1 12 f) - 1, u2 b 12 f (mnn mx (b.1 12 f)))) (h1 : (a.1 12 f).toInt < mx.toInt) (h2 : mx.toInt ≤ 100) : nm_kd a = k ∧ (nm_add v a).1 11 (cnt a.1) = a.1 12 f ∧ ∀ p j, p ≠ 10 → p ≠ 11 → ¬ (p = 2 ∧ j = 5) → (nm_add v a).1 p j = if p = 12 ∧ j = f then a.1 12 f + 1 else a.1 p j := by
  have ek : nm_kd a = k := by unfold nm_kd; rw [hk, if_neg k8]
  have eb : (nm_b v a).1 12 f = a.1 12 f := nm_b_o (by decide)
  have em : mnn mx (a.1 12 f) = a.1 12 f + 1 := mnn_s h1 h2
  refine ⟨ek, ?_, fun p j p1 p2 p3 => ?_⟩
  · rw [nm_add_11, if_pos rfl, ek, nb, eb, em]; exact i32_a1 _
  · rw [nm_add_o p1 p2 p3, ek, nb, eb, em]
    by_cases c1 : p = 12 ∧ j = f
    · rw [if_pos c1, c1.1, c1.2, u2_eq]
    · rw [if_neg c1, u2_ne _ _ _ _ c1, nm_b_o p1]
/-- the names after one of a counted kind -/
theorem rN_new {K : Nat → Int32} {V W : Nat → Int64} {t t' u : Nat} {L L' : sm_L} {so x : Int32} (h5 : a.1 2 5 = I 107 20) (b0 : 0 ≤ (I 107 20).toInt) (b1 : (I 107 20).toInt ≤ 40) (hN : rN K V W t (cntm I) a I L) (ht : t ≤ t') (u1 : u < t') (ku : K u = 15) (hk : srt (nm_kd a) so) (h11 : (nm_add (V u) a).1 11 (cnt a.1) = x) (e20 : J 107 20 = I 107 20 + 1) (e116 : J 116 (cntm I) = so) (e117 : J 117 (cntm I) = x) (o1 : ∀ i, i < cntm I → J 116 i = I 116 i ∧ J 117 i = I 117 i) (eL : L' 115 (cntm I) = W u) (oL : ∀ i, i < cntm I → L' 115 i = L 115 i) : (nm_add (V u) a).1 2 5 = J 107 20 ∧ rN K V W t' (cntm J) (nm_add (V u) a) J L' := by
  have ec : cnt a.1 = cntm I := by unfold cnt cntm; rw [h5]
  have ecJ : cntm J = cntm I + 1 := by
    have n := kl_nat b0
    have s := ml_in1 (x := I 107 20) (by omega)
    unfold cntm
    rw [e20]
    exact tk_nat (by omega)
  refine ⟨by rw [nm_add_5, h5, e20], ?_⟩
  rw [ecJ]
  refine rN_add (so := so) (u := u) hN ht u1 ku (fun i hi => ⟨?_, ?_, ?_⟩) (fun i hi => ⟨oL i hi, (o1 i hi).1, (o1 i hi).2⟩) ?_ eL ?_ ?_
  · rw [nm_add_2, ec]
    show (if i = cntm I then _ else a.2 i) = _
    rw [if_neg (by omega)]
  · rw [nm_add_10, ec, if_neg (by omega)]
  · rw [nm_add_11, ec, if_neg (by omega)]
  · rw [nm_add_2, ec]
    show (if cntm I = cntm I then _ else _) = _
    rw [if_pos rfl]
  · rw [nm_add_10, ec, if_pos rfl, e116]; exact hk
  · rw [← ec, h11, ec, e117]
end
