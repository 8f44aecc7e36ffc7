section
/-! what is told of spans: TIMES that are told, minutes within a day either way -/
def tg (a : sg) (x : Int32) : Prop := 0 ≤ x.toInt ∧ x.toInt < (a.1 12 2).toInt
def bd (x : Int32) : Prop := -1440 ≤ x.toInt ∧ x.toInt ≤ 1440
def sq (a : sg) (c r : Nat) : Prop := tg a (a.1 (c + 1) r) ∧ (a.1 (c + 2) r = -1 ∨ tg a (a.1 (c + 2) r)) ∧ bd (a.1 (c + 3) r) ∧ bd (a.1 (c + 4) r)
def nS (a : sg) : Nat := (a.1 12 3).toNatClampNeg
def nC (a : sg) (i : Nat) : Nat := (a.1 22 i).toNatClampNeg
def nP (a : sg) (j : Nat) : Nat := (a.1 23 j).toNatClampNeg
def nQ (a : sg) : Nat := (a.1 12 4).toNatClampNeg
def tn (a : sg) : Prop := (0 ≤ (a.1 12 2).toInt ∧ (a.1 12 2).toInt ≤ 10) ∧ (0 ≤ (a.1 2 5).toInt ∧ (a.1 2 5).toInt ≤ 35) ∧ ∀ i, i < cnt a.1 → a.1 10 i = 3 → tg a (a.1 11 i)
def scn (a : sg) : Prop := (0 ≤ (a.1 12 3).toInt ∧ (a.1 12 3).toInt ≤ 10) ∧ (0 ≤ (a.1 12 4).toInt ∧ (a.1 12 4).toInt ≤ 5) ∧ (∀ i, i < nS a → 1 ≤ (a.1 22 i).toInt ∧ (a.1 22 i).toInt ≤ 4) ∧ (∀ i q, i < nS a → q < nC a i → 1 ≤ (a.1 23 (4 * i + q)).toInt ∧ (a.1 23 (4 * i + q)).toInt ≤ 3) ∧ ∀ i q, i < 10 → q < 4 → (nS a ≤ i ∨ nC a i ≤ q) → a.1 23 (4 * i + q) = 0
/-- the last span of the last saying -/
def lsp (a : sg) (i q p : Nat) : Prop := i + 1 = nS a ∧ q + 1 = nC a i ∧ p + 1 = nP a (4 * i + q)
def csp (a : sg) (pd : Prop) : Prop := ∀ i q p, i < nS a → q < nC a i → p < nP a (4 * i + q) → (pd → ¬ lsp a i q p) → sq a 24 (12 * i + 3 * q + p)
def qsp (a : sg) (pd : Prop) : Prop := ∀ q, q < nQ a → (pd → q + 1 ≠ nQ a) → sq a 29 q
def osp (a : sg) : Prop := ∀ t, t < 10 → a.1 18 t ≠ -1 → sq a 16 t
def inP (s : Int32) : Bool := decide (s = 12 ∨ s = 13 ∨ s = 16 ∨ s = 17 ∨ s = 18 ∨ s = 19 ∨ s = 20 ∨ s = 21 ∨ s = 22 ∨ s = 23 ∨ s = 24 ∨ s = 25)
def inX (s : Int32) : Bool := decide (s = 18 ∨ s = 19 ∨ s = 20 ∨ s = 21 ∨ s = 22 ∨ s = 23 ∨ s = 24 ∨ s = 25)
def inL (s : Int32) : Bool := decide (s = 23 ∨ s = 24 ∨ s = 25)
def inO (s : Int32) : Bool := decide (s = 28 ∨ s = 29 ∨ s = 30)
def rg (s : Int32) (a : sg) : Prop := (inX s = true → tg a (a.1 2 8) ∧ (a.1 2 9 = -1 ∨ tg a (a.1 2 9))) ∧ (inL s = true → bd (a.1 2 10)) ∧ (s = 11 ∨ s = 14 → a.1 2 7 ≠ 12 ∧ nm_kd a = 6) ∧ (s = 15 → a.1 2 7 = 12) ∧ (s = 1 → a.1 2 7 = 0 ∨ a.1 2 7 = 1) ∧ (s = 6 → a.1 2 7 = 3) ∧ (s = 3 ∨ s = 4 → a.1 2 7 = 2) ∧ (s = 27 ∨ inO s = true → a.1 2 7 = 10) ∧ (inO s = true → tg a (a.1 2 8)) ∧ (s = 30 → tg a (a.1 2 9)) ∧ (s = 5 → a.1 2 7 = 2 ∨ (a.1 2 7 = 10 ∧ tg a (a.1 2 8) ∧ tg a (a.1 2 9) ∧ bd (a.1 2 10)))
def sv (s : Int32) (a : sg) : Prop := tn a ∧ scn a ∧ csp a (inP s = true ∧ a.1 2 7 ≠ 12) ∧ qsp a (inP s = true ∧ a.1 2 7 = 12) ∧ osp a ∧ rg s a
/-- the steps -/
abbrev gV (s k x : Int32) : Prop := (inP x = true → inP s = true ∨ s = 11 ∨ s = 14 ∨ s = 15 ∨ (s = 26 ∧ (k = 9 ∨ k = 13))) ∧ (inP s = true → inP x = true ∨ (x = 26 ∧ k = 16 ∧ inL s = true)) ∧ (x = 26 → k = 16 ∧ inL s = true) ∧ (inL s = true → k = 16 → x = 26)
abbrev gWa (s k x : Int32) : Prop := (inX x = true → inX s = true ∨ s = 17) ∧ (inL x = true → (k = 16 ∧ (s = 19 ∨ s = 21 ∨ s = 22)) ∨ inL s = true)
abbrev gWb (s k x : Int32) : Prop := (x = 11 → s = 0 ∧ k = 6) ∧ (x = 14 → s = 0 ∧ k = 8)
abbrev gWc (s k x : Int32) : Prop := (x = 15 → s = 0 ∧ k = 12) ∧ (x = 1 → s = 0 ∧ (k = 0 ∨ k = 1))
abbrev gW2 (s k x : Int32) : Prop := (x = 6 → s = 0 ∧ k = 3) ∧ (x = 3 → s = 0 ∧ k = 2) ∧ (x = 4 → s = 3) ∧ (x = 27 → s = 0 ∧ k = 10) ∧ (inO x = true → inO s = true ∨ s = 27) ∧ (x = 30 → s = 29) ∧ (x = 5 → s = 4 ∨ (s = 30 ∧ k = 16))
abbrev gW (s k x : Int32) : Prop := (inX x = true → inX s = true ∨ s = 17) ∧ (inL x = true → (k = 16 ∧ (s = 19 ∨ s = 21 ∨ s = 22)) ∨ inL s = true) ∧ (x = 11 → s = 0 ∧ k = 6) ∧ (x = 14 → s = 0 ∧ k = 8) ∧ (x = 15 → s = 0 ∧ k = 12) ∧ (x = 1 → s = 0 ∧ (k = 0 ∨ k = 1)) ∧ gW2 s k x
abbrev gZ (s k x : Int32) : Prop := (s = 5 → x = 2) ∧ (s = 26 → k = 9 ∨ k = 13 → x = 17) ∧ (s = 11 ∨ s = 14 ∨ s = 15 → inP x = true)
theorem st_V : ∀ i, i < 46 → gV (sm_steps.getD (3 * i) 0) (sm_steps.getD (3 * i + 1) 0) (sm_steps.getD (3 * i + 2) 0) := by decide +kernel
theorem st_Wa : ∀ i, i < 46 → gWa (sm_steps.getD (3 * i) 0) (sm_steps.getD (3 * i + 1) 0) (sm_steps.getD (3 * i + 2) 0) := by decide +kernel
theorem st_Wb : ∀ i, i < 46 → gWb (sm_steps.getD (3 * i) 0) (sm_steps.getD (3 * i + 1) 0) (sm_steps.getD (3 * i + 2) 0) := by decide +kernel
theorem st_Wc : ∀ i, i < 46 → gWc (sm_steps.getD (3 * i) 0) (sm_steps.getD (3 * i + 1) 0) (sm_steps.getD (3 * i + 2) 0) := by decide +kernel
theorem st_W2 : ∀ i, i < 46 → gW2 (sm_steps.getD (3 * i) 0) (sm_steps.getD (3 * i + 1) 0) (sm_steps.getD (3 * i + 2) 0) := by decide +kernel
theorem st_W (i : Nat) (h : i < 46) : gW (sm_steps.getD (3 * i) 0) (sm_steps.getD (3 * i + 1) 0) (sm_steps.getD (3 * i + 2) 0) := by
  obtain ⟨a1, a2⟩ := st_Wa i h
  obtain ⟨a3, a4⟩ := st_Wb i h
  obtain ⟨a5, a6⟩ := st_Wc i h
  exact ⟨a1, a2, a3, a4, a5, a6, st_W2 i h⟩
theorem st_Z : ∀ i, i < 46 → gZ (sm_steps.getD (3 * i) 0) (sm_steps.getD (3 * i + 1) 0) (sm_steps.getD (3 * i + 2) 0) := by decide +kernel
theorem st_g {s k : Int32} (hf : fw s k ≠ -1) : gV s k (fw s k) ∧ gW s k (fw s k) ∧ gZ s k (fw s k) := by
  obtain ⟨i, hi, i2, i3, i4⟩ := fw_mem hf
  have h1 := st_V i hi
  have h2 := st_W i hi
  have h3 := st_Z i hi
  rw [i2, i3, ← i4] at h1 h2 h3
  exact ⟨h1, h2, h3⟩
/-- what keeps it: the same where it looks -/
def tl (a b : sg) : Prop := (a.1 12 2).toInt ≤ (b.1 12 2).toInt
def coS (a b : sg) : Prop := tl a b ∧ b.1 12 3 = a.1 12 3 ∧ ∀ c j, c = 22 ∨ c = 23 ∨ (25 ≤ c ∧ c ≤ 28) → b.1 c j = a.1 c j
def coQ (a b : sg) : Prop := tl a b ∧ b.1 12 4 = a.1 12 4 ∧ ∀ c j, 30 ≤ c → c ≤ 33 → b.1 c j = a.1 c j
def coO (a b : sg) : Prop := tl a b ∧ ∀ c j, 17 ≤ c → c ≤ 20 → b.1 c j = a.1 c j
def coN (a b : sg) : Prop := (∀ j, b.1 10 j = a.1 10 j) ∧ (∀ j, b.1 11 j = a.1 11 j) ∧ b.1 2 5 = a.1 2 5 ∧ b.1 12 2 = a.1 12 2
def co2 (a b : sg) : Prop := coN a b ∧ coS a b ∧ coQ a b ∧ coO a b
theorem co2_rf {a : sg} : co2 a a := ⟨⟨fun _ => rfl, fun _ => rfl, rfl, rfl⟩, ⟨Int.le_refl _, rfl, fun _ _ _ => rfl⟩, ⟨Int.le_refl _, rfl, fun _ _ _ _ => rfl⟩, Int.le_refl _, fun _ _ _ _ => rfl⟩
theorem co2_u2 {a0 a : sg} {c j : Nat} {v : Int32} (g : co2 a0 a) (h : c ≠ 10 ∧ c ≠ 11 ∧ ¬ (c = 2 ∧ j = 5) ∧ ¬ (c = 12 ∧ (j = 2 ∨ j = 3 ∨ j = 4)) ∧ ¬ (17 ≤ c ∧ c ≤ 33 ∧ c ≠ 21)) : co2 a0 (u2 a c j v) := by
  obtain ⟨⟨a1, a2, a3, a4⟩, ⟨b1, b2, b3⟩, ⟨c1, c2, c3⟩, d1, d2⟩ := g
  have t : (u2 a c j v).1 12 2 = a.1 12 2 := u2_ne _ _ _ _ (by omega)
  have tt : tl a0 (u2 a c j v) := by unfold tl at b1 ⊢; rw [t]; exact b1
  exact ⟨⟨fun i => by rw [u2_ne _ _ _ _ (by omega)]; exact a1 i, fun i => by rw [u2_ne _ _ _ _ (by omega)]; exact a2 i, by rw [u2_ne _ _ _ _ (by omega)]; exact a3, by rw [t]; exact a4⟩, ⟨tt, by rw [u2_ne _ _ _ _ (by omega)]; exact b2, fun p i q => by rw [u2_ne _ _ _ _ (by omega)]; exact b3 p i q⟩, ⟨tt, by rw [u2_ne _ _ _ _ (by omega)]; exact c2, fun p i q1 q2 => by rw [u2_ne _ _ _ _ (by omega)]; exact c3 p i q1 q2⟩, tt, fun p i q1 q2 => by rw [u2_ne _ _ _ _ (by omega)]; exact d2 p i q1 q2⟩
theorem tg_m {a b : sg} {x : Int32} (h : tl a b) (g : tg a x) : tg b x := by
  unfold tl at h
  unfold tg at g ⊢
  omega
theorem sq_m {a b : sg} {c r : Nat} (h : tl a b) (e : ∀ p, c + 1 ≤ p → p ≤ c + 4 → b.1 p r = a.1 p r) (g : sq a c r) : sq b c r := by
  obtain ⟨g1, g2, g3, g4⟩ := g
  unfold sq
  rw [e (c + 1) (by omega) (by omega), e (c + 2) (by omega) (by omega), e (c + 3) (by omega) (by omega), e (c + 4) (by omega) (by omega)]
  exact ⟨tg_m h g1, g2.imp id (tg_m h), g3, g4⟩
theorem tn_co {a b : sg} (h : coN a b) (k : tn a) : tn b := by
  obtain ⟨k1, k2, k3⟩ := k
  refine ⟨by rw [h.2.2.2]; exact k1, by rw [h.2.2.1]; exact k2, fun i hi hk => ?_⟩
  unfold cnt at hi
  rw [h.2.2.1] at hi
  rw [h.1 i] at hk
  rw [h.2.1 i]
  exact tg_m (by unfold tl; rw [h.2.2.2]; exact Int.le_refl _) (k3 i hi hk)
theorem nS_co {a b : sg} (h : coS a b) : nS b = nS a ∧ (∀ i, nC b i = nC a i) ∧ ∀ i, nP b i = nP a i := by
  refine ⟨by unfold nS; rw [h.2.1], fun i => by unfold nC; rw [h.2.2 22 i (by omega)], fun i => by unfold nP; rw [h.2.2 23 i (by omega)]⟩
theorem scn_co {a b : sg} (h : coS a b) (hq : 0 ≤ (b.1 12 4).toInt ∧ (b.1 12 4).toInt ≤ 5) (k : scn a) : scn b := by
  obtain ⟨k1, -, k3, k4, k5⟩ := k
  obtain ⟨e1, e2, e3⟩ := nS_co h
  refine ⟨by rw [h.2.1]; exact k1, hq, fun i hi => ?_, fun i q hi hq => ?_, fun i q hi hq c => ?_⟩
  · rw [e1] at hi
    rw [h.2.2 22 i (by omega)]; exact k3 i hi
  · rw [e1] at hi
    rw [e2] at hq
    rw [h.2.2 23 _ (by omega)]; exact k4 i q hi hq
  · rw [e1, e2] at c
    rw [h.2.2 23 _ (by omega)]; exact k5 i q hi hq c
theorem csp_co {a b : sg} {pd pd' : Prop} (h : coS a b) (hp : pd → pd') (k : csp a pd) : csp b pd' := fun i q p hi hq hpp hl => by
  obtain ⟨e1, e2, e3⟩ := nS_co h
  rw [e1] at hi
  rw [e2] at hq
  rw [e3] at hpp
  refine sq_m h.1 (fun p' p1 p2 => h.2.2 p' _ (by omega)) (k i q p hi hq hpp (fun x y => hl (hp x) ?_))
  unfold lsp at y ⊢
  rw [e1, e2, e3]; exact y
theorem qsp_co {a b : sg} {pd pd' : Prop} (h : coQ a b) (hp : pd → pd') (k : qsp a pd) : qsp b pd' := fun q hq hl => by
  have e : nQ b = nQ a := by unfold nQ; rw [h.2.1]
  rw [e] at hq hl
  exact sq_m h.1 (fun p' p1 p2 => h.2.2 p' _ (by omega) (by omega)) (k q hq (fun x => hl (hp x)))
theorem osp_co {a b : sg} (h : coO a b) (k : osp a) : osp b := fun t ht hk => by
  rw [h.2 18 t (by omega) (by omega)] at hk
  exact sq_m h.1 (fun p' p1 p2 => h.2 p' _ (by omega) (by omega)) (k t ht hk)
theorem fnd_3 {a : sg} {nm : Int64} (h : tn a) : ∀ m i, i + m ≤ cnt a.1 → fnd a.1 a.2 nm 3 m i ≠ -1 → tg a (fnd a.1 a.2 nm 3 m i) := by
  intro m
  induction m with
  | zero => intro i _ hn; exact absurd rfl hn
  | succ m ih =>
    intro i hm hn
    have e : fnd a.1 a.2 nm 3 (m + 1) i = (if a.2 i = nm then (if a.1 10 i = 3 then a.1 11 i else fnd a.1 a.2 nm 3 m (i + 1)) else fnd a.1 a.2 nm 3 m (i + 1)) := rfl
    rw [e] at hn ⊢
    by_cases c1 : a.2 i = nm
    · rw [if_pos c1] at hn ⊢
      by_cases c2 : a.1 10 i = 3
      · rw [if_pos c2]
        exact h.2.2 i (by omega) c2
      · rw [if_neg c2] at hn ⊢
        exact ih (i + 1) (by omega) hn
    · rw [if_neg c1] at hn ⊢
      exact ih (i + 1) (by omega) hn
theorem fd_3 {a : sg} {nm : Int64} (h : tn a) (hn : fd a nm 3 ≠ -1) : tg a (fd a nm 3) := fnd_3 h (cnt a.1) 0 (by omega) hn
theorem co2_pl {a : sg} {c : Nat} {r : Int32} (h : c = 14 ∨ c = 15) : co2 a (pl_last c r a) := by
  unfold pl_last
  split
  · exact co2_rf
  · split
    · exact co2_rf
    · exact co2_u2 co2_rf (by omega)
theorem co2_where {a : sg} {s : Int32} {nm : Int64} : co2 a (tk_where s nm a).2 := by
  unfold tk_where
  split
  · split
    · exact co2_rf
    · exact co2_pl (by omega)
  · split
    · exact co2_rf
    · exact co2_pl (by omega)
theorem co2_trust {a : sg} {v : Int32} : co2 a (tk_trust v a).2 := by
  unfold tk_trust
  split
  · exact co2_rf
  · split
    · show co2 a (tr_last v a)
      unfold tr_last
      split
      · exact co2_rf
      · split
        · exact co2_rf
        · exact co2_u2 co2_rf (by omega)
    · exact co2_rf
theorem co2_path {a : sg} {x y v : Int32} : co2 a (ad_path x y v a) := by
  have w : co2 a (ad_w x y v a) := co2_u2 (co2_u2 co2_rf (by omega)) (by omega)
  unfold ad_path
  repeat' split
  all_goals first
    | exact co2_rf
    | exact w
/-- the registers of the reader, by what can be ahead -/
theorem rg_n {s k x : Int32} (W : gW s k x) (b : sg) (s0 : s ≠ 0) (h1 : inX x = true → tg b (b.1 2 8) ∧ (b.1 2 9 = -1 ∨ tg b (b.1 2 9))) (h2 : inL x = true → bd (b.1 2 10)) (h4 : x = 4 → b.1 2 7 = 2) (h8 : inO x = true → b.1 2 7 = 10 ∧ tg b (b.1 2 8)) (h10 : x = 30 → tg b (b.1 2 9)) (h11 : x = 5 → b.1 2 7 = 2 ∨ (b.1 2 7 = 10 ∧ tg b (b.1 2 8) ∧ tg b (b.1 2 9) ∧ bd (b.1 2 10))) : rg x b := by
  obtain ⟨-, -, w3, w4, w5, w6, w7, w8, -, w10, -, -, -⟩ := W
  refine ⟨h1, h2, fun q => ?_, fun q => absurd (w5 q).1 s0, fun q => absurd (w6 q).1 s0, fun q => absurd (w7 q).1 s0, fun q => ?_, fun q => ?_, fun q => (h8 q).2, h10, h11⟩
  · rcases q with q | q
    · exact absurd (w3 q).1 s0
    · exact absurd (w4 q).1 s0
  · rcases q with q | q
    · exact absurd (w8 q).1 s0
    · exact h4 q
  · rcases q with q | q
    · exact absurd (w10 q).1 s0
    · exact (h8 q).1
theorem sv_f {s k x : Int32} {a b : sg} (V : gV s k x) (h : sv s a) (c : co2 a b) (hx : ¬ (inL s = true ∧ k = 16)) (t7 : inP s = true → b.1 2 7 = a.1 2 7) (r : rg x b) : sv x b := by
  obtain ⟨h1, h2, h3, h4, h5, -⟩ := h
  obtain ⟨c1, c2, c3, c4⟩ := c
  have px : inP s = true → inP x = true := fun q => by
    rcases V.2.1 q with e | ⟨-, e1, e2⟩
    · exact e
    · exact absurd ⟨e2, e1⟩ hx
  exact ⟨tn_co c1 h1, scn_co c2 (by rw [c3.2.1]; exact h2.2.1) h2, csp_co c2 (fun q => ⟨px q.1, by rw [t7 q.1]; exact q.2⟩) h3, qsp_co c3 (fun q => ⟨px q.1, by rw [t7 q.1]; exact q.2⟩) h4, osp_co c4 h5, r⟩
/-- where the state is not one in which registers matter -/
def nR (s : Int32) : Bool := !(inX s) && !(inO s) && !(inL s) && !(decide (s = 17 ∨ s = 27 ∨ s = 29 ∨ s = 30 ∨ s = 0 ∨ s = 3 ∨ s = 4))
theorem rg_0 {s k x : Int32} (W : gW s k x) (b : sg) (n : nR s = true) : rg x b := by
  unfold nR at n
  obtain ⟨n, n4⟩ := Bool.and_eq_true_iff.mp n
  obtain ⟨n, n3⟩ := Bool.and_eq_true_iff.mp n
  obtain ⟨n1, n2⟩ := Bool.and_eq_true_iff.mp n
  have m1 : inX s = false := by simpa using n1
  have m2 : inO s = false := by simpa using n2
  have m3 : inL s = false := by simpa using n3
  have m4 : ¬ (s = 17 ∨ s = 27 ∨ s = 29 ∨ s = 30 ∨ s = 0 ∨ s = 3 ∨ s = 4) := by simpa using n4
  have x1 : ∀ t : Int32, inX t = false → t ≠ 19 ∧ t ≠ 21 ∧ t ≠ 22 := fun t ht => ⟨fun e => by rw [e] at ht; exact absurd ht (by decide), fun e => by rw [e] at ht; exact absurd ht (by decide), fun e => by rw [e] at ht; exact absurd ht (by decide)⟩
  obtain ⟨x19, x21, x22⟩ := x1 s m1
  obtain ⟨w1, w2, -, -, -, -, -, -, w9, -, w11, w12, w13⟩ := id W
  refine rg_n W b (fun e => m4 (by rw [e]; decide)) (fun q => ?_) (fun q => ?_) (fun q => absurd (w9 q) (fun e => m4 (by rw [e]; decide))) (fun q => ?_) (fun q => absurd (w12 q) (fun e => m4 (by rw [e]; decide))) (fun q => ?_)
  · rcases w1 q with e | e
    · rw [m1] at e; cases e
    · exact absurd (Or.inl e) m4
  · rcases w2 q with ⟨-, e | e | e⟩ | e
    · exact absurd e x19
    · exact absurd e x21
    · exact absurd e x22
    · rw [m3] at e; cases e
  · rcases w11 q with e | e
    · rw [m2] at e; cases e
    · exact absurd (Or.inr (Or.inl e)) m4
  · rcases w13 q with e | ⟨e, -⟩
    · exact absurd e (fun e => m4 (by rw [e]; decide))
    · exact absurd e (fun e => m4 (by rw [e]; decide))
/-- one more span of the last saying -/
theorem part_ok {b : Bool} {a : sg} (h2 : scn a) (h3 : csp a False) : coN a (ad_part b a) ∧ coQ a (ad_part b a) ∧ coO a (ad_part b a) ∧ scn (ad_part b a) ∧ csp (ad_part b a) True ∧ (ad_part b a).1 2 7 = a.1 2 7 := by
  have triv : coN a a ∧ coQ a a ∧ coO a a ∧ scn a ∧ csp a True ∧ a.1 2 7 = a.1 2 7 := ⟨co2_rf.1, co2_rf.2.2.1, co2_rf.2.2.2, h2, fun i q p x y z _ => h3 i q p x y z (fun f => f.elim), rfl⟩
  obtain ⟨⟨s0, s10⟩, hq, k3, k4, k5⟩ := id h2
  have nn := kl_nat s0
  have q1 : (a.1 12 3 - 1).toInt = (a.1 12 3).toInt - 1 := by rw [Int32.toInt_sub, kl_1]; exact en_bmod (by omega) (by omega) (Or.inl rfl)
  have c10 : (10 : Int32).toInt = 10 := by decide
  have c4 : (4 : Int32).toInt = 4 := by decide
  have c3 : (3 : Int32).toInt = 3 := by decide
  unfold ad_part
  by_cases z : a.1 12 3 - 1 < 0
  · rw [if_pos z]; exact triv
  rw [if_neg z, if_pos (kl_lt.mpr (by rw [q1, c10]; omega))]
  have z := kl_nlt0 z
  obtain ⟨i0, hi0⟩ : ∃ i0 : Nat, (a.1 12 3).toInt = i0 + 1 := ⟨((a.1 12 3).toInt - 1).toNat, by omega⟩
  have ti : (a.1 12 3 - 1).toNatClampNeg = i0 := tk_nat (by omega)
  have eS : nS a = i0 + 1 := by unfold nS; omega
  have kc := k3 i0 (by omega)
  have nc := kl_nat (i := a.1 22 i0) (by omega)
  have eC : nC a i0 = (a.1 22 i0).toNatClampNeg := rfl
  have m4 : ((a.1 12 3 - 1) * 4).toInt = (i0 : Int) * 4 := ml_mu (by omega) c4 (by omega) (by omega)
  rw [ti]
  -- the span is of the alternative that is there
  have same : ∀ q0, q0 + 1 = nC a i0 → ad_pt6 (a.1 12 3 - 1) a = if 3 ≤ a.1 23 (4 * i0 + q0) then a else u2 a 23 (4 * i0 + q0) (a.1 23 (4 * i0 + q0) + 1) := fun q0 e => by
    have s4 : ((a.1 12 3 - 1) * 4 + a.1 22 i0).toInt = (i0 : Int) * 4 + (a.1 22 i0).toInt := ml_ad m4 rfl (by omega) (by omega)
    have s5 : ((a.1 12 3 - 1) * 4 + a.1 22 i0 - 1).toInt = ((4 * i0 + q0 : Nat) : Int) := by rw [Int32.toInt_sub, kl_1, s4]; exact en_bmod (by omega) (by omega) (Or.inl (by omega))
    unfold ad_pt6
    rw [ti, if_neg (fun q => by have := kl_lt.mp q; rw [kl_0] at this; omega), if_neg (fun q => by have := kl_le.mp q; rw [(by decide : (40 : Int32).toInt = 40)] at this; omega), tk_nat s5]
  have old : coN a (ad_pt6 (a.1 12 3 - 1) a) ∧ coQ a (ad_pt6 (a.1 12 3 - 1) a) ∧ coO a (ad_pt6 (a.1 12 3 - 1) a) ∧ scn (ad_pt6 (a.1 12 3 - 1) a) ∧ csp (ad_pt6 (a.1 12 3 - 1) a) True ∧ (ad_pt6 (a.1 12 3 - 1) a).1 2 7 = a.1 2 7 := by
    obtain ⟨q0, hq0⟩ : ∃ q0, q0 + 1 = nC a i0 := ⟨nC a i0 - 1, by omega⟩
    rw [same q0 hq0]
    by_cases c : 3 ≤ a.1 23 (4 * i0 + q0)
    · rw [if_pos c]; exact triv
    rw [if_neg c]
    have c := kl_nle c
    have kp := k4 i0 q0 (by omega) (by omega)
    have s1 := ml_in1 (x := a.1 23 (4 * i0 + q0)) (by omega)
    have np := kl_nat (i := a.1 23 (4 * i0 + q0)) (by omega)
    have np1 := kl_nat (i := a.1 23 (4 * i0 + q0) + 1) (by omega)
    have o : ∀ c j, ¬ (c = 23 ∧ j = 4 * i0 + q0) → (u2 a 23 (4 * i0 + q0) (a.1 23 (4 * i0 + q0) + 1)).1 c j = a.1 c j := fun c j h => u2_ne _ _ _ _ h
    have w : (u2 a 23 (4 * i0 + q0) (a.1 23 (4 * i0 + q0) + 1)).1 23 (4 * i0 + q0) = a.1 23 (4 * i0 + q0) + 1 := u2_eq _ _ _ _
    obtain ⟨b, eb⟩ : ∃ b, b = u2 a 23 (4 * i0 + q0) (a.1 23 (4 * i0 + q0) + 1) := ⟨_, rfl⟩
    rw [← eb] at o w ⊢
    have tt : tl a b := by unfold tl; rw [o 12 2 (by omega)]; exact Int.le_refl _
    have bS : nS b = nS a := by unfold nS; rw [o 12 3 (by omega)]
    have bC : ∀ i, nC b i = nC a i := fun i => by unfold nC; rw [o 22 i (by omega)]
    refine ⟨⟨fun j => o 10 j (by omega), fun j => o 11 j (by omega), o 2 5 (by omega), o 12 2 (by omega)⟩, ⟨tt, o 12 4 (by omega), fun c j p1 p2 => o c j (by omega)⟩, ⟨tt, fun c j p1 p2 => o c j (by omega)⟩, ⟨by rw [o 12 3 (by omega)]; exact ⟨s0, s10⟩, by rw [o 12 4 (by omega)]; exact hq, fun i hi => ?_, fun i q hi hq => ?_, fun i q hi hq cc => ?_⟩, fun i q p hi hq hp hl => ?_, o 2 7 (by omega)⟩
    · rw [bS] at hi
      rw [o 22 i (by omega)]; exact k3 i hi
    · rw [bS] at hi
      rw [bC] at hq
      by_cases e : 4 * i + q = 4 * i0 + q0
      · rw [e, w]; omega
      · rw [o 23 _ (by omega)]; exact k4 i q hi hq
    · rw [bS, bC] at cc
      by_cases e : 4 * i + q = 4 * i0 + q0
      · have ei : i = i0 := by omega
        subst ei
        omega
      · rw [o 23 _ (by omega)]; exact k5 i q hi hq cc
    · rw [bS] at hi
      rw [bC] at hq
      have k22 := k3 i hi
      have n22 := kl_nat (i := a.1 22 i) (by omega)
      have eCi : nC a i = (a.1 22 i).toNatClampNeg := rfl
      refine sq_m tt (fun p' p1 p2 => o p' _ (by omega)) (h3 i q p hi hq ?_ (fun f => f.elim))
      unfold nP at hp ⊢
      by_cases e : 4 * i + q = 4 * i0 + q0
      · have ei : i = i0 := by omega
        subst ei
        have eq : q = q0 := by omega
        subst eq
        rw [w] at hp
        have := hl trivial
        unfold lsp nP at this
        rw [bS, bC, w] at this
        omega
      · rw [o 23 _ (by omega)] at hp; exact hp
  by_cases cb : b = true
  · rw [if_pos cb]
    by_cases c44 : 4 ≤ a.1 22 i0
    · rw [if_pos c44]; exact old
    rw [if_neg c44]
    have c44 := kl_nle c44
    have s22 := ml_in1 (x := a.1 22 i0) (by omega)
    have n22 := kl_nat (i := a.1 22 i0 + 1) (by omega)
    have z23 : a.1 23 (4 * i0 + nC a i0) = 0 := k5 i0 (nC a i0) (by omega) (by omega) (Or.inr (Nat.le_refl _))
    have e22 : (u2 a 22 i0 (a.1 22 i0 + 1)).1 22 i0 = a.1 22 i0 + 1 := u2_eq _ _ _ _
    have s4 : ((a.1 12 3 - 1) * 4 + (a.1 22 i0 + 1)).toInt = (i0 : Int) * 4 + ((a.1 22 i0).toInt + 1) := ml_ad m4 s22 (by omega) (by omega)
    have s5 : ((a.1 12 3 - 1) * 4 + (a.1 22 i0 + 1) - 1).toInt = ((4 * i0 + nC a i0 : Nat) : Int) := by rw [Int32.toInt_sub, kl_1, s4]; exact en_bmod (by omega) (by omega) (Or.inl (by omega))
    have z23' : (u2 a 22 i0 (a.1 22 i0 + 1)).1 23 (4 * i0 + nC a i0) = 0 := by rw [u2_ne _ _ _ _ (by omega)]; exact z23
    have ep : ad_pt6 (a.1 12 3 - 1) (u2 a 22 i0 (a.1 22 i0 + 1)) = u2 (u2 a 22 i0 (a.1 22 i0 + 1)) 23 (4 * i0 + nC a i0) (0 + 1) := by
      unfold ad_pt6
      rw [ti, e22, if_neg (fun q => by have := kl_lt.mp q; rw [kl_0] at this; omega), if_neg (fun q => by have := kl_le.mp q; rw [(by decide : (40 : Int32).toInt = 40)] at this; omega), tk_nat s5, z23', if_neg (by decide)]
    rw [ep]
    have o : ∀ c j, ¬ (c = 23 ∧ j = 4 * i0 + nC a i0) → ¬ (c = 22 ∧ j = i0) → (u2 (u2 a 22 i0 (a.1 22 i0 + 1)) 23 (4 * i0 + nC a i0) (0 + 1)).1 c j = a.1 c j := fun c j h g => by rw [u2_ne _ _ _ _ h, u2_ne _ _ _ _ g]
    have w : (u2 (u2 a 22 i0 (a.1 22 i0 + 1)) 23 (4 * i0 + nC a i0) (0 + 1)).1 23 (4 * i0 + nC a i0) = 1 := by rw [u2_eq]; decide
    have w2 : (u2 (u2 a 22 i0 (a.1 22 i0 + 1)) 23 (4 * i0 + nC a i0) (0 + 1)).1 22 i0 = a.1 22 i0 + 1 := by rw [u2_ne _ _ _ _ (by omega), u2_eq]
    obtain ⟨b', eb⟩ : ∃ b', b' = u2 (u2 a 22 i0 (a.1 22 i0 + 1)) 23 (4 * i0 + nC a i0) (0 + 1) := ⟨_, rfl⟩
    rw [← eb] at o w w2 ⊢
    have tt : tl a b' := by unfold tl; rw [o 12 2 (by omega) (by omega)]; exact Int.le_refl _
    have bS : nS b' = nS a := by unfold nS; rw [o 12 3 (by omega) (by omega)]
    have bC : ∀ i, i ≠ i0 → nC b' i = nC a i := fun i h => by unfold nC; rw [o 22 i (by omega) (by omega)]
    have bC0 : nC b' i0 = nC a i0 + 1 := by unfold nC; rw [w2]; omega
    have one : (1 : Int32).toNatClampNeg = 1 := by decide
    refine ⟨⟨fun j => o 10 j (by omega) (by omega), fun j => o 11 j (by omega) (by omega), o 2 5 (by omega) (by omega), o 12 2 (by omega) (by omega)⟩, ⟨tt, o 12 4 (by omega) (by omega), fun c j p1 p2 => o c j (by omega) (by omega)⟩, ⟨tt, fun c j p1 p2 => o c j (by omega) (by omega)⟩, ⟨by rw [o 12 3 (by omega) (by omega)]; exact ⟨s0, s10⟩, by rw [o 12 4 (by omega) (by omega)]; exact hq, fun i hi => ?_, fun i q hi hq => ?_, fun i q hi hq cc => ?_⟩, fun i q p hi hq hp hl => ?_, o 2 7 (by omega) (by omega)⟩
    · rw [bS] at hi
      by_cases e : i = i0
      · rw [e, w2]; omega
      · rw [o 22 i (by omega) (by omega)]; exact k3 i hi
    · rw [bS] at hi
      by_cases e : 4 * i + q = 4 * i0 + nC a i0
      · rw [e, w]; decide
      · rw [o 23 _ (by omega) (by omega)]
        by_cases ei : i = i0
        · subst ei
          rw [bC0] at hq
          exact k4 i q hi (by omega)
        · rw [bC i ei] at hq
          exact k4 i q hi hq
    · rw [bS] at cc
      have e : 4 * i + q ≠ 4 * i0 + nC a i0 := fun e => by
        have ei : i = i0 := by omega
        subst ei
        rw [bC0] at cc
        omega
      rw [o 23 _ (by omega) (by omega)]
      by_cases ei : i = i0
      · subst ei
        rw [bC0] at cc
        exact k5 i q hi hq (by omega)
      · rw [bC i ei] at cc
        exact k5 i q hi hq cc
    · rw [bS] at hi
      refine sq_m tt (fun p' p1 p2 => o p' _ (by omega) (by omega)) ?_
      by_cases e : 4 * i + q = 4 * i0 + nC a i0 ∧ i = i0
      · obtain ⟨e1, ei⟩ := e
        subst ei
        have eq : q = nC a i := by omega
        subst eq
        have := hl trivial
        unfold lsp nP at this
        unfold nP at hp
        rw [w, one] at hp
        rw [bS, bC0, w, one] at this
        omega
      · have ne : 4 * i + q ≠ 4 * i0 + nC a i0 := fun e1 => by
          by_cases ei : i = i0
          · exact e ⟨e1, ei⟩
          · rw [bC i ei] at hq
            have k22 := k3 i hi
            have n22' := kl_nat (i := a.1 22 i) (by omega)
            have eCi : nC a i = (a.1 22 i).toNatClampNeg := rfl
            omega
        unfold nP at hp
        rw [o 23 _ (by omega) (by omega)] at hp
        by_cases ei : i = i0
        · subst ei
          rw [bC0] at hq
          exact h3 i q p hi (by omega) hp (fun f => f.elim)
        · rw [bC i ei] at hq
          exact h3 i q p hi hq hp (fun f => f.elim)
  · rw [if_neg cb]; exact old
/-- a new name -/
theorem sv_new {s k x : Int32} {nm : Int64} {a : sg} (V : gV s k x) (W : gW s k x) (Z : gZ s k x) (h : sv s a) (hs : s = 1 ∨ s = 6 ∨ s = 11 ∨ s = 14 ∨ s = 15) (h0 : (tk_new nm a).1 = 0) : sv x (tk_new nm a).2 := by
  have nr : nR s = true := by rcases hs with e | e | e | e | e <;> subst e <;> decide
  have np : ¬ inP s = true := by rcases hs with e | e | e | e | e <;> subst e <;> decide
  have nl : ¬ inL s = true := by rcases hs with e | e | e | e | e <;> subst e <;> decide
  unfold tk_new at h0 ⊢
  by_cases c1 : twc a.2 nm (cnt a.1) 0 = true
  · rw [if_pos c1] at h0
    exact absurd h0 (by show ¬ (3 : Int32) = 0; decide)
  rw [if_neg c1] at h0 ⊢
  by_cases c2 : 35 ≤ a.1 2 5
  · rw [if_pos c2]
    exact sv_f V h co2_rf (fun q => nl q.1) (fun _ => rfl) (rg_0 W a nr)
  rw [if_neg c2]
  have c2 := kl_nle c2
  rw [(by decide : (35 : Int32).toInt = 35)] at c2
  obtain ⟨hn, hc, hp, hq, ho, hr⟩ := h
  have n25 := kl_nat hn.2.1.1
  have s25 := ml_in1 (x := a.1 2 5) (by omega)
  have cpl : ∀ pd : Prop, csp a pd := fun pd i q p u1 u2_ u3 _ => hp i q p u1 u2_ u3 (fun f => absurd f.1 np)
  have qpl : ∀ pd : Prop, qsp a pd := fun pd q u1 _ => hq q u1 (fun f => absurd f.1 np)
  show sv x (nm_add nm a)
  obtain ⟨b, eb⟩ : ∃ b : sg, b = (sm_up a.1 10 (cnt a.1) (nm_kd a), nmu a.2 (cnt a.1) nm) := ⟨_, rfl⟩
  have b10 : ∀ j, b.1 10 j = if j = cnt a.1 then nm_kd a else a.1 10 j := fun j => by
    rw [eb]
    show sm_up a.1 10 (cnt a.1) (nm_kd a) 10 j = _
    by_cases c : j = cnt a.1
    · rw [if_pos c, c, en_up_eq]
    · rw [if_neg c, en_up_ne _ _ _ _ (by omega)]
  have bo : ∀ c j, c ≠ 10 → b.1 c j = a.1 c j := fun c j hc => by
    rw [eb]
    exact en_up_ne _ _ _ _ (by omega)
  have fin : ∀ (num : Int32) (d : sg), (∀ j, d.1 10 j = b.1 10 j) → (∀ j, d.1 11 j = b.1 11 j) → d.1 2 5 = b.1 2 5 → (tl a d ∧ (d.1 12 2).toInt ≤ 10) → (nm_kd a = 3 → tg d num) → scn d → csp d (inP x = true ∧ d.1 2 7 ≠ 12) → qsp d (inP x = true ∧ d.1 2 7 = 12) → osp d → sv x (u2 (u2 d 11 (cnt a.1) num) 2 5 (a.1 2 5 + 1)) := by
    intro num d d10 d11 d25 dp hnum dc dcs dq dos
    have o : ∀ c j, c ≠ 11 → ¬ (c = 2 ∧ j = 5) → (u2 (u2 d 11 (cnt a.1) num) 2 5 (a.1 2 5 + 1)).1 c j = d.1 c j := fun c j p1 p2 => by rw [u2_ne _ _ _ _ p2, u2_ne _ _ _ _ (by omega)]
    have w11 : ∀ j, (u2 (u2 d 11 (cnt a.1) num) 2 5 (a.1 2 5 + 1)).1 11 j = if j = cnt a.1 then num else a.1 11 j := fun j => by
      rw [u2_ne _ _ _ _ (by omega)]
      by_cases c : j = cnt a.1
      · rw [if_pos c, c, u2_eq]
      · rw [if_neg c, u2_ne _ _ _ _ (by omega), d11, bo _ _ (by decide)]
    have w25 : (u2 (u2 d 11 (cnt a.1) num) 2 5 (a.1 2 5 + 1)).1 2 5 = a.1 2 5 + 1 := u2_eq _ _ _ _
    obtain ⟨e, ee⟩ : ∃ e, e = u2 (u2 d 11 (cnt a.1) num) 2 5 (a.1 2 5 + 1) := ⟨_, rfl⟩
    rw [← ee] at o w11 w25 ⊢
    have tde : tl d e := by unfold tl; rw [o 12 2 (by decide) (by decide)]; exact Int.le_refl _
    have cs : coS d e := ⟨tde, o 12 3 (by decide) (by decide), fun c j p => o c j (by omega) (by omega)⟩
    have cq : coQ d e := ⟨tde, o 12 4 (by decide) (by decide), fun c j p1 p2 => o c j (by omega) (by omega)⟩
    have t7 : e.1 2 7 = d.1 2 7 := o 2 7 (by decide) (by decide)
    refine ⟨⟨by rw [o 12 2 (by decide) (by decide)]; have := dp.1; have := hn.1.1; unfold tl at *; omega, by rw [w25]; omega, fun i hi hk => ?_⟩, scn_co cs (by rw [cq.2.1]; exact dc.2.1) dc, csp_co cs (fun q => by rw [t7]; exact q) dcs, qsp_co cq (fun q => by rw [t7]; exact q) dq, osp_co ⟨tde, fun c j p1 p2 => o c j (by omega) (by omega)⟩ dos, rg_0 W e nr⟩
    have ci : cnt e.1 = cnt a.1 + 1 := by
      unfold cnt
      rw [w25]
      have := kl_nat (i := a.1 2 5 + 1) (by omega)
      omega
    rw [ci] at hi
    rw [o 10 i (by decide) (by omega), d10, b10] at hk
    rw [w11]
    by_cases c : i = cnt a.1
    · rw [if_pos c] at hk ⊢
      exact tg_m tde (hnum hk)
    · rw [if_neg c] at hk ⊢
      exact tg_m tde (tg_m dp.1 (hn.2.2 i (by omega) hk))
  have tab : tl a b := by unfold tl; rw [bo _ _ (by decide)]; exact Int.le_refl _
  -- of the counts that hold no spans
  have easy : ∀ (num v : Int32) (j : Nat), j = 0 ∨ j = 1 → nm_kd a ≠ 3 → sv x (u2 (u2 (u2 b 12 j v) 11 (cnt a.1) num) 2 5 (a.1 2 5 + 1)) := fun num v j hj n3 => by
    have o : ∀ c i, c ≠ 10 → ¬ (c = 12 ∧ i = j) → (u2 b 12 j v).1 c i = a.1 c i := fun c i p1 p2 => by rw [u2_ne _ _ _ _ p2, bo _ _ p1]
    have tt : tl a (u2 b 12 j v) := by unfold tl; rw [o 12 2 (by decide) (by omega)]; exact Int.le_refl _
    have cs : coS a (u2 b 12 j v) := ⟨tt, o 12 3 (by decide) (by omega), fun c i p => o c i (by omega) (by omega)⟩
    have cq : coQ a (u2 b 12 j v) := ⟨tt, o 12 4 (by decide) (by omega), fun c i p1 p2 => o c i (by omega) (by omega)⟩
    exact fin num _ (fun i => u2_ne _ _ _ _ (by omega)) (fun i => u2_ne _ _ _ _ (by omega)) (u2_ne _ _ _ _ (by omega)) ⟨tt, by rw [o 12 2 (by decide) (by omega)]; exact hn.1.2⟩ (fun e => absurd e n3) (scn_co cs (by rw [cq.2.1]; exact hc.2.1) hc) (csp_co cs (fun f => f) (cpl _)) (qsp_co cq (fun f => f) (qpl _)) (osp_co ⟨tt, fun c i p1 p2 => o c i (by omega) (by omega)⟩ ho)
  have t7s : ∀ e : Int32, a.1 2 7 = e → e ≠ 8 → nm_kd a = e := fun e g n => by
    unfold nm_kd
    rw [g, if_neg n]
  unfold nm_add
  rw [← eb]
  unfold nb_new
  obtain ⟨-, -, r3, r4, r5, r6, -⟩ := hr
  have b2 := hn.1
  by_cases e0 : (nm_kd a).toInt = 0
  · rw [if_pos e0]
    exact easy _ _ 0 (Or.inl rfl) (fun e => by rw [e] at e0; exact absurd e0 (by decide))
  rw [if_neg e0]
  by_cases e1 : (nm_kd a).toInt = 1
  · rw [if_pos e1]
    exact easy _ _ 1 (Or.inr rfl) (fun e => by rw [e] at e1; exact absurd e1 (by decide))
  rw [if_neg e1]
  by_cases e3 : (nm_kd a).toInt = 3
  · rw [if_pos e3]
    have m := mnn_i (n := 10) (x := b.1 12 2) (by decide) (by rw [bo _ _ (by decide)]; omega) (by rw [bo _ _ (by decide)]; omega)
    rw [bo _ _ (by decide), (by decide : (10 : Int32).toInt = 10)] at m
    have sm : (mnn 10 (b.1 12 2) - 1).toInt = (mnn 10 (b.1 12 2)).toInt - 1 := by
      rw [bo _ _ (by decide), Int32.toInt_sub, kl_1]
      exact en_bmod (by split at m <;> omega) (by split at m <;> omega) (Or.inl rfl)
    have o : ∀ c i, c ≠ 10 → ¬ (c = 12 ∧ i = 2) → (u2 b 12 2 (mnn 10 (b.1 12 2))).1 c i = a.1 c i := fun c i p1 p2 => by rw [u2_ne _ _ _ _ p2, bo _ _ p1]
    have w : (u2 b 12 2 (mnn 10 (b.1 12 2))).1 12 2 = mnn 10 (a.1 12 2) := by rw [u2_eq, bo _ _ (by decide)]
    have tt : tl a (u2 b 12 2 (mnn 10 (b.1 12 2))) := by unfold tl; rw [w]; split at m <;> omega
    have cs : coS a (u2 b 12 2 (mnn 10 (b.1 12 2))) := ⟨tt, o 12 3 (by decide) (by decide), fun c i p => o c i (by omega) (by omega)⟩
    have cq : coQ a (u2 b 12 2 (mnn 10 (b.1 12 2))) := ⟨tt, o 12 4 (by decide) (by decide), fun c i p1 p2 => o c i (by omega) (by omega)⟩
    refine fin _ _ (fun i => u2_ne _ _ _ _ (by omega)) (fun i => u2_ne _ _ _ _ (by omega)) (u2_ne _ _ _ _ (by omega)) ⟨tt, by rw [w]; split at m <;> omega⟩ (fun _ => ?_) (scn_co cs (by rw [cq.2.1]; exact hc.2.1) hc) (csp_co cs (fun f => f) (cpl _)) (qsp_co cq (fun f => f) (qpl _)) (osp_co ⟨tt, fun c i p1 p2 => o c i (by omega) (by omega)⟩ ho)
    unfold tg
    rw [w, sm, bo _ _ (by decide)]
    split at m <;> omega
  rw [if_neg e3]
  have n3 : nm_kd a ≠ 3 := fun e => by rw [e] at e3; exact absurd (by decide) e3
  by_cases e12 : (nm_kd a).toInt = 12
  · rw [if_pos e12]
    have k12 : nm_kd a = 12 := en_ofI (by rw [e12]; decide)
    have sx : s = 15 := by
      rcases hs with e | e | e | e | e
      · rcases r5 e with f | f
        · rw [t7s 0 f (by decide)] at k12; exact absurd k12 (by decide)
        · rw [t7s 1 f (by decide)] at k12; exact absurd k12 (by decide)
      · rw [t7s 3 (r6 e) (by decide)] at k12; exact absurd k12 (by decide)
      · rw [(r3 (Or.inl e)).2] at k12; exact absurd k12 (by decide)
      · rw [(r3 (Or.inr e)).2] at k12; exact absurd k12 (by decide)
      · exact e
    have px : inP x = true := Z.2.2 (Or.inr (Or.inr sx))
    have tell := r4 sx
    have b4 := hc.2.1
    have m := mnn_i (n := 5) (x := a.1 12 4) (by decide) (by omega) (by omega)
    rw [(by decide : (5 : Int32).toInt = 5)] at m
    have o : ∀ c i, c ≠ 10 → ¬ (c = 12 ∧ i = 4) → (u2 b 12 4 (mnn 5 (b.1 12 4))).1 c i = a.1 c i := fun c i p1 p2 => by rw [u2_ne _ _ _ _ p2, bo _ _ p1]
    have w : (u2 b 12 4 (mnn 5 (b.1 12 4))).1 12 4 = mnn 5 (a.1 12 4) := by rw [u2_eq, bo _ _ (by decide)]
    have tt : tl a (u2 b 12 4 (mnn 5 (b.1 12 4))) := by unfold tl; rw [o 12 2 (by decide) (by decide)]; exact Int.le_refl _
    have cs : coS a (u2 b 12 4 (mnn 5 (b.1 12 4))) := ⟨tt, o 12 3 (by decide) (by decide), fun c i p => o c i (by omega) (by omega)⟩
    refine fin _ _ (fun i => u2_ne _ _ _ _ (by omega)) (fun i => u2_ne _ _ _ _ (by omega)) (u2_ne _ _ _ _ (by omega)) ⟨tt, by rw [o 12 2 (by decide) (by decide)]; exact hn.1.2⟩ (fun e => absurd e n3) (scn_co cs (by rw [w]; split at m <;> omega) hc) (csp_co cs (fun f => f) (cpl _)) (fun q hq' hl => ?_) (osp_co ⟨tt, fun c i p1 p2 => o c i (by omega) (by omega)⟩ ho)
    have hl := hl ⟨px, by rw [o 2 7 (by decide) (by decide)]; exact tell⟩
    unfold nQ at hq' hl
    rw [w] at hq' hl
    have n5 := kl_nat (i := mnn 5 (a.1 12 4)) (by split at m <;> omega)
    have n4 := kl_nat (i := a.1 12 4) b4.1
    refine sq_m tt (fun p' p1 p2 => o p' _ (by omega) (by omega)) (qpl False q ?_ (fun f => f.elim))
    unfold nQ
    split at m <;> omega
  rw [if_neg e12]
  -- a saying
  have sx : s = 11 ∨ s = 14 := by
    rcases hs with e | e | e | e | e
    · rcases r5 e with f | f
      · rw [t7s 0 f (by decide)] at e0; exact absurd (by decide) e0
      · rw [t7s 1 f (by decide)] at e1; exact absurd (by decide) e1
    · exact absurd (t7s 3 (r6 e) (by decide)) n3
    · exact Or.inl e
    · exact Or.inr e
    · exact absurd (by rw [t7s 12 (r4 e) (by decide)]; decide) e12
  have px : inP x = true := Z.2.2 (by rcases sx with e | e; exact Or.inl e; exact Or.inr (Or.inl e))
  have tell := (r3 sx).1
  obtain ⟨⟨s0, s10⟩, hq4, k3, k4, k5⟩ := id hc
  have nn := kl_nat s0
  have eS : nS a = (a.1 12 3).toNatClampNeg := rfl
  have ok : ∀ t : Bool, tl a (sy_new t b) ∧ (∀ c i, ¬ (c = 12 ∧ (i = 3 ∨ i = 6)) → c ≠ 22 → c ≠ 23 → (sy_new t b).1 c i = b.1 c i) ∧ scn (sy_new t b) ∧ csp (sy_new t b) True := fun t => by
    unfold sy_new
    have c10 : (10 : Int32).toInt = 10 := by decide
    have bs : coS a b := ⟨tab, bo _ _ (by decide), fun c i p => bo c i (by omega)⟩
    by_cases z : b.1 12 3 < 10
    · rw [if_pos z]
      have z := kl_lt.mp z
      rw [bo _ _ (by decide), c10] at z
      have s4 : (a.1 12 3 * 4).toInt = ((4 * nS a : Nat) : Int) := (ml_mu (a := (a.1 12 3).toInt) rfl (by decide : (4 : Int32).toInt = 4) (by omega) (by omega)).trans (by omega)
      have s1 := ml_in1 (x := a.1 12 3) (by omega)
      have n1 := kl_nat (i := a.1 12 3 + 1) (by omega)
      rw [bo 12 3 (by decide), tk_nat s4, ← eS]
      obtain ⟨g, eg⟩ : ∃ g : sg, g = (if t = true then u2 b 12 6 (b.1 12 6 ||| ((1 : Int32) <<< (a.1 12 3 &&& 31))) else b) := ⟨_, rfl⟩
      have go : ∀ c i, ¬ (c = 12 ∧ i = 6) → g.1 c i = b.1 c i := fun c i p => by
        rw [eg]
        split
        · exact u2_ne _ _ _ _ p
        · rfl
      rw [← eg]
      have o : ∀ c i, ¬ (c = 12 ∧ (i = 3 ∨ i = 6)) → ¬ (c = 22 ∧ i = nS a) → ¬ (c = 23 ∧ i = 4 * nS a) → (u2 (u2 (u2 g 22 (nS a) 1) 23 (4 * nS a) 1) 12 3 (a.1 12 3 + 1)).1 c i = b.1 c i := fun c i p1 p2 p3 => by rw [u2_ne _ _ _ _ (by omega), u2_ne _ _ _ _ p3, u2_ne _ _ _ _ p2, go _ _ (by omega)]
      have w3 : (u2 (u2 (u2 g 22 (nS a) 1) 23 (4 * nS a) 1) 12 3 (a.1 12 3 + 1)).1 12 3 = a.1 12 3 + 1 := u2_eq _ _ _ _
      have w22 : (u2 (u2 (u2 g 22 (nS a) 1) 23 (4 * nS a) 1) 12 3 (a.1 12 3 + 1)).1 22 (nS a) = 1 := by rw [u2_ne _ _ _ _ (by omega), u2_ne _ _ _ _ (by omega), u2_eq]
      have w23 : (u2 (u2 (u2 g 22 (nS a) 1) 23 (4 * nS a) 1) 12 3 (a.1 12 3 + 1)).1 23 (4 * nS a) = 1 := by rw [u2_ne _ _ _ _ (by omega), u2_eq]
      obtain ⟨d, ed⟩ : ∃ d, d = u2 (u2 (u2 g 22 (nS a) 1) 23 (4 * nS a) 1) 12 3 (a.1 12 3 + 1) := ⟨_, rfl⟩
      rw [← ed] at o w3 w22 w23 ⊢
      have oa : ∀ c i, c ≠ 10 → ¬ (c = 12 ∧ (i = 3 ∨ i = 6)) → ¬ (c = 22 ∧ i = nS a) → ¬ (c = 23 ∧ i = 4 * nS a) → d.1 c i = a.1 c i := fun c i p0 p1 p2 p3 => (o c i p1 p2 p3).trans (bo c i p0)
      have dS : nS d = nS a + 1 := by unfold nS; rw [w3]; omega
      have dC : ∀ i, i ≠ nS a → nC d i = nC a i := fun i h => by unfold nC; rw [oa 22 i (by decide) (by omega) (by omega) (by omega)]
      have dC0 : nC d (nS a) = 1 := by unfold nC; rw [w22]; decide
      have td : tl a d := by unfold tl; rw [oa 12 2 (by decide) (by omega) (by omega) (by omega)]; exact Int.le_refl _
      refine ⟨td, fun c i p1 p2 p3 => o c i p1 (by omega) (by omega), ⟨by rw [w3]; omega, by rw [oa 12 4 (by decide) (by omega) (by omega) (by omega)]; exact hq4, fun i hi => ?_, fun i q hi hq => ?_, fun i q hi hq cc => ?_⟩, fun i q p hi hq hp hl => ?_⟩
      · rw [dS] at hi
        by_cases ei : i = nS a
        · rw [ei, w22]; decide
        · rw [oa 22 i (by decide) (by omega) (by omega) (by omega)]; exact k3 i (by omega)
      · rw [dS] at hi
        by_cases ei : i = nS a
        · subst ei
          rw [dC0] at hq
          have e : q = 0 := by omega
          subst e
          rw [Nat.add_zero, w23]; decide
        · rw [dC i ei] at hq
          have k22 := k3 i (by omega)
          have n22 := kl_nat (i := a.1 22 i) (by omega)
          have eCi : nC a i = (a.1 22 i).toNatClampNeg := rfl
          rw [oa 23 _ (by decide) (by omega) (by omega) (by omega)]; exact k4 i q (by omega) hq
      · rw [dS] at cc
        by_cases ei : i = nS a
        · subst ei
          rw [dC0] at cc
          rw [oa 23 _ (by decide) (by omega) (by omega) (by omega)]
          exact k5 _ q hi hq (Or.inl (Nat.le_refl _))
        · rw [dC i ei] at cc
          rw [oa 23 _ (by decide) (by omega) (by omega) (by omega)]
          exact k5 i q hi hq (by omega)
      · rw [dS] at hi
        have hl := hl trivial
        by_cases ei : i = nS a
        · exfalso
          subst ei
          rw [dC0] at hq
          have e : q = 0 := by omega
          subst e
          unfold lsp nP at hl
          unfold nP at hp
          rw [show 4 * nS a + 0 = 4 * nS a from rfl, w23, (by decide : (1 : Int32).toNatClampNeg = 1)] at hp
          rw [show 4 * nS a + 0 = 4 * nS a from rfl, w23, (by decide : (1 : Int32).toNatClampNeg = 1), dS, dC0] at hl
          omega
        · rw [dC i ei] at hq
          have k22 := k3 i (by omega)
          have n22 := kl_nat (i := a.1 22 i) (by omega)
          have eCi : nC a i = (a.1 22 i).toNatClampNeg := rfl
          unfold nP at hp
          rw [oa 23 _ (by decide) (by omega) (by omega) (by omega)] at hp
          exact sq_m td (fun p' p1 p2 => oa p' _ (by omega) (by omega) (by omega) (by omega)) (cpl False i q p (by omega) hq hp (fun f => f.elim))
    · rw [if_neg z]
      exact ⟨tab, fun _ _ _ _ _ => rfl, scn_co bs (by rw [bo _ _ (by decide)]; exact hq4) hc, csp_co bs (fun f => f) (cpl _)⟩
  obtain ⟨d1, d2, d3, d4⟩ := ok (decide (b.1 2 7 = 8))
  have dt : (sy_new (decide (b.1 2 7 = 8)) b).1 2 7 = a.1 2 7 := (d2 2 7 (by decide) (by decide) (by decide)).trans (bo _ _ (by decide))
  have d122 : (sy_new (decide (b.1 2 7 = 8)) b).1 12 2 = a.1 12 2 := (d2 12 2 (by decide) (by decide) (by decide)).trans (bo _ _ (by decide))
  refine fin _ _ (fun j => d2 10 j (by omega) (by decide) (by decide)) (fun j => d2 11 j (by omega) (by decide) (by decide)) (d2 2 5 (by decide) (by decide) (by decide)) ⟨d1, by rw [d122]; exact hn.1.2⟩ (fun e => absurd e n3) d3 (fun i q p u1 u2_ u3 u4 => d4 i q p u1 u2_ u3 (fun _ => u4 ⟨px, by rw [dt]; exact tell⟩)) (qsp_co ⟨d1, (d2 12 4 (by decide) (by decide) (by decide)).trans (bo _ _ (by decide)), fun c i p1 p2 => (d2 c i (by omega) (by omega) (by omega)).trans (bo c i (by omega))⟩ (fun f => f) (qpl _)) (osp_co ⟨d1, fun c i p1 p2 => (d2 c i (by omega) (by omega) (by omega)).trans (bo c i (by omega))⟩ ho)
/-- a span's row is written -/
theorem spb_w {c n r : Nat} {row x y lo hi : Int32} {a : sg} (hr : row.toInt = r) (rn : r < n) (n1 : n ≤ 1000) : spb c n row x y lo hi a = u2 (u2 (u2 (u2 a (c + 1) r x) (c + 2) r y) (c + 3) r lo) (c + 4) r hi := by
  unfold spb
  rw [if_neg (fun q => by have := kl_lt.mp q; rw [kl_0] at this; omega), if_neg (fun q => by have := kl_le.mp q; rw [Int32.toInt_ofNat_of_lt (by omega)] at this; omega), tk_nat hr]
theorem spb_0 {c n : Nat} {row x y lo hi : Int32} {a : sg} (hr : row.toInt < 0) : spb c n row x y lo hi a = a := by
  unfold spb
  rw [if_pos (kl_lt.mpr (by rw [kl_0]; exact hr))]
theorem spb_at {c r : Nat} {x y lo hi : Int32} {a : sg} : ∀ p j, (u2 (u2 (u2 (u2 a (c + 1) r x) (c + 2) r y) (c + 3) r lo) (c + 4) r hi).1 p j = if j = r ∧ p = c + 1 then x else if j = r ∧ p = c + 2 then y else if j = r ∧ p = c + 3 then lo else if j = r ∧ p = c + 4 then hi else a.1 p j := fun p j => by
  by_cases e : j = r
  · subst e
    by_cases e4 : p = c + 4
    · subst e4
      rw [u2_eq, if_neg (by omega), if_neg (by omega), if_neg (by omega), if_pos (by omega)]
    · rw [u2_ne _ _ _ _ (by omega)]
      by_cases e3 : p = c + 3
      · subst e3
        rw [u2_eq, if_neg (by omega), if_neg (by omega), if_pos (by omega)]
      · rw [u2_ne _ _ _ _ (by omega)]
        by_cases e2 : p = c + 2
        · subst e2
          rw [u2_eq, if_neg (by omega), if_pos (by omega)]
        · rw [u2_ne _ _ _ _ (by omega)]
          by_cases e1 : p = c + 1
          · subst e1
            rw [u2_eq, if_pos (by omega)]
          · rw [u2_ne _ _ _ _ (by omega), if_neg (by omega), if_neg (by omega), if_neg (by omega), if_neg (by omega)]
  · rw [u2_ne _ _ _ _ (by omega), u2_ne _ _ _ _ (by omega), u2_ne _ _ _ _ (by omega), u2_ne _ _ _ _ (by omega), if_neg (by omega), if_neg (by omega), if_neg (by omega), if_neg (by omega)]
/-- the end of a span -/
theorem sv_sp {s k x v : Int32} {a : sg} (W : gW s k x) (h : sv s a) (hl : inL s = true) (hx : x = 26) (hv : bd v) : sv x (en_sp v a) := by
  obtain ⟨hn, hc, hp, hq, ho, hr⟩ := h
  have inLX : ∀ t : Int32, inL t = true → inX t = true ∧ inP t = true := fun t ht => by
    have : t = 23 ∨ t = 24 ∨ t = 25 := of_decide_eq_true ht
    rcases this with e | e | e <;> subst e <;> decide
  have rx := hr.1 (inLX s hl).1
  have rl := hr.2.1 hl
  have ps := (inLX s hl).2
  obtain ⟨⟨s0, s10⟩, ⟨q0, q5⟩, k3, k4, k5⟩ := id hc
  have nn := kl_nat s0
  have nq := kl_nat q0
  have rgx : ∀ b : sg, rg x b := fun b => by
    subst hx
    refine ⟨fun q => absurd q (by decide), fun q => absurd q (by decide), fun q => ?_, fun q => absurd q (by decide), fun q => absurd q (by decide), fun q => absurd q (by decide), fun q => ?_, fun q => ?_, fun q => absurd q (by decide), fun q => absurd q (by decide), fun q => absurd q (by decide)⟩
    · exact absurd q (by decide)
    · exact absurd q (by decide)
    · exact absurd q (by decide)
  have px : ¬ inP x = true := by subst hx; decide
  unfold en_sp
  by_cases t12 : a.1 2 7 = 12
  · rw [if_pos t12]
    have cpl : ∀ pd : Prop, csp a pd := fun pd i q p u1 u2_ u3 _ => hp i q p u1 u2_ u3 (fun f => absurd t12 f.2)
    by_cases z : nQ a = 0
    · have z' : (a.1 12 4).toInt = 0 := by unfold nQ at z; omega
      rw [spb_0 (by rw [Int32.toInt_sub, kl_1, z']; decide)]
      exact ⟨hn, hc, cpl _, fun q hq' _ => absurd hq' (by rw [z]; exact Nat.not_lt_zero q), ho, rgx a⟩
    · have r1 : (a.1 12 4 - 1).toInt = ((nQ a - 1 : Nat) : Int) := by rw [Int32.toInt_sub, kl_1]; unfold nQ at z ⊢; exact en_bmod (by omega) (by omega) (Or.inl (by omega))
      have q5' : nQ a ≤ 5 := by unfold nQ; omega
      rw [spb_w r1 (by omega) (by omega)]
      have at_ := spb_at (c := 29) (r := nQ a - 1) (x := a.1 2 8) (y := a.1 2 9) (lo := a.1 2 10) (hi := v) (a := a)
      obtain ⟨b, eb⟩ : ∃ b, b = u2 (u2 (u2 (u2 a (29 + 1) (nQ a - 1) (a.1 2 8)) (29 + 2) (nQ a - 1) (a.1 2 9)) (29 + 3) (nQ a - 1) (a.1 2 10)) (29 + 4) (nQ a - 1) v := ⟨_, rfl⟩
      rw [← eb] at at_ ⊢
      have o : ∀ p j, ¬ (30 ≤ p ∧ p ≤ 33) → b.1 p j = a.1 p j := fun p j hpj => by rw [at_, if_neg (by omega), if_neg (by omega), if_neg (by omega), if_neg (by omega)]
      have o2 : ∀ p j, j ≠ nQ a - 1 → b.1 p j = a.1 p j := fun p j hpj => by rw [at_, if_neg (by omega), if_neg (by omega), if_neg (by omega), if_neg (by omega)]
      have tt : tl a b := by unfold tl; rw [o 12 2 (by omega)]; exact Int.le_refl _
      have cs : coS a b := ⟨tt, o 12 3 (by omega), fun c i p => o c i (by omega)⟩
      refine ⟨tn_co ⟨fun j => o 10 j (by omega), fun j => o 11 j (by omega), o 2 5 (by omega), o 12 2 (by omega)⟩ hn, scn_co cs (by rw [o 12 4 (by omega)]; exact ⟨q0, q5⟩) hc, csp_co cs (fun f => f) (cpl _), fun q hq' _ => ?_, osp_co ⟨tt, fun c i p1 p2 => o c i (by omega)⟩ ho, rgx b⟩
      have eQ : nQ b = nQ a := by unfold nQ; rw [o 12 4 (by omega)]
      rw [eQ] at hq'
      by_cases e : q = nQ a - 1
      · subst e
        unfold sq
        rw [at_ (29 + 1), at_ (29 + 2), at_ (29 + 3), at_ (29 + 4), if_pos (by omega), if_neg (by omega), if_pos (by omega), if_neg (by omega), if_neg (by omega), if_pos (by omega), if_neg (by omega), if_neg (by omega), if_neg (by omega), if_pos (by omega)]
        exact ⟨tg_m tt rx.1, rx.2.imp id (tg_m tt), rl, hv⟩
      · exact sq_m tt (fun p' p1 p2 => o2 p' _ e) (hq q hq' (fun _ => by omega))
  · rw [if_neg t12]
    have qpl : ∀ pd : Prop, qsp a pd := fun pd q u1 _ => hq q u1 (fun f => absurd f.2 t12)
    have c4 : (4 : Int32).toInt = 4 := by decide
    have c3 : (3 : Int32).toInt = 3 := by decide
    have s1 : (a.1 12 3 - 1).toInt = (a.1 12 3).toInt - 1 := by rw [Int32.toInt_sub, kl_1]; exact en_bmod (by omega) (by omega) (Or.inl rfl)
    by_cases z : nS a = 0
    · have z' : (a.1 12 3).toInt = 0 := by unfold nS at z; omega
      have neg : (la_span a).toInt < 0 := by
        have e : a.1 12 3 = 0 := en_ofI (by rw [z']; decide)
        unfold la_span va22 pa_of
        rw [e, if_pos (show (0 : Int32) - 1 < 0 by decide), if_pos (show ((0 : Int32) - 1) * 4 + (0 - 1) < 0 by decide)]
        decide
      rw [spb_0 neg]
      exact ⟨hn, hc, fun i q p hi _ _ _ => absurd hi (by rw [z]; exact Nat.not_lt_zero i), qpl _, ho, rgx a⟩
    · obtain ⟨i0, hi0⟩ : ∃ i0 : Nat, nS a = i0 + 1 := ⟨nS a - 1, by omega⟩
      have eS : nS a = (a.1 12 3).toNatClampNeg := rfl
      have kc := k3 i0 (by omega)
      have nc := kl_nat (i := a.1 22 i0) (by omega)
      obtain ⟨qq, hqq⟩ : ∃ qq : Nat, nC a i0 = qq + 1 := ⟨nC a i0 - 1, by unfold nC; omega⟩
      have eC : nC a i0 = (a.1 22 i0).toNatClampNeg := rfl
      have kp := k4 i0 qq (by omega) (by omega)
      have np := kl_nat (i := a.1 23 (4 * i0 + qq)) (by omega)
      obtain ⟨pp, hpp⟩ : ∃ pp : Nat, nP a (4 * i0 + qq) = pp + 1 := ⟨nP a (4 * i0 + qq) - 1, by unfold nP; omega⟩
      have eP : nP a (4 * i0 + qq) = (a.1 23 (4 * i0 + qq)).toNatClampNeg := rfl
      have ti : (a.1 12 3 - 1).toNatClampNeg = i0 := tk_nat (by omega)
      have v22 : va22 (a.1 12 3 - 1) a = a.1 22 i0 := by
        unfold va22
        rw [if_neg (fun q => by have := kl_lt.mp q; rw [kl_0] at this; omega), if_neg (fun q => by have := kl_le.mp q; rw [(by decide : (10 : Int32).toInt = 10)] at this; omega), ti]
      have s22 : (a.1 22 i0 - 1).toInt = (a.1 22 i0).toInt - 1 := by rw [Int32.toInt_sub, kl_1]; exact en_bmod (by omega) (by omega) (Or.inl rfl)
      have m4 : ((a.1 12 3 - 1) * 4).toInt = (i0 : Int) * 4 := ml_mu (by omega) c4 (by omega) (by omega)
      have m5 : ((a.1 12 3 - 1) * 4 + (a.1 22 i0 - 1)).toInt = ((4 * i0 + qq : Nat) : Int) := (ml_ad m4 s22 (by omega) (by omega)).trans (by omega)
      have vp : pa_of (a.1 12 3 - 1) (a.1 22 i0 - 1) a = a.1 23 (4 * i0 + qq) := by
        unfold pa_of
        rw [if_neg (fun q => by have := kl_lt.mp q; rw [kl_0] at this; omega), if_neg (fun q => by have := kl_le.mp q; rw [(by decide : (40 : Int32).toInt = 40)] at this; omega), tk_nat m5]
      have m6 : (((a.1 12 3 - 1) * 4 + (a.1 22 i0 - 1)) * 3).toInt = ((4 * i0 + qq : Nat) : Int) * 3 := ml_mu m5 c3 (by omega) (by omega)
      have m7 : (((a.1 12 3 - 1) * 4 + (a.1 22 i0 - 1)) * 3 + a.1 23 (4 * i0 + qq)).toInt = ((4 * i0 + qq : Nat) : Int) * 3 + (a.1 23 (4 * i0 + qq)).toInt := ml_ad m6 rfl (by omega) (by omega)
      have la : (la_span a).toInt = ((12 * i0 + 3 * qq + pp : Nat) : Int) := by
        unfold la_span
        rw [v22, vp, Int32.toInt_sub, kl_1, m7]
        exact en_bmod (by omega) (by omega) (Or.inl (by omega))
      rw [spb_w la (by omega) (by omega)]
      have at_ := spb_at (c := 24) (r := 12 * i0 + 3 * qq + pp) (x := a.1 2 8) (y := a.1 2 9) (lo := a.1 2 10) (hi := v) (a := a)
      obtain ⟨b, eb⟩ : ∃ b, b = u2 (u2 (u2 (u2 a (24 + 1) (12 * i0 + 3 * qq + pp) (a.1 2 8)) (24 + 2) (12 * i0 + 3 * qq + pp) (a.1 2 9)) (24 + 3) (12 * i0 + 3 * qq + pp) (a.1 2 10)) (24 + 4) (12 * i0 + 3 * qq + pp) v := ⟨_, rfl⟩
      rw [← eb] at at_ ⊢
      have o : ∀ p j, ¬ (25 ≤ p ∧ p ≤ 28) → b.1 p j = a.1 p j := fun p j hpj => by rw [at_, if_neg (by omega), if_neg (by omega), if_neg (by omega), if_neg (by omega)]
      have o2 : ∀ p j, j ≠ 12 * i0 + 3 * qq + pp → b.1 p j = a.1 p j := fun p j hpj => by rw [at_, if_neg (by omega), if_neg (by omega), if_neg (by omega), if_neg (by omega)]
      have tt : tl a b := by unfold tl; rw [o 12 2 (by omega)]; exact Int.le_refl _
      have bS : nS b = nS a := by unfold nS; rw [o 12 3 (by omega)]
      have bC : ∀ i, nC b i = nC a i := fun i => by unfold nC; rw [o 22 i (by omega)]
      have bP : ∀ i, nP b i = nP a i := fun i => by unfold nP; rw [o 23 i (by omega)]
      refine ⟨tn_co ⟨fun j => o 10 j (by omega), fun j => o 11 j (by omega), o 2 5 (by omega), o 12 2 (by omega)⟩ hn, ⟨by rw [o 12 3 (by omega)]; exact ⟨s0, s10⟩, by rw [o 12 4 (by omega)]; exact ⟨q0, q5⟩, fun i hi => by rw [bS] at hi; rw [o 22 i (by omega)]; exact k3 i hi, fun i q hi hq' => by rw [bS] at hi; rw [bC] at hq'; rw [o 23 _ (by omega)]; exact k4 i q hi hq', fun i q hi hq' cc => by rw [bS, bC] at cc; rw [o 23 _ (by omega)]; exact k5 i q hi hq' cc⟩, fun i q p hi hq' hp' _ => ?_, qsp_co ⟨tt, o 12 4 (by omega), fun c i p1 p2 => o c i (by omega)⟩ (fun f => f) (qpl _), osp_co ⟨tt, fun c i p1 p2 => o c i (by omega)⟩ ho, rgx b⟩
      rw [bS] at hi
      rw [bC] at hq'
      rw [bP] at hp'
      have k22 := k3 i hi
      have n22 := kl_nat (i := a.1 22 i) (by omega)
      have eCi : nC a i = (a.1 22 i).toNatClampNeg := rfl
      have k23 := k4 i q hi hq'
      have n23 := kl_nat (i := a.1 23 (4 * i + q)) (by omega)
      have ePi : nP a (4 * i + q) = (a.1 23 (4 * i + q)).toNatClampNeg := rfl
      by_cases e : 12 * i + 3 * q + p = 12 * i0 + 3 * qq + pp
      · rw [e]
        unfold sq
        rw [at_ (24 + 1), at_ (24 + 2), at_ (24 + 3), at_ (24 + 4), if_pos (by omega), if_neg (by omega), if_pos (by omega), if_neg (by omega), if_neg (by omega), if_pos (by omega), if_neg (by omega), if_neg (by omega), if_neg (by omega), if_pos (by omega)]
        exact ⟨tg_m tt rx.1, rx.2.imp id (tg_m tt), rl, hv⟩
      · refine sq_m tt (fun p' p1 p2 => o2 p' _ e) (hp i q p hi hq' hp' (fun _ f => e ?_))
        unfold lsp at f
        obtain ⟨f1, f2, f3⟩ := f
        have ei : i = i0 := by omega
        subst ei
        have eq : q = qq := by omega
        subst eq
        omega
/-- one TOKEN -/
theorem ms_sv {s k : Int32} {v : Int64} {a : sg} (h : sv s a) (hv : k = 16 → 0 ≤ v.toInt) (hf : fw s k ≠ -1) (h9 : s = 26 → k = 9 ∨ k = 13 → a.1 2 7 ≠ 12) (h0 : (ms s k v a).1 = 0) : sv (fw s k) (ms s k v a).2 := by
  obtain ⟨V, W, Z⟩ := st_g hf
  obtain ⟨g0, e0⟩ : ¬ (k = 16 ∧ ¬ lg_cmp v 1440 ≤ 0) ∧ ms s k v a = tk_take s k v a := by
    unfold ms at h0 ⊢
    by_cases c : k = 16 ∧ ¬ lg_cmp v 1440 ≤ 0
    · rw [if_pos c] at h0; exact absurd h0 (by show ¬ (5 : Int32) = 0; decide)
    · exact ⟨c, by rw [if_neg c]⟩
  rw [e0] at h0 ⊢
  have iv : ∀ {n : Int32} {m : Int}, s.toInt = m → n.toInt = m → s = n := fun e f => en_ofI (by rw [e, f])
  obtain ⟨w1, w2, w3, w4, w5, w6, w7, w8, w9, w10, w11, w12, w13⟩ := id W
  obtain ⟨hn, hc, hp, hq, ho, hr⟩ := id h
  obtain ⟨r1, r2, r3, r4, r5, r6, r7, r8, r9, r10, r11⟩ := id hr
  unfold tk_take at h0 ⊢
  by_cases c0 : s.toInt = 0
  · rw [if_pos c0]
    have s0 : s = 0 := iv c0 (by decide)
    have t : (u2 a 2 7 k).1 2 7 = k := u2_eq _ _ _ _
    have d1 : inX s = false := by rw [s0]; decide
    have d2 : inL s = false := by rw [s0]; decide
    have d3 : inO s = false := by rw [s0]; decide
    have d4 : inP s = false := by rw [s0]; decide
    have nx : ∀ n : Int32, n ≠ 0 → s ≠ n := fun n hn e => hn (e.symm.trans s0)
    refine sv_f V h (co2_u2 co2_rf (by omega)) (fun q => by rw [d2] at q; exact absurd q.1 (by decide)) (fun q => by rw [d4] at q; cases q) ⟨fun q => ?_, fun q => ?_, fun q => ?_, fun q => ?_, fun q => ?_, fun q => ?_, fun q => ?_, fun q => ?_, fun q => ?_, fun q => absurd (w12 q) (nx _ (by decide)), fun q => ?_⟩
    · rcases w1 q with e | e
      · rw [d1] at e; cases e
      · exact absurd e (nx _ (by decide))
    · rcases w2 q with ⟨-, e | e | e⟩ | e
      · exact absurd e (nx _ (by decide))
      · exact absurd e (nx _ (by decide))
      · exact absurd e (nx _ (by decide))
      · rw [d2] at e; cases e
    · rcases q with q | q
      · have e := (w3 q).2
        exact ⟨by rw [t, e]; decide, by unfold nm_kd; rw [t, e]; decide⟩
      · have e := (w4 q).2
        exact ⟨by rw [t, e]; decide, by unfold nm_kd; rw [t, e]; decide⟩
    · rw [t]; exact (w5 q).2
    · rw [t]; exact (w6 q).2
    · rw [t]; exact (w7 q).2
    · rw [t]
      rcases q with q | q
      · exact (w8 q).2
      · exact absurd (w9 q) (nx _ (by decide))
    · rw [t]
      rcases q with q | q
      · exact (w10 q).2
      · rcases w11 q with e | e
        · rw [d3] at e; cases e
        · exact absurd e (nx _ (by decide))
    · rcases w11 q with e | e
      · rw [d3] at e; cases e
      · exact absurd e (nx _ (by decide))
    · rcases w13 q with e | ⟨e, -⟩
      · exact absurd e (nx _ (by decide))
      · exact absurd e (nx _ (by decide))
  rw [if_neg c0] at h0 ⊢
  have s0 : s ≠ 0 := fun e => c0 (by rw [e]; decide)
  by_cases c1 : s.toInt = 1 ∨ s.toInt = 6 ∨ s.toInt = 11 ∨ s.toInt = 14 ∨ s.toInt = 15
  · rw [if_pos c1] at h0 ⊢
    refine sv_new V W Z h ?_ h0
    rcases c1 with e | e | e | e | e
    · exact Or.inl (iv e (by decide))
    · exact Or.inr (Or.inl (iv e (by decide)))
    · exact Or.inr (Or.inr (Or.inl (iv e (by decide))))
    · exact Or.inr (Or.inr (Or.inr (Or.inl (iv e (by decide)))))
    · exact Or.inr (Or.inr (Or.inr (Or.inr (iv e (by decide)))))
  rw [if_neg c1] at h0 ⊢
  by_cases c2 : s.toInt = 3 ∨ s.toInt = 4
  · rw [if_pos c2] at h0 ⊢
    have sx : s = 3 ∨ s = 4 := c2.imp (fun e => iv e (by decide)) (fun e => iv e (by decide))
    have t2 : a.1 2 7 = 2 := r7 sx
    have dX : ¬ (inX s = true ∨ s = 17) := by rcases sx with e | e <;> subst e <;> decide
    have dL : ¬ ((s = 19 ∨ s = 21 ∨ s = 22) ∨ inL s = true) := by rcases sx with e | e <;> subst e <;> decide
    have dO : ¬ (inO s = true ∨ s = 27) := by rcases sx with e | e <;> subst e <;> decide
    have dP : ¬ inP s = true := by rcases sx with e | e <;> subst e <;> decide
    have d29 : s ≠ 29 := by rcases sx with e | e <;> subst e <;> decide
    have path : ∀ (j : Nat) (w : Int32), j = 8 ∨ j = 9 → sv (fw s k) (u2 a 2 j w) := fun j w hj => by
      have t7 : (u2 a 2 j w).1 2 7 = 2 := by rw [u2_ne _ _ _ _ (by omega)]; exact t2
      exact sv_f V h (co2_u2 co2_rf (by omega)) (fun q => dL (Or.inr q.1)) (fun q => absurd q dP) (rg_n W _ s0 (fun q => absurd (w1 q) dX) (fun q => absurd ((w2 q).imp And.right id) dL) (fun _ => t7) (fun q => absurd (w11 q) dO) (fun q => absurd (w12 q) d29) (fun _ => Or.inl t7))
    unfold tk_path at h0 ⊢
    by_cases f1 : fd a v 1 = -1
    · rw [if_pos f1] at h0; exact absurd h0 (by show ¬ (4 : Int32) = 0; decide)
    rw [if_neg f1] at h0 ⊢
    by_cases s3 : s = 3
    · rw [if_pos s3]; exact path 8 _ (Or.inl rfl)
    · rw [if_neg s3] at h0 ⊢
      by_cases e8 : a.1 2 8 = fd a v 1
      · rw [if_pos e8] at h0; exact absurd h0 (by show ¬ (5 : Int32) = 0; decide)
      · rw [if_neg e8]; exact path 9 _ (Or.inr rfl)
  rw [if_neg c2] at h0 ⊢
  have n3 : s ≠ 3 := fun e => c2 (Or.inl (by rw [e]; decide))
  have n4 : s ≠ 4 := fun e => c2 (Or.inr (by rw [e]; decide))
  by_cases c3 : s.toInt = 8 ∨ s.toInt = 10
  · rw [if_pos c3] at h0 ⊢
    have sx : s = 8 ∨ s = 10 := c3.imp (fun e => iv e (by decide)) (fun e => iv e (by decide))
    have nr : nR s = true := by rcases sx with e | e <;> subst e <;> decide
    have dL : ¬ inL s = true := by rcases sx with e | e <;> subst e <;> decide
    have dP : ¬ inP s = true := by rcases sx with e | e <;> subst e <;> decide
    exact sv_f V h co2_where (fun q => dL q.1) (fun q => absurd q dP) (rg_0 W _ nr)
  rw [if_neg c3] at h0 ⊢
  by_cases c4 : s.toInt = 27 ∨ s.toInt = 29
  · rw [if_pos c4] at h0 ⊢
    have sx : s = 27 ∨ s = 29 := c4.imp (fun e => iv e (by decide)) (fun e => iv e (by decide))
    have dX : ¬ (inX s = true ∨ s = 17) := by rcases sx with e | e <;> subst e <;> decide
    have dL : ¬ ((s = 19 ∨ s = 21 ∨ s = 22) ∨ inL s = true) := by rcases sx with e | e <;> subst e <;> decide
    have dP : ¬ inP s = true := by rcases sx with e | e <;> subst e <;> decide
    have d430 : ¬ (s = 4 ∨ s = 30) := by rcases sx with e | e <;> subst e <;> decide
    have t10 : a.1 2 7 = 10 := r8 (sx.imp id (fun e => by rw [e]; decide))
    unfold tk_open at h0 ⊢
    by_cases f3 : fd a v 3 = -1
    · rw [if_pos f3] at h0; exact absurd h0 (by show ¬ (4 : Int32) = 0; decide)
    rw [if_neg f3] at h0 ⊢
    have tf := fd_3 hn f3
    by_cases s27 : s = 27
    · rw [if_pos s27]
      show sv (fw s k) (u2 a 2 8 (fd a v 3))
      have tg' : tg (u2 a 2 8 (fd a v 3)) (fd a v 3) := tg_m (by unfold tl; rw [u2_ne _ _ _ _ (by decide)]; exact Int.le_refl _) tf
      refine sv_f V h (co2_u2 co2_rf (by omega)) (fun q => dL (Or.inr q.1)) (fun q => absurd q dP) (rg_n W _ s0 (fun q => absurd (w1 q) dX) (fun q => absurd ((w2 q).imp And.right id) dL) (fun q => absurd (w9 q) n3) (fun q => ⟨by rw [u2_ne _ _ _ _ (by decide)]; exact t10, by rw [u2_eq]; exact tg'⟩) (fun q => absurd (w12 q) (fun e => by rw [s27] at e; exact absurd e (by decide))) (fun q => absurd ((w13 q).imp id And.left) d430))
    · rw [if_neg s27]
      have s29 : s = 29 := sx.elim (fun e => absurd e s27) id
      show sv (fw s k) (u2 a 2 9 (fd a v 3))
      have tt : tl a (u2 a 2 9 (fd a v 3)) := by unfold tl; rw [u2_ne _ _ _ _ (by decide)]; exact Int.le_refl _
      have o8 := r9 (by rw [s29]; decide)
      refine sv_f V h (co2_u2 co2_rf (by omega)) (fun q => dL (Or.inr q.1)) (fun q => absurd q dP) (rg_n W _ s0 (fun q => absurd (w1 q) dX) (fun q => absurd ((w2 q).imp And.right id) dL) (fun q => absurd (w9 q) n3) (fun q => ⟨by rw [u2_ne _ _ _ _ (by decide)]; exact t10, by rw [u2_ne _ _ _ _ (by decide)]; exact tg_m tt o8⟩) (fun q => by rw [u2_eq]; exact tg_m tt tf) (fun q => absurd ((w13 q).imp id And.left) d430))
  rw [if_neg c4] at h0 ⊢
  have n27 : s ≠ 27 := fun e => c4 (Or.inl (by rw [e]; decide))
  have n29 : s ≠ 29 := fun e => c4 (Or.inr (by rw [e]; decide))
  by_cases c5 : s.toInt = 17 ∨ s.toInt = 20
  · rw [if_pos c5] at h0 ⊢
    have sx : s = 17 ∨ s = 20 := c5.imp (fun e => iv e (by decide)) (fun e => iv e (by decide))
    have dL : ¬ ((s = 19 ∨ s = 21 ∨ s = 22) ∨ inL s = true) := by rcases sx with e | e <;> subst e <;> decide
    have dO : ¬ (inO s = true ∨ s = 27) := by rcases sx with e | e <;> subst e <;> decide
    have d430 : ¬ (s = 4 ∨ s = 30) := by rcases sx with e | e <;> subst e <;> decide
    unfold tk_span at h0 ⊢
    by_cases f3 : fd a v 3 = -1
    · rw [if_pos f3] at h0; exact absurd h0 (by show ¬ (4 : Int32) = 0; decide)
    rw [if_neg f3] at h0 ⊢
    have tf := fd_3 hn f3
    by_cases s17 : s = 17
    · rw [if_pos s17]
      show sv (fw s k) (u2 (u2 a 2 8 (fd a v 3)) 2 9 (-1))
      have tt : tl a (u2 (u2 a 2 8 (fd a v 3)) 2 9 (-1)) := by unfold tl; rw [u2_ne _ _ _ _ (by decide), u2_ne _ _ _ _ (by decide)]; exact Int.le_refl _
      exact sv_f V h (co2_u2 (co2_u2 co2_rf (by omega)) (by omega)) (fun q => dL (Or.inr q.1)) (fun _ => by rw [u2_ne _ _ _ _ (by decide), u2_ne _ _ _ _ (by decide)]) (rg_n W _ s0 (fun q => ⟨by rw [u2_ne _ _ _ _ (by decide), u2_eq]; exact tg_m tt tf, Or.inl (u2_eq _ _ _ _)⟩) (fun q => absurd ((w2 q).imp And.right id) dL) (fun q => absurd (w9 q) n3) (fun q => absurd (w11 q) dO) (fun q => absurd (w12 q) n29) (fun q => absurd ((w13 q).imp id And.left) d430))
    · rw [if_neg s17]
      have s20 : s = 20 := sx.elim (fun e => absurd e s17) id
      show sv (fw s k) (u2 a 2 9 (fd a v 3))
      have tt : tl a (u2 a 2 9 (fd a v 3)) := by unfold tl; rw [u2_ne _ _ _ _ (by decide)]; exact Int.le_refl _
      have o8 := (r1 (by rw [s20]; decide)).1
      exact sv_f V h (co2_u2 co2_rf (by omega)) (fun q => dL (Or.inr q.1)) (fun _ => by rw [u2_ne _ _ _ _ (by decide)]) (rg_n W _ s0 (fun q => ⟨by rw [u2_ne _ _ _ _ (by decide)]; exact tg_m tt o8, Or.inr (by rw [u2_eq]; exact tg_m tt tf)⟩) (fun q => absurd ((w2 q).imp And.right id) dL) (fun q => absurd (w9 q) n3) (fun q => absurd (w11 q) dO) (fun q => absurd (w12 q) n29) (fun q => absurd ((w13 q).imp id And.left) d430))
  rw [if_neg c5] at h0 ⊢
  have n17 : s ≠ 17 := fun e => c5 (Or.inl (by rw [e]; decide))
  by_cases c6 : s.toInt = 26
  · rw [if_pos c6] at h0 ⊢
    have sx : s = 26 := iv c6 (by decide)
    have nr : nR s = true := by rw [sx]; decide
    have dL : ¬ inL s = true := by rw [sx]; decide
    have dP : ¬ inP s = true := by rw [sx]; decide
    have part : ∀ b : Bool, k = 9 ∨ k = 13 → sv (fw s k) (ad_part b a) := fun b hk => by
      have e17 := Z.2.1 sx hk
      obtain ⟨p1, p2, p3, p4, p5, p6⟩ := part_ok (b := b) hc (fun i q p u1 u2_ u3 _ => hp i q p u1 u2_ u3 (fun f => absurd f.1 dP))
      exact ⟨tn_co p1 hn, p4, fun i q p u1 u2_ u3 u4 => p5 i q p u1 u2_ u3 (fun _ => u4 ⟨by rw [e17]; decide, by rw [p6]; exact h9 sx hk⟩), qsp_co p2 (fun f => f) (fun q u1 _ => hq q u1 (fun f => absurd f.1 dP)), osp_co p3 ho, rg_0 W _ nr⟩
    show sv (fw s k) (if k = 9 then ad_part true a else if k = 13 then ad_part false a else a)
    by_cases k9 : k = 9
    · rw [if_pos k9]; exact part true (Or.inl k9)
    rw [if_neg k9]
    by_cases k13 : k = 13
    · rw [if_pos k13]; exact part false (Or.inr k13)
    · rw [if_neg k13]
      exact sv_f V h co2_rf (fun q => dL q.1) (fun _ => rfl) (rg_0 W _ nr)
  rw [if_neg c6] at h0 ⊢
  by_cases c7 : s.toInt = 13
  · rw [if_pos c7] at h0 ⊢
    have sx : s = 13 := iv c7 (by decide)
    have t7 : (tk_trust v.toInt32 a).2.1 2 7 = a.1 2 7 := by
      unfold tk_trust
      split
      · rfl
      · split
        · show (tr_last v.toInt32 a).1 2 7 = a.1 2 7
          unfold tr_last
          split
          · rfl
          · split
            · rfl
            · exact u2_ne _ _ _ _ (by omega)
        · rfl
    exact sv_f V h co2_trust (fun q => by rw [sx] at q; exact absurd q.1 (by decide)) (fun _ => t7) (rg_0 W _ (by rw [sx]; decide))
  rw [if_neg c7] at h0 ⊢
  -- what stays
  have pas : ∀ b : sg, co2 a b → (∀ j, j = 7 ∨ j = 8 ∨ j = 9 → b.1 2 j = a.1 2 j) → (¬ (inL s = true ∧ k = 16)) → (inL (fw s k) = true → bd (b.1 2 10)) → (fw s k = 5 → bd (b.1 2 10)) → sv (fw s k) b := fun b c hj hx hb hb5 => by
    have tt : tl a b := c.2.1.1
    have e7 := hj 7 (by omega)
    have e8 := hj 8 (by omega)
    have e9 := hj 9 (by omega)
    refine sv_f V h c hx (fun _ => e7) (rg_n W _ s0 (fun q => ?_) hb (fun q => absurd (w9 q) n3) (fun q => ?_) (fun q => absurd (w12 q) n29) (fun q => ?_))
    · rcases w1 q with e | e
      · rw [e8, e9]
        exact ⟨tg_m tt (r1 e).1, (r1 e).2.imp id (tg_m tt)⟩
      · exact absurd e n17
    · rcases w11 q with e | e
      · rw [e7, e8]; exact ⟨r8 (Or.inr e), tg_m tt (r9 e)⟩
      · exact absurd e n27
    · rcases w13 q with e | ⟨e, -⟩
      · exact absurd e n4
      · right
        have o30 : inO s = true := by rw [e]; decide
        rw [e7, e8, e9]
        exact ⟨r8 (Or.inr o30), tg_m tt (r9 o30), tg_m tt (r10 e), hb5 q⟩
  unfold tk_int at h0 ⊢
  by_cases k16 : k = 16
  · rw [if_pos k16] at h0 ⊢
    have v1 : v.toInt ≤ 1440 := by
      have : lg_cmp v 1440 ≤ 0 := Decidable.byContradiction (fun q => g0 ⟨k16, q⟩)
      have := lg_le.mp this
      rw [(by decide : (1440 : Int64).toInt = 1440)] at this
      exact this
    have v0 := hv k16
    have vi : v.toInt32.toInt = v.toInt := by
      rw [Int64.toInt_toInt32]
      exact en_bmod (by omega) (by omega) (Or.inl rfl)
    have bv : bd (sg_n s v.toInt32) := by
      unfold bd sg_n
      have ng : (-v.toInt32).toInt = -v.toInt := by
        rw [Int32.toInt_neg, vi]
        exact en_bmod (by omega) (by omega) (Or.inl rfl)
      split
      · rw [ng]; omega
      · split
        · rw [ng]; omega
        · rw [vi]; omega
    by_cases s5 : s = 5
    · rw [if_pos s5]
      have x2 := Z.1 s5
      show sv (fw s k) (en_po (sg_n s v.toInt32) a)
      have nr : nR s = true := by rw [s5]; decide
      have dL : ¬ inL s = true := by rw [s5]; decide
      have dP : ¬ inP s = true := by rw [s5]; decide
      have cpl : ∀ pd : Prop, csp a pd := fun pd i q p u1 u2_ u3 _ => hp i q p u1 u2_ u3 (fun f => absurd f.1 dP)
      have qpl : ∀ pd : Prop, qsp a pd := fun pd q u1 _ => hq q u1 (fun f => absurd f.1 dP)
      unfold en_po
      by_cases t2 : a.1 2 7 = 2
      · rw [if_pos t2]
        exact sv_f V h co2_path (fun q => dL q.1) (fun q => absurd q dP) (rg_0 W _ nr)
      · rw [if_neg t2]
        obtain ⟨-, g8, g9, g10⟩ : a.1 2 7 = 10 ∧ tg a (a.1 2 8) ∧ tg a (a.1 2 9) ∧ bd (a.1 2 10) := (r11 s5).resolve_left t2
        have nx := kl_nat g8.1
        have t10 := hn.1.2
        have x10 : (a.1 2 8).toNatClampNeg < 10 := by have := g8.2; omega
        rw [spb_w (r := (a.1 2 8).toNatClampNeg) nx.symm x10 (by omega)]
        have at_ := spb_at (c := 16) (r := (a.1 2 8).toNatClampNeg) (x := a.1 2 8) (y := a.1 2 9) (lo := a.1 2 10) (hi := sg_n s v.toInt32) (a := a)
        obtain ⟨b, eb⟩ : ∃ b, b = u2 (u2 (u2 (u2 a (16 + 1) (a.1 2 8).toNatClampNeg (a.1 2 8)) (16 + 2) (a.1 2 8).toNatClampNeg (a.1 2 9)) (16 + 3) (a.1 2 8).toNatClampNeg (a.1 2 10)) (16 + 4) (a.1 2 8).toNatClampNeg (sg_n s v.toInt32) := ⟨_, rfl⟩
        rw [← eb] at at_ ⊢
        have o : ∀ p j, ¬ (17 ≤ p ∧ p ≤ 20) → b.1 p j = a.1 p j := fun p j hpj => by rw [at_, if_neg (by omega), if_neg (by omega), if_neg (by omega), if_neg (by omega)]
        have o2 : ∀ p j, j ≠ (a.1 2 8).toNatClampNeg → b.1 p j = a.1 p j := fun p j hpj => by rw [at_, if_neg (by omega), if_neg (by omega), if_neg (by omega), if_neg (by omega)]
        have tt : tl a b := by unfold tl; rw [o 12 2 (by omega)]; exact Int.le_refl _
        have cs : coS a b := ⟨tt, o 12 3 (by omega), fun c i p => o c i (by omega)⟩
        refine ⟨tn_co ⟨fun j => o 10 j (by omega), fun j => o 11 j (by omega), o 2 5 (by omega), o 12 2 (by omega)⟩ hn, scn_co cs (by rw [o 12 4 (by omega)]; exact hc.2.1) hc, csp_co cs (fun f => f) (cpl _), qsp_co ⟨tt, o 12 4 (by omega), fun c i p1 p2 => o c i (by omega)⟩ (fun f => f) (qpl _), fun t ht hk => ?_, rg_0 W _ nr⟩
        by_cases e : t = (a.1 2 8).toNatClampNeg
        · rw [e]
          unfold sq
          rw [at_ (16 + 1), at_ (16 + 2), at_ (16 + 3), at_ (16 + 4), if_pos (by omega), if_neg (by omega), if_pos (by omega), if_neg (by omega), if_neg (by omega), if_pos (by omega), if_neg (by omega), if_neg (by omega), if_neg (by omega), if_pos (by omega)]
          exact ⟨tg_m tt g8, Or.inr (tg_m tt g9), g10, bv⟩
        · rw [o2 18 t e] at hk
          exact sq_m tt (fun p' p1 p2 => o2 p' _ e) (ho t ht hk)
    rw [if_neg s5]
    by_cases x26 : fw s k = 26
    · rw [show (if fw s k = 26 then ((0 : Int32), en_sp (sg_n s v.toInt32) a) else (0, u2 a 2 10 (sg_n s v.toInt32))) = (0, en_sp (sg_n s v.toInt32) a) from if_pos x26]
      exact sv_sp W h (V.2.2.1 x26).2 x26 bv
    · rw [show (if fw s k = 26 then ((0 : Int32), en_sp (sg_n s v.toInt32) a) else (0, u2 a 2 10 (sg_n s v.toInt32))) = (0, u2 a 2 10 (sg_n s v.toInt32)) from if_neg x26]
      exact pas (u2 a 2 10 (sg_n s v.toInt32)) (co2_u2 co2_rf (by omega)) (fun j hj => u2_ne _ _ _ _ (by omega)) (fun q => x26 (V.2.2.2 q.1 q.2)) (fun _ => by rw [u2_eq]; exact bv) (fun _ => by rw [u2_eq]; exact bv)
  · rw [if_neg k16] at h0 ⊢
    refine pas a co2_rf (fun _ _ => rfl) (fun q => k16 q.2) (fun q => ?_) (fun q => ?_)
    · rcases w2 q with ⟨e, -⟩ | e
      · exact absurd e k16
      · exact r2 e
    · rcases w13 q with e | ⟨-, e⟩
      · exact absurd e n4
      · exact absurd e k16
theorem st_21 : ∀ i, i < 46 → sm_steps.getD (3 * i + 1) 0 = 21 → sm_steps.getD (3 * i) 0 = 0 := by decide +kernel
/-- the tell's word stays, but at a tell's begin -/
theorem ms_t7 {s k : Int32} {v : Int64} {a : sg} (s0 : s ≠ 0) : (ms s k v a).2.1 2 7 = a.1 2 7 := by
  have n0 : ¬ s.toInt = 0 := fun e => s0 (en_ofI (by rw [e]; decide))
  have pl : ∀ c r, (pl_last c r a).1 2 7 = a.1 2 7 ∨ c = 2 := fun c r => by
    by_cases e : c = 2
    · exact Or.inr e
    · left
      unfold pl_last
      split
      · rfl
      · split
        · rfl
        · exact u2_ne _ _ _ _ (by omega)
  have pl14 : ∀ r, (pl_last 14 r a).1 2 7 = a.1 2 7 := fun r => (pl 14 r).resolve_right (by decide)
  have pl15 : ∀ r, (pl_last 15 r a).1 2 7 = a.1 2 7 := fun r => (pl 15 r).resolve_right (by decide)
  have pt6 : ∀ (q : Int32) (b : sg), (ad_pt6 q b).1 2 7 = b.1 2 7 := fun q b => by
    unfold ad_pt6
    repeat' split
    all_goals first
      | rfl
      | exact u2_ne _ _ _ _ (by omega)
  have part : ∀ t : Bool, (ad_part t a).1 2 7 = a.1 2 7 := fun t => by
    unfold ad_part
    repeat' split
    all_goals first
      | rfl
      | exact pt6 _ _
      | exact (pt6 _ _).trans (u2_ne _ _ _ _ (by omega))
  have sy : ∀ (t : Bool) (b : sg), (sy_new t b).1 2 7 = b.1 2 7 := fun t b => by
    unfold sy_new
    split
    · rw [u2_ne _ _ _ _ (by omega), u2_ne _ _ _ _ (by omega), u2_ne _ _ _ _ (by omega)]
      split
      · exact u2_ne _ _ _ _ (by omega)
      · rfl
    · rfl
  have nb : ∀ (q : Int32) (b : sg), (nb_new q b).2.1 2 7 = b.1 2 7 := fun q b => by
    unfold nb_new
    repeat' split
    all_goals first
      | exact u2_ne _ _ _ _ (by omega)
      | exact sy _ _
  have spb7 : ∀ (c n : Nat) (row x y lo hi : Int32), 16 ≤ c → (spb c n row x y lo hi a).1 2 7 = a.1 2 7 := fun c n row x y lo hi hc => by
    unfold spb
    repeat' split
    all_goals first
      | rfl
      | (rw [u2_ne _ _ _ _ (by omega), u2_ne _ _ _ _ (by omega), u2_ne _ _ _ _ (by omega), u2_ne _ _ _ _ (by omega)])
  have path : ∀ x y w : Int32, (ad_path x y w a).1 2 7 = a.1 2 7 := fun x y w => by
    have aw : (ad_w x y w a).1 2 7 = a.1 2 7 := by
      unfold ad_w
      rw [u2_ne _ _ _ _ (by omega), u2_ne _ _ _ _ (by omega)]
    unfold ad_path
    repeat' split
    all_goals first
      | rfl
      | exact aw
  unfold ms
  split
  · rfl
  unfold tk_take
  rw [if_neg n0]
  split
  · unfold tk_new
    split
    · rfl
    · split
      · rfl
      · show (nm_add v a).1 2 7 = a.1 2 7
        unfold nm_add
        rw [u2_ne _ _ _ _ (by decide), u2_ne _ _ _ _ (by omega), nb]
        show sm_up a.1 10 (cnt a.1) (nm_kd a) 2 7 = a.1 2 7
        exact en_up_ne _ _ _ _ (by omega)
  split
  · unfold tk_path
    repeat' split
    all_goals first
      | rfl
      | exact u2_ne _ _ _ _ (by omega)
  split
  · unfold tk_where
    repeat' split
    all_goals first
      | rfl
      | exact pl14 _
      | exact pl15 _
  split
  · unfold tk_open
    repeat' split
    all_goals first
      | rfl
      | exact u2_ne _ _ _ _ (by omega)
  split
  · unfold tk_span
    repeat' split
    all_goals first
      | rfl
      | exact u2_ne _ _ _ _ (by omega)
      | exact (u2_ne _ _ _ _ (by omega)).trans (u2_ne _ _ _ _ (by omega))
  split
  · show (if k = 9 then ad_part true a else if k = 13 then ad_part false a else a).1 2 7 = a.1 2 7
    repeat' split
    all_goals first
      | rfl
      | exact part _
  split
  · unfold tk_trust
    repeat' split
    all_goals first
      | rfl
      | (show (tr_last _ a).1 2 7 = a.1 2 7
         unfold tr_last
         repeat' split
         all_goals first
           | rfl
           | exact u2_ne _ _ _ _ (by omega))
  · unfold tk_int
    split
    · split
      · show (en_po _ a).1 2 7 = a.1 2 7
        unfold en_po
        split
        · exact path _ _ _
        · exact spb7 _ _ _ _ _ _ _ (by omega)
      · split
        · show (en_sp _ a).1 2 7 = a.1 2 7
          unfold en_sp
          split
          · exact spb7 _ _ _ _ _ _ _ (by omega)
          · exact spb7 _ _ _ _ _ _ _ (by omega)
        · exact u2_ne _ _ _ _ (by omega)
    · rfl
theorem tell_st {s k : Int32} {v : Int64} {a : sg} {g : gc} (hg : s ≠ 0 → g.tell = a.1 2 7) (_ : (ms s k v a).1 = 0) (hf : fw s k ≠ -1) (h21 : k ≠ 21) : (gc_st s k g).tell = (ms s k v a).2.1 2 7 := by
  by_cases s0 : s = 0
  · subst s0
    have k15 := fw_0 hf h21
    have e1 : (gc_st 0 k g).tell = k := by
      unfold gc_st
      rw [if_pos ⟨rfl, k15⟩]
    have k16 : ¬ (k = 16 ∧ ¬ lg_cmp v 1440 ≤ 0) := fun q => by rw [q.1] at k15; exact absurd k15 (by decide)
    rw [e1]
    unfold ms
    rw [if_neg k16]
    unfold tk_take
    rw [if_pos (by decide)]
    exact (u2_eq _ _ _ _).symm
  · rw [ms_t7 s0, ← hg s0]
    unfold gc_st
    rw [if_neg (fun q => s0 q.1)]
    split
    · rfl
    · split <;> rfl
theorem sv_0 {a : sg} (h : ini a) : sv 0 a := by
  obtain ⟨a1, a2, -, a4, a5, -⟩ := h
  have z3 : nS a = 0 := by unfold nS; rw [a2 3 (by decide)]; decide
  have z4 : nQ a = 0 := by unfold nQ; rw [a2 4 (by decide)]; decide
  refine ⟨⟨by rw [a2 2 (by decide)]; decide, by rw [a1]; decide, fun i hi => ?_⟩, ⟨by rw [a2 3 (by decide)]; decide, by rw [a2 4 (by decide)]; decide, fun i hi => ?_, fun i q hi => ?_, fun i q hi hq _ => a5 _ (by omega)⟩, fun i q p hi => ?_, fun q hq => ?_, fun t ht hk => absurd (a4 t ht).2.2.1 hk, ⟨fun q => absurd q (by decide), fun q => absurd q (by decide), fun q => absurd q (by decide), fun q => absurd q (by decide), fun q => absurd q (by decide), fun q => absurd q (by decide), fun q => absurd q (by decide), fun q => absurd q (by decide), fun q => absurd q (by decide), fun q => absurd q (by decide), fun q => absurd q (by decide)⟩⟩
  · unfold cnt at hi
    rw [a1] at hi
    exact absurd hi (Nat.not_lt_zero i)
  · rw [z3] at hi; exact absurd hi (Nat.not_lt_zero i)
  · rw [z3] at hi; exact absurd hi (Nat.not_lt_zero i)
  · rw [z3] at hi; exact absurd hi (Nat.not_lt_zero i)
  · rw [z4] at hq; exact absurd hq (Nat.not_lt_zero q)
/-- the whole text: the grammar and the meaning both hold -/
theorem ME_sv {K : Nat → Int32} {V : Nat → Int64} (hV : ∀ i, K i = 16 → 0 ≤ (V i).toInt) : ∀ (m t : Nat) (s : Int32) (g : gc) (a : sg), t + m = 501 → sv s a → (s ≠ 0 → g.tell = a.1 2 7) → SY K m t s g = none → (ME K V m t s a).1 = none → sv 0 (ME K V m t s a).2 ∨ t = 501 := by
  intro m
  induction m with
  | zero => intro t s g a ht _ _ _ _; exact Or.inr (by omega)
  | succ m ih =>
    intro t s g a ht h hg hs h0
    have e : ME K V (m + 1) t s a = (if K t = 21 then (none, a) else if (ms s (K t) (V t) a).1 = 0 then ME K V m (t + 1) (fw s (K t)) (ms s (K t) (V t) a).2 else (some ((ms s (K t) (V t) a).1, t), a)) := rfl
    have hs : (if gf s (K t) t g = 0 then (if K t = 21 then none else SY K m (t + 1) (fw s (K t)) (gc_st s (K t) g)) else some (gf s (K t) t g, t)) = none := hs
    rw [e] at h0 ⊢
    by_cases c0 : gf s (K t) t g = 0
    · rw [if_pos c0] at hs
      have nf : ¬ (fw s (K t) = -1 ∨ ((K t = 9 ∨ K t = 13) ∧ g.tell = 12)) := fun q => by
        unfold gf at c0
        rw [if_pos q] at c0
        exact absurd c0 (by decide)
      by_cases c1 : K t = 21
      · rw [if_pos c1]
        left
        rw [c1] at nf
        have s0 : s = 0 := by
          obtain ⟨i, hi, i2, i3, i4⟩ := fw_mem (fun q => nf (Or.inl q))
          have := st_21 i hi i3
          rw [← i2]; exact this
        rw [← s0]; exact h
      · rw [if_neg c1] at hs h0 ⊢
        by_cases c2 : (ms s (K t) (V t) a).1 = 0
        · rw [if_pos c2] at h0 ⊢
          have hf : fw s (K t) ≠ -1 := fun q => nf (Or.inl q)
          by_cases t500 : 500 ≤ t
          · exfalso
            unfold gf at c0
            rw [if_neg nf, if_neg c1, if_pos t500] at c0
            exact absurd c0 (by decide)
          have st := ms_sv h (hV t) hf (fun s26 hk e12 => nf (Or.inr ⟨hk, by rw [hg (by rw [s26]; decide)]; exact e12⟩)) c2
          rcases ih (t + 1) _ _ _ (by omega) st (fun _ => tell_st hg c2 hf c1) hs h0 with r | r
          · exact Or.inl r
          · omega
        · rw [if_neg c2] at h0
          cases h0
    · rw [if_neg c0] at hs; cases hs
end
section
/-! THE LAW: read on both sides, with what was gone through -/
theorem sk_of {a : sg} {J : sm_I} {T : Int32} {c r p : Nat} (h : sq a c r) (e0 : a.1 12 2 = T) (e1 : a.1 (c + 1) r = J 130 p) (e2 : a.1 (c + 2) r = J 131 p) (e3 : a.1 (c + 3) r = J 132 p) (e4 : a.1 (c + 4) r = J 133 p) (p260 : p < 260) : sspk J (T.toNatClampNeg + 1) p := by
  obtain ⟨⟨h1, h2⟩, h3, h4, h5⟩ := h
  rw [e1] at h1 h2
  rw [e2] at h3
  rw [e3] at h4
  rw [e4] at h5
  rw [e0] at h2
  have n := kl_nat (i := T) (by omega)
  refine ⟨p260, ⟨h1, by omega⟩, ?_, h4, h5⟩
  rcases h3 with e | ⟨g1, g2⟩
  · rw [e, show (-1 : Int32).toInt = -1 from by decide]; omega
  · rw [e0] at g2
    omega
theorem TW_sv {s : Nat} {a : sg} {J : sm_I} {L : sm_L} {R : sm_R} (h : sv 0 a) (td : TDw s a J) (s1 : s ≤ 1) (mm : en_mem ml_tb mlX (xLay, J, L, R)) (z : J 107 54 = 0) : TW s J := by
  obtain ⟨-, -, hc, hq, ho, -⟩ := h
  obtain ⟨⟨-, -, c2, c3, c4⟩, -, ⟨-, o2⟩, ⟨y1, -⟩, q1⟩ := td
  have b := ml_cs s1 mm
  have b128 : ∀ j, j < 20 → 0 ≤ (J 128 j).toInt ∧ (J 128 j).toInt ≤ 4 := fun j hj => ml_row mm (p := 128) (n := 20) (q := (0, 4)) (fun _ => rfl) j hj
  have np : inP 0 = false := by decide
  refine ⟨fun i c p hi hc' hp => ?_, fun k hk => ?_, fun q hq' => ?_, fun k hk => ?_⟩
  · obtain ⟨-, y2, y3, y4, y5⟩ := y1 i (by omega) hi
    obtain ⟨z1, z2, z3, z4⟩ := y5 c hc'
    obtain ⟨s1', s2, s3, s4⟩ := z4 p hp
    have b4 := b128 (10 * s + i) (by omega)
    have n3 := kl_nat (i := J 125 s) (by omega)
    have n8 := kl_nat b4.1
    have n9 := kl_nat (i := J 129 (4 * (10 * s + i) + c)) (by omega)
    have sqq := hc i c p (by unfold nS; rw [c3]; omega) (by unfold nC; rw [y2]; omega) (by unfold nP; rw [z1]; omega) (fun w => by rw [np] at w; exact absurd w.1 (by decide))
    have ix : 120 * s + 12 * i + 3 * c + p = 3 * (4 * (10 * s + i) + c) + p := by omega
    rw [ix] at s1' s2 s3 s4
    exact sk_of sqq c2 s1' s2 s3 s4 (by omega)
  · obtain ⟨i, hi, r1, r2, r3, r4, r5, r6, r7, r8, r9⟩ := o2 k hk
    have b134 : 0 ≤ (J 134 s).toInt ∧ (J 134 s).toInt ≤ 4 := ml_row mm (p := 134) (n := 2) (q := (0, 4)) (fun _ => rfl) s (by omega)
    exact sk_of (ho i hi r7) c2 (r5.trans r4.symm) r6 r8 r9 (by omega)
  · have n4 := kl_nat (i := J 136 s) (by omega)
    obtain ⟨r1, r2, r3, r4⟩ := q1 q (by omega) hq'
    exact sk_of (hq q (by unfold nQ; rw [c4]; omega) (fun w => by rw [np] at w; exact absurd w.1 (by decide))) c2 r1 r2 r3 r4 (by omega)
  · rw [z, kl_0] at hk
    omega
theorem TW_lv {l : Nat} {I J : sm_I} {L : sm_L} {R : sm_R} (hl : l ≤ 1) (hm : en_mem ml_tb mlX (xLay, I, L, R)) (h0 : lvf l I J) (k : TW l I) : TW l J := by
  have h : ∀ p j, ml_hl l p j ∨ ml_hm l p j → J p j = I p j := fun p j q => h0 p j (q.elim Or.inl (fun q => Or.inr (Or.inl q)))
  have b := ml_cs hl hm
  have b134 : 0 ≤ (I 134 l).toInt ∧ (I 134 l).toInt ≤ 4 := ml_row hm (p := 134) (n := 2) (q := (0, 4)) (fun _ => rfl) l (by omega)
  have b128 : ∀ j, j < 20 → 0 ≤ (I 128 j).toInt ∧ (I 128 j).toInt ≤ 4 := fun j hj => ml_row hm (p := 128) (n := 20) (q := (0, 4)) (fun _ => rfl) j hj
  have b129 : ∀ j, j < 80 → 0 ≤ (I 129 j).toInt ∧ (I 129 j).toInt ≤ 3 := fun j hj => ml_row hm (p := 129) (n := 80) (q := (0, 3)) (fun _ => rfl) j hj
  have o1 : ∀ p, (p = 122 ∨ p = 125 ∨ p = 134 ∨ p = 136) → J p l = I p l := fun p hp => h p l (by unfold ml_hl ml_hm; omega)
  have sk : ∀ n p, ((120 * l ≤ p ∧ p < 120 * l + 120) ∨ (240 + 4 * l ≤ p ∧ p < 244 + 4 * l) ∨ (248 + 6 * l ≤ p ∧ p < 254 + 6 * l)) → sspk I n p → sspk J n p := fun n p hp k => by
    have e : ∀ c, (c = 130 ∨ c = 131 ∨ c = 132 ∨ c = 133) → J c p = I c p := fun c hc => h c p (by
      rcases hp with hp | hp
      · rcases hc with e | e
        · exact Or.inl (Or.inr (Or.inr (Or.inr ⟨e, hp⟩)))
        · exact Or.inr (Or.inr (Or.inr (Or.inr (Or.inl ⟨e, hp⟩))))
      · exact Or.inr (Or.inr (Or.inr (Or.inr (Or.inr ⟨hc, hp⟩)))))
    unfold sspk at k ⊢
    rw [e 130 (by omega), e 131 (by omega), e 132 (by omega), e 133 (by omega)]; exact k
  obtain ⟨k1, k2, k3, k4⟩ := k
  have mo : ∀ p j, 137 ≤ p ∨ (p = 107 ∧ 46 ≤ j) → J p j = I p j := fun p j q => h0 p j (Or.inr (Or.inr q))
  unfold TW
  rw [o1 122 (by omega), o1 125 (by omega), o1 134 (by omega), o1 136 (by omega), mo 107 54 (by omega)]
  refine ⟨fun s c i a1 a2 a3 => ?_, fun k a => sk _ _ (by omega) (k2 k a), fun q a => sk _ _ (by omega) (k3 q a), fun k a => ?_⟩
  · have e8 : J 128 (10 * l + s) = I 128 (10 * l + s) := h 128 _ (Or.inl (Or.inr (Or.inl ⟨Or.inr (Or.inr rfl), by omega, by omega⟩)))
    rw [e8] at a2
    have b8 := b128 (10 * l + s) (by omega)
    have e9 : J 129 (4 * (10 * l + s) + c) = I 129 (4 * (10 * l + s) + c) := h 129 _ (Or.inl (Or.inr (Or.inr (Or.inl ⟨rfl, by omega, by omega⟩))))
    rw [e9] at a3
    have b9 := b129 (4 * (10 * l + s) + c) (by omega)
    exact sk _ _ (by omega) (k1 s c i a1 a2 a3)
  · have b := k4 k a
    unfold mook at b ⊢
    rw [mo 144 k (by omega), mo 145 k (by omega), mo 146 k (by omega), mo 147 k (by omega)]; exact b
theorem GC_cg {qt : Nat} {I J : sm_I} {L L' : sm_L} {R R' : sm_R} (hq : qt = 12 ∨ qt = 49) (h : ∀ p j, (qt ≤ p ∧ p < qt + 25) ∨ p = 37 ∨ (41 ≤ p ∧ p ≤ 44) ∨ (p = 74 ∧ (j = 6 ∨ j = 7 ∨ j = 8 ∨ j = 10 ∨ j = 11 ∨ j = 13 ∨ j = 14 ∨ j = 15)) ∨ (p = 75 ∧ (j = 4 ∨ j = 5)) ∨ (76 ≤ p ∧ p ≤ 79) ∨ p = 81 ∨ p = 80 ∨ p = 46 ∨ p = 47 ∨ (p = 0 ∧ j = 12) → J p j = I p j) (hL : ∀ j, L' 48 j = L 48 j) (r2 : R' 74 4 = R 74 4) (k : GC qt I L R) : GC qt J L' R' := by
  have t : ∀ p j, (qt ≤ p ∧ p < qt + 25) ∨ p = 37 ∨ (41 ≤ p ∧ p ≤ 44) → J p j = I p j := fun p j q => h p j (by omega)
  rcases k with e | ⟨e, k3⟩
  · exact Or.inl (by rw [h 0 12 (by omega)]; exact e)
  · refine Or.inr ⟨r2.trans e, ?_, klv_cg hq t (fun p j q => h p j (by omega)) (fun j _ a b _ _ => by
      unfold nT
      rw [h 76 _ (by omega)]) k3.2⟩
    rw [kys_cg t, KF_cg hq t]
    exact kall_cg (fun p j q => h p j (by omega)) hL k3.1
/-- what was gone through is of one text on both sides -/
theorem RF_at {I : sm_I} {L : sm_L} {R : sm_R} {qt qi l : Nat} (hI : lw_I I L R) (hrf : rfE qt qi l I R) : KF qt I = RF I l := by
  obtain ⟨-, mm, -, hd, qt', qi', l', hrf', htd⟩ := hI
  have e1 : qt' = qt := Option.some.inj (hrf'.2.2.1.symm.trans hrf.2.2.1)
  have e2 : l' = l := by have := hrf'.2.2.2.2; have := hrf.2.2.2.2; omega
  subst e1
  subst e2
  exact KR (by have := hrf.1; omega) hrf.2.1 mm htd hd
section
variable {S : sm_C} {I : sm_I} {L : sm_L} {R : sm_R} {r : Int32}
theorem lw_xreadS {C : Int32 → sm_I → sm_L → sm_R → Prop} (hI : MS XreadK r I L R) (k : ∀ (r' : Int32) (I' : sm_I) (L' : sm_L) (R' : sm_R), r = r' → lw_J I' L' R' → C r' I' L' R') : sm_wp sm_P S (51 + 8) 182 0 [.ref 107] [] (xLay, I, L, R) (0, 0) (fun z => ∃ (r : Int32) (I2 : sm_I) (L2 : sm_L) (R2 : sm_R), z = (some (.int r), (xLay, I2, L2, R2)) ∧ C r I2 L2 R2) := by
  obtain ⟨I0, L0, R0, hJ, mk, o, z48, XR, z1, X⟩ := hI
  have hI0 := hJ.1
  have hI00 := hI0
  have mm := lw_mk (lw_pk mk) hI0.2.1 o
  have mmW : en_mem ml_tb3 (mlW (L 48)) (xLay, I, L, R) := ⟨mm.1, mm.2.1, mm.2.2.1, mm.2.2.2.1, mlX_W mm.2.2.2.2 (fun _ => rfl)⟩
  obtain ⟨m0, n0, ⟨⟨t1, t2, t3⟩, hd, qt, qi, l, hrf, htd⟩⟩ := hI0
  have bl := kx_len m0
  obtain ⟨n, hn⟩ : ∃ n : Nat, (I0 0 10).toInt = n := ⟨(I0 0 10).toInt.toNat, by omega⟩
  obtain ⟨a0, D, T, H⟩ := X qt qi n hrf.1 hrf.2.2.1 hrf.2.2.2.1 hn
  have hl : (I 107 18).toInt = l := by rw [(o 107 18 (by omega)).1]; exact hrf.2.2.2.2
  have l1 := hrf.2.1
  have e : kM R = R := ml_R mm
  have A : sm_wp sm_P S (51 + 8) 182 0 [.ref 107] [] (xLay, I, L, kM R) (0, 0) (fun z => ∃ (r : Int32) (J : sm_I) (L' : sm_L) (R' : sm_R), z = (some (.int r), (xLay, J, L', kM R')) ∧ en_mem ml_tb3 (mlW (L 48)) (xLay, J, L', R') ∧ en_fr ml_RW (xLay, I, L, R) (xLay, J, L', R') ∧ J 107 2 = 0) := mx_readWq mmW (fun r' J L' R' _ _ mJ fJ zJ => ⟨r', J, L', R', rfl, mJ, fJ, zJ⟩)
  have B : sm_wp sm_P S (51 + 8) 182 0 [.ref 107] [] (xLay, I, L, kM R) (0, 0) (fun z => ∃ (r' : Int32) (J : sm_I) (L' : sm_L) (R' : sm_R), z = (some (.int r'), (xLay, J, L', kM R')) ∧ RDx (tk_at (I0 1) n) (SY (tk_K (I0 1) n) 501 0 0 gc0) (ME (tk_K (I0 1) n) (fun i => tk_vl (I0 1) n (tk_at (I0 1) n i)) 501 0 0 a0) r' J ∧ LVx l I r' J) := y_read (b := I0 1) (n := n) (a0 := a0) hl (by rw [(o 107 2 (by omega)).1, ← t1]; exact hn) mm (fun j hj => ((o 108 j (by omega)).1).trans (t2 j (by omega)).symm) D.1 (fun r J L' R' q qv => ⟨r, J, L', R', rfl, q, qv⟩)
  rw [e] at A B
  refine sm_wp_mono (sm_wp_and A B) (fun z hz => ?_)
  obtain ⟨⟨r1, J, L', R', ez, mJW, fJ, zJ⟩, r', J', L'', R'', ez', D', V'⟩ := hz
  have mJ : en_mem ml_tb mlX (xLay, J, L', R') := ⟨mJW.1, mJW.2.1, mJW.2.2.1, mJW.2.2.2.1, mlW_X mJW.2.2.2.2⟩
  have e48 : ∀ j, L' 48 j = L0 48 j := fun j => (mJW.2.2.2.2.2.2.2.2.2.2 j).trans (z48 j)
  rw [ez] at ez'
  have er : r1 = r' := Value.int.inj (Option.some.inj (congrArg Prod.fst ez'))
  have eI : J = J' := congrArg (fun z : sm_Z => z.2.2.1) ez'
  rw [← er, ← eI] at D' V'
  have eJ : kM R' = R' := ml_R mJ
  obtain ⟨q1, q2, q3⟩ := q_rd D D'
  have f : ∀ p j, p < 107 → J p j = I p j ∧ R' p j = R p j := fun p j hp => fJ.2 p j (lw_hi (W := ml_RW) (by decide +kernel) hp)
  have tp : tpE J := by
    refine ⟨by rw [(f 0 10 (by omega)).1, z1, zJ], fun j hj => ?_, by rw [(f 0 11 (by omega)).1]; exact q2⟩
    rw [(f 0 10 (by omega)).1, z1, kl_0] at hj
    omega
  have GL : lw_I J L' R' → lw_J J L' R' := fun lI => ⟨lI, by
    refine GG_of lI (fun qt' qi' l' hrf' => ?_)
    by_cases c : r = 0
    · obtain ⟨⟨g1, g2, g3, g4, -⟩, s, s1, s2, s3, s4⟩ := q3 c
      have el : l' = s := by have := hrf'.2.2.2.2; omega
      subst el
      refine ⟨Or.inl ((f 0 12 (by omega)).1.trans (H.2 c).2.1), Or.inl g4, ?_⟩
      have SYn : SY (tk_K (I0 1) n) 501 0 0 gc0 = none := by
        cases u : SY (tk_K (I0 1) n) 501 0 0 gc0 with
        | none => rfl
        | some x => exact absurd ((D.2.1 x.1 x.2 u).1.symm.trans c) (D.2.1 x.1 x.2 u).2.1
      have MEn : (ME (tk_K (I0 1) n) (fun i => tk_vl (I0 1) n (tk_at (I0 1) n i)) 501 0 0 a0).1 = none := by
        cases u : (ME (tk_K (I0 1) n) (fun i => tk_vl (I0 1) n (tk_at (I0 1) n i)) 501 0 0 a0).1 with
        | none => rfl
        | some x => exact absurd (((D.2.2 SYn).1 x.1 x.2 u).1.symm.trans c) ((D.2.2 SYn).1 x.1 x.2 u).2.1
      have sv' := (ME_sv (K := tk_K (I0 1) n) (V := fun i => tk_vl (I0 1) n (tk_at (I0 1) n i)) tk_V 501 0 0 gc0 a0 rfl (sv_0 D.1) (fun q => absurd rfl q) SYn MEn).resolve_right (by decide)
      exact TW_sv sv' (TDw_of s3) s1 mJ g3
    · obtain ⟨v1, v2⟩ := V' (by rw [← q1]; exact c)
      obtain ⟨x1, x2, x3⟩ := T.1 c
      have y := H.1 c
      obtain ⟨gc, gr, tw, -, -⟩ := GG_at hJ hrf
      have eq : qt' = qt := Option.some.inj (hrf'.2.2.1.symm.trans ((f 0 9 (by omega)).2.trans x1))
      have el : l' = l := by have := hrf'.2.2.2.2; omega
      subst eq
      subst el
      have hq := hrf.1
      have tq : ∀ p j, (qt' ≤ p ∧ p < qt' + 25) ∨ p = 37 ∨ (41 ≤ p ∧ p ≤ 44) → J p j = I0 p j := fun p j q => by
        rcases q with q | q
        · rw [(f p j (by omega)).1]
          have g := x3 (p - (qt' - 12)) j (by omega) (by omega)
          rw [show p - (qt' - 12) + (qt' - 12) = p by omega] at g
          exact g
        · rw [(f p j (by omega)).1]
          exact y p j (by omega)
      have hi : ∀ p j, 137 ≤ p ∨ (p = 107 ∧ 46 ≤ j) → J p j = I0 p j := fun p j q => (v2 p j (Or.inr (Or.inr q))).trans (o p j (by omega)).1
      have twI : TW l' I := TW_cg (fun p j q => (o p j (by omega)).1) tw
      refine ⟨GC_cg (by omega) (fun p j q => ?_) e48 ?_ gc, ?_, TW_lv l1 mm v2 twI⟩
      · rcases Nat.lt_or_ge p 37 with u | u
        · rcases q with q | q
          · exact tq p j (Or.inl q)
          · rw [(f p j (by omega)).1]; exact y p j (by omega)
        · rcases q with q | q
          · exact tq p j (Or.inl q)
          · rw [(f p j (by omega)).1]; exact y p j (by omega)
      · rw [(f 74 4 (by omega)).2]; exact XR
      · rcases gr with e | gr
        · exact Or.inl ((hi 107 70 (by omega)).trans e)
        · right
          have kf : RF J l' = RF I0 l' := by rw [← RF_at lI hrf', ← RF_at hI00 hrf, KF_cg (by omega) tq]
          have e125 : J 125 l' = I0 125 l' := (v2 125 l' (Or.inl (Or.inl ⟨Or.inr rfl, rfl⟩))).trans (o 125 l' (by omega)).1
          have e137 : J 137 = I0 137 := funext (fun j => hi 137 j (by omega))
          have kx : rxs J l' = rxs I0 l' := by
            unfold rxs rdb
            rw [e125, e137, hi 107 46 (by omega)]
          rw [kf, kx]
          exact gor_cg (fun p j q => hi p j (by omega)) gr⟩
  refine ⟨r1, J, L', R', by rw [ez, eJ], k r1 J L' R' q1 (GL ⟨lw_kk (lw_pm mJ) mk f, mJ, ?_⟩)⟩
  by_cases c : r = 0
  · obtain ⟨⟨g1, g2, g3, -⟩, s, s1, s2, s3, s4⟩ := q3 c
    obtain ⟨⟨h1, h2, h3, h4⟩, -⟩ := H.2 c
    obtain ⟨x1, x2, x3, ⟨x4, x5⟩, x6⟩ := T.2 c
    refine ⟨tp, ⟨fun k hk => ?_, fun k hk => ?_, ?_, fun i hi hj => ?_, fun k hk => ?_⟩, qi, qt, s, ⟨by have := hrf.1; omega, s1, (f 0 9 (by omega)).2.trans x1, (f 2 6 (by omega)).2.trans x2, s2⟩, ⟨(ME (tk_K (I0 1) n) (fun i => tk_vl (I0 1) n (tk_at (I0 1) n i)) 501 0 0 a0).2, fun c j p1 p2 p3 p4 => ?_, TDw_of s3⟩, q_wm (by have := hrf.1; omega) s1 s2 mJ s3 x4 x5 (s4 x5) (wmQ_cg (I := I) (fun p j q => (f p j (by have := hrf.1; omega)).1) x6)⟩
    · rw [(f 37 0 (by omega)).1, h1, (g1 k hk).1]
      simp
    · rw [(f 38 k (by omega)).1, h3 k hk, (g1 k hk).2]
    · rw [(f 37 1 (by omega)).1, h2, g3]
    · rw [(f 37 1 (by omega)).1, h2, kl_0] at hj
      omega
    · rw [(f 39 k (by omega)).1, h4 k hk, g2 k (by omega)]
    · rw [(f _ j (by have := hrf.1; omega)).1]
      exact x3 c j p1 p2 p3 p4
  · obtain ⟨v1, v2⟩ := V' (by rw [← q1]; exact c)
    obtain ⟨x1, x2, x3⟩ := T.1 c
    have y := H.1 c
    obtain ⟨⟨a, k1, k2⟩, k3⟩ := htd
    refine ⟨tp, hdE_cg (I := I0) (fun p j q => ?_) hd, qt, qi, l, ⟨hrf.1, l1, (f 0 9 (by omega)).2.trans x1, (f 2 6 (by omega)).2.trans x2, v1⟩, ⟨a, fun c j p1 p2 p3 p4 => ?_, TDw_lv l1 mm v2 (TDw_cg (fun p j _ _ => (o p j (by omega)).1) k2)⟩, wmE_cg (I := I0) (fun p j q => ?_) k3⟩
    · rcases Nat.lt_or_ge p 107 with u | u
      · rw [(f p j u).1]; exact y p j (by omega)
      · rw [v2 p j (by omega)]; exact (o p j u).1
    · rw [(f _ j (by have := hrf.1; omega)).1, x3 c j p1 (by omega)]
      exact k1 c j p1 p2 p3 p4
    · rcases Nat.lt_or_ge p 107 with u | u
      · have hq := hrf.1
        rw [(f p j u).1]
        have g := x3 (p - (qt - 12)) j (by omega) (by omega)
        rw [show p - (qt - 12) + (qt - 12) = p by omega] at g
        exact g
      · have hq : qt + 24 < 107 := by have := hrf.1; omega
        have cc : ml_hl l p j ∨ ml_hm l p j ∨ 137 ≤ p ∨ (p = 107 ∧ 46 ≤ j) := by
          rcases q with e | ⟨e, -⟩ | ⟨-, e⟩ | ⟨e | e, e2⟩ | ⟨e, -⟩ | ⟨e, e2⟩
          · exfalso; omega
          · exfalso; omega
          · exfalso; omega
          · exact Or.inr (Or.inl (Or.inl ⟨Or.inr (Or.inl e), e2⟩))
          · exact Or.inl (Or.inl ⟨Or.inl e, e2⟩)
          · exact Or.inr (Or.inr (Or.inl (by omega)))
          · exact Or.inr (Or.inr (Or.inr ⟨e, by omega⟩))
        rw [v2 p j cc]; exact (o p j u).1
end
end
section
/-! conditions of the reference: ways, count, tried, choice, goes, forced (wip/pe/symg4.py) -/
theorem sm_ciH {P : Nat → sm_M} {S : sm_C} {d g : Nat} {as : List Value} {w : sm_W} {cs : Nat × Nat} {lay : List (Nat × Nat)} {F : sm_R → sm_R} {C : Int32 → sm_I → sm_L → sm_R → Prop} {K : sm_Z → Prop} (h : sm_wp P S d g 0 as [] w cs (fun z => ∃ (r : Int32) (I2 : sm_I) (L2 : sm_L) (R2 : sm_R), z = (some (.int r), (lay, I2, L2, F R2)) ∧ C r I2 L2 R2)) (hC : ∀ (r : Int32) (I2 : sm_I) (L2 : sm_L) (R2 : sm_R), C r I2 L2 R2 → K (some (.int r), (lay, I2, L2, F R2))) : sm_wp P S d g 0 as [] w cs K := sm_wp_mono h (fun z q => by
  obtain ⟨r, I2, L2, R2, e, c⟩ := q
  rw [e]; exact hC r I2 L2 R2 c)
theorem pj_X12_tried_0 {S : sm_C} {d : Nat} {Φ : sm_Z → Prop} {I : sm_I} {L : sm_L} {R : sm_R} {x1 : Int32} {x2 : Int32} (h : ((x1 < 0 → Φ (some (.int (-1 : Int32)), (xLay, I, L, (kM R)))) ∧ (¬ x1 < 0 → sm_wp sm_P S d 141 0 [.int x2, .int (0 : Int32), .int (2 : Int32)] [] (xLay, I, L, (kM R)) (0, 0) (fun z => ∃ (r3 : Int32) (I1 : sm_I) (L2 : sm_L), z = (some (.int r3), (xLay, I1, L2, (kM R))) ∧ ((r3 = 0 → Φ (some (.int (-1 : Int32)), (xLay, I1, L2, (kM R)))) ∧ (¬ r3 = 0 → sm_wp sm_P S d 135 0 [.ref 107] [] (xLay, I1, L2, (kM R)) (0, 0) (fun z => ∃ (I4 : sm_I) (L5 : sm_L), z = (none, (xLay, I4, L5, (kM R))) ∧ (((I4 107 72) ≤ x1 → Φ (some (.int (-1 : Int32)), (xLay, I4, L5, (kM R)))) ∧ (¬ (I4 107 72) ≤ x1 → ((x1 < (1000 : Int32) → ((x2 = 0 → (vp_in x1 1000) ∧ sm_wp sm_P S d 205 0 [.int (I4 154 x1.toNatClampNeg)] [] (xLay, I4, L5, (kM R)) (0, 0) (fun z => ∃ (r11 : Int32) (I9 : sm_I) (L10 : sm_L), z = (some (.int r11), (xLay, I9, L10, (kM R))) ∧ Φ (some (.int r11), (xLay, I9, L10, (kM R))))) ∧ (¬ x2 = 0 → ((x2 = (1 : Int32) → (vp_in x1 1000) ∧ Φ (some (.int (I4 155 x1.toNatClampNeg)), (xLay, I4, L5, (kM R)))) ∧ (¬ x2 = (1 : Int32) → (vp_in x1 1000) ∧ (((I4 156 x1.toNatClampNeg) = 0 → Φ (some (.int (0 : Int32)), (xLay, I4, L5, (kM R)))) ∧ (¬ (I4 156 x1.toNatClampNeg) = 0 → Φ (some (.int (1 : Int32)), (xLay, I4, L5, (kM R)))))))))) ∧ (¬ x1 < (1000 : Int32) → Φ (some (.int (-1 : Int32)), (xLay, I4, L5, (kM R)))))))))))))) : sm_wp sm_P S (d + 1) 206 0 [.ref 107, .int x1, .int x2] [] (xLay, I, L, (kM R)) (0, 0) Φ := sm_wp_step (⟨fun q19 => ((h).1 q19), fun q19 => sm_ci0 (((h).2 q19)) (fun r3 I1 L2 q18 => ⟨fun q17 => ((q18).1 q17), fun q17 => sm_cv0 (((q18).2 q17)) (fun I4 L5 q16 => ⟨fun q15 => ((q16).1 q15), fun q15 => ⟨fun q14 => ⟨fun q13 => ⟨(((((((q16).2 q15)).1 q14)).1 q13)).1, sm_ci0 ((((((((q16).2 q15)).1 q14)).1 q13)).2) (fun r11 I9 L10 q12 => q12)⟩, fun q13 => ⟨fun q8 => ⟨(((((((((q16).2 q15)).1 q14)).2 q13)).1 q8)).1, (((((((((q16).2 q15)).1 q14)).2 q13)).1 q8)).2⟩, fun q8 => ⟨(((((((((q16).2 q15)).1 q14)).2 q13)).2 q8)).1, ⟨fun q7 => (((((((((((q16).2 q15)).1 q14)).2 q13)).2 q8)).2).1 q7), fun q7 => (((((((((((q16).2 q15)).1 q14)).2 q13)).2 q8)).2).2 q7)⟩⟩⟩⟩, fun q14 => ((((q16).2 q15)).2 q14)⟩⟩)⟩)⟩)
end
section
/-! conditions of the class: ways, count, tried, choice, goes, forced; told = 12 (wip/pe/symg4.py) -/
theorem pf12_X11_tried_0 {S : sm_C} {d : Nat} {Φ : sm_Z → Prop} {I : sm_I} {L : sm_L} {R : sm_R} {x1 : Int32} {x2 : Int32} (h : sm_wp sm_P S d 56 0 [.ref 0] [] (xLay, I, L, (kF12_74 R)) (0, 0) (fun z => ∃ (r4 : Int32) (I1 : sm_I) (L2 : sm_L) (R3 : sm_R), z = (some (.int r4), (xLay, I1, L2, (kG12_74 R3))) ∧ ((x1 < 0 → Φ (some (.int (-1 : Int32)), (xLay, I1, L2, (kG12_74 R3)))) ∧ (¬ x1 < 0 → ((x1 < (if (1000 : Int32) < (I1 74 13) then (1000 : Int32) else (I1 74 13)) → sm_wp sm_P S d 218 0 [.ref 45, .int x1, .int x2] [] (xLay, I1, L2, (kG12_74 R3)) (0, 0) (fun z => ∃ (r8 : Int32) (I5 : sm_I) (L6 : sm_L) (R7 : sm_R), z = (some (.int r8), (xLay, I5, L6, (kG12_74 R7))) ∧ Φ (some (.int r8), (xLay, I5, L6, (kG12_74 R7))))) ∧ (¬ x1 < (if (1000 : Int32) < (I1 74 13) then (1000 : Int32) else (I1 74 13)) → Φ (some (.int (-1 : Int32)), (xLay, I1, L2, (kG12_74 R3))))))))) : sm_wp sm_P S (d + 1) 88 0 [.ref 0, .int x1, .int x2] [] (xLay, I, L, (kF12_74 R)) (0, 0) Φ := sm_wp_step (sm_ciH (h) (fun r4 I1 L2 R3 q12 => ⟨fun q11 => ((q12).1 q11), fun q11 => ⟨fun q10 => sm_ciH (((((q12).2 q11)).1 q10)) (fun r8 I5 L6 R7 q9 => q9), fun q10 => ((((q12).2 q11)).2 q10)⟩⟩))
end
section
/-! conditions of the class: ways, count, tried, choice, goes, forced; told = 49 (wip/pe/symg4.py) -/
theorem pf49_X11_tried_0 {S : sm_C} {d : Nat} {Φ : sm_Z → Prop} {I : sm_I} {L : sm_L} {R : sm_R} {x1 : Int32} {x2 : Int32} (h : sm_wp sm_P S d 56 0 [.ref 0] [] (xLay, I, L, (kF49_74 R)) (0, 0) (fun z => ∃ (r4 : Int32) (I1 : sm_I) (L2 : sm_L) (R3 : sm_R), z = (some (.int r4), (xLay, I1, L2, (kG49_74 R3))) ∧ ((x1 < 0 → Φ (some (.int (-1 : Int32)), (xLay, I1, L2, (kG49_74 R3)))) ∧ (¬ x1 < 0 → ((x1 < (if (1000 : Int32) < (I1 74 13) then (1000 : Int32) else (I1 74 13)) → sm_wp sm_P S d 218 0 [.ref 45, .int x1, .int x2] [] (xLay, I1, L2, (kG49_74 R3)) (0, 0) (fun z => ∃ (r8 : Int32) (I5 : sm_I) (L6 : sm_L) (R7 : sm_R), z = (some (.int r8), (xLay, I5, L6, (kG49_74 R7))) ∧ Φ (some (.int r8), (xLay, I5, L6, (kG49_74 R7))))) ∧ (¬ x1 < (if (1000 : Int32) < (I1 74 13) then (1000 : Int32) else (I1 74 13)) → Φ (some (.int (-1 : Int32)), (xLay, I1, L2, (kG49_74 R3))))))))) : sm_wp sm_P S (d + 1) 88 0 [.ref 0, .int x1, .int x2] [] (xLay, I, L, (kF49_74 R)) (0, 0) Φ := sm_wp_step (sm_ciH (h) (fun r4 I1 L2 R3 q12 => ⟨fun q11 => ((q12).1 q11), fun q11 => ⟨fun q10 => sm_ciH (((((q12).2 q11)).1 q10)) (fun r8 I5 L6 R7 q9 => q9), fun q10 => ((((q12).2 q11)).2 q10)⟩⟩))
end
section
/-! conditions of the class: count, choice, goes, forced, with kF behind each call; told = 12 (wip/pe/symg4.py h) -/
end
section
/-! conditions of the class: count, choice, goes, forced, with kF behind each call; told = 49 (wip/pe/symg4.py h) -/
end
section
/-! THE LAW: pairs out of what was gone through: ways (wip/pe/mkp1.py) -/
def XG (qt : Nat) (I : sm_I) (R : sm_R) (J : sm_I) (L' : sm_L) (R' : sm_R) : Prop := R' 0 9 = R 0 9 ∧ R' 2 6 = R 2 6 ∧ (∀ p j, lkC p j → J p j = I p j) ∧ kall qt (kys qt I) (KF qt I) J L'
theorem ig12_J {S : sm_C} {d : Nat} {I : sm_I} {L : sm_L} {R : sm_R} {Φ : sm_Z → Prop} (hI : lw_J I L R) (hq : R 0 9 = some 12) (h : ∀ (J : sm_I) (L' : sm_L), XG 12 I R J L' (kG12_74 R) → Φ (some (.int (if (KF 12 I).2.2.2.2.1 = true then 0 else 1)), (xLay, J, L', kG12_74 R))) : sm_wp sm_P S (d + 6) 56 0 [.ref 0] [] (xLay, I, L, kF12_74 R) (0, 0) Φ := by
  have m := hI.1.1
  obtain ⟨q, hq', g1, g2, g3⟩ := hI.2.1
  have e : q = 12 := Option.some.inj (g1.symm.trans hq)
  subst e
  rw [kF12_74_eq (w := (xLay, I, L, R)) m g1]
  refine ig_12_74 m g1 g2 g3 (fun J L' R' a1 a2 a3 a4 a5 a6 a7 => ?_)
  have c26 : kG12_74 R 2 6 = R 2 6 := rfl
  have c09 : kG12_74 R 0 9 = some 12 := rfl
  rcases a7 with ⟨b1, b2, b3, b4⟩ | ⟨b1, b2, b3, b4, b5, b6⟩
  · subst b2
    subst b3
    subst b4
    have eG : kG12_74 R' = R' := kG12_74_eq (w := (xLay, J, L', R')) m g1 a3
    have k := h J L' ⟨c09.trans hq.symm, c26, fun _ _ _ => rfl, a4⟩
    rw [eG] at k
    exact k
  · rw [b5]
    refine h J L' ⟨c09.trans hq.symm, c26, fun p j q => b2 p j ?_ ?_ ?_ ?_ ?_, ?_⟩
    · unfold lkC at q; omega
    · unfold lkC at q; omega
    · unfold lkC at q; omega
    · unfold lkC at q; omega
    · unfold lkC at q; omega
    · rw [a5, a6] at a4; exact a4
theorem ig49_J {S : sm_C} {d : Nat} {I : sm_I} {L : sm_L} {R : sm_R} {Φ : sm_Z → Prop} (hI : lw_J I L R) (hq : R 0 9 = some 49) (h : ∀ (J : sm_I) (L' : sm_L), XG 49 I R J L' (kG49_74 R) → Φ (some (.int (if (KF 49 I).2.2.2.2.1 = true then 0 else 1)), (xLay, J, L', kG49_74 R))) : sm_wp sm_P S (d + 6) 56 0 [.ref 0] [] (xLay, I, L, kF49_74 R) (0, 0) Φ := by
  have m := hI.1.1
  obtain ⟨q, hq', g1, g2, g3⟩ := hI.2.1
  have e : q = 49 := Option.some.inj (g1.symm.trans hq)
  subst e
  rw [kF49_74_eq (w := (xLay, I, L, R)) m g1]
  refine ig_49_74 m g1 g2 g3 (fun J L' R' a1 a2 a3 a4 a5 a6 a7 => ?_)
  have c26 : kG49_74 R 2 6 = R 2 6 := rfl
  have c09 : kG49_74 R 0 9 = some 49 := rfl
  rcases a7 with ⟨b1, b2, b3, b4⟩ | ⟨b1, b2, b3, b4, b5, b6⟩
  · subst b2
    subst b3
    subst b4
    have eG : kG49_74 R' = R' := kG49_74_eq (w := (xLay, J, L', R')) m g1 a3
    have k := h J L' ⟨c09.trans hq.symm, c26, fun _ _ _ => rfl, a4⟩
    rw [eG] at k
    exact k
  · rw [b5]
    refine h J L' ⟨c09.trans hq.symm, c26, fun p j q => b2 p j ?_ ?_ ?_ ?_ ?_, ?_⟩
    · unfold lkC at q; omega
    · unfold lkC at q; omega
    · unfold lkC at q; omega
    · unfold lkC at q; omega
    · unfold lkC at q; omega
    · rw [a5, a6] at a4; exact a4
section
variable {S : sm_C} {I : sm_I} {L : sm_L} {R : sm_R} {r : Int32}
/-- the reference's going through, behind the class's -/
theorem rx_J {X : sm_I → sm_L → sm_R → Int32 → sm_I → sm_L → sm_R → Prop} {d : Nat} {Φ : sm_Z → Prop} {I0 : sm_I} {L0 : sm_L} {R0 : sm_R} (hJ : lw_J I0 L0 R0) (mk : en_mem kl_tb2 klY (xLay, I, L, R)) (o : ∀ p j, 107 ≤ p → I p j = I0 p j ∧ R p j = R0 p j) {qt qi l : Nat} (hrf : rfE qt qi l I0 R0) (h : ∀ J, gofr I J → gor (rxs I l) (KF qt I0) J → Φ (none, (xLay, J, L, R))) : sm_wp sm_P S (d + 6) 135 0 [.ref 107] [] (xLay, I, L, R) (0, 0) Φ := by
  have mm : en_mem ml_tb mlX (xLay, I, L, R) := lw_mk (lw_pk (ky_dn mk)) hJ.1.2.1 o
  have e : kM R = R := ml_R mm
  obtain ⟨l', w, go⟩ : GM I := GM_cg (fun p j q => (o p j (by omega)).1) hJ.2.2.1
  have hl := hrf.2.2.2.2
  have e18 : I 107 18 = I0 107 18 := (o 107 18 (by omega)).1
  have hl' := w.1.1
  rw [e18] at hl'
  have el : l' = l := by omega
  subst el
  have b69 : 0 ≤ (I 107 69).toInt ∧ (I 107 69).toInt ≤ 1441 := mm.2.1 107 69 (0, 1441) (by decide +kernel)
  have eF : RF I l' = KF qt I0 := by
    rw [RF_at hJ.1 hrf]
    exact RF_cg (I := I0) (by rw [← (o 125 l' (by omega)).1]; exact w.2.2.2.2.2.2.1) (by rw [← (o 107 46 (by omega)).1]; exact w.2.2.2.2.2.2.2.1) (fun p j q => (o p j (by omega)).1)
  have g := rx_goes (S := S) (d := d) (L := L) (R := R) (Φ := Φ) w b69.1 (by omega) (fun n => go.resolve_left n) (fun J f _ _ k => by rw [e]; rw [eF] at k; exact h J f k)
  rw [e] at g
  exact g
/-- what stays the same then -/
theorem LJ_g {I0 : sm_I} {R0 : sm_R} {L0 : sm_L} (hJ : lw_J I0 L0 R0) (o : ∀ p j, 107 ≤ p → I p j = I0 p j ∧ R p j = R0 p j) {qt : Nat} {L1 : sm_L} (x : XG qt I0 R0 I L1 R) {I2 : sm_I} {R2 : sm_R} (g : ∀ p j, lkM p j → I2 p j = I p j) (f : ∀ p j, p < 107 → I2 p j = I p j ∧ R2 p j = R p j) : LJ I2 R2 := by
  obtain ⟨x1, x2, x3, -⟩ := x
  refine LJ_cg (I := I0) (R := R0) (fun p j q => ?_) ((f 0 9 (by omega)).2.trans x1) ((f 2 6 (by omega)).2.trans x2) hJ.1.2.2
  rcases q with q | q
  · rw [(f p j (by unfold lkC at q; omega)).1]; exact x3 p j q
  · rw [g p j q]; exact (o p j (by unfold lkM at q; omega)).1
theorem gofr_lk {J : sm_I} (h : gofr I J) : ∀ p j, lkM p j → J p j = I p j := fun p j q => h p j (by unfold lkM at q; omega)
def XwaysK (I : sm_I) (_ : sm_L) (R : sm_R) (r : Int32) (I1 : sm_I) (L1 : sm_L) (R1 : sm_R) : Prop := ∃ qt, R 0 9 = some qt ∧ XG qt I R I1 L1 R1 ∧ ((KF qt I).2.2.2.2.1 = true → r = -3) ∧ ((KF qt I).2.2.2.2.1 = false → r.toInt = (KF qt I).2.2.2.1)
end
end
