/-! what the pure machine holds and what the reference holds -/
def srt (k s : Int32) : Prop := (k = 0 ∧ s = 0) ∨ (k = 1 ∧ s = 1) ∨ (k = 3 ∧ s = 2) ∨ (k = 6 ∧ s = 3) ∨ (k = 12 ∧ s = 4)
theorem srt_iff {k s k' s' : Int32} (h : srt k s) (h' : srt k' s') : k = k' ↔ s = s' := by
  unfold srt at h h'
  rcases h with ⟨rfl, rfl⟩ | ⟨rfl, rfl⟩ | ⟨rfl, rfl⟩ | ⟨rfl, rfl⟩ | ⟨rfl, rfl⟩ <;> rcases h' with ⟨rfl, rfl⟩ | ⟨rfl, rfl⟩ | ⟨rfl, rfl⟩ | ⟨rfl, rfl⟩ | ⟨rfl, rfl⟩ <;> decide
/-- the first n names -/
def rN (K : Nat → Int32) (V W : Nat → Int64) (t n : Nat) (a : sg) (I : sm_I) (L : sm_L) : Prop := ∃ ti : Nat → Nat, ∀ i, i < n → ti i < t ∧ K (ti i) = 15 ∧ a.2 i = V (ti i) ∧ L 115 i = W (ti i) ∧ srt (a.1 10 i) (I 116 i) ∧ a.1 11 i = I 117 i
section
variable {K : Nat → Int32} {P : Nat → Nat} {V W : Nat → Int64} {N : Nat → Int32} {c : Nat} {t n : Nat} {a a' : sg} {I J : sm_I} {L L' : sm_L}
theorem rN_cg (h : rN K V W t n a I L) (t' : Nat) (ht : t ≤ t') (h1 : ∀ i, i < n → a'.2 i = a.2 i ∧ a'.1 10 i = a.1 10 i ∧ a'.1 11 i = a.1 11 i) (h2 : ∀ i, i < n → L' 115 i = L 115 i ∧ J 116 i = I 116 i ∧ J 117 i = I 117 i) : rN K V W t' n a' J L' := by
  obtain ⟨ti, h⟩ := h
  refine ⟨ti, fun i hi => ?_⟩
  obtain ⟨q1, q2, q3, q4, q5, q6⟩ := h i hi
  rw [(h1 i hi).1, (h1 i hi).2.1, (h1 i hi).2.2, (h2 i hi).1, (h2 i hi).2.1, (h2 i hi).2.2]
  exact ⟨by omega, q2, q3, q4, q5, q6⟩
theorem rN_fnd {kd so : Int32} {u : Nat} (hT : TS K P V W N c) (h : rN K V W t n a I L) (tc : t ≤ c) (hk : srt kd so) (uc : u < c) (ku : K u = 15) : ∀ k i, i + k ≤ n → fnd a.1 a.2 (V u) kd k i = fm I L (W u) so k i := by
  obtain ⟨ti, h⟩ := h
  intro k
  induction k with
  | zero => intro i _; rfl
  | succ k ih =>
    intro i hi
    obtain ⟨q1, q2, q3, q4, q5, q6⟩ := h i (by omega)
    show (if a.2 i = V u then (if a.1 10 i = kd then a.1 11 i else fnd a.1 a.2 (V u) kd k (i + 1)) else fnd a.1 a.2 (V u) kd k (i + 1)) = (if L 115 i = W u then (if I 116 i = so then I 117 i else fm I L (W u) so k (i + 1)) else fm I L (W u) so k (i + 1))
    have e1 : a.2 i = V u ↔ L 115 i = W u := by rw [q3, q4]; exact hT.2.2.2.2.2.2 (ti i) u (by omega) uc q2 ku
    have e2 := srt_iff q5 hk
    rw [ih (i + 1) (by omega), q6]
    by_cases c1 : a.2 i = V u
    · rw [if_pos c1, if_pos (e1.mp c1)]
      by_cases c2 : a.1 10 i = kd
      · rw [if_pos c2, if_pos (e2.mp c2)]
      · rw [if_neg c2, if_neg (fun q => c2 (e2.mpr q))]
    · rw [if_neg c1, if_neg (fun q => c1 (e1.mpr q))]
theorem fnd_last {s : sm_I} {l : Nat → Int64} {nm : Int64} {kd : Int32} : ∀ k i, s 10 (i + k) ≠ kd → fnd s l nm kd (k + 1) i = fnd s l nm kd k i := by
  intro k
  induction k with
  | zero =>
    intro i h
    show (if l i = nm then (if s 10 i = kd then s 11 i else -1) else -1) = -1
    rw [if_neg (show ¬ s 10 i = kd from h)]
    by_cases c1 : l i = nm
    · rw [if_pos c1]
    · rw [if_neg c1]
  | succ k ih =>
    intro i h
    show (if l i = nm then (if s 10 i = kd then s 11 i else fnd s l nm kd (k + 1) (i + 1)) else fnd s l nm kd (k + 1) (i + 1)) = (if l i = nm then (if s 10 i = kd then s 11 i else fnd s l nm kd k (i + 1)) else fnd s l nm kd k (i + 1))
    rw [ih (i + 1) (by rw [show i + 1 + k = i + (k + 1) by omega]; exact h)]
/-- what is looked up is found alike, also while a name of another kind waits -/
theorem rN_fd {kd so : Int32} {u : Nat} (hT : TS K P V W N c) (h : rN K V W t (cntm I) a I L) (tc : t ≤ c) (hk : srt kd so) (hc : cnt a.1 = cntm I ∨ (cnt a.1 = cntm I + 1 ∧ a.1 10 (cntm I) ≠ kd)) (uc : u < c) (ku : K u = 15) : fd a (V u) kd = fdm I L (W u) so := by
  unfold fd fdm
  rcases hc with hc | ⟨hc, hk2⟩
  · rw [hc]; exact rN_fnd hT h tc hk uc ku (cntm I) 0 (by omega)
  · rw [hc, fnd_last (cntm I) 0 (by rw [Nat.zero_add]; exact hk2)]
    exact rN_fnd hT h tc hk uc ku (cntm I) 0 (by omega)
theorem twc_iff {l : Nat → Int64} {nm : Int64} : ∀ k i, twc l nm k i = true ↔ ∃ j, i ≤ j ∧ j < i + k ∧ l j = nm := by
  intro k
  induction k with
  | zero =>
    intro i
    exact ⟨fun q => absurd (show false = true from q) (by decide), fun ⟨j, j1, j2, _⟩ => by omega⟩
  | succ k ih =>
    intro i
    show (if l i = nm then true else twc l nm k (i + 1)) = true ↔ _
    by_cases c1 : l i = nm
    · rw [if_pos c1]
      exact ⟨fun _ => ⟨i, Nat.le_refl _, by omega, c1⟩, fun _ => rfl⟩
    · rw [if_neg c1, ih (i + 1)]
      refine ⟨fun ⟨j, j1, j2, j3⟩ => ⟨j, by omega, by omega, j3⟩, fun ⟨j, j1, j2, j3⟩ => ⟨j, ?_, by omega, j3⟩⟩
      rcases Nat.lt_or_ge i j with q | q
      · omega
      · have : j = i := by omega
        subst this
        exact absurd j3 c1
theorem rN_tw {u : Nat} (hT : TS K P V W N c) (h : rN K V W t n a I L) (tc : t ≤ c) (uc : u < c) (ku : K u = 15) : (∃ i, i < n ∧ L 115 i = W u) ↔ twc a.2 (V u) n 0 = true := by
  obtain ⟨ti, h⟩ := h
  rw [twc_iff]
  constructor
  · intro ⟨i, i1, i2⟩
    obtain ⟨q1, q2, q3, q4, q5, q6⟩ := h i i1
    exact ⟨i, Nat.zero_le _, by omega, by rw [q3]; exact (hT.2.2.2.2.2.2 (ti i) u (by omega) uc q2 ku).mpr (by rw [← q4]; exact i2)⟩
  · intro ⟨i, _, i1, i2⟩
    obtain ⟨q1, q2, q3, q4, q5, q6⟩ := h i (by omega)
    exact ⟨i, by omega, by rw [q4]; exact (hT.2.2.2.2.2.2 (ti i) u (by omega) uc q2 ku).mp (by rw [← q3]; exact i2)⟩
/-- one name more on both sides -/
theorem rN_add {so : Int32} {u t' : Nat} (h : rN K V W t n a I L) (ht : t ≤ t') (u1 : u < t') (ku : K u = 15) (h1 : ∀ i, i < n → a'.2 i = a.2 i ∧ a'.1 10 i = a.1 10 i ∧ a'.1 11 i = a.1 11 i) (h2 : ∀ i, i < n → L' 115 i = L 115 i ∧ J 116 i = I 116 i ∧ J 117 i = I 117 i) (e1 : a'.2 n = V u) (e2 : L' 115 n = W u) (e3 : srt (a'.1 10 n) (J 116 n)) (e4 : a'.1 11 n = J 117 n) : rN K V W t' (n + 1) a' J L' := by
  obtain ⟨ti, h⟩ := h
  refine ⟨fun i => if i = n then u else ti i, fun i hi => ?_⟩
  by_cases c1 : i = n
  · subst c1
    show (if i = i then u else ti i) < t' ∧ K (if i = i then u else ti i) = 15 ∧ a'.2 i = V (if i = i then u else ti i) ∧ L' 115 i = W (if i = i then u else ti i) ∧ _
    rw [if_pos rfl]
    exact ⟨u1, ku, e1, e2, e3, e4⟩
  · show (if i = n then u else ti i) < t' ∧ K (if i = n then u else ti i) = 15 ∧ a'.2 i = V (if i = n then u else ti i) ∧ L' 115 i = W (if i = n then u else ti i) ∧ _
    rw [if_neg c1]
    have hi : i < n := by omega
    obtain ⟨q1, q2, q3, q4, q5, q6⟩ := h i hi
    rw [(h1 i hi).1, (h1 i hi).2.1, (h1 i hi).2.2, (h2 i hi).1, (h2 i hi).2.1, (h2 i hi).2.2]
    exact ⟨by omega, q2, q3, q4, q5, q6⟩
end
/-! what a new name does to the pure machine -/
section
variable {v : Int64} {a : sg}
def nm_b (v : Int64) (a : sg) : sg := (sm_up a.1 10 (cnt a.1) (nm_kd a), nmu a.2 (cnt a.1) v)
theorem nm_add_u : nm_add v a = u2 (u2 (nb_new (nm_kd a) (nm_b v a)).2 11 (cnt a.1) (nb_new (nm_kd a) (nm_b v a)).1) 2 5 (a.1 2 5 + 1) := rfl
theorem nm_b_o {p j : Nat} (h : p ≠ 10) : (nm_b v a).1 p j = a.1 p j := en_up_ne _ _ _ _ (by omega)
theorem sy_new_o {b : Bool} {p j : Nat} (h : p ≠ 12) (h2 : p ≠ 22) (h3 : p ≠ 23) : (sy_new b a).1 p j = a.1 p j := by
  unfold sy_new
  by_cases c1 : a.1 12 3 < 10
  · rw [if_pos c1, u2_ne _ _ _ _ (by omega), u2_ne _ _ _ _ (by omega), u2_ne _ _ _ _ (by omega)]
    cases b with
    | true => exact u2_ne _ _ _ _ (by omega)
    | false => rfl
  · rw [if_neg c1]
theorem sy_new_2 {b : Bool} : (sy_new b a).2 = a.2 := by
  unfold sy_new
  by_cases c1 : a.1 12 3 < 10
  · rw [if_pos c1]
    cases b with
    | true => rfl
    | false => rfl
  · rw [if_neg c1]
theorem nb_new_o {k : Int32} {p j : Nat} (h : p ≠ 12) (h2 : p ≠ 22) (h3 : p ≠ 23) : (nb_new k a).2.1 p j = a.1 p j := by
  unfold nb_new
  by_cases c0 : k.toInt = 0
  · rw [if_pos c0]; exact u2_ne _ _ _ _ (by omega)
  · rw [if_neg c0]
    by_cases c1 : k.toInt = 1
    · rw [if_pos c1]; exact u2_ne _ _ _ _ (by omega)
    · rw [if_neg c1]
      by_cases c2 : k.toInt = 3
      · rw [if_pos c2]; exact u2_ne _ _ _ _ (by omega)
      · rw [if_neg c2]
        by_cases c3 : k.toInt = 12
        · rw [if_pos c3]; exact u2_ne _ _ _ _ (by omega)
        · rw [if_neg c3]; exact sy_new_o h h2 h3
theorem nb_new_2 {k : Int32} : (nb_new k a).2.2 = a.2 := by
  unfold nb_new
  by_cases c0 : k.toInt = 0
  · rw [if_pos c0]; rfl
  · rw [if_neg c0]
    by_cases c1 : k.toInt = 1
    · rw [if_pos c1]; rfl
    · rw [if_neg c1]
      by_cases c2 : k.toInt = 3
      · rw [if_pos c2]; rfl
      · rw [if_neg c2]
        by_cases c3 : k.toInt = 12
        · rw [if_pos c3]; rfl
        · rw [if_neg c3]; exact sy_new_2
theorem nm_add_2 : (nm_add v a).2 = nmu a.2 (cnt a.1) v := by
  rw [nm_add_u]
  show (nb_new (nm_kd a) (nm_b v a)).2.2 = _
  rw [nb_new_2]; rfl
theorem nm_add_o {p j : Nat} (h1 : p ≠ 10) (h2 : p ≠ 11) (h3 : ¬ (p = 2 ∧ j = 5)) : (nm_add v a).1 p j = (nb_new (nm_kd a) (nm_b v a)).2.1 p j := by
  rw [nm_add_u, u2_ne _ _ _ _ h3, u2_ne _ _ _ _ (by omega)]
theorem nm_add_5 : (nm_add v a).1 2 5 = a.1 2 5 + 1 := by rw [nm_add_u, u2_eq]
theorem nm_add_10 {i : Nat} : (nm_add v a).1 10 i = if i = cnt a.1 then nm_kd a else a.1 10 i := by
  rw [nm_add_u, u2_ne _ _ _ _ (by omega), u2_ne _ _ _ _ (by omega), nb_new_o (by decide) (by decide) (by decide)]
  show sm_up a.1 10 (cnt a.1) (nm_kd a) 10 i = _
  by_cases c1 : i = cnt a.1
  · rw [if_pos c1, c1, en_up_eq]
  · rw [if_neg c1, en_up_ne _ _ _ _ (by omega)]
theorem nm_add_11 {i : Nat} : (nm_add v a).1 11 i = if i = cnt a.1 then (nb_new (nm_kd a) (nm_b v a)).1 else a.1 11 i := by
  rw [nm_add_u, u2_ne _ _ _ _ (by omega)]
  by_cases c1 : i = cnt a.1
  · rw [if_pos c1, c1, u2_eq]
  · rw [if_neg c1, u2_ne _ _ _ _ (by omega), nb_new_o (by decide) (by decide) (by decide), nm_b_o (by decide)]
theorem nm_add_c (h0 : 0 ≤ (a.1 2 5).toInt) (h1 : (a.1 2 5).toInt ≤ 40) : cnt (nm_add v a).1 = cnt a.1 + 1 := by
  unfold cnt
  rw [nm_add_5]
  have n := kl_nat h0
  have s := ml_in1 (x := a.1 2 5) (by omega)
  exact tk_nat (by omega)
theorem mnn_s {n x : Int32} (h : x.toInt < n.toInt) (h2 : n.toInt ≤ 100) : mnn n x = x + 1 := by
  unfold mnn
  have s := ml_in1 (x := x) (by omega)
  rw [if_neg (fun q => by rw [kl_lt] at q; omega)]
end
