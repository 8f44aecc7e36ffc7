/-! bears, as a specification of its answer -/
def bst (h : Nat → Int32) (x y : Int32) : Prop := h x.toNatClampNeg ≠ -1 ∧ (y = -1 ∨ h y.toNatClampNeg ≠ -1)
def bhd (h : Nat → Int32) (x y a b : Int32) : Prop := ¬ (h x.toNatClampNeg - (if y = -1 then 0 else h y.toNatClampNeg)) < a ∧ ¬ b < (h x.toNatClampNeg - (if y = -1 then 0 else h y.toNatClampNeg))
def BS (ch : Nat) (pt : Nat → Nat) (st hd : Nat → Nat → Prop) (v : Int32) : Prop := (∃ c, c < ch ∧ ∃ i, i < pt c ∧ ¬ st c i ∧ v = -4) ∨ ((∀ c, c < ch → ∀ i, i < pt c → st c i) ∧ ((∃ c, c < ch ∧ (∀ i, i < pt c → hd c i) ∧ (∀ c', c' < c → ∃ i, i < pt c' ∧ ¬ hd c' i) ∧ v = Int32.ofNat c) ∨ ((∀ c, c < ch → ∃ i, i < pt c ∧ ¬ hd c i) ∧ v = -2)))
theorem BS_fun {ch : Nat} {pt : Nat → Nat} {st hd : Nat → Nat → Prop} {v w : Int32} (h : BS ch pt st hd v) (g : BS ch pt st hd w) : v = w := by
  rcases h with ⟨c, hc, i, hi, s, e⟩ | ⟨s, h⟩
  · rcases g with ⟨c', _, i', _, _, e'⟩ | ⟨s', _⟩
    · rw [e, e']
    · exact absurd (s' c hc i hi) s
  · rcases g with ⟨c', hc', i', hi', s', e'⟩ | ⟨_, g⟩
    · exact absurd (s c' hc' i' hi') s'
    · rcases h with ⟨c, hc, h1, h2, e⟩ | ⟨h1, e⟩
      · rcases g with ⟨c', hc', g1, g2, e'⟩ | ⟨g1, e'⟩
        · rcases Nat.lt_trichotomy c c' with l | l | l
          · obtain ⟨i, hi, n⟩ := g2 c l
            exact absurd (h1 i hi) n
          · rw [e, e', l]
          · obtain ⟨i, hi, n⟩ := h2 c' l
            exact absurd (g1 i hi) n
        · obtain ⟨i, hi, n⟩ := g1 c hc
          exact absurd (h1 i hi) n
      · rcases g with ⟨c', hc', g1, g2, e'⟩ | ⟨g1, e'⟩
        · obtain ⟨i, hi, n⟩ := h1 c' hc'
          exact absurd (g1 i hi) n
        · rw [e, e']
theorem BS_cg {ch : Nat} {pt pt' : Nat → Nat} {st hd st' hd' : Nat → Nat → Prop} {v : Int32} (hp : ∀ c, c < ch → pt c = pt' c) (hs : ∀ c, c < ch → ∀ i, i < pt c → (st c i ↔ st' c i)) (hh : ∀ c, c < ch → ∀ i, i < pt c → (hd c i ↔ hd' c i)) (h : BS ch pt st hd v) : BS ch pt' st' hd' v := by
  rcases h with ⟨c, hc, i, hi, s, e⟩ | ⟨s, h⟩
  · exact Or.inl ⟨c, hc, i, by rw [← hp c hc]; exact hi, fun q => s ((hs c hc i hi).mpr q), e⟩
  · refine Or.inr ⟨fun c hc i hi => (hs c hc i (by rw [hp c hc]; exact hi)).mp (s c hc i (by rw [hp c hc]; exact hi)), ?_⟩
    rcases h with ⟨c, hc, h1, h2, e⟩ | ⟨h1, e⟩
    · refine Or.inl ⟨c, hc, fun i hi => (hh c hc i (by rw [hp c hc]; exact hi)).mp (h1 i (by rw [hp c hc]; exact hi)), fun c' hc' => ?_, e⟩
      obtain ⟨i, hi, n⟩ := h2 c' hc'
      exact ⟨i, by rw [← hp c' (by omega)]; exact hi, fun q => n ((hh c' (by omega) i hi).mpr q)⟩
    · refine Or.inr ⟨fun c hc => ?_, e⟩
      obtain ⟨i, hi, n⟩ := h1 c hc
      exact ⟨i, by rw [← hp c hc]; exact hi, fun q => n ((hh c hc i hi).mpr q)⟩
