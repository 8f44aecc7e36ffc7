/-! what is told, below the counts: kept with its side -/
def rTw (s : Nat) (a : sg) (I : sm_I) : Prop := ∀ i : Nat, i < 10 → (i : Int) < (I 122 s).toInt → a.1 14 i = I 123 (10 * s + i) ∧ a.1 15 i = I 124 (10 * s + i)
def rOw (s : Nat) (a : sg) (I : sm_I) : Prop := (∀ i : Nat, i < 10 → (i : Int) < (I 122 s).toInt → (I 135 (10 * s + i) = -1 ∧ a.1 18 i = -1) ∨ ∃ k : Nat, rO1 s i k a I) ∧ (∀ k : Nat, (k : Int) < (I 134 s).toInt → ∃ i : Nat, i < 10 ∧ rO1 s i k a I)
def rSw (s : Nat) (a : sg) (I : sm_I) : Prop := (∀ i : Nat, i < 10 → (i : Int) < (I 125 s).toInt → rY s i a I) ∧ a.1 12 6 = sb (fun i => I 126 (10 * s + i)) (I 125 s).toNatClampNeg
def TDw (s : Nat) (a : sg) (I : sm_I) : Prop := rC s a I ∧ rTw s a I ∧ rOw s a I ∧ rSw s a I ∧ rQ s a I
theorem TDw_of {s : Nat} {a : sg} {I : sm_I} (h : TD s a I) : TDw s a I := ⟨h.1, fun i hi q => (h.2.1 i hi).1 q, ⟨fun i hi _ => h.2.2.1.1 i hi, h.2.2.1.2⟩, ⟨fun i hi q => (h.2.2.2.2.1.1 i hi).1 q, h.2.2.2.2.1.2⟩, h.2.2.2.2.2⟩
theorem TDw_0 {s : Nat} {a : sg} {I : sm_I} (hz : ∀ p, p = 118 ∨ p = 119 ∨ p = 122 ∨ p = 125 ∨ p = 134 ∨ p = 136 → I p s = 0) (ha : ∀ j, j < 5 → a.1 12 j = 0) (ha6 : a.1 12 6 = 0) : TDw s a I := by
  refine ⟨⟨by rw [ha 0 (by decide), hz 118 (by omega)], by rw [ha 1 (by decide), hz 119 (by omega)], by rw [ha 2 (by decide), hz 122 (by omega)], by rw [ha 3 (by decide), hz 125 (by omega)], by rw [ha 4 (by decide), hz 136 (by omega)]⟩, fun i hi q => ?_, ⟨fun i hi q => ?_, fun k q => ?_⟩, ⟨fun i hi q => ?_, ?_⟩, fun i hi q => ?_⟩
  · rw [hz 122 (by omega), kl_0] at q; omega
  · rw [hz 122 (by omega), kl_0] at q; omega
  · rw [hz 134 (by omega), kl_0] at q; omega
  · rw [hz 125 (by omega), kl_0] at q; omega
  · rw [ha6, hz 125 (by omega)]; rfl
  · rw [hz 136 (by omega), kl_0] at q; omega
theorem TDw_t {s : Nat} {a : sg} {I : sm_I} : TDw s a I = TDw s a (tcut I) := rfl
theorem TDw_cg {s : Nat} {a : sg} {I J : sm_I} (h : ∀ p j, 118 ≤ p → p ≤ 136 → J p j = I p j) (k : TDw s a I) : TDw s a J := by
  have e : tcut J = tcut I := funext (fun p => funext (fun j => by
    unfold tcut
    cases c : (Nat.ble 118 p && Nat.ble p 136) with
    | false => rfl
    | true =>
      obtain ⟨c1, c2⟩ := Bool.and_eq_true_iff.mp c
      exact h p j (Nat.le_of_ble_eq_true c1) (Nat.le_of_ble_eq_true c2)))
  rw [TDw_t] at k ⊢
  rw [e]; exact k
theorem TDw_lv {l : Nat} {a : sg} {I J : sm_I} {L : sm_L} {R : sm_R} (hl : l ≤ 1) (hm : en_mem ml_tb mlX (xLay, I, L, R)) (h0 : lvf l I J) (k : TDw l a I) : TDw l a J := by
  have h : ∀ p j, ml_hl l p j ∨ ml_hm l p j → J p j = I p j := fun p j q => h0 p j (q.elim Or.inl (fun q => Or.inr (Or.inl q)))
  obtain ⟨⟨c1, c2, c3, c4, c5⟩, kT, ⟨kO1, kO2⟩, ⟨kS1, kS2⟩, kQ⟩ := k
  have b134 : 0 ≤ (I 134 l).toInt ∧ (I 134 l).toInt ≤ 4 := ml_row hm (p := 134) (n := 2) (q := (0, 4)) (fun _ => rfl) l (by omega)
  have b125 : 0 ≤ (I 125 l).toInt ∧ (I 125 l).toInt ≤ 10 := ml_row hm (p := 125) (n := 2) (q := (0, 10)) (fun _ => rfl) l (by omega)
  have o1 : ∀ p, (p = 118 ∨ p = 119 ∨ p = 120 ∨ p = 122 ∨ p = 125 ∨ p = 134 ∨ p = 136) → J p l = I p l := fun p hp => h p l (by unfold ml_hl ml_hm; omega)
  have o10 : ∀ p i, i < 10 → (p = 123 ∨ p = 124 ∨ p = 126 ∨ p = 127 ∨ p = 128 ∨ p = 135) → J p (10 * l + i) = I p (10 * l + i) := fun p i hi hp => h p _ (by
    rcases hp with e | e | e | e | e | e
    · exact Or.inl (Or.inr (Or.inl ⟨Or.inl e, by omega, by omega⟩))
    · exact Or.inl (Or.inr (Or.inl ⟨Or.inr (Or.inl e), by omega, by omega⟩))
    · exact Or.inr (Or.inr (Or.inr (Or.inl ⟨Or.inl e, by omega, by omega⟩)))
    · exact Or.inr (Or.inr (Or.inr (Or.inl ⟨Or.inr (Or.inl e), by omega, by omega⟩)))
    · exact Or.inl (Or.inr (Or.inl ⟨Or.inr (Or.inr e), by omega, by omega⟩))
    · exact Or.inr (Or.inr (Or.inr (Or.inl ⟨Or.inr (Or.inr e), by omega, by omega⟩))))
  have oo : ∀ i k, i < 10 → rO1 l i k a I → rO1 l i k a J := fun i k hi q => by
    obtain ⟨q1, q2, q3, q4, q5, q6, q7, q8, q9⟩ := q
    have op : ∀ p, (p = 130 ∨ p = 131 ∨ p = 132 ∨ p = 133) → J p (240 + 4 * l + k) = I p (240 + 4 * l + k) := fun p hp => h p _ (Or.inr (Or.inr (Or.inr (Or.inr (Or.inr ⟨hp, Or.inl ⟨by omega, by omega⟩⟩)))))
    refine ⟨by rw [o1 134 (by omega)]; exact q1, by rw [o1 122 (by omega)]; exact q2, by rw [o10 135 i hi (by omega)]; exact q3, by rw [op 130 (by omega)]; exact q4, q5, by rw [op 131 (by omega)]; exact q6, q7, by rw [op 132 (by omega)]; exact q8, by rw [op 133 (by omega)]; exact q9⟩
  refine ⟨⟨by rw [o1 118 (by omega)]; exact c1, by rw [o1 119 (by omega)]; exact c2, by rw [o1 122 (by omega)]; exact c3, by rw [o1 125 (by omega)]; exact c4, by rw [o1 136 (by omega)]; exact c5⟩, fun i hi q => ?_, ⟨fun i hi q => ?_, fun k hk => ?_⟩, ⟨fun i hi q => ?_, ?_⟩, fun q hq hq2 => ?_⟩
  · rw [o1 122 (by omega)] at q
    rw [o10 123 i hi (by omega), o10 124 i hi (by omega)]; exact kT i hi q
  · rw [o1 122 (by omega)] at q
    rcases kO1 i hi q with q | ⟨k, q⟩
    · left; rw [o10 135 i hi (by omega)]; exact q
    · exact Or.inr ⟨k, oo i k hi q⟩
  · rw [o1 134 (by omega)] at hk
    obtain ⟨i, hi, q⟩ := kO2 k hk
    exact ⟨i, hi, oo i k hi q⟩
  · rw [o1 125 (by omega)] at q
    obtain ⟨y1, y2, y3, y4, y5⟩ := kS1 i hi q
    refine ⟨by rw [o10 127 i hi (by omega)]; exact y1, by rw [o10 128 i hi (by omega)]; exact y2, by rw [o10 128 i hi (by omega)]; exact y3, by rw [o10 128 i hi (by omega)]; exact y4, fun r hr => ?_⟩
    rw [o10 128 i hi (by omega)] at hr
    obtain ⟨z1, z2, z3, z4⟩ := y5 r hr
    have e : J 129 (4 * (10 * l + i) + r) = I 129 (4 * (10 * l + i) + r) := h 129 _ (Or.inl (Or.inr (Or.inr (Or.inl ⟨rfl, by omega, by omega⟩))))
    refine ⟨by rw [e]; exact z1, by rw [e]; exact z2, by rw [e]; exact z3, fun p hp => ?_⟩
    rw [e] at hp
    have op : ∀ c, (c = 130 ∨ c = 131 ∨ c = 132 ∨ c = 133) → J c (120 * l + 12 * i + 3 * r + p) = I c (120 * l + 12 * i + 3 * r + p) := fun c hc => h c _ (by
      have u1 : 120 * l ≤ 120 * l + 12 * i + 3 * r + p := by omega
      have u2 : 120 * l + 12 * i + 3 * r + p < 120 * l + 120 := by omega
      rcases hc with e | e
      · exact Or.inl (Or.inr (Or.inr (Or.inr ⟨e, u1, u2⟩)))
      · exact Or.inr (Or.inr (Or.inr (Or.inr (Or.inl ⟨e, u1, u2⟩)))))
    rw [op 130 (by omega), op 131 (by omega), op 132 (by omega), op 133 (by omega)]
    exact z4 p hp
  · have n := kl_nat (i := I 125 l) (by omega)
    rw [o1 125 (by omega), kS2]
    exact sb_cg _ (fun i hi => (o10 126 i (by omega) (by omega)).symm)
  · rw [o1 136 (by omega)] at hq2
    have op : ∀ c, (c = 130 ∨ c = 131 ∨ c = 132 ∨ c = 133) → J c (248 + 6 * l + q) = I c (248 + 6 * l + q) := fun c hc => h c _ (Or.inr (Or.inr (Or.inr (Or.inr (Or.inr ⟨hc, Or.inr ⟨by omega, by omega⟩⟩)))))
    rw [op 130 (by omega), op 131 (by omega), op 132 (by omega), op 133 (by omega)]
    exact kQ q hq hq2
