/-! the reference's bears, exact -/
section
variable {S : sm_C} {d : Nat} {Φ : sm_Z → Prop} {I : sm_I} {L : sm_L} {R : sm_R}
theorem bm_span {x : Int32} {p : Nat} (hp : x.toInt = p) (p1 : p < 260) (bx : 0 ≤ (I 130 p).toInt ∧ (I 130 p).toInt ≤ 9) (bz : -1 ≤ (I 131 p).toInt ∧ (I 131 p).toInt ≤ 9) (h4 : ¬ bst (I 138) (I 130 p) (I 131 p) → Φ (some (.int (-4)), (xLay, I, L, kM R))) (h0 : bst (I 138) (I 130 p) (I 131 p) → ¬ bhd (I 138) (I 130 p) (I 131 p) (I 132 p) (I 133 p) → Φ (some (.int 0), (xLay, I, L, kM R))) (h1 : bst (I 138) (I 130 p) (I 131 p) → bhd (I 138) (I 130 p) (I 131 p) (I 132 p) (I 133 p) → Φ (some (.int 1), (xLay, I, L, kM R))) : sm_wp sm_P S (d + 1) 101 0 [.ref 107, .int x] [] (xLay, I, L, kM R) (0, 0) Φ := by
  have px := tk_nat hp
  have v : vp_in x 260 := kl_in (by omega) (by omega)
  have inn : ∀ y : Int32, y = (if I 131 p = -1 then 0 else I 138 (I 131 p).toNatClampNeg) → bst (I 138) (I 130 p) (I 131 p) → sm_wp sm_P S d 141 0 [.int (I 138 (I 130 p).toNatClampNeg - y), .int (I 132 p), .int (I 133 p)] [] (xLay, I, L, (kM R)) (0, 0) (fun z => ∃ (r12 : Int32) (I10 : sm_I) (L11 : sm_L), z = (some (.int r12), (xLay, I10, L11, (kM R))) ∧ ((r12 = 0 → Φ (some (.int (0 : Int32)), (xLay, I10, L11, (kM R)))) ∧ (¬ r12 = 0 → Φ (some (.int (1 : Int32)), (xLay, I10, L11, (kM R)))))) := fun y ey q => by
    have h0 := h0 q
    have h1 := h1 q
    unfold bhd at h0 h1
    rw [← ey] at h0 h1
    refine yp_in (fun c => ⟨_, I, L, rfl, fun _ => h0 (fun k => c ⟨kl_nlt k.1, kl_nlt k.2⟩), fun z => absurd rfl z⟩) (fun a b => ⟨_, I, L, rfl, fun z => absurd z (by decide), fun _ => h1 ⟨fun k => ?_, fun k => ?_⟩⟩)
    · have k := kl_lt.mp k
      omega
    · have k := kl_lt.mp k
      omega
  refine v_X12_bearsSpan_0 ⟨v, ?_⟩
  rw [px]
  refine ⟨kl_in bx.1 (by omega), fun n1 e1 => ⟨v, fun e2 => ⟨fun e3 => h4 (fun k => k.1 (by rw [← e1]; exact e3)), fun e3 => ⟨fun z => absurd z (by decide), fun _ => ⟨v, v, ?_⟩⟩⟩, fun e2 => ⟨v, ?_⟩⟩⟩
  · rw [e1] at e3 ⊢
    exact inn 0 (by rw [if_pos e2]) ⟨e3, Or.inl e2⟩
  · have b0 : 0 ≤ (I 131 p).toInt := by
      have : (I 131 p).toInt ≠ -1 := fun q => e2 (en_ofI (by rw [q]; decide))
      omega
    refine ⟨kl_in b0 (by omega), fun n2 en2 => ⟨fun e3 => h4 (fun k => k.1 (by rw [← e1]; exact e3)), fun e3 => ⟨fun e4 => h4 (fun k => k.2.elim e2 (fun q => q (by rw [← en2]; exact e4))), fun e4 => ⟨v, v, ?_⟩⟩⟩⟩
    rw [e1] at e3 ⊢
    rw [en2] at e4 ⊢
    exact inn _ (by rw [if_neg e2]) ⟨e3, Or.inr e4⟩
def m_st (I : sm_I) (s c i : Nat) : Prop := bst (I 138) (I 130 (3 * (4 * s + c) + i)) (I 131 (3 * (4 * s + c) + i))
def m_hd (I : sm_I) (s c i : Nat) : Prop := bhd (I 138) (I 130 (3 * (4 * s + c) + i)) (I 131 (3 * (4 * s + c) + i)) (I 132 (3 * (4 * s + c) + i)) (I 133 (3 * (4 * s + c) + i))
theorem bm_5 {x2 x3 x4 : Int32} {s c : Nat} (hs : x2.toInt = s) (s1 : s < 20) (hc : x4.toInt = c) (c1 : c < 4) (b129 : 0 ≤ (I 129 (4 * s + c)).toInt ∧ (I 129 (4 * s + c)).toInt ≤ 3) (b130 : ∀ i, i < (I 129 (4 * s + c)).toNatClampNeg → 0 ≤ (I 130 (3 * (4 * s + c) + i)).toInt ∧ (I 130 (3 * (4 * s + c) + i)).toInt ≤ 9) (b131 : ∀ i, i < 260 → -1 ≤ (I 131 i).toInt ∧ (I 131 i).toInt ≤ 9) (hb : ∀ i, i < (I 129 (4 * s + c)).toNatClampNeg → ¬ m_st I s c i → Φ (some (.int (-4)), (xLay, I, L, kM R))) (hg : (∀ i, i < (I 129 (4 * s + c)).toNatClampNeg → m_st I s c i) → ∀ v : Int32, ((x3 = -2 ∧ v = x4 ∧ ∀ i, i < (I 129 (4 * s + c)).toNatClampNeg → m_hd I s c i) ∨ (x3 ≠ -2 ∧ v = x3 ∧ ∀ i, i < (I 129 (4 * s + c)).toNatClampNeg → m_hd I s c i) ∨ (v = x3 ∧ ∃ i, i < (I 129 (4 * s + c)).toNatClampNeg ∧ ¬ m_hd I s c i)) → sm_wp sm_P S (d + 2) 100 3 [.ref 107, .int x2, .int v, .int (x4 + (1 : Int32))] [] (xLay, I, L, (kM R)) (0, 0) Φ) : ∀ (m i : Nat) (x5 x6 : Int32), x6.toInt = i → i + m = (I 129 (4 * s + c)).toNatClampNeg → (∀ j, j < i → m_st I s c j) → ((x5 = 1 ∧ ∀ j, j < i → m_hd I s c j) ∨ (x5 = 0 ∧ ∃ j, j < i ∧ ¬ m_hd I s c j)) → sm_wp sm_P S (d + 2) 100 5 [.ref 107, .int x2, .int x3, .int x4, .int x5, .int x6] [] (xLay, I, L, (kM R)) (0, 0) Φ := by
  have nn := kl_nat (i := I 129 (4 * s + c)) b129.1
  have m4 : ((4 : Int32) * x2).toInt = 4 * (s : Int) := ml_mu (by decide) hs (by omega) (by omega)
  have s4 : (((4 : Int32) * x2) + x4).toInt = ((4 * s + c : Nat) : Int) := (ml_ad m4 hc (by omega) (by omega)).trans (by omega)
  have n4 := tk_nat s4
  have s12 : ((3 : Int32) * (((4 : Int32) * x2) + x4)).toInt = 3 * ((4 * s + c : Nat) : Int) := ml_mu (by decide) s4 (by omega) (by omega)
  intro m
  induction m with
  | zero =>
    intro i x5 x6 h6 hm hst hh
    refine v_X12_bears_5 ⟨kl_in (by omega) (by omega), ?_⟩
    rw [n4]
    refine ⟨fun _ => ⟨fun z => hg (fun j hj => hst j (by omega)) x3 (Or.inr (Or.inr ⟨rfl, ?_⟩)), fun z => ?_⟩, fun a => ?_⟩
    · rcases hh with ⟨e, -⟩ | ⟨-, j, hj, hq⟩
      · rw [e] at z; exact absurd z (by decide)
      · exact ⟨j, by omega, hq⟩
    · rcases hh with ⟨-, q⟩ | ⟨e, -⟩
      · have q' : ∀ j, j < (I 129 (4 * s + c)).toNatClampNeg → m_hd I s c j := fun j hj => q j (by omega)
        exact ⟨fun e3 => hg (fun j hj => hst j (by omega)) x4 (Or.inl ⟨e3, rfl, q'⟩), fun e3 => hg (fun j hj => hst j (by omega)) x3 (Or.inr (Or.inl ⟨e3, rfl, q'⟩))⟩
      · exact absurd e z
    · have a := kl_nle a
      omega
  | succ m ih =>
    intro i x5 x6 h6 hm hst hh
    have s6 := ml_in1 (x := x6) (by omega)
    have i6 : (x6 + 1).toInt = ((i + 1 : Nat) : Int) := by omega
    have p1 : 3 * (4 * s + c) + i < 260 := by omega
    refine v_X12_bears_5 ⟨kl_in (by omega) (by omega), ?_⟩
    rw [n4]
    refine ⟨fun a => ?_, fun _ n3 e3 => ?_⟩
    · have a := kl_le.mp a
      omega
    have h3 : n3.toInt = ((3 * (4 * s + c) + i : Nat) : Int) := by rw [e3, ml_ad s12 h6 (by omega) (by omega)]; omega
    have hs' : m_st I s c i → ∀ j, j < i + 1 → m_st I s c j := fun q j hj => by
      rcases Nat.lt_or_ge j i with u | u
      · exact hst j u
      · have : j = i := by omega
        subst this; exact q
    have bi := b130 i (by omega)
    refine bm_span h3 p1 bi (b131 _ p1) (fun q => ⟨_, I, L, rfl, fun _ => hb i (by omega) q, fun z => absurd rfl z⟩) (fun q g => ⟨_, I, L, rfl, fun z => absurd z (by decide), fun _ => ⟨fun z => ?_, fun z => ⟨fun w => absurd w (by decide), fun _ => ?_⟩⟩⟩) (fun q g => ⟨_, I, L, rfl, fun z => absurd z (by decide), fun _ => ⟨fun z => ?_, fun z => ⟨fun _ => ?_, fun w => absurd rfl w⟩⟩⟩)
    · exact ih (i + 1) 0 _ i6 (by omega) (hs' q) (Or.inr ⟨rfl, i, by omega, g⟩)
    · exact ih (i + 1) 0 _ i6 (by omega) (hs' q) (Or.inr ⟨rfl, i, by omega, g⟩)
    · refine ih (i + 1) 0 _ i6 (by omega) (hs' q) (Or.inr ⟨rfl, ?_⟩)
      rcases hh with ⟨e5, hh⟩ | ⟨e5, j, hj, hq⟩
      · rw [e5] at z; exact absurd z (by decide)
      · exact ⟨j, by omega, hq⟩
    · refine ih (i + 1) 1 _ i6 (by omega) (hs' q) (Or.inl ⟨rfl, fun j hj => ?_⟩)
      rcases hh with ⟨e5, hh⟩ | ⟨e5, j', hj', hq⟩
      · rcases Nat.lt_or_ge j i with u | u
        · exact hh j u
        · have : j = i := by omega
          subst this; exact g
      · exact absurd e5 z
theorem bm_3 {x2 : Int32} {s ch : Nat} (hs : x2.toInt = s) (s1 : s < 20) (hc : ch ≤ 4) (hch : (I 128 s).toInt = ch) (b129 : ∀ j, j < 80 → 0 ≤ (I 129 j).toInt ∧ (I 129 j).toInt ≤ 3) (b130 : ∀ c i, c < ch → i < (I 129 (4 * s + c)).toNatClampNeg → 0 ≤ (I 130 (3 * (4 * s + c) + i)).toInt ∧ (I 130 (3 * (4 * s + c) + i)).toInt ≤ 9) (b131 : ∀ i, i < 260 → -1 ≤ (I 131 i).toInt ∧ (I 131 i).toInt ≤ 9) (h : ∀ v : Int32, BS ch (fun c => (I 129 (4 * s + c)).toNatClampNeg) (m_st I s) (m_hd I s) v → Φ (some (.int v), (xLay, I, L, kM R))) : ∀ (m c : Nat) (x3 x4 : Int32), x4.toInt = c → c + m = ch → (∀ c', c' < c → ∀ i, i < (I 129 (4 * s + c')).toNatClampNeg → m_st I s c' i) → ((∃ c', c' < c ∧ (∀ i, i < (I 129 (4 * s + c')).toNatClampNeg → m_hd I s c' i) ∧ (∀ c2, c2 < c' → ∃ i, i < (I 129 (4 * s + c2)).toNatClampNeg ∧ ¬ m_hd I s c2 i) ∧ x3 = Int32.ofNat c') ∨ ((∀ c', c' < c → ∃ i, i < (I 129 (4 * s + c')).toNatClampNeg ∧ ¬ m_hd I s c' i) ∧ x3 = -2)) → sm_wp sm_P S (d + 2) 100 3 [.ref 107, .int x2, .int x3, .int x4] [] (xLay, I, L, (kM R)) (0, 0) Φ := by
  have nx := tk_nat hs
  have no2 : ∀ k, k < 4 → Int32.ofNat k ≠ -2 := by decide
  intro m
  induction m with
  | zero =>
    intro c x3 x4 h4 hm hst hh
    have e : c = ch := by omega
    subst e
    refine v_X12_bears_3 ⟨kl_in (by omega) (by omega), fun _ => h x3 (Or.inr ⟨hst, hh⟩), fun a => ?_⟩
    have a := kl_nle a
    rw [nx] at a
    omega
  | succ m ih =>
    intro c x3 x4 h4 hm hst hh
    have s4 := ml_in1 (x := x4) (by omega)
    refine v_X12_bears_3 ⟨kl_in (by omega) (by omega), fun a => ?_, fun _ => ?_⟩
    · have a := kl_le.mp a
      rw [nx] at a
      omega
    refine bm_5 hs s1 h4 (by omega) (b129 _ (by omega)) (fun i hi => b130 c i (by omega) hi) b131 (fun i hi q => h _ (Or.inl ⟨c, by omega, i, hi, q, rfl⟩)) (fun hsm v hv => ih (c + 1) v _ (by omega) (by omega) (fun c' c1 => ?_) ?_) _ 0 1 0 (by decide) (Nat.zero_add _) (fun j hj => absurd hj (Nat.not_lt_zero j)) (Or.inl ⟨rfl, fun j hj => absurd hj (Nat.not_lt_zero j)⟩)
    · rcases Nat.lt_or_ge c' c with u | u
      · exact hst c' u
      · have : c' = c := by omega
        subst this; exact hsm
    · have ex4 : x4 = Int32.ofNat c := en_ofI (by rw [h4, Int32.toInt_ofNat_of_lt (by omega)])
      rcases hv with ⟨e3, ev, q⟩ | ⟨e3, ev, q⟩ | ⟨ev, q⟩
      · rcases hh with ⟨c', c1, q1, q2, q3⟩ | ⟨q1, q2⟩
        · exact absurd (q3.symm.trans e3) (no2 c' (by omega))
        · exact Or.inl ⟨c, by omega, q, q1, by rw [ev, ex4]⟩
      · rcases hh with ⟨c', c1, q1, q2, q3⟩ | ⟨q1, q2⟩
        · exact Or.inl ⟨c', by omega, q1, q2, by rw [ev, q3]⟩
        · exact absurd q2 e3
      · rcases hh with ⟨c', c1, q1, q2, q3⟩ | ⟨q1, q2⟩
        · exact Or.inl ⟨c', by omega, q1, q2, by rw [ev, q3]⟩
        · refine Or.inr ⟨fun c' c1 => ?_, by rw [ev, q2]⟩
          rcases Nat.lt_or_ge c' c with u | u
          · exact q1 c' u
          · have : c' = c := by omega
            subst this; exact q
theorem bm_bears0 {x1 : Int32} {l : Nat} (hl : (I 107 18).toInt = l) (l1 : l ≤ 1) (hm : en_mem ml_tb mlX (xLay, I, L, R)) (h0 : ¬ (0 ≤ x1.toInt ∧ x1.toInt < (I 125 l).toInt) → Φ (some (.int (-1)), (xLay, I, L, kM R))) (h : ∀ n : Nat, x1.toInt = n → x1.toInt < (I 125 l).toInt → ∀ v : Int32, BS (I 128 (10 * l + n)).toNatClampNeg (fun c => (I 129 (4 * (10 * l + n) + c)).toNatClampNeg) (m_st I (10 * l + n)) (m_hd I (10 * l + n)) v → Φ (some (.int v), (xLay, I, L, kM R))) : sm_wp sm_P S (d + 2) 100 0 [.ref 107, .int x1] [] (xLay, I, L, kM R) (0, 0) Φ := by
  have b128 : ∀ j, j < 20 → 0 ≤ (I 128 j).toInt ∧ (I 128 j).toInt ≤ 4 := fun j hj => ml_row hm (p := 128) (n := 20) (q := (0, 4)) (fun _ => rfl) j hj
  have b129 : ∀ j, j < 80 → 0 ≤ (I 129 j).toInt ∧ (I 129 j).toInt ≤ 3 := fun j hj => ml_row hm (p := 129) (n := 80) (q := (0, 3)) (fun _ => rfl) j hj
  have b130 : ∀ j, j < 260 → -1 ≤ (I 130 j).toInt ∧ (I 130 j).toInt ≤ 9 := fun j hj => ml_row hm (p := 130) (n := 260) (q := (-1, 9)) (fun _ => rfl) j hj
  have b131 : ∀ j, j < 260 → -1 ≤ (I 131 j).toInt ∧ (I 131 j).toInt ≤ 9 := fun j hj => ml_row hm (p := 131) (n := 260) (q := (-1, 9)) (fun _ => rfl) j hj
  have V : mlV I l := hm.2.2.2.2.2.2.1 l hl.symm
  refine v_X12_bears_0 (yp_inS hl l1 (ml_cs l1 hm).2.2.2.1 (fun c => ⟨_, I, L, rfl, fun _ => h0 c, fun z => absurd rfl z⟩) (fun a b => ⟨_, I, L, rfl, fun z => absurd z (by decide), fun _ n4 e4 => ?_⟩))
  have nx := kl_nat a
  have bb := (ml_cs l1 hm).2.2.2.1
  have q1 : ((10 : Int32) * (I 107 18)).toInt = 10 * (l : Int) := ml_mu (by decide) hl (by omega) (by omega)
  have q2 : n4.toInt = ((10 * l + x1.toNatClampNeg : Nat) : Int) := by rw [e4, ml_ad q1 rfl (by omega) (by omega)]; omega
  have bn := b128 (10 * l + x1.toNatClampNeg) (by omega)
  have nc := kl_nat bn.1
  refine bm_3 (ch := (I 128 (10 * l + x1.toNatClampNeg)).toNatClampNeg) q2 (by omega) (by omega) (by omega) b129 (fun c i hc hi => ⟨?_, (b130 _ ?_).2⟩) b131 (h x1.toNatClampNeg (by omega) b) _ 0 (-2) 0 (by decide) (Nat.zero_add _) (fun c' c1 => absurd c1 (Nat.not_lt_zero c')) (Or.inr ⟨fun c' c1 => absurd c1 (Nat.not_lt_zero c'), rfl⟩)
  · have n9 := kl_nat (b129 (4 * (10 * l + x1.toNatClampNeg) + c) (by omega)).1
    exact V.2 x1.toNatClampNeg c i (by omega) (by omega) (by omega)
  · have n9 := kl_nat (b129 (4 * (10 * l + x1.toNatClampNeg) + c) (by omega)).1
    have := (b129 (4 * (10 * l + x1.toNatClampNeg) + c) (by omega)).2
    omega
end
