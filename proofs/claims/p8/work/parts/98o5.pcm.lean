/-! the reference's walk, move, breaks, pick, exact (wip/pe/mkb3.py) -/
section
variable {S : sm_C} {d : Nat} {Φ : sm_Z → Prop} {I : sm_I} {L : sm_L} {R : sm_R}
theorem sub1 {x : Int32} (h : -1000 ≤ x.toInt) : (x - 1).toInt = x.toInt - 1 := by
  have b := Int32.toInt_lt x
  rw [Int32.toInt_sub, kl_1]
  exact en_bmod (by omega) (by omega) (Or.inl rfl)
theorem bx_walk {x y : Int32} {l : Nat} (hl : (I 107 18).toInt = l) (l1 : l ≤ 1) (b6 : 0 ≤ (I 119 l).toInt ∧ (I 119 l).toInt ≤ 6) (h0 : ¬ ((0 ≤ x.toInt ∧ x.toInt < (I 119 l).toInt) ∧ (0 ≤ y.toInt ∧ y.toInt < (I 119 l).toInt)) → Φ (some (.int (-1)), (xLay, I, L, kM R))) (h1 : 0 ≤ x.toInt → x.toInt < (I 119 l).toInt → 0 ≤ y.toInt → y.toInt < (I 119 l).toInt → Φ (some (.int (if I 139 (6 * x.toNatClampNeg + y.toNatClampNeg) = -1 then -2 else I 139 (6 * x.toNatClampNeg + y.toNatClampNeg))), (xLay, I, L, kM R))) : sm_wp sm_P S (d + 1) 209 0 [.ref 107, .int x, .int y] [] (xLay, I, L, kM R) (0, 0) Φ := by
  have c6 : (6 : Int32).toInt = 6 := by decide
  have v2 : vp_in (I 107 18) 2 := kl_in (by omega) (by omega)
  have nl := tk_nat hl
  refine p_X12_walk_0 ⟨v2, fun n1 e1 => ?_⟩
  rw [nl] at e1
  have s1 : n1.toInt = (I 119 l).toInt - 1 := by rw [e1]; exact sub1 (by omega)
  refine yp_in (fun c => ⟨_, I, L, rfl, fun _ => h0 (fun k => c ?_), fun z => absurd rfl z⟩) (fun a1 a2 => ⟨_, I, L, rfl, fun z => absurd z (by decide), fun _ => ⟨v2, fun n5 e5 => ?_⟩⟩)
  · rw [kl_0]; omega
  rw [nl] at e5
  rw [kl_0] at a1
  have s5 : n5.toInt = (I 119 l).toInt - 1 := by rw [e5]; exact sub1 (by omega)
  refine yp_in (fun c => ⟨_, I, L, rfl, fun _ => h0 (fun k => c ?_), fun z => absurd rfl z⟩) (fun b1 b2 => ⟨_, I, L, rfl, fun z => absurd z (by decide), fun _ => ?_⟩)
  · rw [kl_0]; omega
  rw [kl_0] at b1
  have nx := kl_nat a1
  have ny := kl_nat b1
  have m6 : ((6 : Int32) * x).toInt = 6 * x.toInt := ml_mu c6 rfl (by omega) (by omega)
  have s6 : (((6 : Int32) * x) + y).toInt = ((6 * x.toNatClampNeg + y.toNatClampNeg : Nat) : Int) := (ml_ad m6 rfl (by omega) (by omega)).trans (by omega)
  have t6 := tk_nat s6
  have f := h1 a1 (by omega) b1 (by omega)
  refine ⟨kl_in (by omega) (by omega), fun n9 e9 => ⟨fun e => ?_, fun e => ?_⟩⟩
  · rw [t6] at e9
    rw [e9] at e
    rw [if_pos e] at f
    exact f
  · rw [t6] at e9
    rw [e9] at e ⊢
    rw [if_neg e] at f
    exact f
theorem bx_move {x y : Int32} (b46 : 0 ≤ (I 107 46).toInt ∧ (I 107 46).toInt ≤ 45) (h0 : ¬ (0 ≤ x.toInt ∧ x.toInt < (I 107 46).toInt ∧ 0 ≤ y.toInt ∧ y.toInt ≤ 2) → Φ (some (.int (-1)), (xLay, I, L, kM R))) (h1 : 0 ≤ x.toInt → x.toInt < (I 107 46).toInt → y.toInt = 0 → Φ (some (.int (I 140 x.toNatClampNeg)), (xLay, I, L, kM R))) (h2 : 0 ≤ x.toInt → x.toInt < (I 107 46).toInt → y.toInt = 1 → Φ (some (.int (I 141 x.toNatClampNeg)), (xLay, I, L, kM R))) (h3 : 0 ≤ x.toInt → x.toInt < (I 107 46).toInt → y.toInt = 2 → Φ (some (.int (if I 142 x.toNatClampNeg = -1 then -2 else I 142 x.toNatClampNeg)), (xLay, I, L, kM R))) : sm_wp sm_P S (d + 1) 164 0 [.ref 107, .int x, .int y] [] (xLay, I, L, kM R) (0, 0) Φ := by
  have c2 : (2 : Int32).toInt = 2 := by decide
  have s1 : (I 107 46 - 1).toInt = (I 107 46).toInt - 1 := sub1 (by omega)
  refine p_X12_move_0 (yp_in (fun c => ⟨_, I, L, rfl, fun _ => h0 (fun k => c ?_), fun z => absurd rfl z⟩) (fun a1 a2 => ⟨_, I, L, rfl, fun z => absurd z (by decide), fun _ => ?_⟩))
  · rw [kl_0]; omega
  rw [kl_0] at a1
  refine yp_in (fun c => ⟨_, I, L, rfl, fun _ => h0 (fun k => c ?_), fun z => absurd rfl z⟩) (fun b1 b2 => ⟨_, I, L, rfl, fun z => absurd z (by decide), fun _ => ?_⟩)
  · rw [kl_0]; omega
  rw [kl_0] at b1
  have v : vp_in x 45 := kl_in a1 (by omega)
  refine ⟨fun e => ⟨v, h1 a1 (by omega) (by rw [e]; decide)⟩, fun e0 => ⟨fun e => ⟨v, h2 a1 (by omega) (by rw [e]; decide)⟩, fun e1 => ?_⟩⟩
  have y0 : y.toInt ≠ 0 := fun q => e0 (en_ofI (by rw [q]; decide))
  have y1 : y.toInt ≠ 1 := fun q => e1 (en_ofI (by rw [q]; decide))
  have f := h3 a1 (by omega) (by omega)
  refine ⟨v, fun e => ?_, fun e => ⟨v, ?_⟩⟩
  · rw [if_pos e] at f; exact f
  · rw [if_neg e] at f; exact f
def m_bq (I : sm_I) : Nat → Prop := bq (I 138) (I 140) (I 141) (I 142) (fun w => w = -1)
theorem bx_br {n : Nat} (hn : (I 107 46).toInt = n) (n1 : n ≤ 45) (b140 : ∀ j, j < 45 → 0 ≤ (I 140 j).toInt ∧ (I 140 j).toInt ≤ 9) (b141 : ∀ j, j < 45 → 0 ≤ (I 141 j).toInt ∧ (I 141 j).toInt ≤ 9) (b138 : ∀ j, j < 10 → -1 ≤ (I 138 j).toInt ∧ (I 138 j).toInt ≤ 1440) (h : ∀ v : Int32, FS n (m_bq I) v → Φ (some (.int v), (xLay, I, L, kM R))) : ∀ (m j : Nat) (x1 : Int32), x1.toInt = j → j + m = n → (∀ i, i < j → ¬ m_bq I i) → sm_wp sm_P S d 107 1 [.ref 107, .int x1] [] (xLay, I, L, kM R) (0, 0) Φ := by
  intro m
  induction m with
  | zero =>
    intro j x1 h1 hm hs
    refine p_X12_breaks_1 ⟨fun _ => h _ (Or.inr ⟨fun i hi => hs i (by omega), rfl⟩), fun a => ?_⟩
    have a := kl_nle a
    omega
  | succ m ih =>
    intro j x1 h1 hm hs
    have px := tk_nat h1
    have s1 := ml_in1 (x := x1) (by omega)
    have v : vp_in x1 45 := kl_in (by omega) (by omega)
    have ex : x1 = Int32.ofNat j := en_ofI (by rw [h1, Int32.toInt_ofNat_of_lt (by omega)])
    have next : ¬ m_bq I j → sm_wp sm_P S d 107 1 [.ref 107, .int (x1 + (1 : Int32))] [] (xLay, I, L, kM R) (0, 0) Φ := fun q => ih (j + 1) _ (by omega) (by omega) (fun i hi => by
      rcases Nat.lt_or_ge i j with u | u
      · exact hs i u
      · have : i = j := by omega
        subst this; exact q)
    have ans : m_bq I j → Φ (some (.int x1), (xLay, I, L, kM R)) := fun q => h x1 (Or.inl ⟨j, by omega, q, hs, ex⟩)
    refine p_X12_breaks_1 ⟨fun a => ?_, fun _ => ⟨v, ?_⟩⟩
    · have a := kl_le.mp a
      omega
    rw [px]
    have f1 := b140 j (by omega)
    have t1 := b141 j (by omega)
    have nf := kl_nat f1.1
    have nt := kl_nat t1.1
    have bf := b138 (I 140 j).toNatClampNeg (by omega)
    have bt := b138 (I 141 j).toNatClampNeg (by omega)
    refine ⟨kl_in (by omega) (by omega), fun z1 g1 => ⟨v, kl_in (by omega) (by omega), fun z2 g2 => ?_⟩⟩
    rw [g1, g2]
    refine ⟨fun e1 => next (fun q => q.1 e1), fun e1 => ⟨fun e2 => next (fun q => q.2.1 e2), fun e2 => ?_⟩⟩
    have vf : (I 138 (I 140 j).toNatClampNeg).toInt ≠ -1 := fun q => e1 (en_ofI (by rw [q]; decide))
    have vt : (I 138 (I 141 j).toNatClampNeg).toInt ≠ -1 := fun q => e2 (en_ofI (by rw [q]; decide))
    have sa : (I 138 (I 140 j).toNatClampNeg - I 138 (I 141 j).toNatClampNeg).toInt = (I 138 (I 140 j).toNatClampNeg).toInt - (I 138 (I 141 j).toNatClampNeg).toInt := by rw [Int32.toInt_sub]; exact en_bmod (by omega) (by omega) (Or.inl rfl)
    have sb : (I 138 (I 141 j).toNatClampNeg - I 138 (I 140 j).toNatClampNeg).toInt = (I 138 (I 141 j).toNatClampNeg).toInt - (I 138 (I 140 j).toNatClampNeg).toInt := by rw [Int32.toInt_sub]; exact en_bmod (by omega) (by omega) (Or.inl rfl)
    refine ⟨fun c => ⟨v, fun e3 => ans ⟨e1, e2, Or.inl e3⟩, fun e3 => ⟨v, fun e4 => next (fun q => ?_), fun e4 => ans ⟨e1, e2, Or.inr ?_⟩⟩⟩, fun c => ⟨v, fun e3 => ans ⟨e1, e2, Or.inl e3⟩, fun e3 => ⟨v, fun e4 => next (fun q => ?_), fun e4 => ans ⟨e1, e2, Or.inr ?_⟩⟩⟩⟩
    · have e4 := kl_le.mp e4
      rw [sa] at e4
      rcases q.2.2 with q | ⟨q1, q2⟩
      · exact e3 q
      · omega
    · have e4 := kl_nle e4
      have c := kl_le.mp c
      rw [sa] at e4
      exact ⟨by omega, by omega⟩
    · have e4 := kl_le.mp e4
      rw [sb] at e4
      rcases q.2.2 with q | ⟨q1, q2⟩
      · exact e3 q
      · omega
    · have e4 := kl_nle e4
      have c := kl_nle c
      rw [sb] at e4
      exact ⟨by omega, by omega⟩
theorem bx_breaks {n : Nat} (hn : (I 107 46).toInt = n) (n1 : n ≤ 45) (b140 : ∀ j, j < 45 → 0 ≤ (I 140 j).toInt ∧ (I 140 j).toInt ≤ 9) (b141 : ∀ j, j < 45 → 0 ≤ (I 141 j).toInt ∧ (I 141 j).toInt ≤ 9) (b138 : ∀ j, j < 10 → -1 ≤ (I 138 j).toInt ∧ (I 138 j).toInt ≤ 1440) (h : ∀ v : Int32, FS n (m_bq I) v → Φ (some (.int v), (xLay, I, L, kM R))) : sm_wp sm_P S d 107 0 [.ref 107] [] (xLay, I, L, kM R) (0, 0) Φ := p_X12_breaks_0 (bx_br hn n1 b140 b141 b138 h n 0 0 kl_0 (Nat.zero_add _) (fun i hi => absurd hi (Nat.not_lt_zero i)))
theorem bx_item {x : Int32} {l : Nat} (hl : (I 107 18).toInt = l) (l1 : l ≤ 1) (hb : 0 ≤ (I 125 l).toInt ∧ (I 125 l).toInt ≤ 10) (b46 : 0 ≤ (I 107 46).toInt ∧ (I 107 46).toInt ≤ 45) (h0 : (∀ s ch, ¬ pkm l I x s ch) → Φ (some (.int (-1)), (xLay, I, L, kM R))) (h1 : ∀ (s : Nat) (v : Int32), v.toInt = s → s < 55 → (∃ ch, pkm l I x s ch) → Φ (some (.int v), (xLay, I, L, kM R))) : sm_wp sm_P S (d + 2) 151 0 [.ref 107, .int x] [] (xLay, I, L, kM R) (0, 0) Φ := by
  have s46 : (I 107 46 - 1).toInt = (I 107 46).toInt - 1 := sub1 (by omega)
  refine p_X12_itemAt_0 (yp_inS hl l1 hb (fun c => ⟨_, I, L, rfl, fun _ => ?_, fun z => absurd rfl z⟩) (fun a b => ⟨_, I, L, rfl, fun z => absurd z (by decide), fun _ => ?_⟩))
  · refine yp_in (fun c2 => ⟨_, I, L, rfl, fun _ => h0 (fun s ch q => ?_), fun z => absurd rfl z⟩) (fun a b => ⟨_, I, L, rfl, fun z => absurd z (by decide), fun _ => ?_⟩)
    · rcases q with ⟨q1, q2, -⟩ | ⟨q1, q2, -⟩
      · exact c ⟨q1, q2⟩
      · refine c2 ?_
        rw [kl_0, s46]
        rcases sub100 (x := x) with u | ⟨u, -⟩
        · omega
        · omega
    · rw [kl_0] at a
      rw [s46] at b
      have u : (x - 100).toInt = x.toInt - 100 := by
        rcases sub100 (x := x) with u | ⟨u, u2⟩
        · exact u
        · have := Int32.le_toInt x
          omega
      have nx := kl_nat (i := x) (by omega)
      have s90 : (x - 90).toInt = ((x.toNatClampNeg - 90 : Nat) : Int) := by
        rw [Int32.toInt_sub, (by decide : (90 : Int32).toInt = 90)]
        exact en_bmod (by omega) (by omega) (Or.inl (by omega))
      exact h1 _ _ s90 (by omega) ⟨_, Or.inr ⟨by omega, by omega, by omega, rfl⟩⟩
  · have nx := kl_nat a
    refine ⟨kl_in a (by omega), fun e => h1 x.toNatClampNeg x nx.symm (by omega) ⟨_, Or.inl ⟨a, b, e, nx.symm, rfl⟩⟩, fun e => h0 (fun s ch q => ?_)⟩
    rcases q with ⟨q1, q2, q3, q4, -⟩ | ⟨q1, -⟩
    · have es : s = x.toNatClampNeg := by omega
      rw [es] at q3
      exact e q3
    · omega
theorem bx_ch {z : Int32} {s l : Nat} (hz : z.toInt = s) (s55 : s < 55) (hl : (I 107 18).toInt = l) (l1 : l ≤ 1) (h : ∀ v : Int32, v.toInt = (if s < 10 then (I 128 (10 * l + s)).toInt else if I 142 (s - 10) = -1 then 0 else 2) → Φ (some (.int v), (xLay, I, L, kM R))) : sm_wp sm_P S d 114 0 [.ref 107, .int z] [] (xLay, I, L, kM R) (0, 0) Φ := by
  have c10 : (10 : Int32).toInt = 10 := by decide
  have c60 : (60 : Int32).toInt = 60 := by decide
  refine p_X12_choices_0 ⟨fun a => ⟨fun b => ?_, fun _ => ?_⟩, fun a n6 e6 => ?_⟩
  · have b := kl_le.mp b
    omega
  · have a := kl_le.mp a
    have s1 : (z - 10).toInt = ((s - 10 : Nat) : Int) := by
      rw [Int32.toInt_sub, c10]
      exact en_bmod (by omega) (by omega) (Or.inl (by omega))
    rw [if_neg (by omega)] at h
    refine ⟨kl_in (by omega) (by omega), fun n3 e3 => ?_⟩
    rw [tk_nat s1] at e3
    rw [e3]
    refine ⟨fun e => h 0 ?_, fun e => h 2 ?_⟩
    · rw [if_pos e]; decide
    · rw [if_neg e]; decide
  · have a := kl_nle a
    have q1 : ((10 : Int32) * (I 107 18)).toInt = 10 * (l : Int) := ml_mu c10 hl (by omega) (by omega)
    have s6 : n6.toInt = ((10 * l + s : Nat) : Int) := by rw [e6, ml_ad q1 hz (by omega) (by omega)]; omega
    rw [if_pos (by omega)] at h
    refine ⟨kl_in (by omega) (by omega), ?_⟩
    rw [tk_nat s6]
    exact h _ rfl
theorem bx_pick {x y : Int32} {l : Nat} (hl : (I 107 18).toInt = l) (l1 : l ≤ 1) (hb : 0 ≤ (I 125 l).toInt ∧ (I 125 l).toInt ≤ 10) (b46 : 0 ≤ (I 107 46).toInt ∧ (I 107 46).toInt ≤ 45) (b128 : ∀ j, j < 20 → 0 ≤ (I 128 j).toInt ∧ (I 128 j).toInt ≤ 4) (h0 : (∀ s ch, pkm l I x s ch → ¬ (-1 ≤ y.toInt ∧ y.toInt < ch)) → Φ (some (.int 0), (xLay, I, L, kM R))) (h1 : ∀ s ch, s < 55 → pkm l I x s ch → -1 ≤ y.toInt → y.toInt < ch → Φ (some (.int 1), (xLay, sm_up I 160 s y, L, kM R))) : sm_wp sm_P S (d + 3) 172 0 [.ref 107, .int x, .int y] [] (xLay, I, L, kM R) (0, 0) Φ := by
  have cm : (-1 : Int32).toInt = -1 := by decide
  refine p_X12_pick_0 (bx_item hl l1 hb b46 (fun c => ⟨_, I, L, rfl, fun _ => h0 (fun s ch q => absurd q (c s ch)), fun z => absurd rfl z⟩) (fun s v sv s55 hp => ⟨_, I, L, rfl, fun z => ?_, fun _ => ?_⟩))
  · rw [z] at sv
    omega
  have tv := tk_nat sv
  obtain ⟨ch, hp⟩ := hp
  have hch : ch = if s < 10 then (I 128 (10 * l + s)).toInt else if I 142 (s - 10) = -1 then 0 else 2 := by
    rcases hp with ⟨q1, q2, -, q4, q5⟩ | ⟨q1, q2, q3, q4⟩
    · rw [if_pos (by omega)]; exact q5
    · rw [if_neg (by omega)]; exact q4
  have un : ∀ s' ch', pkm l I x s' ch' → s' = s ∧ ch' = ch := fun s' ch' g => by
    rcases hp with ⟨a1, a2, a3, a4, a5⟩ | ⟨a1, a2, a3, a4⟩
    · rcases g with ⟨b1, b2, b3, b4, b5⟩ | ⟨b1, b2, b3, b4⟩
      · have e : s' = s := by omega
        subst e
        exact ⟨rfl, by rw [a5, b5]⟩
      · omega
    · rcases g with ⟨b1, b2, b3, b4, b5⟩ | ⟨b1, b2, b3, b4⟩
      · omega
      · have e : s' = s := by omega
        subst e
        exact ⟨rfl, by rw [a4, b4]⟩
  have ch0 : 0 ≤ ch ∧ ch ≤ 4 := by
    rw [hch]
    split
    · exact b128 _ (by omega)
    · split <;> omega
  refine ⟨fun e => ⟨kl_in (by omega) (by omega), fun I4 e4 => ?_⟩, fun e => ?_⟩
  · rw [e4, tv]
    exact h1 s ch s55 hp (by rw [e, cm]; omega) (by rw [e, cm]; omega)
  refine bx_ch sv s55 hl l1 (fun r7 e7 => ⟨_, I, L, rfl, ?_⟩)
  rw [← hch] at e7
  have s7 : (r7 - 1).toInt = ch - 1 := by rw [sub1 (by omega), e7]
  refine yp_in (fun c => ⟨_, I, L, rfl, fun _ => h0 (fun s' ch' q b => ?_), fun z => absurd rfl z⟩) (fun a b => ⟨_, I, L, rfl, fun z => absurd z (by decide), fun _ => ⟨kl_in (by omega) (by omega), fun I4 e4 => ?_⟩⟩)
  · have u := (un s' ch' q).2
    have ym : y.toInt ≠ -1 := fun q => e (en_ofI (by rw [q]; decide))
    refine c ?_
    rw [kl_0, s7]
    omega
  · rw [kl_0] at a
    rw [s7] at b
    rw [e4, tv]
    exact h1 s ch s55 hp (by omega) (by omega)
end
