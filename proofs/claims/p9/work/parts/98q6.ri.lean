/-! the reference: any ITEM, how many choices it has and what a choice asks -/
section
variable {S : sm_C} {d : Nat} {Φ : sm_Z → Prop} {I : sm_I} {L : sm_L} {R : sm_R}
def icd (I : sm_I) (l s : Nat) : Nat := if s < 10 then (I 128 (10 * l + s)).toNatClampNeg else if s < 60 then (if I 142 (s - 10) = -1 then 0 else 2) else (if I 152 (s - 60) = -1 then 0 else 2)
def icc (I : sm_I) (l s c : Nat) : List tC := if s < 10 then spL I (rhd I l) (gv I s) (3 * (4 * (10 * l + s) + c)) (I 129 (4 * (10 * l + s) + c)).toNatClampNeg else if s < 60 then mvC (rhd I l) (nd (I 140 (s - 10))) (nd (I 141 (s - 10))) (I 142 (s - 10)).toInt c else mvC (rhd I l) (nd (I 151 (s - 60))) ((I 122 l).toNatClampNeg + 1) (I 152 (s - 60)).toInt c
/-- an ITEM that can be laid on the table -/
def iok (I : sm_I) (l n s : Nat) : Prop := (s < 10 ∧ ∀ c, c < (I 128 (10 * l + s)).toNatClampNeg → (0 ≤ (I 129 (4 * (10 * l + s) + c)).toInt ∧ (I 129 (4 * (10 * l + s) + c)).toInt ≤ 3) ∧ ∀ i, i < (I 129 (4 * (10 * l + s) + c)).toNatClampNeg → sspk I n (3 * (4 * (10 * l + s) + c) + i)) ∨ ((10 ≤ s ∧ s < 55) ∧ (I 142 (s - 10) ≠ -1 → (0 ≤ (I 140 (s - 10)).toInt ∧ (I 140 (s - 10)).toInt + 1 < n) ∧ (0 ≤ (I 141 (s - 10)).toInt ∧ (I 141 (s - 10)).toInt + 1 < n) ∧ -105000 ≤ (I 142 (s - 10)).toInt ∧ (I 142 (s - 10)).toInt ≤ 105000)) ∨ ((60 ≤ s ∧ s < 70) ∧ (I 152 (s - 60) ≠ -1 → (0 ≤ (I 151 (s - 60)).toInt ∧ (I 151 (s - 60)).toInt + 1 < n) ∧ (I 122 l).toInt + 1 < n ∧ -105000 ≤ (I 152 (s - 60)).toInt ∧ (I 152 (s - 60)).toInt ≤ 105000))
theorem rx_nc {z : Int32} {s l : Nat} (hz : z.toInt = s) (sr : s < 55 ∨ (60 ≤ s ∧ s < 70)) (hl : (I 107 18).toInt = l) (l1 : l ≤ 1) (b128 : ∀ j, j < 20 → 0 ≤ (I 128 j).toInt ∧ (I 128 j).toInt ≤ 4) (h : ∀ v : Int32, v.toInt = icd I l s → Φ (some (.int v), (xLay, I, L, kM R))) : sm_wp sm_P S d 114 0 [.ref 107, .int z] [] (xLay, I, L, kM R) (0, 0) Φ := by
  rcases sr with s55 | ⟨s60, s70⟩
  · refine bx_ch hz s55 hl l1 (fun v e => h v ?_)
    rw [e]
    unfold icd
    by_cases c : s < 10
    · rw [if_pos c, if_pos c]
      have := b128 (10 * l + s) (by omega)
      exact (kl_nat this.1).symm
    · rw [if_neg c, if_neg c, if_pos (show s < 60 by omega)]
      by_cases w : I 142 (s - 10) = -1
      · rw [if_pos w, if_pos w]; rfl
      · rw [if_neg w, if_neg w]; rfl
  · have c10 : (10 : Int32).toInt = 10 := by decide
    have c60 : (60 : Int32).toInt = 60 := by decide
    have s1 : (z - 60).toInt = ((s - 60 : Nat) : Int) := by
      rw [Int32.toInt_sub, c60]
      exact en_bmod (by omega) (by omega) (Or.inl (by omega))
    have e0 : icd I l s = if I 152 (s - 60) = -1 then 0 else 2 := by
      unfold icd
      rw [if_neg (by omega), if_neg (by omega)]
    rw [e0] at h
    refine p_X12_choices_0 ⟨fun _ => ⟨fun _ => ⟨kl_in (by omega) (by omega), fun n1 e1 => ?_⟩, fun b => ?_⟩, fun a => ?_⟩
    · rw [tk_nat s1] at e1
      rw [e1]
      refine ⟨fun e => h 0 ?_, fun e => h 2 ?_⟩
      · rw [if_pos e]; decide
      · rw [if_neg e]; decide
    · have b := kl_nle b
      omega
    · have a := kl_nle a
      omega
theorem rx_choose {pg n l s c : Nat} {x1 x2 : Int32} {C : List tC} (B : rB0 I pg n l) (hs : x1.toInt = s) (hc : x2.toInt = c) (b128 : ∀ j, j < 20 → 0 ≤ (I 128 j).toInt ∧ (I 128 j).toInt ≤ 4) (cn : c < icd I l s) (ok : iok I l n s) (g0 : 0 ≤ (I 107 69).toInt) (g1 : (I 107 69).toInt ≤ 5000) (T : ttop n C (mT I pg)) (h : ∀ r J, rR pg n (icc I l s c ++ C) I r J → Φ (some (.int r), (xLay, J, L, kM R))) : sm_wp sm_P S (d + 4) 115 0 [.ref 107, .int x1, .int x2] [] (xLay, I, L, kM R) (0, 0) Φ := by
  have l1 := B.2.2.2.2.2.1
  unfold icd at cn
  unfold icc at h
  rcases ok with ⟨s10, ok⟩ | ⟨⟨s10, s55⟩, ok⟩ | ⟨⟨s60, s70⟩, ok⟩
  · rw [if_pos s10] at cn h
    have b := b128 (10 * l + s) (by omega)
    have nb := kl_nat b.1
    obtain ⟨o1, o2⟩ := ok c cn
    have nN := kl_nat o1.1
    exact rx_chS B hs s10 hc (by omega) nN.symm (by omega) g0 g1 o2 T h
  · rw [if_neg (by omega), if_pos (by omega)] at cn h
    have w : I 142 (s - 10) ≠ -1 := fun q => by rw [if_pos q] at cn; exact absurd cn (Nat.not_lt_zero c)
    obtain ⟨o1, o2, o3, o4⟩ := ok w
    exact rx_chM (d := d + 2) (m := s - 10) B (by rw [hs]; omega) (by omega) hc o1.1 o1.2 o2.1 o2.2 o3 o4 T h
  · rw [if_neg (by omega), if_neg (by omega)] at cn h
    have w : I 152 (s - 60) ≠ -1 := fun q => by rw [if_pos q] at cn; exact absurd cn (Nat.not_lt_zero c)
    obtain ⟨o1, o2, o3, o4⟩ := ok w
    have c10 : (10 : Int32).toInt = 10 := by decide
    have c60 : (60 : Int32).toInt = 60 := by decide
    have n12 := B.2.2.2.1
    have hl := B.2.2.2.2.1
    have bt := B.2.2.2.2.2.2.1
    have nt := kl_nat bt.1
    have s1 : (x1 - 60).toInt = ((s - 60 : Nat) : Int) := by
      rw [Int32.toInt_sub, c60]
      exact en_bmod (by omega) (by omega) (Or.inl (by omega))
    have p1 := tk_nat s1
    have v : vp_in (x1 - 60) 10 := kl_in (by omega) (by omega)
    have y60 : (60 : Int32) ≤ x1 := kl_le.mpr (by omega)
    have pl := tk_nat hl
    refine p_X12_chooses_0 ⟨fun _ => ⟨fun _ => ⟨v, ?_⟩, fun a => absurd y60 a⟩, fun a => ?_⟩
    · rw [p1, pl]
      refine fun n1 e1 => ⟨fun _ => ⟨v, fun n2 e2 => ⟨fun _ => ⟨kl_in (by omega) (by omega), ?_⟩, fun a => absurd y60 a⟩⟩, fun a => absurd y60 a⟩
      rw [e1]
      exact rx_ch19 (d := d + 2) B hc o3 o4 (by rw [e2, ml_in1 (by omega)]; unfold nd; omega) (by rw [ml_in1 (by omega)]; omega) (by unfold nd; omega) (by omega) T h
    · have a := kl_nle a
      omega
end
