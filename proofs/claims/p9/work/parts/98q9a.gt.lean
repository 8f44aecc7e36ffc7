/-! the whole of GOING THROUGH, pure -/
def gz (fd : Nat) : ss := (0, fun _ => 0, 0, fd, false, fun _ => (0, 0, false), fun _ _ => 0)
noncomputable def GT (n m : Nat) (B : List tC) (cc : Nat → Nat → List tC) (nc : Nat → Nat) (tf : Bool) : ss := if fz n B cc 0 (fun _ => 0) = true then (if m = 0 then gz 1 else rn m nc (fz n B cc) tf 2001 s_0) else gz 0
theorem GT_cg {n m : Nat} {B B' : List tC} {cc cc' : Nat → Nat → List tC} {nc nc' : Nat → Nat} {tf : Bool} (hB : ∀ c, c ∈ B ↔ c ∈ B') (hn : ∀ k, k < m → nc k = nc' k) (hc : ∀ j, j < m → ∀ c x, x ∈ cc j c ↔ x ∈ cc' j c) : GT n m B cc nc tf = GT n m B' cc' nc' tf := by
  unfold GT
  rw [fz_cg (k := 0) (ch := fun _ => 0) (cc := cc) (cc' := cc') hB (fun j hj => absurd hj (Nat.not_lt_zero j))]
  by_cases z : m = 0
  · rw [if_pos z, if_pos z]
  · rw [if_neg z, if_neg z, rn_cg hn (fun k ch _ h2 => fz_cg hB (fun j hj => hc j (by omega) (ch j))) 2001 s_0 (show 1 ≤ m by omega)]
/-- what each state of the machine holds -/
def swf (m : Nat) (nc : Nat → Nat) (fe : Nat → (Nat → Nat) → Bool) (s : ss) : Prop := s.1 ≤ m ∧ (∀ j, j + 1 < s.1 → 1 ≤ s.2.1 j ∧ s.2.1 j ≤ nc j) ∧ (∀ w, w < s.2.2.2.1 → (∀ i, i < m → s.2.2.2.2.2.2 w i < nc i) ∧ fe m (s.2.2.2.2.2.2 w) = true) ∧ (∀ i, i < s.2.2.1 → i < 1000 → (s.2.2.2.2.2.1 i).1 < m ∧ (s.2.2.2.2.2.1 i).2.1 < nc (s.2.2.2.2.2.1 i).1) ∧ (s.2.2.2.1 ≤ 1000 ∧ s.2.2.1 ≤ 1001) ∧ (s.1 ≠ 0 → s.2.2.2.1 ≤ s.2.2.1 ∧ s.2.2.1 ≤ 1000)
theorem stp_wf {m : Nat} {nc : Nat → Nat} {fe : Nat → (Nat → Nat) → Bool} {tf : Bool} {s : ss} (h : swf m nc fe s) : swf m nc fe (stp m nc fe tf s) := by
  obtain ⟨h1, h2, h3, h4, h5, h6⟩ := id h
  by_cases z : s.1 = 0
  · rw [stp_0 z]; exact h
  have h6 := h6 z
  by_cases c : nc (s.1 - 1) ≤ s.2.1 (s.1 - 1)
  · rw [stp_back z c]
    exact ⟨by show s.1 - 1 ≤ m; omega, fun j hj => h2 j (by have hj : j + 1 < s.1 - 1 := hj; omega), h3, h4, h5, fun _ => h6⟩
  by_cases t : 1000 ≤ s.2.2.1
  · rw [stp_sp z c t]
    refine ⟨Nat.zero_le _, fun j hj => absurd hj (Nat.not_lt_zero _), h3, fun i hi h => h4 i (by omega) h, ⟨h5.1, by show s.2.2.1 + 1 ≤ 1001; omega⟩, fun q => absurd rfl q⟩
  have new : ∀ b : Bool, ∀ i, i < s.2.2.1 + 1 → i < 1000 → ((sup s.2.2.2.2.2.1 s.2.2.1 (s.1 - 1, s.2.1 (s.1 - 1), b)) i).1 < m ∧ ((sup s.2.2.2.2.2.1 s.2.2.1 (s.1 - 1, s.2.1 (s.1 - 1), b)) i).2.1 < nc ((sup s.2.2.2.2.2.1 s.2.2.1 (s.1 - 1, s.2.1 (s.1 - 1), b)) i).1 := fun b i hi h => by
    by_cases e : i = s.2.2.1
    · rw [e, sup_eq]
      exact ⟨by show s.1 - 1 < m; omega, by show s.2.1 (s.1 - 1) < nc (s.1 - 1); omega⟩
    · rw [sup_ne _ _ e]; exact h4 i (by omega) h
  by_cases f : fe s.1 (chs s.2.1 (s.1 - 1) (s.2.1 (s.1 - 1))) = true
  · by_cases l : s.1 < m
    · rw [stp_down z c t f l]
      refine ⟨l, fun j hj => ?_, h3, new true, ⟨h5.1, by show s.2.2.1 + 1 ≤ 1001; omega⟩, fun _ => by show s.2.2.2.1 ≤ s.2.2.1 + 1 ∧ s.2.2.1 + 1 ≤ 1000; omega⟩
      have hj : j + 1 < s.1 + 1 := hj
      show 1 ≤ sup (sup s.2.1 (s.1 - 1) (s.2.1 (s.1 - 1) + 1)) s.1 0 j ∧ sup (sup s.2.1 (s.1 - 1) (s.2.1 (s.1 - 1) + 1)) s.1 0 j ≤ nc j
      rw [sup_ne _ _ (show j ≠ s.1 by omega)]
      by_cases e : j = s.1 - 1
      · rw [e, sup_eq]; omega
      · rw [sup_ne _ _ e]; exact h2 j (by omega)
    · rw [stp_way z c t f l]
      refine ⟨?_, fun j hj => ?_, fun w hw => ?_, new true, ⟨by show s.2.2.2.1 + 1 ≤ 1000; omega, by show s.2.2.1 + 1 ≤ 1001; omega⟩, fun _ => by show s.2.2.2.1 + 1 ≤ s.2.2.1 + 1 ∧ s.2.2.1 + 1 ≤ 1000; omega⟩
      · show (if tf = true then 0 else s.1) ≤ m
        split
        · exact Nat.zero_le _
        · exact h1
      · have hj : j + 1 < (if tf = true then 0 else s.1) := hj
        have hj : j + 1 < s.1 := by
          revert hj
          split
          · intro q; exact absurd q (Nat.not_lt_zero _)
          · exact id
        show 1 ≤ sup s.2.1 (s.1 - 1) (s.2.1 (s.1 - 1) + 1) j ∧ sup s.2.1 (s.1 - 1) (s.2.1 (s.1 - 1) + 1) j ≤ nc j
        rw [sup_ne _ _ (show j ≠ s.1 - 1 by omega)]
        exact h2 j hj
      · show (∀ i, i < m → sup s.2.2.2.2.2.2 s.2.2.2.1 (chs s.2.1 (s.1 - 1) (s.2.1 (s.1 - 1))) w i < nc i) ∧ fe m (sup s.2.2.2.2.2.2 s.2.2.2.1 (chs s.2.1 (s.1 - 1) (s.2.1 (s.1 - 1))) w) = true
        have hw : w < s.2.2.2.1 + 1 := hw
        by_cases e : w = s.2.2.2.1
        · rw [e, sup_eq]
          refine ⟨fun i hi => ?_, by rw [show m = s.1 by omega]; exact f⟩
          by_cases q : i = s.1 - 1
          · rw [show chs s.2.1 (s.1 - 1) (s.2.1 (s.1 - 1)) i = s.2.1 (s.1 - 1) from if_pos q, q]; omega
          · rw [show chs s.2.1 (s.1 - 1) (s.2.1 (s.1 - 1)) i = s.2.1 i - 1 from if_neg q]
            have := h2 i (by omega)
            omega
        · rw [sup_ne _ _ e]; exact h3 w (by omega)
  · rw [stp_fail z c t f]
    refine ⟨h1, fun j hj => ?_, h3, new false, ⟨h5.1, by show s.2.2.1 + 1 ≤ 1001; omega⟩, fun _ => by show s.2.2.2.1 ≤ s.2.2.1 + 1 ∧ s.2.2.1 + 1 ≤ 1000; omega⟩
    have hj : j + 1 < s.1 := hj
    show 1 ≤ sup s.2.1 (s.1 - 1) (s.2.1 (s.1 - 1) + 1) j ∧ sup s.2.1 (s.1 - 1) (s.2.1 (s.1 - 1) + 1) j ≤ nc j
    rw [sup_ne _ _ (show j ≠ s.1 - 1 by omega)]
    exact h2 j hj
theorem rn_wf {m : Nat} {nc : Nat → Nat} {fe : Nat → (Nat → Nat) → Bool} {tf : Bool} : ∀ (n : Nat) (s : ss), swf m nc fe s → swf m nc fe (rn m nc fe tf n s) := by
  intro n
  induction n with
  | zero => intro s h; exact h
  | succ n ih => intro s h; exact ih _ (stp_wf h)
theorem GT_wf {n m : Nat} {B : List tC} {cc : Nat → Nat → List tC} {nc : Nat → Nat} {tf : Bool} : swf m nc (fz n B cc) (GT n m B cc nc tf) := by
  unfold GT
  split
  · next z =>
    split
    · next e =>
      refine ⟨Nat.zero_le _, fun j hj => absurd hj (Nat.not_lt_zero _), fun w _ => ⟨fun i hi => absurd hi (by omega), ?_⟩, fun i hi => absurd hi (Nat.not_lt_zero _), ⟨by show 1 ≤ 1000; decide, by show 0 ≤ 1001; decide⟩, fun q => absurd rfl q⟩
      rw [e]; exact z
    · next e => exact rn_wf 2001 s_0 ⟨by show 1 ≤ m; omega, fun j hj => absurd hj (by show ¬ j + 1 < 1; omega), fun w hw => absurd hw (Nat.not_lt_zero _), fun i hi => absurd hi (Nat.not_lt_zero _), ⟨Nat.zero_le _, Nat.zero_le _⟩, fun _ => ⟨Nat.le_refl _, Nat.zero_le _⟩⟩
  · exact ⟨Nat.zero_le _, fun j hj => absurd hj (Nat.not_lt_zero _), fun w hw => absurd hw (Nat.not_lt_zero _), fun i hi => absurd hi (Nat.not_lt_zero _), ⟨Nat.zero_le _, Nat.zero_le _⟩, fun q => absurd rfl q⟩
theorem GT_no {n m : Nat} {B : List tC} {cc : Nat → Nat → List tC} {nc : Nat → Nat} {tf : Bool} (h : tno n B) : GT n m B cc nc tf = gz 0 := by
  unfold GT
  have z : fz n B cc 0 (fun _ => 0) = false := fz_f (k := 0) h
  rw [if_neg (by rw [z]; decide)]
/-! the reference's searches from their first step -/
section
variable {S : sm_C} {d : Nat} {Φ : sm_Z → Prop} {I : sm_I} {L : sm_L} {R : sm_R}
theorem rx_sr {kp : Bool} {xs : List Nat} {l n : Nat} {B0 : List tC} {x1 : Int32} (bs : rBs I n l) (hM : lM I xs) (m65 : xs.length ≤ 65) (m55 : kp = true → xs.length ≤ 55) (hx : x1 = if kp = true then 1 else 0) (sr : ∀ k, k < xs.length → xs.getD k 0 < 55 ∨ (60 ≤ xs.getD k 0 ∧ xs.getD k 0 < 70)) (ok : ∀ k, k < xs.length → iok I l n (xs.getD k 0)) (b128 : ∀ j, j < 20 → 0 ≤ (I 128 j).toInt ∧ (I 128 j).toInt ≤ 4) (g0 : 0 ≤ (I 107 69).toInt) (g1 : (I 107 69).toInt ≤ 5000) (T : ttop n B0 (mT I 0)) (h : ∀ J, zfin kp xs I (GT n xs.length B0 (fun i c => icv I l (xs.getD i 0) c) (fun j => icd I l (xs.getD j 0)) (!kp)) J → Φ (some (.int (Int32.ofNat (GT n xs.length B0 (fun i c => icv I l (xs.getD i 0) c) (fun j => icd I l (xs.getD j 0)) (!kp)).2.2.2.1)), (xLay, J, L, kM R))) : sm_wp sm_P S (d + 5) 186 0 [.ref 107, .int x1] [] (xLay, I, L, kM R) (0, 0) Φ := by
  have z : fz n B0 (fun i c => icv I l (xs.getD i 0) c) 0 (fun _ => 0) = true := fz_t (k := 0) T
  unfold GT at h
  rw [if_pos z] at h
  refine p_X12_searches_0 (d := d + 4) (fun I1 e1 => ?_)
  have o1 : ∀ p j, ¬ (p = 107 ∧ (j = 63 ∨ j = 64)) → I1 p j = I p j := fun p j q => by rw [e1, en_up_ne _ _ _ _ (by omega), en_up_ne _ _ _ _ (by omega)]
  have a63 : I1 107 63 = 0 := by rw [e1, en_up_ne _ _ _ _ (by omega), en_up_eq]
  have a64 : I1 107 64 = 0 := by rw [e1, en_up_eq]
  have a59 : (I1 107 59).toInt = xs.length := by rw [o1 107 59 (by omega)]; exact hM.1
  refine ⟨fun e0 => ?_, fun e0 => ⟨kl_in (by decide) (by decide), fun I2 e2 => ?_⟩⟩
  · have m0 : xs.length = 0 := by rw [e0, kl_0] at a59; omega
    rw [if_pos m0] at h
    exact h I1 ⟨⟨fun p j q => o1 p j (by omega), fun _ p j q1 q2 => o1 p j (by omega)⟩, by rw [a63]; rfl, by rw [a64]; rfl, fun _ => ⟨fun i hi => absurd hi (Nat.not_lt_zero i), fun w i _ hi => absurd hi (by omega)⟩⟩
  · have m1 : 1 ≤ xs.length := by
      rcases Nat.eq_zero_or_pos xs.length with q | q
      · exfalso
        refine e0 (en_ofI ?_)
        rw [a59, q]; decide
      · exact q
    rw [if_neg (show ¬ xs.length = 0 by omega)] at h
    have z0 : (0 : Int32).toNatClampNeg = 0 := by decide
    rw [z0] at e2
    have o2 : ∀ p j, ¬ (p = 150 ∧ j = 0) → I2 p j = I1 p j := fun p j q => by rw [e2, en_up_ne _ _ _ _ q]
    have oo : ∀ p j, ¬ (p = 150 ∧ j = 0) → ¬ (p = 107 ∧ (j = 63 ∨ j = 64)) → I2 p j = I p j := fun p j q1 q2 => (o2 p j q1).trans (o1 p j q2)
    refine rx_search (d := d) bs hM m1 m65 m55 hx sr ok b128 g0 g1 h 2001 0 (fun _ => 0) 0 0 (fun _ => (0, 0, false)) (fun _ _ => 0) I2 0 0 ⟨⟨fun p j q => oo p j (by omega) (by omega), fun _ p j q1 q2 => oo p j (by omega) (by omega)⟩, by rw [o2 107 63 (by omega), a63]; rfl, by rw [o2 107 64 (by omega)]; exact a64, fun j hj => ?_, fun j hj => absurd hj (Nat.not_lt_zero j), fun j hj => ?_, fun _ => ⟨fun i hi => absurd hi (Nat.not_lt_zero i), fun w i hw => absurd hw (Nat.not_lt_zero w)⟩, Nat.zero_le _, Nat.zero_le _, fun _ => rfl⟩ (by omega) (by decide) (by decide) rfl rn_s0
    · have : j = 0 := by omega
      rw [this, e2, en_up_eq]
      exact ⟨rfl, Nat.zero_le _⟩
    · have : j = 0 := by omega
      rw [this]
      exact ttop_eq (fun u v _ _ => by unfold mT; rw [oo 143 _ (by omega) (by omega)]) T
end
