/-! the reference's GOING THROUGH all, exact -/
/-- what GOING THROUGH reads -/
def tfr (I J : sm_I) : Prop := ∀ p j, (p = 107 ∧ (j = 18 ∨ j = 46 ∨ j = 53 ∨ j = 54 ∨ j = 68)) ∨ ((118 ≤ p ∧ p ≤ 142) ∧ p ≠ 138) ∨ (144 ≤ p ∧ p ≤ 147) → J p j = I p j
theorem gv_z : ∀ s : Nat, s < 10 → ¬ ((0 : Int32) >>> (Int32.ofNat s &&& 31)) &&& (1 : Int32) = (1 : Int32) := by decide +kernel
theorem gv_0 {I : sm_I} (h : I 107 68 = 0) {s : Nat} (hs : s < 10) : gv I s = 0 := by
  unfold gv
  rw [h, if_neg (gv_z s hs)]
theorem t_oA {I J : sm_I} (h : tfr I J) (l i : Nat) : oA J l i = oA I l i := by
  unfold oA
  rw [h 122 l (by omega), h 135 _ (by omega)]
theorem t_su {I J : sm_I} (h : tfr I J) (l i : Nat) : su J l i = su I l i ∧ fa J l i = fa I l i ∧ na J l i = na I l i := by
  unfold su fa na
  rw [t_oA h, h 131 _ (by omega), h 132 _ (by omega), h 133 _ (by omega)]
  exact ⟨rfl, rfl, rfl⟩
theorem t_rhd {I J : sm_I} (h : tfr I J) (l : Nat) : rhd J l = rhd I l := by
  funext c
  unfold rhd
  rw [h 107 53 (by omega), (t_su h l c.1).1, (t_su h l c.2.1).1, (t_su h l c.1).2.1, (t_su h l c.2.1).2.2]
theorem t_spC {I J : sm_I} (h : tfr I J) (f : tC → tC) (p : Nat) (g : Int) : spC J f p g = spC I f p g := by
  unfold spC
  rw [h 130 _ (by omega), h 131 _ (by omega), h 132 _ (by omega), h 133 _ (by omega)]
theorem t_spL {I J : sm_I} (h : tfr I J) (f : tC → tC) (g : Int) (p : Nat) : ∀ m, spL J f g p m = spL I f g p m := by
  intro m
  induction m with
  | zero => rfl
  | succ m ih =>
    show spC J f (p + m) g ++ spL J f g p m = spC I f (p + m) g ++ spL I f g p m
    rw [ih, t_spC h]
theorem t_icd {I J : sm_I} (h : tfr I J) {l s : Nat} (hs : s < 60) : icd J l s = icd I l s := by
  unfold icd
  by_cases c : s < 10
  · rw [if_pos c, if_pos c, h 128 _ (by omega)]
  · rw [if_neg c, if_neg c, if_pos hs, if_pos hs, h 142 _ (by omega)]
theorem t_icc {I J : sm_I} (h : tfr I J) (z : I 107 68 = 0) {l s : Nat} (hs : s < 60) (c : Nat) : icc J l s c = icc I l s c := by
  unfold icc
  by_cases k : s < 10
  · rw [if_pos k, if_pos k, gv_0 z k, gv_0 (by rw [h 107 68 (by omega)]; exact z) k, t_rhd h, t_spL h, h 129 _ (by omega)]
  · rw [if_neg k, if_neg k, if_pos hs, if_pos hs, t_rhd h, h 140 _ (by omega), h 141 _ (by omega), h 142 _ (by omega)]
theorem t_icv {I J : sm_I} (h : tfr I J) (z : I 107 68 = 0) {l s : Nat} (hs : s < 60) (c : Nat) : icv J l s c = icv I l s c := by
  unfold icv
  rw [t_icd h hs, t_icc h z hs]
theorem t_op {I J : sm_I} (h : tfr I J) (l p : Nat) : opC J l p = opC I l p := by
  unfold opC
  rw [t_spC h, t_rhd h, h 107 53 (by omega), h 131 p (by omega), h 132 p (by omega), h 133 p (by omega)]
theorem t_opL {I J : sm_I} (h : tfr I J) (l p : Nat) : ∀ m, opL J l p m = opL I l p m := by
  intro m
  induction m with
  | zero => rfl
  | succ m ih =>
    show opC J l (p + m) ++ opL J l p m = opC I l (p + m) ++ opL I l p m
    rw [ih, t_op h]
theorem t_moL {I J : sm_I} (h : tfr I J) (f : tC → tC) : ∀ m, moL J f m = moL I f m := by
  intro m
  induction m with
  | zero => rfl
  | succ m ih =>
    show bC f (nd (J 144 m)) (nd (J 145 m)) (J 146 m).toInt (J 147 m).toInt ++ moL J f m = bC f (nd (I 144 m)) (nd (I 145 m)) (I 146 m).toInt (I 147 m).toInt ++ moL I f m
    rw [ih, h 144 m (by omega), h 145 m (by omega), h 146 m (by omega), h 147 m (by omega)]
theorem t_ba {I J : sm_I} (h : tfr I J) (l : Nat) : baC J l = baC I l := by
  unfold baC
  rw [t_moL h, t_opL h, t_rhd h, h 107 54 (by omega), h 134 l (by omega)]
theorem t_iok {I J : sm_I} (h : tfr I J) {l n s : Nat} (hs : s < 60) (k : iok I l n s) : iok J l n s := by
  have sk : ∀ p, sspk I n p → sspk J n p := fun p k => by
    unfold sspk at k ⊢
    rw [h 130 p (by omega), h 131 p (by omega), h 132 p (by omega), h 133 p (by omega)]; exact k
  rcases k with ⟨a, k⟩ | ⟨a, k⟩ | ⟨a, k⟩
  · refine Or.inl ⟨a, fun c hc => ?_⟩
    rw [h 128 _ (by omega)] at hc
    obtain ⟨k1, k2⟩ := k c hc
    rw [h 129 _ (by omega)]
    exact ⟨k1, fun i hi => sk _ (k2 i hi)⟩
  · refine Or.inr (Or.inl ⟨a, fun w => ?_⟩)
    rw [h 142 _ (by omega)] at w ⊢
    rw [h 140 _ (by omega), h 141 _ (by omega)]
    exact k w
  · omega
theorem t_mook {I J : sm_I} (h : tfr I J) {n p : Nat} (k : mook I n p) : mook J n p := by
  unfold mook at k ⊢
  rw [h 144 p (by omega), h 145 p (by omega), h 146 p (by omega), h 147 p (by omega)]; exact k
theorem t_sk {I J : sm_I} (h : tfr I J) {n p : Nat} (k : sspk I n p) : sspk J n p := by
  unfold sspk at k ⊢
  rw [h 130 p (by omega), h 131 p (by omega), h 132 p (by omega), h 133 p (by omega)]; exact k
/-- the ITEMS of all -/
theorem sL_in (set : Int32) : ∀ k x, x ∈ sL set k → x < k := by
  intro k
  induction k with
  | zero => intro x h; exact absurd h List.not_mem_nil
  | succ k ih =>
    intro x h
    rcases List.mem_append.mp h with h | h
    · have := ih x h; omega
    · split at h
      · have := List.mem_singleton.mp h; omega
      · exact absurd h List.not_mem_nil
theorem mL_in (b : Nat) : ∀ k x, x ∈ mL b k → b ≤ x ∧ x < b + k := by
  intro k
  induction k with
  | zero => intro x h; exact absurd h List.not_mem_nil
  | succ k ih =>
    intro x h
    rcases List.mem_append.mp h with h | h
    · have := ih x h; omega
    · have := List.mem_singleton.mp h; omega
theorem itL_in {set : Int32} {s m : Nat} {k : Nat} (h : k < (itL set s m 0).length) : (itL set s m 0).getD k 0 < s ∨ (10 ≤ (itL set s m 0).getD k 0 ∧ (itL set s m 0).getD k 0 < 10 + m) := by
  have e : (itL set s m 0).getD k 0 = (itL set s m 0)[k] := by rw [List.getD_eq_getElem?_getD, List.getElem?_eq_getElem h]; rfl
  have mem : (itL set s m 0)[k] ∈ itL set s m 0 := List.getElem_mem h
  rw [e]
  rcases List.mem_append.mp mem with mem | mem
  · rcases List.mem_append.mp mem with mem | mem
    · exact Or.inl (sL_in _ _ _ mem)
    · exact Or.inr (mL_in _ _ _ mem)
  · exact absurd mem List.not_mem_nil
theorem itL_len {set : Int32} {s m : Nat} : (itL set s m 0).length ≤ s + m := by
  unfold itL
  rw [List.length_append, List.length_append, mL_len]
  have a := sL_len set s
  have b : (mL 60 0).length = 0 := rfl
  omega
def rdb (I : sm_I) (s : Nat) : Int32 := sb (fun k => if I 137 k = 0 then 1 else 0) s
def rxs (I : sm_I) (l : Nat) : List Nat := itL (rdb I (I 125 l).toNatClampNeg) (I 125 l).toNatClampNeg (I 107 46).toNatClampNeg 0
def rst (I : sm_I) : sm_I := fun p j => if p = 107 ∧ (j = 53 ∨ j = 68) then 0 else I p j
/-- what a text is: the numbers are within their bounds -/
def rwf (I : sm_I) (l : Nat) : Prop := ((I 107 18).toInt = l ∧ l ≤ 1) ∧ (0 ≤ (I 122 l).toInt ∧ (I 122 l).toInt ≤ 10) ∧ (0 ≤ (I 134 l).toInt ∧ (I 134 l).toInt ≤ 4) ∧ (∀ k, k < (I 134 l).toNatClampNeg → sspk I ((I 122 l).toNatClampNeg + 1) (240 + 4 * l + k)) ∧ (0 ≤ (I 107 54).toInt ∧ (I 107 54).toInt ≤ 6) ∧ (∀ k, k < (I 107 54).toNatClampNeg → mook I ((I 122 l).toNatClampNeg + 1) k) ∧ (0 ≤ (I 125 l).toInt ∧ (I 125 l).toInt ≤ 10) ∧ (0 ≤ (I 107 46).toInt ∧ (I 107 46).toInt ≤ 45) ∧ (∀ j, j < 20 → 0 ≤ (I 128 j).toInt ∧ (I 128 j).toInt ≤ 4) ∧ ∀ s, s < (I 125 l).toNatClampNeg ∨ (10 ≤ s ∧ s < 10 + (I 107 46).toNatClampNeg) → iok I l ((I 122 l).toNatClampNeg + 1) s
noncomputable def RF (I : sm_I) (l : Nat) : ss := GT ((I 122 l).toNatClampNeg + 1) (rxs I l).length (baC (rst I) l) (fun i c => icv (rst I) l ((rxs I l).getD i 0) c) (fun j => icd (rst I) l ((rxs I l).getD j 0)) false
def gor (xs : List Nat) (F : ss) (I : sm_I) : Prop := I 107 71 = (if F.2.2.2.2.1 = true then 1 else 0) ∧ (I 107 72).toInt = F.2.2.1 ∧ (I 107 73).toInt = F.2.2.2.1 ∧ slg xs F.2.2.1 F.2.2.2.1 F.2.2.2.2.2.1 F.2.2.2.2.2.2 I
theorem rst_t {I J : sm_I} (h : ∀ p j, (p = 107 ∧ (j = 18 ∨ j = 46 ∨ j = 54)) ∨ ((118 ≤ p ∧ p ≤ 142) ∧ p ≠ 138) ∨ (144 ≤ p ∧ p ≤ 147) → J p j = I p j) : tfr (rst I) (rst J) := fun p j q => by
  unfold rst
  by_cases c : p = 107 ∧ (j = 53 ∨ j = 68)
  · rw [if_pos c, if_pos c]
  · rw [if_neg c, if_neg c]; exact h p j (by omega)
theorem rxs_cg {I J : sm_I} {l : Nat} (h : ∀ p j, (p = 107 ∧ (j = 18 ∨ j = 46 ∨ j = 54)) ∨ ((118 ≤ p ∧ p ≤ 142) ∧ p ≠ 138) ∨ (144 ≤ p ∧ p ≤ 147) → J p j = I p j) : rxs J l = rxs I l := by
  have e : J 137 = I 137 := funext (fun j => h 137 j (by omega))
  unfold rxs rdb
  rw [h 125 l (by omega), h 107 46 (by omega), e]
theorem RF_cg {I J : sm_I} {l : Nat} (b : 0 ≤ (I 125 l).toInt ∧ (I 125 l).toInt ≤ 10) (m : 0 ≤ (I 107 46).toInt ∧ (I 107 46).toInt ≤ 45) (h : ∀ p j, (p = 107 ∧ (j = 18 ∨ j = 46 ∨ j = 54)) ∨ ((118 ≤ p ∧ p ≤ 142) ∧ p ≠ 138) ∨ (144 ≤ p ∧ p ≤ 147) → J p j = I p j) : RF J l = RF I l := by
  unfold RF
  rw [rxs_cg h, h 122 l (by omega), t_ba (rst_t h)]
  have nb := kl_nat b.1
  have nm := kl_nat m.1
  have lt : ∀ j, j < (rxs I l).length → (rxs I l).getD j 0 < 60 := fun j hj => by
    have := itL_in (show j < (itL _ _ _ 0).length from hj)
    unfold rxs
    omega
  have z : rst I 107 68 = 0 := if_pos ⟨rfl, Or.inr rfl⟩
  exact GT_cg (fun c => Iff.rfl) (fun k hk => t_icd (rst_t h) (lt k hk)) (fun j hj c x => by rw [t_icv (rst_t h) z (lt j hj)])
section
variable {S : sm_C} {d : Nat} {Φ : sm_Z → Prop} {I : sm_I} {L : sm_L} {R : sm_R}
def gofr (I J : sm_I) : Prop := ∀ p j, ¬ (p = 143 ∨ (148 ≤ p ∧ p ≤ 150) ∨ (153 ≤ p ∧ p ≤ 156) ∨ (p = 107 ∧ (j = 51 ∨ j = 52 ∨ j = 53 ∨ j = 59 ∨ j = 63 ∨ j = 64 ∨ j = 67 ∨ j = 68 ∨ (70 ≤ j ∧ j ≤ 74)))) → J p j = I p j
theorem rx_goes {l : Nat} (w : rwf I l) (g0 : 0 ≤ (I 107 69).toInt) (g1 : (I 107 69).toInt ≤ 5000) (go : I 107 70 ≠ 0 → gor (rxs I l) (RF I l) I) (h : ∀ J, gofr I J → J 107 70 ≠ 0 → (I 107 70 ≠ 0 → J = I) → gor (rxs I l) (RF I l) J → Φ (none, (xLay, J, L, kM R))) : sm_wp sm_P S (d + 6) 135 0 [.ref 107] [] (xLay, I, L, kM R) (0, 0) Φ := by
  obtain ⟨⟨w1, w2⟩, w3, w4, w5, w6, w7, w8, w9, w10, w11⟩ := w
  refine p_X12_goesAll_0 (d := d + 5) ⟨fun e0 I1 e1 I2 e2 => ?_, fun e0 => h I (fun _ _ _ => rfl) e0 (fun _ => rfl) (go e0)⟩
  have o2 : ∀ p j, ¬ (p = 107 ∧ (j = 53 ∨ j = 67 ∨ j = 68)) → I2 p j = I p j := fun p j q => by rw [e2, en_up_ne _ _ _ _ (by omega), e1, en_up_ne _ _ _ _ (by omega), en_up_ne _ _ _ _ (by omega)]
  have a53 : I2 107 53 = 0 := by rw [e2, en_up_ne _ _ _ _ (by omega), e1, en_up_ne _ _ _ _ (by omega), en_up_eq]
  have a67 : I2 107 67 = 0 := by rw [e2, en_up_eq]
  have a68 : I2 107 68 = 0 := by rw [e2, en_up_ne _ _ _ _ (by omega), e1, en_up_eq]
  have t2 : tfr (rst I) I2 := fun p j q => by
    unfold rst
    by_cases c : p = 107 ∧ (j = 53 ∨ j = 68)
    · rw [if_pos c]
      rcases c with ⟨rfl, rfl | rfl⟩
      · exact a53
      · exact a68
    · rw [if_neg c]; exact o2 p j (by omega)
  have nb := kl_nat w8.1
  have nm := kl_nat w9.1
  have nt := kl_nat w3.1
  have e125 : I2 125 l = I 125 l := o2 125 l (by omega)
  have e137 : I2 137 = I 137 := funext (fun j => o2 137 j (by omega))
  refine rx_undoubted (s := (I 125 l).toNatClampNeg) (by rw [o2 107 18 (by omega)]; exact w1) w2 (by rw [e125]; exact nb.symm) (by omega) ⟨_, I2, L, rfl, ?_⟩
  rw [e137]
  refine rx_lists (l := l) (s := (I 125 l).toNatClampNeg) (m := (I 107 46).toNatClampNeg) (e := 0) (by rw [o2 107 18 (by omega)]; exact w1) w2 (by rw [e125]; exact nb.symm) (by omega) (by rw [o2 107 46 (by omega)]; exact nm.symm) (by omega) (by rw [a67]; rfl) (by decide) (fun I6 c6 lM6 => ⟨I6, L, rfl, fun I9 e9 I10 e10 I11 e11 I12 e12 => ?_⟩)
  have o12 : ∀ p j, ¬ (p = 107 ∧ (j = 63 ∨ j = 64 ∨ j = 73 ∨ j = 74)) → I12 p j = I6 p j := fun p j q => by rw [e12, en_up_ne _ _ _ _ (by omega), e11, en_up_ne _ _ _ _ (by omega), e10, en_up_ne _ _ _ _ (by omega), e9, en_up_ne _ _ _ _ (by omega)]
  have oo12 : ∀ p j, p ≠ 148 → ¬ (p = 107 ∧ (j = 59 ∨ j = 63 ∨ j = 64 ∨ j = 73 ∨ j = 74)) → I12 p j = I2 p j := fun p j q1 q2 => (o12 p j (by omega)).trans (c6 p j q1 (by omega))
  have a64 : I12 107 64 = 0 := by rw [e12, en_up_eq]
  have a63 : I12 107 63 = 0 := by rw [e12, en_up_ne _ _ _ _ (by omega), e11, en_up_eq]
  have a73 : I12 107 73 = 0 := by rw [e12, en_up_ne _ _ _ _ (by omega), e11, en_up_ne _ _ _ _ (by omega), e10, en_up_eq]
  have e18 : I12 107 18 = I 107 18 := (oo12 107 18 (by omega) (by omega)).trans (o2 107 18 (by omega))
  have nl : (I12 107 18).toNatClampNeg = l := tk_nat (by rw [e18]; exact w1)
  refine ⟨kl_in (by rw [e18]; omega) (by rw [e18]; omega), ?_⟩
  rw [nl, oo12 122 l (by omega) (by omega), o2 122 l (by omega)]
  intro n13 e13
  have q13 : n13.toInt = (((I 122 l).toNatClampNeg + 1 : Nat) : Int) := by rw [e13, ml_in1 (by omega)]; omega
  have t12 : tfr (rst I) I12 := fun p j q => (oo12 p j (by omega) (by omega)).trans (t2 p j q)
  have f12 : ∀ p j, p ≠ 148 → ¬ (p = 107 ∧ (j = 53 ∨ j = 67 ∨ j = 68 ∨ j = 59 ∨ j = 63 ∨ j = 64 ∨ j = 73 ∨ j = 74)) → I12 p j = I p j := fun p j q1 q2 => (oo12 p j q1 (by omega)).trans (o2 p j (by omega))
  have fI : tfr I (rst I) ∨ True := Or.inr trivial
  have sk12 : ∀ n p, sspk I n p → sspk I12 n p := fun n p k => by
    unfold sspk at k ⊢
    rw [f12 130 p (by omega) (by omega), f12 131 p (by omega) (by omega), f12 132 p (by omega) (by omega), f12 133 p (by omega) (by omega)]; exact k
  have eRF : RF I l = GT ((I 122 l).toNatClampNeg + 1) (rxs I l).length (baC (rst I) l) (fun i c => icv (rst I) l ((rxs I l).getD i 0) c) (fun j => icd (rst I) l ((rxs I l).getD j 0)) false := rfl
  have len : (rxs I l).length ≤ 55 := by
    have := itL_len (set := rdb I (I 125 l).toNatClampNeg) (s := (I 125 l).toNatClampNeg) (m := (I 107 46).toNatClampNeg)
    unfold rxs
    omega
  have inx : ∀ k, k < (rxs I l).length → (rxs I l).getD k 0 < (I 125 l).toNatClampNeg ∨ (10 ≤ (rxs I l).getD k 0 ∧ (rxs I l).getD k 0 < 10 + (I 107 46).toNatClampNeg) := fun k hk => itL_in hk
  have lM12 : lM I12 (rxs I l) := ⟨by rw [o12 107 59 (by omega)]; exact lM6.1, fun k hk => by rw [o12 148 k (by omega)]; exact lM6.2 k hk⟩
  refine rx_begins (d := d + 1) (l := l) (n := (I 122 l).toNatClampNeg + 1) q13 (by omega) (by omega) (by rw [e18]; exact w1) w2 (by rw [f12 122 l (by omega) (by omega)]; exact w3) (Or.inl (by rw [oo12 107 53 (by omega) (by omega)]; exact a53)) (by rw [f12 134 l (by omega) (by omega)]; exact w4) (fun k hk => by rw [f12 134 l (by omega) (by omega)] at hk; exact sk12 _ _ (w5 k hk)) (by rw [f12 107 54 (by omega) (by omega)]; exact w6) (fun k hk => by
    rw [f12 107 54 (by omega) (by omega)] at hk
    have k := w7 k hk
    unfold mook at k ⊢
    rw [f12 144 _ (by omega) (by omega), f12 145 _ (by omega) (by omega), f12 146 _ (by omega) (by omega), f12 147 _ (by omega) (by omega)]; exact k) (fun r16 I14 z => ⟨r16, I14, L, rfl, ?_⟩)
  obtain ⟨cg, z⟩ := z
  have o14 : ∀ p j, p ≠ 143 → ¬ (p = 107 ∧ (j = 51 ∨ j = 52)) → I14 p j = I12 p j := fun p j q1 q2 => by rw [cg p j (by omega), en_up_ne _ _ _ _ (by omega), en_up_ne _ _ _ _ (by omega)]
  have b51 : I14 107 51 = n13 := by rw [cg 107 51 (by omega), en_up_ne _ _ _ _ (by omega), en_up_eq]
  have t14 : tfr (rst I) I14 := fun p j q => (o14 p j (by omega) (by omega)).trans (t12 p j q)
  rw [t_ba t12] at z
  have z68 : rst I 107 68 = 0 := if_pos ⟨rfl, Or.inr rfl⟩
  have lt60 : ∀ k, k < (rxs I l).length → (rxs I l).getD k 0 < 60 := fun k hk => by have := inx k hk; omega
  have eGT : GT ((I 122 l).toNatClampNeg + 1) (rxs I l).length (baC (rst I) l) (fun i c => icv I14 l ((rxs I l).getD i 0) c) (fun j => icd I14 l ((rxs I l).getD j 0)) false = RF I l := by
    rw [eRF]
    exact GT_cg (fun c => Iff.rfl) (fun k hk => t_icd t14 (lt60 k hk)) (fun j hj c x => by rw [t_icv t14 z68 (lt60 j hj)])
  refine ⟨fun r0 => ?_, fun r0 => ?_⟩
  · -- no HOURS at all
    have zn : tno ((I 122 l).toNatClampNeg + 1) (baC (rst I) l) := by
      rcases z with ⟨-, q⟩ | ⟨q, -⟩
      · exact q
      · rw [r0] at q; exact absurd q (by decide)
    have eF : RF I l = gz 0 := GT_no zn
    have c64 : I14 107 64 = 0 := (o14 107 64 (by omega) (by omega)).trans a64
    have c63 : I14 107 63 = 0 := (o14 107 63 (by omega) (by omega)).trans a63
    have c73 : I14 107 73 = 0 := (o14 107 73 (by omega) (by omega)).trans a73
    refine ⟨Or.inl c64, fun I17 e17 I18 e18 I19 e19 => ?_⟩
    have o19 : ∀ p j, ¬ (p = 107 ∧ (j = 70 ∨ j = 71 ∨ j = 72)) → I19 p j = I14 p j := fun p j q => by rw [e19, en_up_ne _ _ _ _ (by omega), e18, en_up_ne _ _ _ _ (by omega), e17, en_up_ne _ _ _ _ (by omega)]
    refine h I19 (fun p j q => by rw [o19 p j (by omega), o14 p j (by omega) (by omega)]; exact f12 p j (by omega) (by omega)) (by rw [e19, en_up_eq]; decide) (fun q => absurd e0 q) ?_
    rw [eF]
    refine ⟨?_, ?_, ?_, fun i hi => absurd hi (Nat.not_lt_zero i), fun w i hw => absurd hw (Nat.not_lt_zero w)⟩
    · rw [e19, en_up_ne _ _ _ _ (by omega), e18, en_up_ne _ _ _ _ (by omega), e17, en_up_eq, c64]; rfl
    · rw [e19, en_up_ne _ _ _ _ (by omega), e18, en_up_eq, e17, en_up_ne _ _ _ _ (by omega), c63]; rfl
    · rw [o19 107 73 (by omega), c73]; rfl
  · have zt : ttop ((I 122 l).toNatClampNeg + 1) (baC (rst I) l) (mT I14 0) := by
      rcases z with ⟨q, -⟩ | ⟨-, q⟩
      · exact absurd q r0
      · exact q
    have e18' : I14 107 18 = I 107 18 := (o14 107 18 (by omega) (by omega)).trans e18
    have f14 : ∀ p j, p ≠ 143 → p ≠ 148 → ¬ (p = 107 ∧ (j = 51 ∨ j = 52 ∨ j = 53 ∨ j = 67 ∨ j = 68 ∨ j = 59 ∨ j = 63 ∨ j = 64 ∨ j = 73 ∨ j = 74)) → I14 p j = I p j := fun p j q1 q2 q3 => (o14 p j q1 (by omega)).trans (f12 p j q2 (by omega))
    have iok14 : ∀ k, k < (rxs I l).length → iok I14 l ((I 122 l).toNatClampNeg + 1) ((rxs I l).getD k 0) := fun k hk => by
      have a := w11 _ (inx k hk)
      have tI : tfr I (fun p j => if p = 107 ∧ (j = 53 ∨ j = 68) then I p j else I14 p j) := fun p j q => by
        by_cases c : p = 107 ∧ (j = 53 ∨ j = 68)
        · show (if p = 107 ∧ (j = 53 ∨ j = 68) then I p j else I14 p j) = I p j
          rw [if_pos c]
        · show (if p = 107 ∧ (j = 53 ∨ j = 68) then I p j else I14 p j) = I p j
          rw [if_neg c]; exact f14 p j (by omega) (by omega) (by omega)
      exact t_iok tI (lt60 k hk) a
    refine rx_sr (d := d) (kp := true) (xs := rxs I l) (l := l) (n := (I 122 l).toNatClampNeg + 1) (B0 := baC (rst I) l) ⟨by rw [b51]; exact q13, by omega, by rw [e18']; exact w1, w2, by rw [f14 122 l (by omega) (by omega) (by omega)]; exact w3, Or.inl (by rw [o14 107 53 (by omega) (by omega), oo12 107 53 (by omega) (by omega)]; exact a53)⟩ ⟨by rw [o14 107 59 (by omega) (by omega)]; exact lM12.1, fun k hk => by rw [o14 148 k (by omega) (by omega)]; exact lM12.2 k hk⟩ (by omega) (fun _ => len) rfl (fun k hk => Or.inl (by have := inx k hk; omega)) iok14 (fun j hj => by rw [f14 128 j (by omega) (by omega) (by omega)]; exact w10 j hj) (by rw [f14 107 69 (by omega) (by omega) (by omega)]; exact g0) (by rw [f14 107 69 (by omega) (by omega) (by omega)]; exact g1) zt (fun J zf => ⟨_, J, L, rfl, fun n23 e23 => ?_⟩)
    have zf : zfin true (rxs I l) I14 (RF I l) J := by rw [← eGT]; exact zf
    have e23 : n23 = (sm_up J 107 73 (Int32.ofNat (RF I l).2.2.2.1)) 107 64 := by rw [← eGT]; exact e23
    have goal : (n23 = 0 ∨ n23 = 1) ∧ ∀ I24 : sm_I, I24 = (sm_up (sm_up J 107 73 (Int32.ofNat (RF I l).2.2.2.1)) 107 71 n23) → ∀ I25 : sm_I, I25 = (sm_up I24 107 72 (I24 107 63)) → ∀ I26 : sm_I, I26 = (sm_up I25 107 70 (1 : Int32)) → Φ (none, (xLay, I26, L, kM R)) := by
      obtain ⟨⟨zf1, -⟩, zf2, zf3, zf4⟩ := zf
      rw [en_up_ne _ _ _ _ (by omega), zf3] at e23
      refine ⟨?_, fun I24 e24 I25 e25 I26 e26 => ?_⟩
      · rw [e23]
        split
        · exact Or.inr rfl
        · exact Or.inl rfl
      have o26 : ∀ p j, ¬ (p = 107 ∧ (70 ≤ j ∧ j ≤ 73)) → I26 p j = J p j := fun p j q => by rw [e26, en_up_ne _ _ _ _ (by omega), e25, en_up_ne _ _ _ _ (by omega), e24, en_up_ne _ _ _ _ (by omega), en_up_ne _ _ _ _ (by omega)]
      have wf : (RF I l).2.2.2.1 ≤ 1000 := GT_wf.2.2.2.2.1.1
      refine h I26 (fun p j q => by rw [o26 p j (by omega), zf1 p j (by omega)]; exact f14 p j (by omega) (by omega) (by omega)) (by rw [e26, en_up_eq]; decide) (fun q => absurd e0 q) ⟨?_, ?_, ?_, ?_⟩
      · rw [e26, en_up_ne _ _ _ _ (by omega), e25, en_up_ne _ _ _ _ (by omega), e24, en_up_eq]; exact e23
      · rw [e26, en_up_ne _ _ _ _ (by omega), e25, en_up_eq, e24, en_up_ne _ _ _ _ (by omega), en_up_ne _ _ _ _ (by omega)]; exact zf2
      · rw [e26, en_up_ne _ _ _ _ (by omega), e25, en_up_ne _ _ _ _ (by omega), e24, en_up_ne _ _ _ _ (by omega), en_up_eq, Int32.toInt_ofNat_of_lt (by omega)]
      · obtain ⟨a1, a2⟩ := zf4 rfl
        refine ⟨fun i hi h1 => ?_, fun w i hw hi => ?_⟩
        · rw [o26 154 i (by omega), o26 155 i (by omega), o26 156 i (by omega)]
          exact a1 i hi h1
        · rw [o26 153 _ (by omega)]
          exact a2 w i hw hi
    rw [← eGT] at goal
    exact goal
end
