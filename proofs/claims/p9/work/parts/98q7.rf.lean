/-! the reference's search leaves the problem as it is -/
section
variable {S : sm_C} {d : Nat} {Φ : sm_Z → Prop} {I : sm_I} {L : sm_L} {R : sm_R}
def zfr (I J : sm_I) : Prop := ∀ p j, ¬ (p = 143 ∨ p = 149 ∨ p = 150 ∨ (153 ≤ p ∧ p ≤ 156) ∨ (p = 107 ∧ (j = 52 ∨ j = 63 ∨ j = 64))) → J p j = I p j
theorem zfr_0 {I : sm_I} : zfr I I := fun _ _ _ => rfl
theorem zfr_t {I J K : sm_I} (a : zfr I J) (b : zfr J K) : zfr I K := fun p j h => (b p j h).trans (a p j h)
theorem zfr_c {pg : Nat} {I J : sm_I} (h : chg pg I J) : zfr I J := fun p j q => h p j (by omega)
theorem s_oA {I J : sm_I} (h : zfr I J) (l i : Nat) : oA J l i = oA I l i := by
  unfold oA
  rw [h 122 l (by omega), h 135 _ (by omega)]
theorem s_su {I J : sm_I} (h : zfr I J) (l i : Nat) : su J l i = su I l i ∧ fa J l i = fa I l i ∧ na J l i = na I l i := by
  unfold su fa na
  rw [s_oA h, h 131 _ (by omega), h 132 _ (by omega), h 133 _ (by omega)]
  exact ⟨rfl, rfl, rfl⟩
theorem s_rhd {I J : sm_I} (h : zfr I J) (l : Nat) : rhd J l = rhd I l := by
  funext c
  unfold rhd
  rw [h 107 53 (by omega), (s_su h l c.1).1, (s_su h l c.2.1).1, (s_su h l c.1).2.1, (s_su h l c.2.1).2.2]
theorem s_spL {I J : sm_I} (h : zfr I J) (f : tC → tC) (g : Int) (p : Nat) : ∀ m, spL J f g p m = spL I f g p m := by
  intro m
  induction m with
  | zero => rfl
  | succ m ih =>
    show spC J f (p + m) g ++ spL J f g p m = spC I f (p + m) g ++ spL I f g p m
    rw [ih]
    unfold spC
    rw [h 130 _ (by omega), h 131 _ (by omega), h 132 _ (by omega), h 133 _ (by omega)]
theorem s_icd {I J : sm_I} (h : zfr I J) (l s : Nat) : icd J l s = icd I l s := by
  unfold icd
  rw [h 128 _ (by omega), h 142 _ (by omega), h 152 _ (by omega)]
theorem s_icc {I J : sm_I} (h : zfr I J) (l s c : Nat) : icc J l s c = icc I l s c := by
  unfold icc gv
  rw [s_rhd h, s_spL h, h 107 68 (by omega), h 107 69 (by omega), h 129 _ (by omega), h 140 _ (by omega), h 141 _ (by omega), h 142 _ (by omega), h 151 _ (by omega), h 152 _ (by omega), h 122 l (by omega)]
theorem s_sspk {I J : sm_I} (h : zfr I J) (n p : Nat) : sspk J n p ↔ sspk I n p := by
  unfold sspk
  rw [h 130 p (by omega), h 131 p (by omega), h 132 p (by omega), h 133 p (by omega)]
theorem s_iok {I J : sm_I} (h : zfr I J) {l n s : Nat} (k : iok I l n s) : iok J l n s := by
  rcases k with ⟨a, k⟩ | ⟨a, k⟩ | ⟨a, k⟩
  · refine Or.inl ⟨a, fun c hc => ?_⟩
    rw [h 128 _ (by omega)] at hc
    obtain ⟨k1, k2⟩ := k c hc
    rw [h 129 _ (by omega)]
    exact ⟨k1, fun i hi => (s_sspk h n _).mpr (k2 i hi)⟩
  · refine Or.inr (Or.inl ⟨a, fun w => ?_⟩)
    rw [h 142 _ (by omega)] at w ⊢
    rw [h 140 _ (by omega), h 141 _ (by omega)]
    exact k w
  · refine Or.inr (Or.inr ⟨a, fun w => ?_⟩)
    rw [h 152 _ (by omega)] at w ⊢
    rw [h 151 _ (by omega), h 122 l (by omega)]
    exact k w
theorem s_lM {I J : sm_I} {xs : List Nat} (h : zfr I J) (k : lM I xs) : lM J xs := by
  refine ⟨by rw [h 107 59 (by omega)]; exact k.1, fun i hi => by rw [h 148 i (by omega)]; exact k.2 i hi⟩
/-- what the search needs, but for the page -/
def rBs (I : sm_I) (n l : Nat) : Prop := (I 107 51).toInt = n ∧ n ≤ 12 ∧ (I 107 18).toInt = l ∧ l ≤ 1 ∧ (0 ≤ (I 122 l).toInt ∧ (I 122 l).toInt ≤ 10) ∧ hok I l n
theorem s_rB {I J : sm_I} {pg n l : Nat} (h : zfr I J) (b : rBs I n l) (hp : (J 107 52).toInt = pg) (p69 : pg ≤ 69) : rB0 J pg n l := by
  obtain ⟨b1, b2, b3, b4, b5, b6⟩ := b
  refine ⟨hp, p69, by rw [h 107 51 (by omega)]; exact b1, b2, by rw [h 107 18 (by omega)]; exact b3, b4, by rw [h 122 l (by omega)]; exact b5, ?_⟩
  rcases b6 with e | e
  · exact Or.inl (by rw [h 107 53 (by omega)]; exact e)
  · refine Or.inr (fun i hi => ?_)
    rw [(s_su h l i).1, (s_su h l i).2.1, (s_su h l i).2.2, s_oA h, h 131 _ (by omega)]
    exact e i hi
theorem nar_y : ∀ n : Nat, n < 128 → vp_nar .byte (Int32.ofNat n).toInt8.toInt32 = Int32.ofNat n := by decide +kernel
theorem nar_yz : vp_nar .boolean (0 : Int32) = 0 ∧ vp_nar .boolean (1 : Int32) = 1 := by decide +kernel
end
