/-- what the book holds -/
def kbk (ys : List Nat) (tr fd : Nat) (lg : Nat → Nat × Nat × Bool) (wy : Nat → Nat → Nat) (J : sm_I) (L : sm_L) : Prop := (∀ i, i < tr → i < 1000 → J 46 i = pkT (ys.getD (lg i).1 0) (lg i).2.1 (lg i).2.2) ∧ ∀ w, w < fd → wbk (J 47 w) (L 48 w) (gyw ys (wy w) ys.length)
/-! where nobody stands for another -/
theorem bC_id {f : tC → tC} {n x y : Nat} {a b : Int} (hf : ∀ c : tC, c.1 < n → c.2.1 < n → f c = c) (hx : x < n) (hy : y < n) : bC f x y a b = bC id x y a b := by
  unfold bC
  rw [hf (y, x, -a) hy hx, hf (x, y, b) hx hy]; rfl
theorem kmoL_id {I : sm_I} {f : tC → tC} {n : Nat} (hf : ∀ c : tC, c.1 < n → c.2.1 < n → f c = c) : ∀ m, (∀ k, k < m → kmok I n k) → kmoL I f m = kmoL I id m := by
  intro m
  induction m with
  | zero => intro _; rfl
  | succ m ih =>
    intro h
    obtain ⟨k1, k2, -, -⟩ := h m (by omega)
    show bC f (nd (I 41 m)) (nd (I 42 m)) (I 43 m).toInt (I 44 m).toInt ++ kmoL I f m = bC id (nd (I 41 m)) (nd (I 42 m)) (I 43 m).toInt (I 44 m).toInt ++ kmoL I id m
    rw [ih (fun k hk => h k (by omega)), bC_id hf (by unfold nd; omega) (by unfold nd; omega)]
theorem kopL_id {Q : Nat} {I : sm_I} {f : tC → tC} {n : Nat} (hf : ∀ c : tC, c.1 < n → c.2.1 < n → f c = c) : ∀ m, m < n → (∀ k, k < m → kopk Q I n k) → kopL Q I f m = kopL Q I id m := by
  intro m
  induction m with
  | zero => intro _ _; rfl
  | succ m ih =>
    intro hm h
    show kopC Q I f m ++ kopL Q I f m = kopC Q I id m ++ kopL Q I id m
    rw [ih (by omega) (fun k hk => h k (by omega))]
    have k := h m (by omega)
    unfold kopC
    by_cases e : I (Q + 6) m = -1
    · rw [if_pos e, if_pos e]
    · obtain ⟨k1, -, -⟩ := k e
      rw [if_neg e, if_neg e, bC_id hf (by omega) (by unfold nd; omega)]
theorem ksL_id {Q : Nat} {I : sm_I} {f : tC → tC} {n p : Nat} {g : Int} (hf : ∀ c : tC, c.1 < n → c.2.1 < n → f c = c) : ∀ m, (∀ k, k < m → kspk Q I n (p + k)) → ksL Q I f g p m = ksL Q I id g p m := by
  intro m
  induction m with
  | zero => intro _; rfl
  | succ m ih =>
    intro h
    obtain ⟨-, k1, k2, -, -⟩ := h m (by omega)
    show ksC Q I f (p + m) g ++ ksL Q I f g p m = ksC Q I id (p + m) g ++ ksL Q I id g p m
    unfold ksC
    rw [ih (fun k hk => h k (by omega)), bC_id hf (by unfold nd; omega) (by unfold nd; omega)]
theorem kcv_id {Q G : Nat} {I : sm_I} {f : tC → tC} {n s : Nat} (hf : ∀ c : tC, c.1 < n → c.2.1 < n → f c = c) (ok : kiok Q G I n s) (c : Nat) : kcv Q G I f s c = kcv Q G I id s c := by
  unfold kcv
  by_cases q : c < kcd Q I s
  · rw [if_pos q, if_pos q]
    unfold kcd at q
    unfold kcc
    rcases ok with ⟨s10, b, -, ok⟩ | ⟨sr, ok⟩
    · rw [if_pos s10] at q ⊢
      rw [if_pos s10]
      obtain ⟨-, o2⟩ := ok c q
      exact ksL_id hf _ o2
    · rw [if_neg (by omega)] at q ⊢
      rw [if_neg (by omega)]
      have w : 0 ≤ (I (Q + 24) (s - 100)).toInt := by
        rcases Int.lt_or_le (I (Q + 24) (s - 100)).toInt 0 with u | u
        · rw [if_pos u] at q; exact absurd q (Nat.not_lt_zero _)
        · exact u
      obtain ⟨o1, o2, -⟩ := ok w
      have n1 : nd (I (Q + 22) (s - 100)) < n := by unfold nd; omega
      have n2 : nd (I (Q + 23) (s - 100)) < n := by unfold nd; omega
      unfold mvC
      split
      · rw [hf (nd (I (Q + 22) (s - 100)), nd (I (Q + 23) (s - 100)), _) n1 n2]; rfl
      · rw [hf (nd (I (Q + 23) (s - 100)), nd (I (Q + 22) (s - 100)), _) n2 n1]; rfl
  · rw [if_neg q, if_neg q]
/-- what GOING THROUGH all reads of the class -/
def ktf (Q : Nat) (I J : sm_I) : Prop := ∀ p j, (Q ≤ p ∧ p < Q + 25) ∨ p = 37 ∨ (41 ≤ p ∧ p ≤ 44) ∨ (p = 74 ∧ (j = 7 ∨ j = 8)) → J p j = I p j
theorem k_mok {Q : Nat} {I J : sm_I} (h : ktf Q I J) {n k : Nat} (q : kmok I n k) : kmok J n k := by
  unfold kmok at q ⊢
  rw [h 41 k (by omega), h 42 k (by omega), h 43 k (by omega), h 44 k (by omega)]; exact q
theorem k_opk {Q : Nat} {I J : sm_I} (h : ktf Q I J) {n k : Nat} (q : kopk Q I n k) : kopk Q J n k := by
  unfold kopk at q ⊢
  rw [h (Q + 6) k (by omega), h (Q + 7) k (by omega), h (Q + 8) k (by omega)]; exact q
theorem k_ksL {Q : Nat} {I J : sm_I} (h : ktf Q I J) (f : tC → tC) (g : Int) (p : Nat) : ∀ m, ksL Q J f g p m = ksL Q I f g p m := by
  intro m
  induction m with
  | zero => rfl
  | succ m ih =>
    show ksC Q J f (p + m) g ++ ksL Q J f g p m = ksC Q I f (p + m) g ++ ksL Q I f g p m
    unfold ksC
    rw [ih, h (Q + 13) _ (by omega), h (Q + 14) _ (by omega), h (Q + 15) _ (by omega), h (Q + 16) _ (by omega)]
theorem k_kba {Q : Nat} {I J : sm_I} (h : ktf Q I J) (f : tC → tC) : kbaC Q J f = kbaC Q I f := by
  have e1 : ∀ m, kmoL J f m = kmoL I f m := fun m => by
    induction m with
    | zero => rfl
    | succ m ih =>
      show bC f (nd (J 41 m)) (nd (J 42 m)) (J 43 m).toInt (J 44 m).toInt ++ kmoL J f m = bC f (nd (I 41 m)) (nd (I 42 m)) (I 43 m).toInt (I 44 m).toInt ++ kmoL I f m
      rw [ih, h 41 m (by omega), h 42 m (by omega), h 43 m (by omega), h 44 m (by omega)]
  have e2 : ∀ m, kopL Q J f m = kopL Q I f m := fun m => by
    induction m with
    | zero => rfl
    | succ m ih =>
      show kopC Q J f m ++ kopL Q J f m = kopC Q I f m ++ kopL Q I f m
      unfold kopC
      rw [ih, h (Q + 6) m (by omega), h (Q + 7) m (by omega), h (Q + 8) m (by omega)]
  unfold kbaC
  rw [e1, e2, h 37 1 (by omega), h Q 2 (by omega)]
theorem k_kgv {Q : Nat} {I J : sm_I} (h : ktf Q I J) (s : Nat) : kgv 74 J s = kgv 74 I s := by
  unfold kgv
  rw [h 74 7 (by omega), h 74 8 (by omega)]
theorem k_kcd {Q : Nat} {I J : sm_I} (h : ktf Q I J) (s : Nat) : kcd Q J s = kcd Q I s := by
  unfold kcd
  rw [h (Q + 10) _ (by omega), h (Q + 24) _ (by omega)]
theorem k_kcv {Q : Nat} {I J : sm_I} (h : ktf Q I J) (f : tC → tC) (s c : Nat) : kcv Q 74 J f s c = kcv Q 74 I f s c := by
  unfold kcv kcc
  rw [k_kcd h, k_kgv h, k_ksL h, h (Q + 11) _ (by omega), h (Q + 22) _ (by omega), h (Q + 23) _ (by omega), h (Q + 24) _ (by omega)]
theorem k_iok {Q : Nat} {I J : sm_I} (h : ktf Q I J) {n s : Nat} (k : kiok Q 74 I n s) : kiok Q 74 J n s := by
  rcases k with ⟨k1, k2, k3, k4⟩ | ⟨k1, k2⟩
  · refine Or.inl ⟨k1, by rw [h (Q + 10) _ (by omega)]; exact k2, by rw [k_kgv h]; exact k3, fun c hc => ?_⟩
    rw [h (Q + 10) _ (by omega)] at hc
    obtain ⟨a1, a2⟩ := k4 c hc
    rw [h (Q + 11) _ (by omega)]
    refine ⟨a1, fun i hi => ?_⟩
    have b := a2 i hi
    unfold kspk at b ⊢
    rw [h (Q + 13) _ (by omega), h (Q + 14) _ (by omega), h (Q + 15) _ (by omega), h (Q + 16) _ (by omega)]; exact b
  · refine Or.inr ⟨k1, fun w => ?_⟩
    rw [h (Q + 24) _ (by omega)] at w ⊢
    rw [h (Q + 22) _ (by omega), h (Q + 23) _ (by omega)]
    exact k2 w
def kst (I : sm_I) : sm_I := fun p j => if p = 74 ∧ (j = 7 ∨ j = 8) then 0 else I p j
def kdb (Q : Nat) (I : sm_I) : Int32 := (((1 : Int32) <<< ((I Q 3) &&& 31)) - (1 : Int32)) &&& ((I 37 0) ^^^ (-1 : Int32))
def kys (Q : Nat) (I : sm_I) : List Nat := kitL (kdb Q I) (I Q 3).toNatClampNeg (I Q 5).toNatClampNeg
noncomputable def KF (Q : Nat) (I : sm_I) : ss := GT ((I Q 2).toNatClampNeg + 1) (kys Q I).length (kbaC Q (kst I) id) (fun i c => kcv Q 74 (kst I) id ((kys Q I).getD i 0) c) (fun j => kcd Q (kst I) ((kys Q I).getD j 0)) false
/-- what a text is: the numbers are within their bounds -/
def kW (Q : Nat) (I : sm_I) : Prop := (0 ≤ (I Q 2).toInt ∧ (I Q 2).toInt ≤ 10) ∧ (0 ≤ (I Q 3).toInt ∧ (I Q 3).toInt ≤ 10) ∧ (0 ≤ (I Q 5).toInt ∧ (I Q 5).toInt ≤ 45) ∧ (0 ≤ (I 37 1).toInt ∧ (I 37 1).toInt ≤ 6) ∧ (∀ k, k < (I 37 1).toNatClampNeg → kmok I ((I Q 2).toNatClampNeg + 1) k) ∧ (∀ k, k < (I Q 2).toNatClampNeg → kopk Q I ((I Q 2).toNatClampNeg + 1) k) ∧ ∀ s, s < (I Q 3).toNatClampNeg ∨ (100 ≤ s ∧ s < 100 + (I Q 5).toNatClampNeg) → kiok Q 74 (kst I) ((I Q 2).toNatClampNeg + 1) s
theorem kst_t {Q : Nat} {I J : sm_I} (hQ : Q = 12 ∨ Q = 49) (h : ∀ p j, (Q ≤ p ∧ p < Q + 25) ∨ p = 37 ∨ (41 ≤ p ∧ p ≤ 44) → J p j = I p j) : ktf Q (kst I) (kst J) := fun p j q => by
  unfold kst
  by_cases c : p = 74 ∧ (j = 7 ∨ j = 8)
  · rw [if_pos c, if_pos c]
  · rw [if_neg c, if_neg c]; exact h p j (by omega)
theorem kys_cg {Q : Nat} {I J : sm_I} (h : ∀ p j, (Q ≤ p ∧ p < Q + 25) ∨ p = 37 ∨ (41 ≤ p ∧ p ≤ 44) → J p j = I p j) : kys Q J = kys Q I := by
  unfold kys kdb
  rw [h Q 3 (by omega), h Q 5 (by omega), h 37 0 (by omega)]
theorem KF_cg {Q : Nat} {I J : sm_I} (hQ : Q = 12 ∨ Q = 49) (h : ∀ p j, (Q ≤ p ∧ p < Q + 25) ∨ p = 37 ∨ (41 ≤ p ∧ p ≤ 44) → J p j = I p j) : KF Q J = KF Q I := by
  unfold KF
  rw [kys_cg h, h Q 2 (by omega), k_kba (kst_t hQ h)]
  exact GT_cg (fun c => Iff.rfl) (fun k _ => k_kcd (kst_t hQ h) _) (fun j _ c x => by rw [k_kcv (kst_t hQ h)])
/-- what was gone through, as the class keeps it -/
def kall (Q : Nat) (ys : List Nat) (F : ss) (I : sm_I) (L : sm_L) : Prop := kyM 74 I ys ∧ ((I 74 13).toInt = F.2.2.1 ∧ (I 74 14).toInt = F.2.2.2.1 ∧ I 74 15 = if F.2.2.2.2.1 = true then 1 else 0) ∧ kbk ys F.2.2.1 F.2.2.2.1 F.2.2.2.2.2.1 F.2.2.2.2.2.2 I L
