section
/-! GOING THROUGH as a pure machine: level + 1 (0: done), the next choice of each level, TRIES, found, SPENT, what was tried, the WAYS -/
abbrev ss : Type := Nat × (Nat → Nat) × Nat × Nat × Bool × (Nat → Nat × Nat × Bool) × (Nat → Nat → Nat)
def sup {α : Type} (f : Nat → α) (i : Nat) (v : α) : Nat → α := fun j => if j = i then v else f j
theorem sup_eq {α : Type} (f : Nat → α) (i : Nat) (v : α) : sup f i v i = v := if_pos rfl
theorem sup_ne {α : Type} (f : Nat → α) {i j : Nat} (v : α) (h : j ≠ i) : sup f i v j = f j := if_neg h
/-- the choices under way, with c on the level k -/
def chs (nx : Nat → Nat) (k c : Nat) : Nat → Nat := fun j => if j = k then c else nx j - 1
def stp (m : Nat) (nc : Nat → Nat) (fe : Nat → (Nat → Nat) → Bool) (tf : Bool) (s : ss) : ss :=
  if s.1 = 0 then s
  else if nc (s.1 - 1) ≤ s.2.1 (s.1 - 1) then (s.1 - 1, s.2.1, s.2.2.1, s.2.2.2.1, s.2.2.2.2.1, s.2.2.2.2.2.1, s.2.2.2.2.2.2)
  else if 1000 ≤ s.2.2.1 then (0, s.2.1, s.2.2.1 + 1, s.2.2.2.1, true, s.2.2.2.2.2.1, s.2.2.2.2.2.2)
  else if fe s.1 (chs s.2.1 (s.1 - 1) (s.2.1 (s.1 - 1))) = true then
    (if s.1 < m then (s.1 + 1, sup (sup s.2.1 (s.1 - 1) (s.2.1 (s.1 - 1) + 1)) s.1 0, s.2.2.1 + 1, s.2.2.2.1, s.2.2.2.2.1, sup s.2.2.2.2.2.1 s.2.2.1 (s.1 - 1, s.2.1 (s.1 - 1), true), s.2.2.2.2.2.2)
     else ((if tf = true then 0 else s.1), sup s.2.1 (s.1 - 1) (s.2.1 (s.1 - 1) + 1), s.2.2.1 + 1, s.2.2.2.1 + 1, s.2.2.2.2.1, sup s.2.2.2.2.2.1 s.2.2.1 (s.1 - 1, s.2.1 (s.1 - 1), true), sup s.2.2.2.2.2.2 s.2.2.2.1 (chs s.2.1 (s.1 - 1) (s.2.1 (s.1 - 1)))))
  else (s.1, sup s.2.1 (s.1 - 1) (s.2.1 (s.1 - 1) + 1), s.2.2.1 + 1, s.2.2.2.1, s.2.2.2.2.1, sup s.2.2.2.2.2.1 s.2.2.1 (s.1 - 1, s.2.1 (s.1 - 1), false), s.2.2.2.2.2.2)
def rn (m : Nat) (nc : Nat → Nat) (fe : Nat → (Nat → Nat) → Bool) (tf : Bool) : Nat → ss → ss
  | 0, s => s
  | n + 1, s => rn m nc fe tf n (stp m nc fe tf s)
def s_0 : ss := (1, fun _ => 0, 0, 0, false, fun _ => (0, 0, false), fun _ _ => 0)
section
variable {m : Nat} {nc : Nat → Nat} {fe : Nat → (Nat → Nat) → Bool} {tf : Bool}
theorem stp_0 {s : ss} (h : s.1 = 0) : stp m nc fe tf s = s := if_pos h
theorem rn_0 {s : ss} (h : s.1 = 0) : ∀ n, rn m nc fe tf n s = s := by
  intro n
  induction n with
  | zero => rfl
  | succ n ih =>
    show rn m nc fe tf n (stp m nc fe tf s) = s
    rw [stp_0 h]; exact ih
theorem stp_back {s : ss} (h : s.1 ≠ 0) (c : nc (s.1 - 1) ≤ s.2.1 (s.1 - 1)) : stp m nc fe tf s = (s.1 - 1, s.2.1, s.2.2.1, s.2.2.2.1, s.2.2.2.2.1, s.2.2.2.2.2.1, s.2.2.2.2.2.2) := by
  unfold stp
  rw [if_neg h, if_pos c]
theorem stp_sp {s : ss} (h : s.1 ≠ 0) (c : ¬ nc (s.1 - 1) ≤ s.2.1 (s.1 - 1)) (t : 1000 ≤ s.2.2.1) : stp m nc fe tf s = (0, s.2.1, s.2.2.1 + 1, s.2.2.2.1, true, s.2.2.2.2.2.1, s.2.2.2.2.2.2) := by
  unfold stp
  rw [if_neg h, if_neg c, if_pos t]
theorem stp_down {s : ss} (h : s.1 ≠ 0) (c : ¬ nc (s.1 - 1) ≤ s.2.1 (s.1 - 1)) (t : ¬ 1000 ≤ s.2.2.1) (f : fe s.1 (chs s.2.1 (s.1 - 1) (s.2.1 (s.1 - 1))) = true) (l : s.1 < m) : stp m nc fe tf s = (s.1 + 1, sup (sup s.2.1 (s.1 - 1) (s.2.1 (s.1 - 1) + 1)) s.1 0, s.2.2.1 + 1, s.2.2.2.1, s.2.2.2.2.1, sup s.2.2.2.2.2.1 s.2.2.1 (s.1 - 1, s.2.1 (s.1 - 1), true), s.2.2.2.2.2.2) := by
  unfold stp
  rw [if_neg h, if_neg c, if_neg t, if_pos f, if_pos l]
theorem stp_way {s : ss} (h : s.1 ≠ 0) (c : ¬ nc (s.1 - 1) ≤ s.2.1 (s.1 - 1)) (t : ¬ 1000 ≤ s.2.2.1) (f : fe s.1 (chs s.2.1 (s.1 - 1) (s.2.1 (s.1 - 1))) = true) (l : ¬ s.1 < m) : stp m nc fe tf s = ((if tf = true then 0 else s.1), sup s.2.1 (s.1 - 1) (s.2.1 (s.1 - 1) + 1), s.2.2.1 + 1, s.2.2.2.1 + 1, s.2.2.2.2.1, sup s.2.2.2.2.2.1 s.2.2.1 (s.1 - 1, s.2.1 (s.1 - 1), true), sup s.2.2.2.2.2.2 s.2.2.2.1 (chs s.2.1 (s.1 - 1) (s.2.1 (s.1 - 1)))) := by
  unfold stp
  rw [if_neg h, if_neg c, if_neg t, if_pos f, if_neg l]
theorem stp_fail {s : ss} (h : s.1 ≠ 0) (c : ¬ nc (s.1 - 1) ≤ s.2.1 (s.1 - 1)) (t : ¬ 1000 ≤ s.2.2.1) (f : ¬ fe s.1 (chs s.2.1 (s.1 - 1) (s.2.1 (s.1 - 1))) = true) : stp m nc fe tf s = (s.1, sup s.2.1 (s.1 - 1) (s.2.1 (s.1 - 1) + 1), s.2.2.1 + 1, s.2.2.2.1, s.2.2.2.2.1, sup s.2.2.2.2.2.1 s.2.2.1 (s.1 - 1, s.2.1 (s.1 - 1), false), s.2.2.2.2.2.2) := by
  unfold stp
  rw [if_neg h, if_neg c, if_neg t, if_neg f]
/-- each step is a TRY or goes back from an ITEM to which a TRY led -/
theorem rn_done : ∀ (n i : Nat) (s : ss), s.2.2.1 ≤ 1000 ∨ s.1 = 0 → (s.1 = 0 ∨ i + s.1 ≤ 2 * s.2.2.1 + 1) → 2001 ≤ n + i → (rn m nc fe tf n s).1 = 0 := by
  intro n
  induction n with
  | zero =>
    intro i s h1 h2 h3
    show s.1 = 0
    omega
  | succ n ih =>
    intro i s h1 h2 h3
    by_cases z : s.1 = 0
    · rw [rn_0 z]; exact z
    show (rn m nc fe tf n (stp m nc fe tf s)).1 = 0
    have h1 := h1.resolve_right z
    have h2 := h2.resolve_left z
    by_cases c : nc (s.1 - 1) ≤ s.2.1 (s.1 - 1)
    · rw [stp_back z c]
      exact ih (i + 1) _ (Or.inl h1) (Or.inr (by show i + 1 + (s.1 - 1) ≤ 2 * s.2.2.1 + 1; omega)) (by omega)
    by_cases t : 1000 ≤ s.2.2.1
    · rw [stp_sp z c t]
      exact ih (i + 1) _ (Or.inr rfl) (Or.inl rfl) (by omega)
    by_cases f : fe s.1 (chs s.2.1 (s.1 - 1) (s.2.1 (s.1 - 1))) = true
    · by_cases l : s.1 < m
      · rw [stp_down z c t f l]
        exact ih (i + 1) _ (Or.inl (by show s.2.2.1 + 1 ≤ 1000; omega)) (Or.inr (by show i + 1 + (s.1 + 1) ≤ 2 * (s.2.2.1 + 1) + 1; omega)) (by omega)
      · rw [stp_way z c t f l]
        cases tf with
        | true => exact ih (i + 1) _ (Or.inr rfl) (Or.inl rfl) (by omega)
        | false => exact ih (i + 1) _ (Or.inl (by show s.2.2.1 + 1 ≤ 1000; omega)) (Or.inr (by show i + 1 + s.1 ≤ 2 * (s.2.2.1 + 1) + 1; omega)) (by omega)
    · rw [stp_fail z c t f]
      exact ih (i + 1) _ (Or.inl (by show s.2.2.1 + 1 ≤ 1000; omega)) (Or.inr (by show i + 1 + s.1 ≤ 2 * (s.2.2.1 + 1) + 1; omega)) (by omega)
theorem rn_s0 : (rn m nc fe tf 2001 s_0).1 = 0 := rn_done 2001 0 s_0 (Or.inl (by decide)) (Or.inr (by decide)) (by omega)
end
/-- the same problem, the same run -/
theorem stp_cg {m : Nat} {nc nc' : Nat → Nat} {fe fe' : Nat → (Nat → Nat) → Bool} {tf : Bool} {s : ss} (h1 : s.1 ≤ m) (hn : ∀ k, k < m → nc k = nc' k) (hf : ∀ k ch, 1 ≤ k → k ≤ m → fe k ch = fe' k ch) : stp m nc fe tf s = stp m nc' fe' tf s := by
  by_cases z : s.1 = 0
  · rw [stp_0 z, stp_0 z]
  · unfold stp
    rw [hn (s.1 - 1) (by omega), hf s.1 _ (by omega) h1]
theorem stp_m {m : Nat} {nc : Nat → Nat} {fe : Nat → (Nat → Nat) → Bool} {tf : Bool} {s : ss} (h1 : s.1 ≤ m) : (stp m nc fe tf s).1 ≤ m := by
  by_cases z : s.1 = 0
  · rw [stp_0 z]; exact h1
  by_cases c : nc (s.1 - 1) ≤ s.2.1 (s.1 - 1)
  · rw [stp_back z c]
    show s.1 - 1 ≤ m
    omega
  by_cases t : 1000 ≤ s.2.2.1
  · rw [stp_sp z c t]; exact Nat.zero_le _
  by_cases f : fe s.1 (chs s.2.1 (s.1 - 1) (s.2.1 (s.1 - 1))) = true
  · by_cases l : s.1 < m
    · rw [stp_down z c t f l]; exact l
    · rw [stp_way z c t f l]
      show (if tf = true then 0 else s.1) ≤ m
      split
      · exact Nat.zero_le _
      · exact h1
  · rw [stp_fail z c t f]; exact h1
theorem rn_cg {m : Nat} {nc nc' : Nat → Nat} {fe fe' : Nat → (Nat → Nat) → Bool} {tf : Bool} (hn : ∀ k, k < m → nc k = nc' k) (hf : ∀ k ch, 1 ≤ k → k ≤ m → fe k ch = fe' k ch) : ∀ n s, s.1 ≤ m → rn m nc fe tf n s = rn m nc' fe' tf n s := by
  intro n
  induction n with
  | zero => intro _ _; rfl
  | succ n ih =>
    intro s h
    show rn m nc fe tf n (stp m nc fe tf s) = rn m nc' fe' tf n (stp m nc' fe' tf s)
    rw [← stp_cg h hn hf]
    exact ih _ (stp_m h)
/-- the constraints of the first k ITEMS with their choices -/
def cl (B : List tC) (cc : Nat → Nat → List tC) (ch : Nat → Nat) : Nat → List tC
  | 0 => B
  | k + 1 => cc k (ch k) ++ cl B cc ch k
noncomputable def fz (n : Nat) (B : List tC) (cc : Nat → Nat → List tC) (k : Nat) (ch : Nat → Nat) : Bool := @decide (¬ tno n (cl B cc ch k)) (Classical.propDecidable _)
theorem cl_cg {B : List tC} {cc : Nat → Nat → List tC} {ch ch' : Nat → Nat} : ∀ k, (∀ j, j < k → ch j = ch' j) → cl B cc ch k = cl B cc ch' k := by
  intro k
  induction k with
  | zero => intro _; rfl
  | succ k ih =>
    intro h
    show cc k (ch k) ++ cl B cc ch k = cc k (ch' k) ++ cl B cc ch' k
    rw [h k (by omega), ih (fun j hj => h j (by omega))]
theorem fz_t {n k : Nat} {B : List tC} {cc : Nat → Nat → List tC} {ch : Nat → Nat} {D : Nat → Nat → Int} (h : ttop n (cl B cc ch k) D) : fz n B cc k ch = true := @decide_eq_true _ (Classical.propDecidable _) (fun q => q D h.1)
theorem fz_f {n k : Nat} {B : List tC} {cc : Nat → Nat → List tC} {ch : Nat → Nat} (h : tno n (cl B cc ch k)) : fz n B cc k ch = false := @decide_eq_false _ (Classical.propDecidable _) (fun q => q h)
theorem fz_cg {n : Nat} {B B' : List tC} {cc cc' : Nat → Nat → List tC} {k : Nat} {ch : Nat → Nat} (hB : ∀ c, c ∈ B ↔ c ∈ B') (hc : ∀ j, j < k → ∀ c, c ∈ cc j (ch j) ↔ c ∈ cc' j (ch j)) : fz n B cc k ch = fz n B' cc' k ch := by
  have e : ∀ k', k' ≤ k → ∀ c, c ∈ cl B cc ch k' ↔ c ∈ cl B' cc' ch k' := by
    intro k'
    induction k' with
    | zero => intro _ c; exact hB c
    | succ k' ih =>
      intro h c
      show c ∈ cc k' (ch k') ++ cl B cc ch k' ↔ c ∈ cc' k' (ch k') ++ cl B' cc' ch k'
      rw [List.mem_append, List.mem_append, hc k' (by omega) c, ih (by omega) c]
  have : tno n (cl B cc ch k) ↔ tno n (cl B' cc' ch k) := ⟨fun q => tno_cg (fun c hc => (e k (Nat.le_refl _) c).mp hc) q, fun q => tno_cg (fun c hc => (e k (Nat.le_refl _) c).mpr hc) q⟩
  rcases Classical.em (tno n (cl B cc ch k)) with q | q
  · rw [fz_f q, fz_f (this.mp q)]
  · have t : ∀ (B : List tC) (cc : Nat → Nat → List tC), ¬ tno n (cl B cc ch k) → fz n B cc k ch = true := fun B cc h => @decide_eq_true _ (Classical.propDecidable _) h
    rw [t B cc q, t B' cc' (fun x => q (this.mpr x))]
/-! the steps, plainly -/
section
variable {m : Nat} {nc : Nat → Nat} {fe : Nat → (Nat → Nat) → Bool} {tf : Bool} {f k : Nat} {nx : Nat → Nat} {tr fd : Nat} {lg : Nat → Nat × Nat × Bool} {wy : Nat → Nat → Nat}
theorem rn_back (c : nc k ≤ nx k) : rn m nc fe tf (f + 1) (k + 1, nx, tr, fd, false, lg, wy) = rn m nc fe tf f (k, nx, tr, fd, false, lg, wy) := by
  show rn m nc fe tf f (stp m nc fe tf (k + 1, nx, tr, fd, false, lg, wy)) = _
  rw [stp_back (Nat.succ_ne_zero k) c]; rfl
theorem rn_spent (c : ¬ nc k ≤ nx k) (t : 1000 ≤ tr) : rn m nc fe tf (f + 1) (k + 1, nx, tr, fd, false, lg, wy) = (0, nx, tr + 1, fd, true, lg, wy) := by
  show rn m nc fe tf f (stp m nc fe tf (k + 1, nx, tr, fd, false, lg, wy)) = _
  rw [stp_sp (Nat.succ_ne_zero k) c t]
  exact rn_0 rfl f
theorem rn_fail (c : ¬ nc k ≤ nx k) (t : ¬ 1000 ≤ tr) (h : fe (k + 1) (chs nx k (nx k)) = false) : rn m nc fe tf (f + 1) (k + 1, nx, tr, fd, false, lg, wy) = rn m nc fe tf f (k + 1, sup nx k (nx k + 1), tr + 1, fd, false, sup lg tr (k, nx k, false), wy) := by
  show rn m nc fe tf f (stp m nc fe tf (k + 1, nx, tr, fd, false, lg, wy)) = _
  rw [stp_fail (Nat.succ_ne_zero k) c t (fun q => by
    have q : fe (k + 1) (chs nx k (nx k)) = true := q
    rw [h] at q; cases q)]; rfl
theorem rn_down (c : ¬ nc k ≤ nx k) (t : ¬ 1000 ≤ tr) (h : fe (k + 1) (chs nx k (nx k)) = true) (l : k + 1 < m) : rn m nc fe tf (f + 1) (k + 1, nx, tr, fd, false, lg, wy) = rn m nc fe tf f (k + 1 + 1, sup (sup nx k (nx k + 1)) (k + 1) 0, tr + 1, fd, false, sup lg tr (k, nx k, true), wy) := by
  show rn m nc fe tf f (stp m nc fe tf (k + 1, nx, tr, fd, false, lg, wy)) = _
  rw [stp_down (Nat.succ_ne_zero k) c t h l]; rfl
theorem rn_way0 (c : ¬ nc k ≤ nx k) (t : ¬ 1000 ≤ tr) (h : fe (k + 1) (chs nx k (nx k)) = true) (l : ¬ k + 1 < m) : rn m nc fe false (f + 1) (k + 1, nx, tr, fd, false, lg, wy) = rn m nc fe false f (k + 1, sup nx k (nx k + 1), tr + 1, fd + 1, false, sup lg tr (k, nx k, true), sup wy fd (chs nx k (nx k))) := by
  show rn m nc fe false f (stp m nc fe false (k + 1, nx, tr, fd, false, lg, wy)) = _
  rw [stp_way (Nat.succ_ne_zero k) c t h l]; rfl
theorem rn_way1 (c : ¬ nc k ≤ nx k) (t : ¬ 1000 ≤ tr) (h : fe (k + 1) (chs nx k (nx k)) = true) (l : ¬ k + 1 < m) : rn m nc fe true (f + 1) (k + 1, nx, tr, fd, false, lg, wy) = (0, sup nx k (nx k + 1), tr + 1, fd + 1, false, sup lg tr (k, nx k, true), sup wy fd (chs nx k (nx k))) := by
  show rn m nc fe true f (stp m nc fe true (k + 1, nx, tr, fd, false, lg, wy)) = _
  rw [stp_way (Nat.succ_ne_zero k) c t h l]
  exact rn_0 rfl f
end
end
section
/-! the reference: any ITEM, how many choices it has and what a choice asks -/
section
variable {S : sm_C} {d : Nat} {Φ : sm_Z → Prop} {I : sm_I} {L : sm_L} {R : sm_R}
def icd (I : sm_I) (l s : Nat) : Nat := if s < 10 then (I 128 (10 * l + s)).toNatClampNeg else if s < 60 then (if I 142 (s - 10) = -1 then 0 else 2) else (if I 152 (s - 60) = -1 then 0 else 2)
def icc (I : sm_I) (l s c : Nat) : List tC := if s < 10 then spL I (rhd I l) (gv I s) (3 * (4 * (10 * l + s) + c)) (I 129 (4 * (10 * l + s) + c)).toNatClampNeg else if s < 60 then mvC (rhd I l) (nd (I 140 (s - 10))) (nd (I 141 (s - 10))) (I 142 (s - 10)).toInt c else mvC (rhd I l) (nd (I 151 (s - 60))) ((I 122 l).toNatClampNeg + 1) (I 152 (s - 60)).toInt c
/-- an ITEM that can be laid on the table -/
def iok (I : sm_I) (l n s : Nat) : Prop := (s < 10 ∧ ∀ c, c < (I 128 (10 * l + s)).toNatClampNeg → (0 ≤ (I 129 (4 * (10 * l + s) + c)).toInt ∧ (I 129 (4 * (10 * l + s) + c)).toInt ≤ 3) ∧ ∀ i, i < (I 129 (4 * (10 * l + s) + c)).toNatClampNeg → sspk I n (3 * (4 * (10 * l + s) + c) + i)) ∨ ((10 ≤ s ∧ s < 55) ∧ (I 142 (s - 10) ≠ -1 → (0 ≤ (I 140 (s - 10)).toInt ∧ (I 140 (s - 10)).toInt + 1 < n) ∧ (0 ≤ (I 141 (s - 10)).toInt ∧ (I 141 (s - 10)).toInt + 1 < n) ∧ -105000 ≤ (I 142 (s - 10)).toInt ∧ (I 142 (s - 10)).toInt ≤ 105000)) ∨ ((60 ≤ s ∧ s < 70) ∧ (I 152 (s - 60) ≠ -1 → (0 ≤ (I 151 (s - 60)).toInt ∧ (I 151 (s - 60)).toInt + 1 < n) ∧ (I 122 l).toInt + 1 < n ∧ -105000 ≤ (I 152 (s - 60)).toInt ∧ (I 152 (s - 60)).toInt ≤ 105000))
theorem rx_nc {z : Int32} {s l : Nat} (hz : z.toInt = s) (sr : s < 55 ∨ (60 ≤ s ∧ s < 70)) (hl : (I 107 18).toInt = l) (l1 : l ≤ 1) (b128 : ∀ j, j < 20 → 0 ≤ (I 128 j).toInt ∧ (I 128 j).toInt ≤ 4) (h : ∀ v : Int32, v.toInt = icd I l s → Φ (some (.int v), (xLay, I, L, kM R))) : sm_wp sm_P S d 114 0 [.ref 107, .int z] [] (xLay, I, L, kM R) (0, 0) Φ := by
  rcases sr with s55 | ⟨s60, s70⟩
  · refine bx_ch hz s55 hl l1 (fun v e => h v ?_)
    rw [e]
    unfold icd
    by_cases c : s < 10
    · rw [if_pos c, if_pos c]
      have := b128 (10 * l + s) (by omega)
      exact (kl_nat this.1).symm
    · rw [if_neg c, if_neg c, if_pos (show s < 60 by omega)]
      by_cases w : I 142 (s - 10) = -1
      · rw [if_pos w, if_pos w]; rfl
      · rw [if_neg w, if_neg w]; rfl
  · have c10 : (10 : Int32).toInt = 10 := by decide
    have c60 : (60 : Int32).toInt = 60 := by decide
    have s1 : (z - 60).toInt = ((s - 60 : Nat) : Int) := by
      rw [Int32.toInt_sub, c60]
      exact en_bmod (by omega) (by omega) (Or.inl (by omega))
    have e0 : icd I l s = if I 152 (s - 60) = -1 then 0 else 2 := by
      unfold icd
      rw [if_neg (by omega), if_neg (by omega)]
    rw [e0] at h
    refine p_X12_choices_0 ⟨fun _ => ⟨fun _ => ⟨kl_in (by omega) (by omega), fun n1 e1 => ?_⟩, fun b => ?_⟩, fun a => ?_⟩
    · rw [tk_nat s1] at e1
      rw [e1]
      refine ⟨fun e => h 0 ?_, fun e => h 2 ?_⟩
      · rw [if_pos e]; decide
      · rw [if_neg e]; decide
    · have b := kl_nle b
      omega
    · have a := kl_nle a
      omega
theorem rx_choose {pg n l s c : Nat} {x1 x2 : Int32} {C : List tC} (B : rB0 I pg n l) (hs : x1.toInt = s) (hc : x2.toInt = c) (b128 : ∀ j, j < 20 → 0 ≤ (I 128 j).toInt ∧ (I 128 j).toInt ≤ 4) (cn : c < icd I l s) (ok : iok I l n s) (g0 : 0 ≤ (I 107 69).toInt) (g1 : (I 107 69).toInt ≤ 5000) (T : ttop n C (mT I pg)) (h : ∀ r J, rR pg n (icc I l s c ++ C) I r J → Φ (some (.int r), (xLay, J, L, kM R))) : sm_wp sm_P S (d + 4) 115 0 [.ref 107, .int x1, .int x2] [] (xLay, I, L, kM R) (0, 0) Φ := by
  have l1 := B.2.2.2.2.2.1
  unfold icd at cn
  unfold icc at h
  rcases ok with ⟨s10, ok⟩ | ⟨⟨s10, s55⟩, ok⟩ | ⟨⟨s60, s70⟩, ok⟩
  · rw [if_pos s10] at cn h
    have b := b128 (10 * l + s) (by omega)
    have nb := kl_nat b.1
    obtain ⟨o1, o2⟩ := ok c cn
    have nN := kl_nat o1.1
    exact rx_chS B hs s10 hc (by omega) nN.symm (by omega) g0 g1 o2 T h
  · rw [if_neg (by omega), if_pos (by omega)] at cn h
    have w : I 142 (s - 10) ≠ -1 := fun q => by rw [if_pos q] at cn; exact absurd cn (Nat.not_lt_zero c)
    obtain ⟨o1, o2, o3, o4⟩ := ok w
    exact rx_chM (d := d + 2) (m := s - 10) B (by rw [hs]; omega) (by omega) hc o1.1 o1.2 o2.1 o2.2 o3 o4 T h
  · rw [if_neg (by omega), if_neg (by omega)] at cn h
    have w : I 152 (s - 60) ≠ -1 := fun q => by rw [if_pos q] at cn; exact absurd cn (Nat.not_lt_zero c)
    obtain ⟨o1, o2, o3, o4⟩ := ok w
    have c10 : (10 : Int32).toInt = 10 := by decide
    have c60 : (60 : Int32).toInt = 60 := by decide
    have n12 := B.2.2.2.1
    have hl := B.2.2.2.2.1
    have bt := B.2.2.2.2.2.2.1
    have nt := kl_nat bt.1
    have s1 : (x1 - 60).toInt = ((s - 60 : Nat) : Int) := by
      rw [Int32.toInt_sub, c60]
      exact en_bmod (by omega) (by omega) (Or.inl (by omega))
    have p1 := tk_nat s1
    have v : vp_in (x1 - 60) 10 := kl_in (by omega) (by omega)
    have y60 : (60 : Int32) ≤ x1 := kl_le.mpr (by omega)
    have pl := tk_nat hl
    refine p_X12_chooses_0 ⟨fun _ => ⟨fun _ => ⟨v, ?_⟩, fun a => absurd y60 a⟩, fun a => ?_⟩
    · rw [p1, pl]
      refine fun n1 e1 => ⟨fun _ => ⟨v, fun n2 e2 => ⟨fun _ => ⟨kl_in (by omega) (by omega), ?_⟩, fun a => absurd y60 a⟩⟩, fun a => absurd y60 a⟩
      rw [e1]
      exact rx_ch19 (d := d + 2) B hc o3 o4 (by rw [e2, ml_in1 (by omega)]; unfold nd; omega) (by rw [ml_in1 (by omega)]; omega) (by unfold nd; omega) (by omega) T h
    · have a := kl_nle a
      omega
end
end
section
/-! the reference's search leaves the problem as it is -/
section
variable {S : sm_C} {d : Nat} {Φ : sm_Z → Prop} {I : sm_I} {L : sm_L} {R : sm_R}
def zfr (I J : sm_I) : Prop := ∀ p j, ¬ (p = 143 ∨ p = 149 ∨ p = 150 ∨ (153 ≤ p ∧ p ≤ 156) ∨ (p = 107 ∧ (j = 52 ∨ j = 63 ∨ j = 64))) → J p j = I p j
theorem zfr_t {I J K : sm_I} (a : zfr I J) (b : zfr J K) : zfr I K := fun p j h => (b p j h).trans (a p j h)
theorem zfr_c {pg : Nat} {I J : sm_I} (h : chg pg I J) : zfr I J := fun p j q => h p j (by omega)
theorem s_oA {I J : sm_I} (h : zfr I J) (l i : Nat) : oA J l i = oA I l i := by
  unfold oA
  rw [h 122 l (by omega), h 135 _ (by omega)]
theorem s_su {I J : sm_I} (h : zfr I J) (l i : Nat) : su J l i = su I l i ∧ fa J l i = fa I l i ∧ na J l i = na I l i := by
  unfold su fa na
  rw [s_oA h, h 131 _ (by omega), h 132 _ (by omega), h 133 _ (by omega)]
  exact ⟨rfl, rfl, rfl⟩
theorem s_rhd {I J : sm_I} (h : zfr I J) (l : Nat) : rhd J l = rhd I l := by
  funext c
  unfold rhd
  rw [h 107 53 (by omega), (s_su h l c.1).1, (s_su h l c.2.1).1, (s_su h l c.1).2.1, (s_su h l c.2.1).2.2]
theorem s_spL {I J : sm_I} (h : zfr I J) (f : tC → tC) (g : Int) (p : Nat) : ∀ m, spL J f g p m = spL I f g p m := by
  intro m
  induction m with
  | zero => rfl
  | succ m ih =>
    show spC J f (p + m) g ++ spL J f g p m = spC I f (p + m) g ++ spL I f g p m
    rw [ih]
    unfold spC
    rw [h 130 _ (by omega), h 131 _ (by omega), h 132 _ (by omega), h 133 _ (by omega)]
theorem s_icd {I J : sm_I} (h : zfr I J) (l s : Nat) : icd J l s = icd I l s := by
  unfold icd
  rw [h 128 _ (by omega), h 142 _ (by omega), h 152 _ (by omega)]
theorem s_icc {I J : sm_I} (h : zfr I J) (l s c : Nat) : icc J l s c = icc I l s c := by
  unfold icc gv
  rw [s_rhd h, s_spL h, h 107 68 (by omega), h 107 69 (by omega), h 129 _ (by omega), h 140 _ (by omega), h 141 _ (by omega), h 142 _ (by omega), h 151 _ (by omega), h 152 _ (by omega), h 122 l (by omega)]
theorem s_sspk {I J : sm_I} (h : zfr I J) (n p : Nat) : sspk J n p ↔ sspk I n p := by
  unfold sspk
  rw [h 130 p (by omega), h 131 p (by omega), h 132 p (by omega), h 133 p (by omega)]
theorem s_iok {I J : sm_I} (h : zfr I J) {l n s : Nat} (k : iok I l n s) : iok J l n s := by
  rcases k with ⟨a, k⟩ | ⟨a, k⟩ | ⟨a, k⟩
  · refine Or.inl ⟨a, fun c hc => ?_⟩
    rw [h 128 _ (by omega)] at hc
    obtain ⟨k1, k2⟩ := k c hc
    rw [h 129 _ (by omega)]
    exact ⟨k1, fun i hi => (s_sspk h n _).mpr (k2 i hi)⟩
  · refine Or.inr (Or.inl ⟨a, fun w => ?_⟩)
    rw [h 142 _ (by omega)] at w ⊢
    rw [h 140 _ (by omega), h 141 _ (by omega)]
    exact k w
  · refine Or.inr (Or.inr ⟨a, fun w => ?_⟩)
    rw [h 152 _ (by omega)] at w ⊢
    rw [h 151 _ (by omega), h 122 l (by omega)]
    exact k w
theorem s_lM {I J : sm_I} {xs : List Nat} (h : zfr I J) (k : lM I xs) : lM J xs := by
  refine ⟨by rw [h 107 59 (by omega)]; exact k.1, fun i hi => by rw [h 148 i (by omega)]; exact k.2 i hi⟩
/-- what the search needs, but for the page -/
def rBs (I : sm_I) (n l : Nat) : Prop := (I 107 51).toInt = n ∧ n ≤ 12 ∧ (I 107 18).toInt = l ∧ l ≤ 1 ∧ (0 ≤ (I 122 l).toInt ∧ (I 122 l).toInt ≤ 10) ∧ hok I l n
theorem s_rB {I J : sm_I} {pg n l : Nat} (h : zfr I J) (b : rBs I n l) (hp : (J 107 52).toInt = pg) (p69 : pg ≤ 69) : rB0 J pg n l := by
  obtain ⟨b1, b2, b3, b4, b5, b6⟩ := b
  refine ⟨hp, p69, by rw [h 107 51 (by omega)]; exact b1, b2, by rw [h 107 18 (by omega)]; exact b3, b4, by rw [h 122 l (by omega)]; exact b5, ?_⟩
  rcases b6 with e | e
  · exact Or.inl (by rw [h 107 53 (by omega)]; exact e)
  · refine Or.inr (fun i hi => ?_)
    rw [(s_su h l i).1, (s_su h l i).2.1, (s_su h l i).2.2, s_oA h, h 131 _ (by omega)]
    exact e i hi
theorem nar_y : ∀ n : Nat, n < 128 → vp_nar .byte (Int32.ofNat n).toInt8.toInt32 = Int32.ofNat n := by decide +kernel
theorem nar_yz : vp_nar .boolean (0 : Int32) = 0 ∧ vp_nar .boolean (1 : Int32) = 1 := by decide +kernel
end
end
section
/-! the reference's search is the pure machine (keeps: all WAYS; else up to the first) -/
section
variable {S : sm_C} {d : Nat} {Φ : sm_Z → Prop} {I : sm_I} {L : sm_L} {R : sm_R}
/-- what was written down -/
def slg (xs : List Nat) (tr fd : Nat) (lg : Nat → Nat × Nat × Bool) (wy : Nat → Nat → Nat) (J : sm_I) : Prop := (∀ i, i < tr → i < 1000 → J 154 i = Int32.ofNat (xs.getD (lg i).1 0) ∧ J 155 i = Int32.ofNat (lg i).2.1 ∧ J 156 i = if (lg i).2.2 = true then 1 else 0) ∧ ∀ w i, w < fd → i < xs.length → J 153 (55 * w + i) = Int32.ofNat (wy w i)
def znk (kp : Bool) (I J : sm_I) : Prop := kp = false → ∀ p j, 153 ≤ p → p ≤ 156 → J p j = I p j
def zfin (kp : Bool) (xs : List Nat) (I0 : sm_I) (s : ss) (J : sm_I) : Prop := (zfr I0 J ∧ znk kp I0 J) ∧ (J 107 63).toInt = s.2.2.1 ∧ J 107 64 = (if s.2.2.2.2.1 = true then 1 else 0) ∧ (kp = true → slg xs s.2.2.1 s.2.2.2.1 s.2.2.2.2.2.1 s.2.2.2.2.2.2 J)
def icv (I : sm_I) (l s c : Nat) : List tC := if c < icd I l s then icc I l s c else []
def srl (kp : Bool) (xs : List Nat) (I0 : sm_I) (l n : Nat) (B0 : List tC) (k : Nat) (nx : Nat → Nat) (tr fd : Nat) (lg : Nat → Nat × Nat × Bool) (wy : Nat → Nat → Nat) (J : sm_I) : Prop := (zfr I0 J ∧ znk kp I0 J) ∧ (J 107 63).toInt = tr ∧ J 107 64 = 0 ∧ (∀ j, j ≤ k → J 150 j = Int32.ofNat (nx j) ∧ nx j ≤ icd I0 l (xs.getD j 0)) ∧ (∀ j, j < k → 1 ≤ nx j ∧ J 149 j = Int32.ofNat (nx j - 1)) ∧ (∀ j, j ≤ k → ttop n (cl B0 (fun i c => icv I0 l (xs.getD i 0) c) (fun i => nx i - 1) j) (mT J j)) ∧ (kp = true → slg xs tr fd lg wy J) ∧ (tr ≤ 1000 ∧ fd ≤ tr ∧ (kp = false → fd = 0))
/-- a table one level further down -/
theorem cl_nx {B0 : List tC} {cc : Nat → Nat → List tC} {nx nx' : Nat → Nat} {j : Nat} (e : ∀ i, i < j → nx i = nx' i) : cl B0 cc (fun i => nx i - 1) j = cl B0 cc (fun i => nx' i - 1) j := cl_cg j (fun i hi => by show nx i - 1 = nx' i - 1; rw [e i hi])
theorem rx_way {kp : Bool} {xs : List Nat} {I0 : sm_I} {k fd : Nat} {x1 x2 x3 : Int32} {ch : Nat → Nat} {wy : Nat → Nat → Nat} (hm : (I0 107 59).toInt = xs.length) (m55 : xs.length ≤ 55) (h2 : x2.toInt = fd) (fd0 : fd < 1000) (c4 : ∀ i, i < xs.length → ch i < 128) (h : ∀ J, (∀ p j, p ≠ 153 → J p j = I p j) → (∀ w i, w < fd + 1 → i < xs.length → J 153 (55 * w + i) = Int32.ofNat (sup wy fd ch w i)) → sm_wp sm_P S (d + 1) 186 3 [.ref 107, .int x1, .int (x2 + 1), .int x3] [] (xLay, J, L, kM R) (0, 0) Φ) (e59 : I 107 59 = I0 107 59) (h149 : ∀ i, i < xs.length → I 149 i = Int32.ofNat (ch i)) (hw : ∀ w i, w < fd → i < xs.length → I 153 (55 * w + i) = Int32.ofNat (wy w i)) : ∀ (m i : Nat) (x6 : Int32) (J : sm_I), x6.toInt = i → i + m = xs.length → (∀ p j, ¬ (p = 153 ∧ 55 * fd ≤ j ∧ j < 55 * fd + i) → J p j = I p j) → (∀ q, q < i → J 153 (55 * fd + q) = Int32.ofNat (ch q)) → sm_wp sm_P S (d + 1) 186 17 [.ref 107, .int x1, .int x2, .int x3, .int x6] [] (xLay, J, L, kM R) (0, 0) Φ := by
  have c55 : (55 : Int32).toInt = 55 := by decide
  have m55' : ((55 : Int32) * x2).toInt = 55 * (fd : Int) := ml_mu c55 h2 (by omega) (by omega)
  intro m
  induction m with
  | zero =>
    intro i x6 J h6 hk o v
    have e : J 107 59 = I0 107 59 := (o 107 59 (by omega)).trans e59
    refine p_X12_searches_17 ⟨fun _ => h J (fun p j hp => o p j (by omega)) (fun w q hq hi => ?_), fun a => ?_⟩
    · by_cases c : w = fd
      · rw [c, sup_eq]; exact v q (by omega)
      · rw [sup_ne _ _ c, o 153 _ (by omega)]; exact hw w q (by omega) hi
    · have a := kl_nle a
      rw [e] at a
      omega
  | succ m ih =>
    intro i x6 J h6 hk o v
    have e : J 107 59 = I0 107 59 := (o 107 59 (by omega)).trans e59
    have s6 := ml_in1 (x := x6) (by omega)
    have q1 : ((55 : Int32) * x2 + x6).toInt = ((55 * fd + i : Nat) : Int) := (ml_ad m55' h6 (by omega) (by omega)).trans (by omega)
    refine p_X12_searches_17 ⟨fun a => ?_, fun _ => ⟨kl_in (by omega) (by omega), fun n1 e1 => ⟨kl_in (by omega) (by omega), fun I2 e2 => ?_⟩⟩⟩
    · have a := kl_le.mp a
      rw [e] at a
      omega
    rw [tk_nat h6, o 149 i (by omega), h149 i (by omega)] at e1
    rw [tk_nat q1, e1, nar_y _ (c4 i (by omega))] at e2
    refine ih (i + 1) _ I2 (by omega) (by omega) (fun p j hp => by rw [e2, en_up_ne _ _ _ _ (by omega)]; exact o p j (by omega)) (fun q hq => ?_)
    by_cases c : q = i
    · rw [c, e2, en_up_eq]
    · rw [e2, en_up_ne _ _ _ _ (by omega)]; exact v q (by omega)
end
end
section
/-! the reference's search, step by step -/
section
variable {S : sm_C} {d : Nat} {Φ : sm_Z → Prop} {I : sm_I} {L : sm_L} {R : sm_R}
theorem rx_notes {x1 x2 x3 : Int32} {a b t : Nat} (h1 : x1 = Int32.ofNat a) (h2 : x2 = Int32.ofNat b) (a1 : a < 128) (b1 : b < 128) (h3 : x3 = 0 ∨ x3 = 1) (ht : (I 107 63).toInt = ((t + 1 : Nat) : Int)) (t1 : t < 1000) (h : ∀ J, (∀ p j, ¬ ((154 ≤ p ∧ p ≤ 156) ∧ j = t) → J p j = I p j) → J 154 t = Int32.ofNat a → J 155 t = Int32.ofNat b → J 156 t = x3 → Φ (none, (xLay, J, L, kM R))) : sm_wp sm_P S d 168 0 [.ref 107, .int x1, .int x2, .int x3] [] (xLay, I, L, kM R) (0, 0) Φ := by
  have s : ∀ J : sm_I, J 107 63 = I 107 63 → (J 107 63 - 1).toInt = (t : Int) := fun J e => by
    rw [e, Int32.toInt_sub, kl_1]
    exact en_bmod (by omega) (by omega) (Or.inl (by omega))
  have s0 := s I rfl
  refine p_X12_notes_0 ⟨kl_in (by omega) (by omega), fun I1 e1 => ?_⟩
  rw [tk_nat s0, h1, nar_y a a1] at e1
  have s1 := s I1 (by rw [e1, en_up_ne _ _ _ _ (by omega)])
  refine ⟨kl_in (by omega) (by omega), fun I2 e2 => ?_⟩
  rw [tk_nat s1, h2, nar_y b b1] at e2
  have s2 := s I2 (by rw [e2, en_up_ne _ _ _ _ (by omega), e1, en_up_ne _ _ _ _ (by omega)])
  refine ⟨kl_in (by omega) (by omega), fun I3 e3 => ?_⟩
  have en : vp_nar .boolean x3 = x3 := by
    rcases h3 with q | q
    · rw [q]; exact nar_yz.1
    · rw [q]; exact nar_yz.2
  rw [tk_nat s2, en] at e3
  refine h I3 (fun p j hp => ?_) ?_ ?_ ?_
  · rw [e3, en_up_ne _ _ _ _ (by omega), e2, en_up_ne _ _ _ _ (by omega), e1, en_up_ne _ _ _ _ (by omega)]
  · rw [e3, en_up_ne _ _ _ _ (by omega), e2, en_up_ne _ _ _ _ (by omega), e1, en_up_eq]
  · rw [e3, en_up_ne _ _ _ _ (by omega), e2, en_up_eq]
  · rw [e3, en_up_eq]
theorem rx_search {kp : Bool} {xs : List Nat} {I0 : sm_I} {l n : Nat} {B0 : List tC} {x1 : Int32} {F : ss} (bs : rBs I0 n l) (hM : lM I0 xs) (m1 : 1 ≤ xs.length) (m65 : xs.length ≤ 65) (m55 : kp = true → xs.length ≤ 55) (hx : x1 = if kp = true then 1 else 0) (sr : ∀ k, k < xs.length → xs.getD k 0 < 55 ∨ (60 ≤ xs.getD k 0 ∧ xs.getD k 0 < 70)) (ok : ∀ k, k < xs.length → iok I0 l n (xs.getD k 0)) (b128 : ∀ j, j < 20 → 0 ≤ (I0 128 j).toInt ∧ (I0 128 j).toInt ≤ 4) (g0 : 0 ≤ (I0 107 69).toInt) (g1 : (I0 107 69).toInt ≤ 5000) (hΦ : ∀ J, zfin kp xs I0 F J → Φ (some (.int (Int32.ofNat F.2.2.2.1)), (xLay, J, L, kM R))) : ∀ (f k : Nat) (nx : Nat → Nat) (tr fd : Nat) (lg : Nat → Nat × Nat × Bool) (wy : Nat → Nat → Nat) (J : sm_I) (x2 x3 : Int32), srl kp xs I0 l n B0 k nx tr fd lg wy J → k < xs.length → x3.toInt = k → x2.toInt = fd → rn xs.length (fun j => icd I0 l (xs.getD j 0)) (fz n B0 (fun i c => icv I0 l (xs.getD i 0) c)) (!kp) f (k + 1, nx, tr, fd, false, lg, wy) = F → F.1 = 0 → sm_wp sm_P S (d + 5) 186 3 [.ref 107, .int x1, .int x2, .int x3] [] (xLay, J, L, kM R) (0, 0) Φ := by
  intro f
  induction f with
  | zero =>
    intro k nx tr fd lg wy J x2 x3 _ _ _ _ e z
    have e : (k + 1, nx, tr, fd, false, lg, wy) = F := e
    rw [← e] at z
    exact absurd z (Nat.succ_ne_zero k)
  | succ f ih =>
    intro k nx tr fd lg wy J x2 x3 rel km h3 h2 hF hz
    obtain ⟨⟨fr, fk⟩, r63, r64, r150, r149, rT, rL, t1000, fdt, fd0⟩ := id rel
    have p3 := tk_nat h3
    have v70 : vp_in x3 70 := kl_in (by omega) (by omega)
    have hL := s_lM fr hM
    have l18 : (J 107 18).toInt = l := by rw [fr 107 18 (by omega)]; exact bs.2.2.1
    have l1 := bs.2.2.2.1
    have bJ : ∀ j, j < 20 → 0 ≤ (J 128 j).toInt ∧ (J 128 j).toInt ≤ 4 := fun j hj => by rw [fr 128 j (by omega)]; exact b128 j hj
    obtain ⟨s, es⟩ : ∃ s, s = xs.getD k 0 := ⟨_, rfl⟩
    have sk := sr k km
    have okk := ok k km
    rw [← es] at sk okk
    have it : J 148 k = Int32.ofNat s := by rw [es]; exact hL.2 k km
    have its : (Int32.ofNat s).toInt = s := Int32.toInt_ofNat_of_lt (by omega)
    obtain ⟨n0, nk⟩ := r150 k (Nat.le_refl _)
    have ic4 : ∀ s, icd I0 l s ≤ 4 := fun s => by
      unfold icd
      split
      · next c =>
        have b := b128 (10 * l + s) (by omega)
        have := kl_nat b.1
        omega
      · split
        · split <;> omega
        · split <;> omega
    have ic4s := ic4 s
    rw [← es] at nk
    refine p_X12_searches_3 ⟨fun a => ?_, fun _ => ⟨v70, v70, ?_⟩⟩
    · have a := kl_lt.mp a
      rw [kl_0] at a; omega
    rw [p3, it]
    refine rx_nc its sk l18 l1 bJ (fun v ev => ⟨v, J, L, rfl, fun e => ?_, fun e => ?_⟩)
    · -- back
      rw [s_icd fr] at ev
      have enx : nx k = icd I0 l s := by
        rw [n0] at e
        have := congrArg Int32.toInt e
        rw [Int32.toInt_ofNat_of_lt (by omega), ev] at this
        omega
      rw [rn_back (nc := fun j => icd I0 l (xs.getD j 0)) (k := k) (nx := nx) (by show icd I0 l (xs.getD k 0) ≤ nx k; rw [← es, enx]; exact Nat.le_refl _)] at hF
      obtain ⟨y3, ey3⟩ : ∃ y : Int32, y = x3 + (-1 : Int32) := ⟨_, rfl⟩
      have hy3 : y3.toInt = (k : Int) - 1 := by
        rw [ey3]
        exact (ml_ad h3 (by decide : (-1 : Int32).toInt = -1) (by omega) (by omega)).trans (by omega)
      rw [← ey3]
      cases k with
      | zero =>
        rw [rn_0 rfl] at hF
        refine p_X12_searches_3 ⟨fun _ => ?_, fun a => ?_⟩
        · have ex2 : x2 = Int32.ofNat fd := en_ofI (by rw [h2, Int32.toInt_ofNat_of_lt (by omega)])
          have g := hΦ J (by rw [← hF]; exact ⟨⟨fr, fk⟩, r63, r64, rL⟩)
          rw [← hF] at g
          rw [ex2]; exact g
        · have a := kl_nlt0 a
          omega
      | succ k =>
        have mk : y3.toInt = (k : Int) := by omega
        exact ih k nx tr fd lg wy J x2 _ ⟨⟨fr, fk⟩, r63, r64, fun j hj => r150 j (by omega), fun j hj => r149 j (by omega), fun j hj => rT j (by omega), rL, t1000, fdt, fd0⟩ (by omega) mk h2 hF hz
    · -- a TRY
      rw [s_icd fr] at ev
      have enx : nx k < icd I0 l s := by
        rcases Nat.lt_or_ge (nx k) (icd I0 l s) with u | u
        · exact u
        · exfalso
          refine e ?_
          rw [n0]
          exact en_ofI (by rw [Int32.toInt_ofNat_of_lt (by omega), ev]; omega)
      have c : ¬ icd I0 l (xs.getD k 0) ≤ nx k := by rw [← es]; omega
      refine ⟨v70, v70, fun n4 e4 => ⟨v70, fun I5 e5 I6 e6 => ?_⟩⟩
      have i5 : I5 107 63 = J 107 63 := by rw [e5, en_up_ne _ _ _ _ (by omega)]
      have q6 : (I6 107 63).toInt = tr + 1 := by rw [e6, en_up_eq, i5, ml_in1 (by omega), r63]
      have o6 : ∀ p j, ¬ (p = 150 ∧ j = k) → ¬ (p = 107 ∧ j = 63) → I6 p j = J p j := fun p j a b => by rw [e6, en_up_ne _ _ _ _ b, e5, en_up_ne _ _ _ _ a]
      have n4e : n4 = Int32.ofNat (nx k + 1) := by
        rw [e4, n0]
        exact en_ofI (by rw [ml_in1 (by rw [Int32.toInt_ofNat_of_lt (by omega)]; omega), Int32.toInt_ofNat_of_lt (by omega), Int32.toInt_ofNat_of_lt (by omega)]; omega)
      have k6 : I6 150 k = Int32.ofNat (nx k + 1) := by rw [e6, en_up_ne _ _ _ _ (by omega), e5, en_up_eq, n4e]
      have f6 : zfr I0 I6 := fun p j q => (o6 p j (by omega) (by omega)).trans (fr p j q)
      have c1000 : (1000 : Int32).toInt = 1000 := by decide
      refine ⟨fun a => ?_, fun a I31 e31 => ?_⟩
      rotate_left
      · -- SPENT
        have a := kl_nle a
        rw [q6, c1000] at a
        rw [rn_spent (nc := fun j => icd I0 l (xs.getD j 0)) c (by omega)] at hF
        have ex2 : x2 = Int32.ofNat fd := en_ofI (by rw [h2, Int32.toInt_ofNat_of_lt (by omega)])
        have o31 : ∀ p j, ¬ (p = 107 ∧ j = 64) → I31 p j = I6 p j := fun p j b => by rw [e31, en_up_ne _ _ _ _ b]
        have g := hΦ I31 (by
          rw [← hF]
          refine ⟨⟨fun p j q => (o31 p j (by omega)).trans (f6 p j q), fun hk p j q1 q2 => by rw [o31 p j (by omega), o6 p j (by omega) (by omega)]; exact fk hk p j q1 q2⟩, by rw [o31 107 63 (by omega), q6]; rfl, by rw [e31, en_up_eq]; rfl, fun hk => ?_⟩
          obtain ⟨a1, a2⟩ := rL hk
          refine ⟨fun i hi h1 => ?_, fun w i hw hi => ?_⟩
          · have hi : i < tr + 1 := hi
            rw [o31 154 i (by omega), o31 155 i (by omega), o31 156 i (by omega), o6 154 i (by omega) (by omega), o6 155 i (by omega) (by omega), o6 156 i (by omega) (by omega)]
            exact a1 i (by omega) h1
          · rw [o31 153 _ (by omega), o6 153 _ (by omega) (by omega)]
            exact a2 w i hw hi)
        rw [← hF] at g
        rw [ex2]; exact g
      have a := kl_le.mp a
      rw [q6, c1000] at a
      have tt : ¬ 1000 ≤ tr := by omega
      have s3 := ml_in1 (x := x3) (by omega)
      refine rx_copies (a := k) (b := k + 1) h3 (by omega) (by omega) (by omega) (by omega) (fun J7 cg7 v7 => ⟨J7, L, rfl, fun I10 e10 => ⟨v70, ?_⟩⟩)
      have o10 : ∀ p j, ¬ (p = 107 ∧ j = 52) → I10 p j = J7 p j := fun p j b => by rw [e10, en_up_ne _ _ _ _ b]
      have f10 : zfr I0 I10 := fun p j q => ((o10 p j (by omega)).trans (cg7 p j (by omega))).trans (f6 p j q)
      have pg10 : (I10 107 52).toInt = ((k + 1 : Nat) : Int) := by rw [e10, en_up_eq]; omega
      have oo : ∀ p j, p ≠ 143 → ¬ (p = 107 ∧ (j = 52 ∨ j = 63)) → ¬ (p = 150 ∧ j = k) → I10 p j = J p j := fun p j a b c => by rw [o10 p j (by omega), cg7 p j (by omega), o6 p j c (by omega)]
      -- the table of the level behind
      have T10 : ttop n (cl B0 (fun i c => icv I0 l (xs.getD i 0) c) (fun i => nx i - 1) k) (mT I10 (k + 1)) := by
        refine ttop_eq (fun i j hi hj => ?_) (rT k (Nat.le_refl _))
        have n12 := bs.2.1
        have e1 : mT I10 (k + 1) i j = mT J7 (k + 1) i j := by unfold mT; rw [o10 143 _ (by omega)]
        have e2 : mT J7 (k + 1) i j = mT I6 k i j := mT_cp v7 (by omega) (by omega)
        have e3 : mT I6 k i j = mT J k i j := by unfold mT; rw [o6 143 _ (by omega) (by omega)]
        rw [e1, e2, e3]
      rw [oo 148 k (by omega) (by omega) (by omega), it, n0]
      refine rx_choose (d := d) (s_rB f10 bs pg10 (by omega)) its (Int32.toInt_ofNat_of_lt (by omega)) (fun j hj => by rw [f10 128 j (by omega)]; exact b128 j hj) (by rw [s_icd f10]; exact enx) (s_iok f10 okk) (by rw [f10 107 69 (by omega)]; exact g0) (by rw [f10 107 69 (by omega)]; exact g1) T10 (fun r J11 z => ⟨r, J11, L, rfl, ?_⟩)
      rw [s_icc f10] at z
      obtain ⟨cg11, z⟩ := z
      have chk : icc I0 l s (nx k) ++ cl B0 (fun i c => icv I0 l (xs.getD i 0) c) (fun i => nx i - 1) k = cl B0 (fun i c => icv I0 l (xs.getD i 0) c) (chs nx k (nx k)) (k + 1) := by
        show _ = icv I0 l (xs.getD k 0) (chs nx k (nx k) k) ++ cl B0 _ (chs nx k (nx k)) k
        have e1 : chs nx k (nx k) k = nx k := if_pos rfl
        have e2 : icv I0 l s (nx k) = icc I0 l s (nx k) := if_pos enx
        rw [e1, ← es, e2]
        congr 1
        exact cl_cg k (fun i hi => by
          have : chs nx k (nx k) i = nx i - 1 := if_neg (by omega)
          rw [this])
      rw [chk] at z
      have oB : ∀ p j, p ≠ 143 → ¬ (p = 107 ∧ (j = 52 ∨ j = 63)) → ¬ (p = 150 ∧ j = k) → J11 p j = J p j := fun p j a b c => (cg11 p j (by omega)).trans (oo p j a b c)
      have f11 : zfr I0 J11 := zfr_t f10 (zfr_c cg11)
      have c63 : (J11 107 63).toInt = tr + 1 := by rw [cg11 107 63 (by omega), o10 107 63 (by omega), cg7 107 63 (by omega)]; exact q6
      have c150 : J11 150 k = Int32.ofNat (nx k + 1) := by rw [cg11 150 k (by omega), o10 150 k (by omega), cg7 150 k (by omega)]; exact k6
      have n12 := bs.2.1
      have m59 := hM.1
      have rr : r = 0 ∨ r = 1 := by
        rcases z with ⟨e, -⟩ | ⟨e, -⟩
        · exact Or.inl e
        · exact Or.inr e
      -- what both ways of keeping have in common
      have key : ∀ (J12 : sm_I) (b : Bool), (∀ p j, ¬ (154 ≤ p ∧ p ≤ 156) → J12 p j = J11 p j) → znk kp I0 J12 → (kp = true → slg xs (tr + 1) fd (sup lg tr (k, nx k, b)) wy J12) → (r = 0 → b = false) → (¬ r = 0 → b = true) → ((r = 0 → sm_wp sm_P S (d + 5) 186 3 [.ref 107, .int x1, .int x2, .int x3] [] (xLay, J12, L, kM R) (0, 0) Φ) ∧ (¬ r = 0 → (vp_in x3 70) ∧ ∀ I14 : sm_I, I14 = sm_up J12 149 k (Int32.ofNat (nx k)) → ((I14 107 59 ≤ x3 + 1 → ((x1 = 0 → Φ (some (.int 1), (xLay, I14, L, kM R))) ∧ (¬ x1 = 0 → sm_wp sm_P S (d + 5) 186 17 [.ref 107, .int x1, .int x2, .int x3, .int 0] [] (xLay, I14, L, kM R) (0, 0) Φ))) ∧ (¬ I14 107 59 ≤ x3 + 1 → (vp_in (x3 + 1) 70) ∧ ∀ I16 : sm_I, I16 = sm_up I14 150 (x3 + 1).toNatClampNeg 0 → sm_wp sm_P S (d + 5) 186 3 [.ref 107, .int x1, .int x2, .int (x3 + 1)] [] (xLay, I16, L, kM R) (0, 0) Φ)))) := by
        intro J12 b o12 k12 s12 b0 b1
        have oJ : ∀ p j, p ≠ 143 → ¬ (p = 107 ∧ (j = 52 ∨ j = 63)) → ¬ (p = 150 ∧ j = k) → ¬ (154 ≤ p ∧ p ≤ 156) → J12 p j = J p j := fun p j q1 q2 q3 q4 => (o12 p j q4).trans (oB p j q1 q2 q3)
        have f12 : zfr I0 J12 := fun p j q => (o12 p j (by omega)).trans (f11 p j q)
        have d63 : (J12 107 63).toInt = ((tr + 1 : Nat) : Int) := by rw [o12 107 63 (by omega), c63]; omega
        have d64 : J12 107 64 = 0 := by rw [oJ 107 64 (by omega) (by omega) (by omega) (by omega)]; exact r64
        have d150 : ∀ j, j ≤ k → J12 150 j = Int32.ofNat (sup nx k (nx k + 1) j) ∧ sup nx k (nx k + 1) j ≤ icd I0 l (xs.getD j 0) := fun j hj => by
          by_cases e : j = k
          · rw [e, sup_eq, o12 150 k (by omega), c150, ← es]
            exact ⟨rfl, enx⟩
          · rw [sup_ne _ _ e, oJ 150 j (by omega) (by omega) (by omega) (by omega)]
            exact r150 j hj
        have d149 : ∀ j, j < k → 1 ≤ nx j ∧ J12 149 j = Int32.ofNat (nx j - 1) := fun j hj => by
          rw [oJ 149 j (by omega) (by omega) (by omega) (by omega)]
          exact r149 j hj
        have Tk : ∀ nx' : Nat → Nat, (∀ i, i < k → nx' i = nx i) → ∀ j, j ≤ k → ttop n (cl B0 (fun i c => icv I0 l (xs.getD i 0) c) (fun i => nx' i - 1) j) (mT J12 j) := fun nx' e j hj => by
          rw [cl_nx (nx := nx') (nx' := nx) (fun i hi => e i (by omega))]
          refine ttop_eq (fun u v hu hv => ?_) (rT j hj)
          unfold mT
          rw [o12 143 _ (by omega), cg11 143 _ (by omega), o10 143 _ (by omega), cg7 143 _ (by omega), o6 143 _ (by omega) (by omega)]
        refine ⟨fun r0 => ?_, fun r0 => ⟨v70, fun I14 e14 => ?_⟩⟩
        · have zn : tno n (cl B0 (fun i c => icv I0 l (xs.getD i 0) c) (chs nx k (nx k)) (k + 1)) := by
            rcases z with ⟨-, q⟩ | ⟨q, -⟩
            · exact q
            · rw [r0] at q; exact absurd q (by decide)
          rw [rn_fail (nc := fun j => icd I0 l (xs.getD j 0)) c tt (fz_f zn)] at hF
          exact ih k (sup nx k (nx k + 1)) (tr + 1) fd (sup lg tr (k, nx k, false)) wy J12 x2 x3 ⟨⟨f12, k12⟩, d63, d64, d150, fun j hj => by rw [sup_ne _ _ (show j ≠ k by omega)]; exact d149 j hj, Tk _ (fun i hi => sup_ne _ _ (by omega)), fun hk => by rw [← b0 r0]; exact s12 hk, by omega, by omega, fd0⟩ km h3 h2 hF hz
        have zt : ttop n (cl B0 (fun i c => icv I0 l (xs.getD i 0) c) (chs nx k (nx k)) (k + 1)) (mT J11 (k + 1)) := by
          rcases z with ⟨q, -⟩ | ⟨-, q⟩
          · exact absurd q r0
          · exact q
        have ft := fz_t zt
        have bt := b1 r0
        subst bt
        have o14 : ∀ p j, ¬ (p = 149 ∧ j = k) → I14 p j = J12 p j := fun p j q => by rw [e14, en_up_ne _ _ _ _ q]
        have k14 : I14 149 k = Int32.ofNat (nx k) := by rw [e14, en_up_eq]
        have f14 : zfr I0 I14 := fun p j q => (o14 p j (by omega)).trans (f12 p j q)
        have k14' : znk kp I0 I14 := fun hk p j q1 q2 => (o14 p j (by omega)).trans (k12 hk p j q1 q2)
        have e59 : I14 107 59 = I0 107 59 := f14 107 59 (by omega)
        have T14 : ∀ nx' : Nat → Nat, (∀ i, i < k → nx' i = nx i) → ∀ j, j ≤ k → ttop n (cl B0 (fun i c => icv I0 l (xs.getD i 0) c) (fun i => nx' i - 1) j) (mT I14 j) := fun nx' e j hj => ttop_eq (fun u v _ _ => by unfold mT; rw [o14 143 _ (by omega)]) (Tk nx' e j hj)
        have slg14 : kp = true → slg xs (tr + 1) fd (sup lg tr (k, nx k, true)) wy I14 := fun hk => by
          obtain ⟨a1, a2⟩ := s12 hk
          refine ⟨fun i hi h1 => ?_, fun w i hw hi => ?_⟩
          · rw [o14 154 i (by omega), o14 155 i (by omega), o14 156 i (by omega)]
            exact a1 i hi h1
          · rw [o14 153 _ (by omega)]
            exact a2 w i hw hi
        refine ⟨fun a => ?_, fun a => ⟨kl_in (by omega) (by omega), fun I16 e16 => ?_⟩⟩
        · -- a WAY
          have a := kl_le.mp a
          rw [e59, m59, s3, h3] at a
          have lm : ¬ k + 1 < xs.length := by omega
          refine ⟨fun xz => ?_, fun xz => ?_⟩
          · have hk : kp = false := by
              rcases Bool.eq_false_or_eq_true kp with q | q
              · rw [q] at hx; rw [hx] at xz; exact absurd xz (by decide)
              · exact q
            have hF : rn xs.length (fun j => icd I0 l (xs.getD j 0)) (fz n B0 (fun i c => icv I0 l (xs.getD i 0) c)) true (f + 1) (k + 1, nx, tr, fd, false, lg, wy) = F := by rw [hk] at hF; exact hF
            rw [rn_way1 (nc := fun j => icd I0 l (xs.getD j 0)) c tt ft lm] at hF
            have eF : F.2.2.2.1 = fd + 1 := by rw [← hF]
            have e1 : Int32.ofNat (fd + 1) = 1 := by rw [fd0 hk]; decide
            have g := hΦ I14 (by
              rw [← hF]
              exact ⟨⟨f14, k14'⟩, by show (I14 107 63).toInt = ((tr + 1 : Nat) : Int); rw [o14 107 63 (by omega)]; exact d63, by rw [o14 107 64 (by omega)]; exact d64, fun q => absurd (hk.symm.trans q) (by decide)⟩)
            rw [eF, e1] at g
            exact g
          · have hk : kp = true := by
              rcases Bool.eq_false_or_eq_true kp with q | q
              · exact q
              · rw [q] at hx; rw [hx] at xz; exact absurd (by decide) xz
            have hF : rn xs.length (fun j => icd I0 l (xs.getD j 0)) (fz n B0 (fun i c => icv I0 l (xs.getD i 0) c)) false (f + 1) (k + 1, nx, tr, fd, false, lg, wy) = F := by rw [hk] at hF; exact hF
            rw [rn_way0 (nc := fun j => icd I0 l (xs.getD j 0)) c tt ft lm] at hF
            have hF : rn xs.length (fun j => icd I0 l (xs.getD j 0)) (fz n B0 (fun i c => icv I0 l (xs.getD i 0) c)) (!kp) f (k + 1, sup nx k (nx k + 1), tr + 1, fd + 1, false, sup lg tr (k, nx k, true), sup wy fd (chs nx k (nx k))) = F := by rw [hk]; exact hF
            refine rx_way (d := d + 4) (kp := kp) (k := k) (I := I14) (ch := chs nx k (nx k)) (wy := wy) m59 (m55 hk) h2 (by omega) (fun i hi => ?_) (fun J15 o15 v15 => ?_) e59 (fun i hi => ?_) (slg14 hk).2 xs.length 0 0 I14 (by decide) (by omega) (fun _ _ _ => rfl) (fun q hq => absurd hq (Nat.not_lt_zero q))
            · by_cases e : i = k
              · rw [show chs nx k (nx k) i = nx k from if_pos e]
                omega
              · rw [show chs nx k (nx k) i = nx i - 1 from if_neg e]
                have := (r150 i (by omega)).2
                have := ic4 (xs.getD i 0)
                omega
            · have sl := slg14 hk
              exact ih k (sup nx k (nx k + 1)) (tr + 1) (fd + 1) (sup lg tr (k, nx k, true)) (sup wy fd (chs nx k (nx k))) J15 (x2 + 1) x3 ⟨⟨fun p j q => (o15 p j (by omega)).trans (f14 p j q), fun q => absurd (hk.symm.trans q) (by decide)⟩, by rw [o15 107 63 (by omega), o14 107 63 (by omega)]; exact d63, by rw [o15 107 64 (by omega), o14 107 64 (by omega)]; exact d64, fun j hj => by rw [o15 150 j (by omega), o14 150 j (by omega)]; exact d150 j hj, fun j hj => by rw [sup_ne _ _ (show j ≠ k by omega), o15 149 j (by omega), o14 149 j (by omega)]; exact d149 j hj, fun j hj => ttop_eq (fun u v _ _ => by unfold mT; rw [o15 143 _ (by omega)]) (T14 _ (fun i hi => sup_ne _ _ (by omega)) j hj), fun _ => ⟨fun i hi h1 => by rw [o15 154 i (by omega), o15 155 i (by omega), o15 156 i (by omega)]; exact sl.1 i hi h1, v15⟩, by omega, by omega, fun q => absurd (hk.symm.trans q) (by decide)⟩ km h3 (by rw [ml_in1 (by omega), h2]; omega) hF hz
            · by_cases e : i = k
              · rw [show chs nx k (nx k) i = nx k from if_pos e, e]
                exact k14
              · rw [show chs nx k (nx k) i = nx i - 1 from if_neg e, o14 149 i (by omega)]
                exact (d149 i (by omega)).2
        · -- one ITEM further
          have a := kl_nle a
          rw [e59, m59, s3, h3] at a
          have lm : k + 1 < xs.length := by omega
          rw [rn_down (nc := fun j => icd I0 l (xs.getD j 0)) c tt ft lm] at hF
          have x31 : (x3 + 1).toInt = ((k + 1 : Nat) : Int) := by rw [s3, h3]; omega
          rw [tk_nat x31] at e16
          have o16 : ∀ p j, ¬ (p = 150 ∧ j = k + 1) → I16 p j = I14 p j := fun p j q => by rw [e16, en_up_ne _ _ _ _ q]
          refine ih (k + 1) (sup (sup nx k (nx k + 1)) (k + 1) 0) (tr + 1) fd (sup lg tr (k, nx k, true)) wy I16 x2 (x3 + 1) ⟨⟨fun p j q => (o16 p j (by omega)).trans (f14 p j q), fun hk p j q1 q2 => (o16 p j (by omega)).trans (k14' hk p j q1 q2)⟩, by rw [o16 107 63 (by omega), o14 107 63 (by omega)]; exact d63, by rw [o16 107 64 (by omega), o14 107 64 (by omega)]; exact d64, fun j hj => ?_, fun j hj => ?_, fun j hj => ?_, fun hk => ?_, by omega, by omega, fd0⟩ lm x31 h2 hF hz
          · by_cases e : j = k + 1
            · rw [e, sup_eq, e16, en_up_eq]
              exact ⟨rfl, Nat.zero_le _⟩
            · rw [sup_ne _ _ e, o16 150 j (by omega), o14 150 j (by omega)]
              exact d150 j (by omega)
          · rw [sup_ne _ _ (show j ≠ k + 1 by omega), o16 149 j (by omega)]
            by_cases e : j = k
            · rw [e, sup_eq, Nat.add_sub_cancel]
              exact ⟨by omega, k14⟩
            · rw [sup_ne _ _ e, o14 149 j (by omega)]
              exact d149 j (by omega)
          · by_cases e : j = k + 1
            · rw [e]
              have ec : cl B0 (fun i c => icv I0 l (xs.getD i 0) c) (fun i => sup (sup nx k (nx k + 1)) (k + 1) 0 i - 1) (k + 1) = cl B0 (fun i c => icv I0 l (xs.getD i 0) c) (chs nx k (nx k)) (k + 1) := cl_cg (k + 1) (fun i hi => by
                show sup (sup nx k (nx k + 1)) (k + 1) 0 i - 1 = chs nx k (nx k) i
                rw [sup_ne _ _ (show i ≠ k + 1 by omega)]
                by_cases q : i = k
                · rw [q, sup_eq, Nat.add_sub_cancel]
                  exact (if_pos rfl).symm
                · rw [sup_ne _ _ q]
                  exact (if_neg q).symm)
              rw [ec]
              exact ttop_eq (fun u v _ _ => by unfold mT; rw [o16 143 _ (by omega), o14 143 _ (by omega), o12 143 _ (by omega)]) zt
            · exact ttop_eq (fun u v _ _ => by unfold mT; rw [o16 143 _ (by omega)]) (T14 _ (fun i hi => by rw [sup_ne _ _ (show i ≠ k + 1 by omega), sup_ne _ _ (show i ≠ k by omega)]) j (by omega))
          · obtain ⟨a1, a2⟩ := slg14 hk
            refine ⟨fun i hi h1 => ?_, fun w i hw hi => ?_⟩
            · rw [o16 154 i (by omega), o16 155 i (by omega), o16 156 i (by omega)]
              exact a1 i hi h1
            · rw [o16 153 _ (by omega)]
              exact a2 w i hw hi
      refine ⟨fun xz => key J11 (!decide (r = 0)) (fun _ _ _ => rfl) (fun hk p j q1 q2 => by rw [oB p j (by omega) (by omega) (by omega)]; exact fk hk p j q1 q2) (fun hk => ?_) (fun q => by rw [decide_eq_true q]; rfl) (fun q => by rw [decide_eq_false q]; rfl), fun xz => ⟨v70, ?_⟩⟩
      · rw [hk] at hx; rw [hx] at xz; exact absurd xz (by decide)
      have hk : kp = true := by
        rcases Bool.eq_false_or_eq_true kp with q | q
        · exact q
        · rw [q] at hx; rw [hx] at xz; exact absurd (by decide) xz
      have e148 : J11 148 k = Int32.ofNat s := by rw [oB 148 k (by omega) (by omega) (by omega)]; exact it
      refine rx_notes (I := J11) (a := s) (b := nx k) (t := tr) e148 rfl (by omega) (by omega) rr (by rw [c63]; omega) (by omega) (fun J19 o19 v1 v2 v3 => ⟨J19, L, rfl, ?_⟩)
      refine key J19 (!decide (r = 0)) (fun p j q => o19 p j (by omega)) (fun q => absurd (hk.symm.trans q) (by decide)) (fun _ => ?_) (fun q => by rw [decide_eq_true q]; rfl) (fun q => by rw [decide_eq_false q]; rfl)
      obtain ⟨a1, a2⟩ := rL hk
      refine ⟨fun i hi h1 => ?_, fun w i hw hi => ?_⟩
      · by_cases e : i = tr
        · rw [e, sup_eq, v1, v2, v3]
          refine ⟨by rw [es], rfl, ?_⟩
          rcases rr with q | q
          · rw [q]; rfl
          · rw [q]; rfl
        · rw [sup_ne _ _ e, o19 154 i (by omega), o19 155 i (by omega), o19 156 i (by omega), oB 154 i (by omega) (by omega) (by omega), oB 155 i (by omega) (by omega) (by omega), oB 156 i (by omega) (by omega) (by omega)]
          exact a1 i (by omega) h1
      · rw [o19 153 _ (by omega), oB 153 _ (by omega) (by omega) (by omega)]
        exact a2 w i hw hi
end
end
section
/-! the whole of GOING THROUGH, pure -/
def gz (fd : Nat) : ss := (0, fun _ => 0, 0, fd, false, fun _ => (0, 0, false), fun _ _ => 0)
noncomputable def GT (n m : Nat) (B : List tC) (cc : Nat → Nat → List tC) (nc : Nat → Nat) (tf : Bool) : ss := if fz n B cc 0 (fun _ => 0) = true then (if m = 0 then gz 1 else rn m nc (fz n B cc) tf 2001 s_0) else gz 0
theorem GT_cg {n m : Nat} {B B' : List tC} {cc cc' : Nat → Nat → List tC} {nc nc' : Nat → Nat} {tf : Bool} (hB : ∀ c, c ∈ B ↔ c ∈ B') (hn : ∀ k, k < m → nc k = nc' k) (hc : ∀ j, j < m → ∀ c x, x ∈ cc j c ↔ x ∈ cc' j c) : GT n m B cc nc tf = GT n m B' cc' nc' tf := by
  unfold GT
  rw [fz_cg (k := 0) (ch := fun _ => 0) (cc := cc) (cc' := cc') hB (fun j hj => absurd hj (Nat.not_lt_zero j))]
  by_cases z : m = 0
  · rw [if_pos z, if_pos z]
  · rw [if_neg z, if_neg z, rn_cg hn (fun k ch _ h2 => fz_cg hB (fun j hj => hc j (by omega) (ch j))) 2001 s_0 (show 1 ≤ m by omega)]
/-- what each state of the machine holds -/
def swf (m : Nat) (nc : Nat → Nat) (fe : Nat → (Nat → Nat) → Bool) (s : ss) : Prop := s.1 ≤ m ∧ (∀ j, j + 1 < s.1 → 1 ≤ s.2.1 j ∧ s.2.1 j ≤ nc j) ∧ (∀ w, w < s.2.2.2.1 → (∀ i, i < m → s.2.2.2.2.2.2 w i < nc i) ∧ fe m (s.2.2.2.2.2.2 w) = true) ∧ (∀ i, i < s.2.2.1 → i < 1000 → (s.2.2.2.2.2.1 i).1 < m ∧ (s.2.2.2.2.2.1 i).2.1 < nc (s.2.2.2.2.2.1 i).1) ∧ (s.2.2.2.1 ≤ 1000 ∧ s.2.2.1 ≤ 1001) ∧ (s.1 ≠ 0 → s.2.2.2.1 ≤ s.2.2.1 ∧ s.2.2.1 ≤ 1000)
theorem stp_wf {m : Nat} {nc : Nat → Nat} {fe : Nat → (Nat → Nat) → Bool} {tf : Bool} {s : ss} (h : swf m nc fe s) : swf m nc fe (stp m nc fe tf s) := by
  obtain ⟨h1, h2, h3, h4, h5, h6⟩ := id h
  by_cases z : s.1 = 0
  · rw [stp_0 z]; exact h
  have h6 := h6 z
  by_cases c : nc (s.1 - 1) ≤ s.2.1 (s.1 - 1)
  · rw [stp_back z c]
    exact ⟨by show s.1 - 1 ≤ m; omega, fun j hj => h2 j (by have hj : j + 1 < s.1 - 1 := hj; omega), h3, h4, h5, fun _ => h6⟩
  by_cases t : 1000 ≤ s.2.2.1
  · rw [stp_sp z c t]
    refine ⟨Nat.zero_le _, fun j hj => absurd hj (Nat.not_lt_zero _), h3, fun i hi h => h4 i (by omega) h, ⟨h5.1, by show s.2.2.1 + 1 ≤ 1001; omega⟩, fun q => absurd rfl q⟩
  have new : ∀ b : Bool, ∀ i, i < s.2.2.1 + 1 → i < 1000 → ((sup s.2.2.2.2.2.1 s.2.2.1 (s.1 - 1, s.2.1 (s.1 - 1), b)) i).1 < m ∧ ((sup s.2.2.2.2.2.1 s.2.2.1 (s.1 - 1, s.2.1 (s.1 - 1), b)) i).2.1 < nc ((sup s.2.2.2.2.2.1 s.2.2.1 (s.1 - 1, s.2.1 (s.1 - 1), b)) i).1 := fun b i hi h => by
    by_cases e : i = s.2.2.1
    · rw [e, sup_eq]
      exact ⟨by show s.1 - 1 < m; omega, by show s.2.1 (s.1 - 1) < nc (s.1 - 1); omega⟩
    · rw [sup_ne _ _ e]; exact h4 i (by omega) h
  by_cases f : fe s.1 (chs s.2.1 (s.1 - 1) (s.2.1 (s.1 - 1))) = true
  · by_cases l : s.1 < m
    · rw [stp_down z c t f l]
      refine ⟨l, fun j hj => ?_, h3, new true, ⟨h5.1, by show s.2.2.1 + 1 ≤ 1001; omega⟩, fun _ => by show s.2.2.2.1 ≤ s.2.2.1 + 1 ∧ s.2.2.1 + 1 ≤ 1000; omega⟩
      have hj : j + 1 < s.1 + 1 := hj
      show 1 ≤ sup (sup s.2.1 (s.1 - 1) (s.2.1 (s.1 - 1) + 1)) s.1 0 j ∧ sup (sup s.2.1 (s.1 - 1) (s.2.1 (s.1 - 1) + 1)) s.1 0 j ≤ nc j
      rw [sup_ne _ _ (show j ≠ s.1 by omega)]
      by_cases e : j = s.1 - 1
      · rw [e, sup_eq]; omega
      · rw [sup_ne _ _ e]; exact h2 j (by omega)
    · rw [stp_way z c t f l]
      refine ⟨?_, fun j hj => ?_, fun w hw => ?_, new true, ⟨by show s.2.2.2.1 + 1 ≤ 1000; omega, by show s.2.2.1 + 1 ≤ 1001; omega⟩, fun _ => by show s.2.2.2.1 + 1 ≤ s.2.2.1 + 1 ∧ s.2.2.1 + 1 ≤ 1000; omega⟩
      · show (if tf = true then 0 else s.1) ≤ m
        split
        · exact Nat.zero_le _
        · exact h1
      · have hj : j + 1 < (if tf = true then 0 else s.1) := hj
        have hj : j + 1 < s.1 := by
          revert hj
          split
          · intro q; exact absurd q (Nat.not_lt_zero _)
          · exact id
        show 1 ≤ sup s.2.1 (s.1 - 1) (s.2.1 (s.1 - 1) + 1) j ∧ sup s.2.1 (s.1 - 1) (s.2.1 (s.1 - 1) + 1) j ≤ nc j
        rw [sup_ne _ _ (show j ≠ s.1 - 1 by omega)]
        exact h2 j hj
      · show (∀ i, i < m → sup s.2.2.2.2.2.2 s.2.2.2.1 (chs s.2.1 (s.1 - 1) (s.2.1 (s.1 - 1))) w i < nc i) ∧ fe m (sup s.2.2.2.2.2.2 s.2.2.2.1 (chs s.2.1 (s.1 - 1) (s.2.1 (s.1 - 1))) w) = true
        have hw : w < s.2.2.2.1 + 1 := hw
        by_cases e : w = s.2.2.2.1
        · rw [e, sup_eq]
          refine ⟨fun i hi => ?_, by rw [show m = s.1 by omega]; exact f⟩
          by_cases q : i = s.1 - 1
          · rw [show chs s.2.1 (s.1 - 1) (s.2.1 (s.1 - 1)) i = s.2.1 (s.1 - 1) from if_pos q, q]; omega
          · rw [show chs s.2.1 (s.1 - 1) (s.2.1 (s.1 - 1)) i = s.2.1 i - 1 from if_neg q]
            have := h2 i (by omega)
            omega
        · rw [sup_ne _ _ e]; exact h3 w (by omega)
  · rw [stp_fail z c t f]
    refine ⟨h1, fun j hj => ?_, h3, new false, ⟨h5.1, by show s.2.2.1 + 1 ≤ 1001; omega⟩, fun _ => by show s.2.2.2.1 ≤ s.2.2.1 + 1 ∧ s.2.2.1 + 1 ≤ 1000; omega⟩
    have hj : j + 1 < s.1 := hj
    show 1 ≤ sup s.2.1 (s.1 - 1) (s.2.1 (s.1 - 1) + 1) j ∧ sup s.2.1 (s.1 - 1) (s.2.1 (s.1 - 1) + 1) j ≤ nc j
    rw [sup_ne _ _ (show j ≠ s.1 - 1 by omega)]
    exact h2 j hj
theorem rn_wf {m : Nat} {nc : Nat → Nat} {fe : Nat → (Nat → Nat) → Bool} {tf : Bool} : ∀ (n : Nat) (s : ss), swf m nc fe s → swf m nc fe (rn m nc fe tf n s) := by
  intro n
  induction n with
  | zero => intro s h; exact h
  | succ n ih => intro s h; exact ih _ (stp_wf h)
theorem GT_wf {n m : Nat} {B : List tC} {cc : Nat → Nat → List tC} {nc : Nat → Nat} {tf : Bool} : swf m nc (fz n B cc) (GT n m B cc nc tf) := by
  unfold GT
  split
  · next z =>
    split
    · next e =>
      refine ⟨Nat.zero_le _, fun j hj => absurd hj (Nat.not_lt_zero _), fun w _ => ⟨fun i hi => absurd hi (by omega), ?_⟩, fun i hi => absurd hi (Nat.not_lt_zero _), ⟨by show 1 ≤ 1000; decide, by show 0 ≤ 1001; decide⟩, fun q => absurd rfl q⟩
      rw [e]; exact z
    · next e => exact rn_wf 2001 s_0 ⟨by show 1 ≤ m; omega, fun j hj => absurd hj (by show ¬ j + 1 < 1; omega), fun w hw => absurd hw (Nat.not_lt_zero _), fun i hi => absurd hi (Nat.not_lt_zero _), ⟨Nat.zero_le _, Nat.zero_le _⟩, fun _ => ⟨Nat.le_refl _, Nat.zero_le _⟩⟩
  · exact ⟨Nat.zero_le _, fun j hj => absurd hj (Nat.not_lt_zero _), fun w hw => absurd hw (Nat.not_lt_zero _), fun i hi => absurd hi (Nat.not_lt_zero _), ⟨Nat.zero_le _, Nat.zero_le _⟩, fun q => absurd rfl q⟩
theorem GT_no {n m : Nat} {B : List tC} {cc : Nat → Nat → List tC} {nc : Nat → Nat} {tf : Bool} (h : tno n B) : GT n m B cc nc tf = gz 0 := by
  unfold GT
  have z : fz n B cc 0 (fun _ => 0) = false := fz_f (k := 0) h
  rw [if_neg (by rw [z]; decide)]
/-! the reference's searches from their first step -/
section
variable {S : sm_C} {d : Nat} {Φ : sm_Z → Prop} {I : sm_I} {L : sm_L} {R : sm_R}
theorem rx_sr {kp : Bool} {xs : List Nat} {l n : Nat} {B0 : List tC} {x1 : Int32} (bs : rBs I n l) (hM : lM I xs) (m65 : xs.length ≤ 65) (m55 : kp = true → xs.length ≤ 55) (hx : x1 = if kp = true then 1 else 0) (sr : ∀ k, k < xs.length → xs.getD k 0 < 55 ∨ (60 ≤ xs.getD k 0 ∧ xs.getD k 0 < 70)) (ok : ∀ k, k < xs.length → iok I l n (xs.getD k 0)) (b128 : ∀ j, j < 20 → 0 ≤ (I 128 j).toInt ∧ (I 128 j).toInt ≤ 4) (g0 : 0 ≤ (I 107 69).toInt) (g1 : (I 107 69).toInt ≤ 5000) (T : ttop n B0 (mT I 0)) (h : ∀ J, zfin kp xs I (GT n xs.length B0 (fun i c => icv I l (xs.getD i 0) c) (fun j => icd I l (xs.getD j 0)) (!kp)) J → Φ (some (.int (Int32.ofNat (GT n xs.length B0 (fun i c => icv I l (xs.getD i 0) c) (fun j => icd I l (xs.getD j 0)) (!kp)).2.2.2.1)), (xLay, J, L, kM R))) : sm_wp sm_P S (d + 5) 186 0 [.ref 107, .int x1] [] (xLay, I, L, kM R) (0, 0) Φ := by
  have z : fz n B0 (fun i c => icv I l (xs.getD i 0) c) 0 (fun _ => 0) = true := fz_t (k := 0) T
  unfold GT at h
  rw [if_pos z] at h
  refine p_X12_searches_0 (d := d + 4) (fun I1 e1 => ?_)
  have o1 : ∀ p j, ¬ (p = 107 ∧ (j = 63 ∨ j = 64)) → I1 p j = I p j := fun p j q => by rw [e1, en_up_ne _ _ _ _ (by omega), en_up_ne _ _ _ _ (by omega)]
  have a63 : I1 107 63 = 0 := by rw [e1, en_up_ne _ _ _ _ (by omega), en_up_eq]
  have a64 : I1 107 64 = 0 := by rw [e1, en_up_eq]
  have a59 : (I1 107 59).toInt = xs.length := by rw [o1 107 59 (by omega)]; exact hM.1
  refine ⟨fun e0 => ?_, fun e0 => ⟨kl_in (by decide) (by decide), fun I2 e2 => ?_⟩⟩
  · have m0 : xs.length = 0 := by rw [e0, kl_0] at a59; omega
    rw [if_pos m0] at h
    exact h I1 ⟨⟨fun p j q => o1 p j (by omega), fun _ p j q1 q2 => o1 p j (by omega)⟩, by rw [a63]; rfl, by rw [a64]; rfl, fun _ => ⟨fun i hi => absurd hi (Nat.not_lt_zero i), fun w i _ hi => absurd hi (by omega)⟩⟩
  · have m1 : 1 ≤ xs.length := by
      rcases Nat.eq_zero_or_pos xs.length with q | q
      · exfalso
        refine e0 (en_ofI ?_)
        rw [a59, q]; decide
      · exact q
    rw [if_neg (show ¬ xs.length = 0 by omega)] at h
    have z0 : (0 : Int32).toNatClampNeg = 0 := by decide
    rw [z0] at e2
    have o2 : ∀ p j, ¬ (p = 150 ∧ j = 0) → I2 p j = I1 p j := fun p j q => by rw [e2, en_up_ne _ _ _ _ q]
    have oo : ∀ p j, ¬ (p = 150 ∧ j = 0) → ¬ (p = 107 ∧ (j = 63 ∨ j = 64)) → I2 p j = I p j := fun p j q1 q2 => (o2 p j q1).trans (o1 p j q2)
    refine rx_search (d := d) bs hM m1 m65 m55 hx sr ok b128 g0 g1 h 2001 0 (fun _ => 0) 0 0 (fun _ => (0, 0, false)) (fun _ _ => 0) I2 0 0 ⟨⟨fun p j q => oo p j (by omega) (by omega), fun _ p j q1 q2 => oo p j (by omega) (by omega)⟩, by rw [o2 107 63 (by omega), a63]; rfl, by rw [o2 107 64 (by omega)]; exact a64, fun j hj => ?_, fun j hj => absurd hj (Nat.not_lt_zero j), fun j hj => ?_, fun _ => ⟨fun i hi => absurd hi (Nat.not_lt_zero i), fun w i hw => absurd hw (Nat.not_lt_zero w)⟩, Nat.zero_le _, Nat.zero_le _, fun _ => rfl⟩ (by omega) (by decide) (by decide) rfl rn_s0
    · have : j = 0 := by omega
      rw [this, e2, en_up_eq]
      exact ⟨rfl, Nat.zero_le _⟩
    · have : j = 0 := by omega
      rw [this]
      exact ttop_eq (fun u v _ _ => by unfold mT; rw [oo 143 _ (by omega) (by omega)]) T
end
end
section
/-! the reference's GOING THROUGH all, exact -/
/-- what GOING THROUGH reads -/
def tfr (I J : sm_I) : Prop := ∀ p j, (p = 107 ∧ (j = 18 ∨ j = 46 ∨ j = 53 ∨ j = 54 ∨ j = 68)) ∨ ((118 ≤ p ∧ p ≤ 142) ∧ p ≠ 138) ∨ (144 ≤ p ∧ p ≤ 147) → J p j = I p j
theorem gv_z : ∀ s : Nat, s < 10 → ¬ ((0 : Int32) >>> (Int32.ofNat s &&& 31)) &&& (1 : Int32) = (1 : Int32) := by decide +kernel
theorem gv_0 {I : sm_I} (h : I 107 68 = 0) {s : Nat} (hs : s < 10) : gv I s = 0 := by
  unfold gv
  rw [h, if_neg (gv_z s hs)]
theorem t_oA {I J : sm_I} (h : tfr I J) (l i : Nat) : oA J l i = oA I l i := by
  unfold oA
  rw [h 122 l (by omega), h 135 _ (by omega)]
theorem t_su {I J : sm_I} (h : tfr I J) (l i : Nat) : su J l i = su I l i ∧ fa J l i = fa I l i ∧ na J l i = na I l i := by
  unfold su fa na
  rw [t_oA h, h 131 _ (by omega), h 132 _ (by omega), h 133 _ (by omega)]
  exact ⟨rfl, rfl, rfl⟩
theorem t_rhd {I J : sm_I} (h : tfr I J) (l : Nat) : rhd J l = rhd I l := by
  funext c
  unfold rhd
  rw [h 107 53 (by omega), (t_su h l c.1).1, (t_su h l c.2.1).1, (t_su h l c.1).2.1, (t_su h l c.2.1).2.2]
theorem t_spC {I J : sm_I} (h : tfr I J) (f : tC → tC) (p : Nat) (g : Int) : spC J f p g = spC I f p g := by
  unfold spC
  rw [h 130 _ (by omega), h 131 _ (by omega), h 132 _ (by omega), h 133 _ (by omega)]
theorem t_spL {I J : sm_I} (h : tfr I J) (f : tC → tC) (g : Int) (p : Nat) : ∀ m, spL J f g p m = spL I f g p m := by
  intro m
  induction m with
  | zero => rfl
  | succ m ih =>
    show spC J f (p + m) g ++ spL J f g p m = spC I f (p + m) g ++ spL I f g p m
    rw [ih, t_spC h]
theorem t_icd {I J : sm_I} (h : tfr I J) {l s : Nat} (hs : s < 60) : icd J l s = icd I l s := by
  unfold icd
  by_cases c : s < 10
  · rw [if_pos c, if_pos c, h 128 _ (by omega)]
  · rw [if_neg c, if_neg c, if_pos hs, if_pos hs, h 142 _ (by omega)]
theorem t_icc {I J : sm_I} (h : tfr I J) (z : I 107 68 = 0) {l s : Nat} (hs : s < 60) (c : Nat) : icc J l s c = icc I l s c := by
  unfold icc
  by_cases k : s < 10
  · rw [if_pos k, if_pos k, gv_0 z k, gv_0 (by rw [h 107 68 (by omega)]; exact z) k, t_rhd h, t_spL h, h 129 _ (by omega)]
  · rw [if_neg k, if_neg k, if_pos hs, if_pos hs, t_rhd h, h 140 _ (by omega), h 141 _ (by omega), h 142 _ (by omega)]
theorem t_icv {I J : sm_I} (h : tfr I J) (z : I 107 68 = 0) {l s : Nat} (hs : s < 60) (c : Nat) : icv J l s c = icv I l s c := by
  unfold icv
  rw [t_icd h hs, t_icc h z hs]
theorem t_op {I J : sm_I} (h : tfr I J) (l p : Nat) : opC J l p = opC I l p := by
  unfold opC
  rw [t_spC h, t_rhd h, h 107 53 (by omega), h 131 p (by omega), h 132 p (by omega), h 133 p (by omega)]
theorem t_opL {I J : sm_I} (h : tfr I J) (l p : Nat) : ∀ m, opL J l p m = opL I l p m := by
  intro m
  induction m with
  | zero => rfl
  | succ m ih =>
    show opC J l (p + m) ++ opL J l p m = opC I l (p + m) ++ opL I l p m
    rw [ih, t_op h]
theorem t_moL {I J : sm_I} (h : tfr I J) (f : tC → tC) : ∀ m, moL J f m = moL I f m := by
  intro m
  induction m with
  | zero => rfl
  | succ m ih =>
    show bC f (nd (J 144 m)) (nd (J 145 m)) (J 146 m).toInt (J 147 m).toInt ++ moL J f m = bC f (nd (I 144 m)) (nd (I 145 m)) (I 146 m).toInt (I 147 m).toInt ++ moL I f m
    rw [ih, h 144 m (by omega), h 145 m (by omega), h 146 m (by omega), h 147 m (by omega)]
theorem t_ba {I J : sm_I} (h : tfr I J) (l : Nat) : baC J l = baC I l := by
  unfold baC
  rw [t_moL h, t_opL h, t_rhd h, h 107 54 (by omega), h 134 l (by omega)]
theorem t_iok {I J : sm_I} (h : tfr I J) {l n s : Nat} (hs : s < 60) (k : iok I l n s) : iok J l n s := by
  have sk : ∀ p, sspk I n p → sspk J n p := fun p k => by
    unfold sspk at k ⊢
    rw [h 130 p (by omega), h 131 p (by omega), h 132 p (by omega), h 133 p (by omega)]; exact k
  rcases k with ⟨a, k⟩ | ⟨a, k⟩ | ⟨a, k⟩
  · refine Or.inl ⟨a, fun c hc => ?_⟩
    rw [h 128 _ (by omega)] at hc
    obtain ⟨k1, k2⟩ := k c hc
    rw [h 129 _ (by omega)]
    exact ⟨k1, fun i hi => sk _ (k2 i hi)⟩
  · refine Or.inr (Or.inl ⟨a, fun w => ?_⟩)
    rw [h 142 _ (by omega)] at w ⊢
    rw [h 140 _ (by omega), h 141 _ (by omega)]
    exact k w
  · omega
/-- the ITEMS of all -/
theorem sL_in (set : Int32) : ∀ k x, x ∈ sL set k → x < k := by
  intro k
  induction k with
  | zero => intro x h; exact absurd h List.not_mem_nil
  | succ k ih =>
    intro x h
    rcases List.mem_append.mp h with h | h
    · have := ih x h; omega
    · split at h
      · have := List.mem_singleton.mp h; omega
      · exact absurd h List.not_mem_nil
theorem mL_in (b : Nat) : ∀ k x, x ∈ mL b k → b ≤ x ∧ x < b + k := by
  intro k
  induction k with
  | zero => intro x h; exact absurd h List.not_mem_nil
  | succ k ih =>
    intro x h
    rcases List.mem_append.mp h with h | h
    · have := ih x h; omega
    · have := List.mem_singleton.mp h; omega
theorem itL_in {set : Int32} {s m : Nat} {k : Nat} (h : k < (itL set s m 0).length) : (itL set s m 0).getD k 0 < s ∨ (10 ≤ (itL set s m 0).getD k 0 ∧ (itL set s m 0).getD k 0 < 10 + m) := by
  have e : (itL set s m 0).getD k 0 = (itL set s m 0)[k] := by rw [List.getD_eq_getElem?_getD, List.getElem?_eq_getElem h]; rfl
  have mem : (itL set s m 0)[k] ∈ itL set s m 0 := List.getElem_mem h
  rw [e]
  rcases List.mem_append.mp mem with mem | mem
  · rcases List.mem_append.mp mem with mem | mem
    · exact Or.inl (sL_in _ _ _ mem)
    · exact Or.inr (mL_in _ _ _ mem)
  · exact absurd mem List.not_mem_nil
theorem itL_len {set : Int32} {s m : Nat} : (itL set s m 0).length ≤ s + m := by
  unfold itL
  rw [List.length_append, List.length_append, mL_len]
  have a := sL_len set s
  have b : (mL 60 0).length = 0 := rfl
  omega
def rdb (I : sm_I) (s : Nat) : Int32 := sb (fun k => if I 137 k = 0 then 1 else 0) s
def rxs (I : sm_I) (l : Nat) : List Nat := itL (rdb I (I 125 l).toNatClampNeg) (I 125 l).toNatClampNeg (I 107 46).toNatClampNeg 0
def rst (I : sm_I) : sm_I := fun p j => if p = 107 ∧ (j = 53 ∨ j = 68) then 0 else I p j
/-- what a text is: the numbers are within their bounds -/
def rwf (I : sm_I) (l : Nat) : Prop := ((I 107 18).toInt = l ∧ l ≤ 1) ∧ (0 ≤ (I 122 l).toInt ∧ (I 122 l).toInt ≤ 10) ∧ (0 ≤ (I 134 l).toInt ∧ (I 134 l).toInt ≤ 4) ∧ (∀ k, k < (I 134 l).toNatClampNeg → sspk I ((I 122 l).toNatClampNeg + 1) (240 + 4 * l + k)) ∧ (0 ≤ (I 107 54).toInt ∧ (I 107 54).toInt ≤ 6) ∧ (∀ k, k < (I 107 54).toNatClampNeg → mook I ((I 122 l).toNatClampNeg + 1) k) ∧ (0 ≤ (I 125 l).toInt ∧ (I 125 l).toInt ≤ 10) ∧ (0 ≤ (I 107 46).toInt ∧ (I 107 46).toInt ≤ 45) ∧ (∀ j, j < 20 → 0 ≤ (I 128 j).toInt ∧ (I 128 j).toInt ≤ 4) ∧ ∀ s, s < (I 125 l).toNatClampNeg ∨ (10 ≤ s ∧ s < 10 + (I 107 46).toNatClampNeg) → iok I l ((I 122 l).toNatClampNeg + 1) s
noncomputable def RF (I : sm_I) (l : Nat) : ss := GT ((I 122 l).toNatClampNeg + 1) (rxs I l).length (baC (rst I) l) (fun i c => icv (rst I) l ((rxs I l).getD i 0) c) (fun j => icd (rst I) l ((rxs I l).getD j 0)) false
def gor (xs : List Nat) (F : ss) (I : sm_I) : Prop := I 107 71 = (if F.2.2.2.2.1 = true then 1 else 0) ∧ (I 107 72).toInt = F.2.2.1 ∧ (I 107 73).toInt = F.2.2.2.1 ∧ slg xs F.2.2.1 F.2.2.2.1 F.2.2.2.2.2.1 F.2.2.2.2.2.2 I
theorem rst_t {I J : sm_I} (h : ∀ p j, (p = 107 ∧ (j = 18 ∨ j = 46 ∨ j = 54)) ∨ ((118 ≤ p ∧ p ≤ 142) ∧ p ≠ 138) ∨ (144 ≤ p ∧ p ≤ 147) → J p j = I p j) : tfr (rst I) (rst J) := fun p j q => by
  unfold rst
  by_cases c : p = 107 ∧ (j = 53 ∨ j = 68)
  · rw [if_pos c, if_pos c]
  · rw [if_neg c, if_neg c]; exact h p j (by omega)
theorem rxs_cg {I J : sm_I} {l : Nat} (h : ∀ p j, (p = 107 ∧ (j = 18 ∨ j = 46 ∨ j = 54)) ∨ ((118 ≤ p ∧ p ≤ 142) ∧ p ≠ 138) ∨ (144 ≤ p ∧ p ≤ 147) → J p j = I p j) : rxs J l = rxs I l := by
  have e : J 137 = I 137 := funext (fun j => h 137 j (by omega))
  unfold rxs rdb
  rw [h 125 l (by omega), h 107 46 (by omega), e]
theorem RF_cg {I J : sm_I} {l : Nat} (b : 0 ≤ (I 125 l).toInt ∧ (I 125 l).toInt ≤ 10) (m : 0 ≤ (I 107 46).toInt ∧ (I 107 46).toInt ≤ 45) (h : ∀ p j, (p = 107 ∧ (j = 18 ∨ j = 46 ∨ j = 54)) ∨ ((118 ≤ p ∧ p ≤ 142) ∧ p ≠ 138) ∨ (144 ≤ p ∧ p ≤ 147) → J p j = I p j) : RF J l = RF I l := by
  unfold RF
  rw [rxs_cg h, h 122 l (by omega), t_ba (rst_t h)]
  have nb := kl_nat b.1
  have nm := kl_nat m.1
  have lt : ∀ j, j < (rxs I l).length → (rxs I l).getD j 0 < 60 := fun j hj => by
    have := itL_in (show j < (itL _ _ _ 0).length from hj)
    unfold rxs
    omega
  have z : rst I 107 68 = 0 := if_pos ⟨rfl, Or.inr rfl⟩
  exact GT_cg (fun c => Iff.rfl) (fun k hk => t_icd (rst_t h) (lt k hk)) (fun j hj c x => by rw [t_icv (rst_t h) z (lt j hj)])
section
variable {S : sm_C} {d : Nat} {Φ : sm_Z → Prop} {I : sm_I} {L : sm_L} {R : sm_R}
def gofr (I J : sm_I) : Prop := ∀ p j, ¬ (p = 143 ∨ (148 ≤ p ∧ p ≤ 150) ∨ (153 ≤ p ∧ p ≤ 156) ∨ (p = 107 ∧ (j = 51 ∨ j = 52 ∨ j = 53 ∨ j = 59 ∨ j = 63 ∨ j = 64 ∨ j = 67 ∨ j = 68 ∨ (70 ≤ j ∧ j ≤ 74)))) → J p j = I p j
theorem rx_goes {l : Nat} (w : rwf I l) (g0 : 0 ≤ (I 107 69).toInt) (g1 : (I 107 69).toInt ≤ 5000) (go : I 107 70 ≠ 0 → gor (rxs I l) (RF I l) I) (h : ∀ J, gofr I J → J 107 70 ≠ 0 → (I 107 70 ≠ 0 → J = I) → gor (rxs I l) (RF I l) J → Φ (none, (xLay, J, L, kM R))) : sm_wp sm_P S (d + 6) 135 0 [.ref 107] [] (xLay, I, L, kM R) (0, 0) Φ := by
  obtain ⟨⟨w1, w2⟩, w3, w4, w5, w6, w7, w8, w9, w10, w11⟩ := w
  refine p_X12_goesAll_0 (d := d + 5) ⟨fun e0 I1 e1 I2 e2 => ?_, fun e0 => h I (fun _ _ _ => rfl) e0 (fun _ => rfl) (go e0)⟩
  have o2 : ∀ p j, ¬ (p = 107 ∧ (j = 53 ∨ j = 67 ∨ j = 68)) → I2 p j = I p j := fun p j q => by rw [e2, en_up_ne _ _ _ _ (by omega), e1, en_up_ne _ _ _ _ (by omega), en_up_ne _ _ _ _ (by omega)]
  have a53 : I2 107 53 = 0 := by rw [e2, en_up_ne _ _ _ _ (by omega), e1, en_up_ne _ _ _ _ (by omega), en_up_eq]
  have a67 : I2 107 67 = 0 := by rw [e2, en_up_eq]
  have a68 : I2 107 68 = 0 := by rw [e2, en_up_ne _ _ _ _ (by omega), e1, en_up_eq]
  have t2 : tfr (rst I) I2 := fun p j q => by
    unfold rst
    by_cases c : p = 107 ∧ (j = 53 ∨ j = 68)
    · rw [if_pos c]
      rcases c with ⟨rfl, rfl | rfl⟩
      · exact a53
      · exact a68
    · rw [if_neg c]; exact o2 p j (by omega)
  have nb := kl_nat w8.1
  have nm := kl_nat w9.1
  have nt := kl_nat w3.1
  have e125 : I2 125 l = I 125 l := o2 125 l (by omega)
  have e137 : I2 137 = I 137 := funext (fun j => o2 137 j (by omega))
  refine rx_undoubted (s := (I 125 l).toNatClampNeg) (by rw [o2 107 18 (by omega)]; exact w1) w2 (by rw [e125]; exact nb.symm) (by omega) ⟨_, I2, L, rfl, ?_⟩
  rw [e137]
  refine rx_lists (l := l) (s := (I 125 l).toNatClampNeg) (m := (I 107 46).toNatClampNeg) (e := 0) (by rw [o2 107 18 (by omega)]; exact w1) w2 (by rw [e125]; exact nb.symm) (by omega) (by rw [o2 107 46 (by omega)]; exact nm.symm) (by omega) (by rw [a67]; rfl) (by decide) (fun I6 c6 lM6 => ⟨I6, L, rfl, fun I9 e9 I10 e10 I11 e11 I12 e12 => ?_⟩)
  have o12 : ∀ p j, ¬ (p = 107 ∧ (j = 63 ∨ j = 64 ∨ j = 73 ∨ j = 74)) → I12 p j = I6 p j := fun p j q => by rw [e12, en_up_ne _ _ _ _ (by omega), e11, en_up_ne _ _ _ _ (by omega), e10, en_up_ne _ _ _ _ (by omega), e9, en_up_ne _ _ _ _ (by omega)]
  have oo12 : ∀ p j, p ≠ 148 → ¬ (p = 107 ∧ (j = 59 ∨ j = 63 ∨ j = 64 ∨ j = 73 ∨ j = 74)) → I12 p j = I2 p j := fun p j q1 q2 => (o12 p j (by omega)).trans (c6 p j q1 (by omega))
  have a64 : I12 107 64 = 0 := by rw [e12, en_up_eq]
  have a63 : I12 107 63 = 0 := by rw [e12, en_up_ne _ _ _ _ (by omega), e11, en_up_eq]
  have a73 : I12 107 73 = 0 := by rw [e12, en_up_ne _ _ _ _ (by omega), e11, en_up_ne _ _ _ _ (by omega), e10, en_up_eq]
  have e18 : I12 107 18 = I 107 18 := (oo12 107 18 (by omega) (by omega)).trans (o2 107 18 (by omega))
  have nl : (I12 107 18).toNatClampNeg = l := tk_nat (by rw [e18]; exact w1)
  refine ⟨kl_in (by rw [e18]; omega) (by rw [e18]; omega), ?_⟩
  rw [nl, oo12 122 l (by omega) (by omega), o2 122 l (by omega)]
  intro n13 e13
  have q13 : n13.toInt = (((I 122 l).toNatClampNeg + 1 : Nat) : Int) := by rw [e13, ml_in1 (by omega)]; omega
  have t12 : tfr (rst I) I12 := fun p j q => (oo12 p j (by omega) (by omega)).trans (t2 p j q)
  have f12 : ∀ p j, p ≠ 148 → ¬ (p = 107 ∧ (j = 53 ∨ j = 67 ∨ j = 68 ∨ j = 59 ∨ j = 63 ∨ j = 64 ∨ j = 73 ∨ j = 74)) → I12 p j = I p j := fun p j q1 q2 => (oo12 p j q1 (by omega)).trans (o2 p j (by omega))
  have fI : tfr I (rst I) ∨ True := Or.inr trivial
  have sk12 : ∀ n p, sspk I n p → sspk I12 n p := fun n p k => by
    unfold sspk at k ⊢
    rw [f12 130 p (by omega) (by omega), f12 131 p (by omega) (by omega), f12 132 p (by omega) (by omega), f12 133 p (by omega) (by omega)]; exact k
  have eRF : RF I l = GT ((I 122 l).toNatClampNeg + 1) (rxs I l).length (baC (rst I) l) (fun i c => icv (rst I) l ((rxs I l).getD i 0) c) (fun j => icd (rst I) l ((rxs I l).getD j 0)) false := rfl
  have len : (rxs I l).length ≤ 55 := by
    have := itL_len (set := rdb I (I 125 l).toNatClampNeg) (s := (I 125 l).toNatClampNeg) (m := (I 107 46).toNatClampNeg)
    unfold rxs
    omega
  have inx : ∀ k, k < (rxs I l).length → (rxs I l).getD k 0 < (I 125 l).toNatClampNeg ∨ (10 ≤ (rxs I l).getD k 0 ∧ (rxs I l).getD k 0 < 10 + (I 107 46).toNatClampNeg) := fun k hk => itL_in hk
  have lM12 : lM I12 (rxs I l) := ⟨by rw [o12 107 59 (by omega)]; exact lM6.1, fun k hk => by rw [o12 148 k (by omega)]; exact lM6.2 k hk⟩
  refine rx_begins (d := d + 1) (l := l) (n := (I 122 l).toNatClampNeg + 1) q13 (by omega) (by omega) (by rw [e18]; exact w1) w2 (by rw [f12 122 l (by omega) (by omega)]; exact w3) (Or.inl (by rw [oo12 107 53 (by omega) (by omega)]; exact a53)) (by rw [f12 134 l (by omega) (by omega)]; exact w4) (fun k hk => by rw [f12 134 l (by omega) (by omega)] at hk; exact sk12 _ _ (w5 k hk)) (by rw [f12 107 54 (by omega) (by omega)]; exact w6) (fun k hk => by
    rw [f12 107 54 (by omega) (by omega)] at hk
    have k := w7 k hk
    unfold mook at k ⊢
    rw [f12 144 _ (by omega) (by omega), f12 145 _ (by omega) (by omega), f12 146 _ (by omega) (by omega), f12 147 _ (by omega) (by omega)]; exact k) (fun r16 I14 z => ⟨r16, I14, L, rfl, ?_⟩)
  obtain ⟨cg, z⟩ := z
  have o14 : ∀ p j, p ≠ 143 → ¬ (p = 107 ∧ (j = 51 ∨ j = 52)) → I14 p j = I12 p j := fun p j q1 q2 => by rw [cg p j (by omega), en_up_ne _ _ _ _ (by omega), en_up_ne _ _ _ _ (by omega)]
  have b51 : I14 107 51 = n13 := by rw [cg 107 51 (by omega), en_up_ne _ _ _ _ (by omega), en_up_eq]
  have t14 : tfr (rst I) I14 := fun p j q => (o14 p j (by omega) (by omega)).trans (t12 p j q)
  rw [t_ba t12] at z
  have z68 : rst I 107 68 = 0 := if_pos ⟨rfl, Or.inr rfl⟩
  have lt60 : ∀ k, k < (rxs I l).length → (rxs I l).getD k 0 < 60 := fun k hk => by have := inx k hk; omega
  have eGT : GT ((I 122 l).toNatClampNeg + 1) (rxs I l).length (baC (rst I) l) (fun i c => icv I14 l ((rxs I l).getD i 0) c) (fun j => icd I14 l ((rxs I l).getD j 0)) false = RF I l := by
    rw [eRF]
    exact GT_cg (fun c => Iff.rfl) (fun k hk => t_icd t14 (lt60 k hk)) (fun j hj c x => by rw [t_icv t14 z68 (lt60 j hj)])
  refine ⟨fun r0 => ?_, fun r0 => ?_⟩
  · -- no HOURS at all
    have zn : tno ((I 122 l).toNatClampNeg + 1) (baC (rst I) l) := by
      rcases z with ⟨-, q⟩ | ⟨q, -⟩
      · exact q
      · rw [r0] at q; exact absurd q (by decide)
    have eF : RF I l = gz 0 := GT_no zn
    have c64 : I14 107 64 = 0 := (o14 107 64 (by omega) (by omega)).trans a64
    have c63 : I14 107 63 = 0 := (o14 107 63 (by omega) (by omega)).trans a63
    have c73 : I14 107 73 = 0 := (o14 107 73 (by omega) (by omega)).trans a73
    refine ⟨Or.inl c64, fun I17 e17 I18 e18 I19 e19 => ?_⟩
    have o19 : ∀ p j, ¬ (p = 107 ∧ (j = 70 ∨ j = 71 ∨ j = 72)) → I19 p j = I14 p j := fun p j q => by rw [e19, en_up_ne _ _ _ _ (by omega), e18, en_up_ne _ _ _ _ (by omega), e17, en_up_ne _ _ _ _ (by omega)]
    refine h I19 (fun p j q => by rw [o19 p j (by omega), o14 p j (by omega) (by omega)]; exact f12 p j (by omega) (by omega)) (by rw [e19, en_up_eq]; decide) (fun q => absurd e0 q) ?_
    rw [eF]
    refine ⟨?_, ?_, ?_, fun i hi => absurd hi (Nat.not_lt_zero i), fun w i hw => absurd hw (Nat.not_lt_zero w)⟩
    · rw [e19, en_up_ne _ _ _ _ (by omega), e18, en_up_ne _ _ _ _ (by omega), e17, en_up_eq, c64]; rfl
    · rw [e19, en_up_ne _ _ _ _ (by omega), e18, en_up_eq, e17, en_up_ne _ _ _ _ (by omega), c63]; rfl
    · rw [o19 107 73 (by omega), c73]; rfl
  · have zt : ttop ((I 122 l).toNatClampNeg + 1) (baC (rst I) l) (mT I14 0) := by
      rcases z with ⟨q, -⟩ | ⟨-, q⟩
      · exact absurd q r0
      · exact q
    have e18' : I14 107 18 = I 107 18 := (o14 107 18 (by omega) (by omega)).trans e18
    have f14 : ∀ p j, p ≠ 143 → p ≠ 148 → ¬ (p = 107 ∧ (j = 51 ∨ j = 52 ∨ j = 53 ∨ j = 67 ∨ j = 68 ∨ j = 59 ∨ j = 63 ∨ j = 64 ∨ j = 73 ∨ j = 74)) → I14 p j = I p j := fun p j q1 q2 q3 => (o14 p j q1 (by omega)).trans (f12 p j q2 (by omega))
    have iok14 : ∀ k, k < (rxs I l).length → iok I14 l ((I 122 l).toNatClampNeg + 1) ((rxs I l).getD k 0) := fun k hk => by
      have a := w11 _ (inx k hk)
      have tI : tfr I (fun p j => if p = 107 ∧ (j = 53 ∨ j = 68) then I p j else I14 p j) := fun p j q => by
        by_cases c : p = 107 ∧ (j = 53 ∨ j = 68)
        · show (if p = 107 ∧ (j = 53 ∨ j = 68) then I p j else I14 p j) = I p j
          rw [if_pos c]
        · show (if p = 107 ∧ (j = 53 ∨ j = 68) then I p j else I14 p j) = I p j
          rw [if_neg c]; exact f14 p j (by omega) (by omega) (by omega)
      exact t_iok tI (lt60 k hk) a
    refine rx_sr (d := d) (kp := true) (xs := rxs I l) (l := l) (n := (I 122 l).toNatClampNeg + 1) (B0 := baC (rst I) l) ⟨by rw [b51]; exact q13, by omega, by rw [e18']; exact w1, w2, by rw [f14 122 l (by omega) (by omega) (by omega)]; exact w3, Or.inl (by rw [o14 107 53 (by omega) (by omega), oo12 107 53 (by omega) (by omega)]; exact a53)⟩ ⟨by rw [o14 107 59 (by omega) (by omega)]; exact lM12.1, fun k hk => by rw [o14 148 k (by omega) (by omega)]; exact lM12.2 k hk⟩ (by omega) (fun _ => len) rfl (fun k hk => Or.inl (by have := inx k hk; omega)) iok14 (fun j hj => by rw [f14 128 j (by omega) (by omega) (by omega)]; exact w10 j hj) (by rw [f14 107 69 (by omega) (by omega) (by omega)]; exact g0) (by rw [f14 107 69 (by omega) (by omega) (by omega)]; exact g1) zt (fun J zf => ⟨_, J, L, rfl, fun n23 e23 => ?_⟩)
    have zf : zfin true (rxs I l) I14 (RF I l) J := by rw [← eGT]; exact zf
    have e23 : n23 = (sm_up J 107 73 (Int32.ofNat (RF I l).2.2.2.1)) 107 64 := by rw [← eGT]; exact e23
    have goal : (n23 = 0 ∨ n23 = 1) ∧ ∀ I24 : sm_I, I24 = (sm_up (sm_up J 107 73 (Int32.ofNat (RF I l).2.2.2.1)) 107 71 n23) → ∀ I25 : sm_I, I25 = (sm_up I24 107 72 (I24 107 63)) → ∀ I26 : sm_I, I26 = (sm_up I25 107 70 (1 : Int32)) → Φ (none, (xLay, I26, L, kM R)) := by
      obtain ⟨⟨zf1, -⟩, zf2, zf3, zf4⟩ := zf
      rw [en_up_ne _ _ _ _ (by omega), zf3] at e23
      refine ⟨?_, fun I24 e24 I25 e25 I26 e26 => ?_⟩
      · rw [e23]
        split
        · exact Or.inr rfl
        · exact Or.inl rfl
      have o26 : ∀ p j, ¬ (p = 107 ∧ (70 ≤ j ∧ j ≤ 73)) → I26 p j = J p j := fun p j q => by rw [e26, en_up_ne _ _ _ _ (by omega), e25, en_up_ne _ _ _ _ (by omega), e24, en_up_ne _ _ _ _ (by omega), en_up_ne _ _ _ _ (by omega)]
      have wf : (RF I l).2.2.2.1 ≤ 1000 := GT_wf.2.2.2.2.1.1
      refine h I26 (fun p j q => by rw [o26 p j (by omega), zf1 p j (by omega)]; exact f14 p j (by omega) (by omega) (by omega)) (by rw [e26, en_up_eq]; decide) (fun q => absurd e0 q) ⟨?_, ?_, ?_, ?_⟩
      · rw [e26, en_up_ne _ _ _ _ (by omega), e25, en_up_ne _ _ _ _ (by omega), e24, en_up_eq]; exact e23
      · rw [e26, en_up_ne _ _ _ _ (by omega), e25, en_up_eq, e24, en_up_ne _ _ _ _ (by omega), en_up_ne _ _ _ _ (by omega)]; exact zf2
      · rw [e26, en_up_ne _ _ _ _ (by omega), e25, en_up_ne _ _ _ _ (by omega), e24, en_up_ne _ _ _ _ (by omega), en_up_eq, Int32.toInt_ofNat_of_lt (by omega)]
      · obtain ⟨a1, a2⟩ := zf4 rfl
        refine ⟨fun i hi h1 => ?_, fun w i hw hi => ?_⟩
        · rw [o26 154 i (by omega), o26 155 i (by omega), o26 156 i (by omega)]
          exact a1 i hi h1
        · rw [o26 153 _ (by omega)]
          exact a2 w i hw hi
    rw [← eGT] at goal
    exact goal
end
end
