/-! GOING THROUGH as a pure machine: level + 1 (0: done), the next choice of each level, TRIES, found, SPENT, what was tried, the WAYS -/
abbrev ss : Type := Nat × (Nat → Nat) × Nat × Nat × Bool × (Nat → Nat × Nat × Bool) × (Nat → Nat → Nat)
def sup {α : Type} (f : Nat → α) (i : Nat) (v : α) : Nat → α := fun j => if j = i then v else f j
theorem sup_eq {α : Type} (f : Nat → α) (i : Nat) (v : α) : sup f i v i = v := if_pos rfl
theorem sup_ne {α : Type} (f : Nat → α) {i j : Nat} (v : α) (h : j ≠ i) : sup f i v j = f j := if_neg h
/-- the choices under way, with c on the level k -/
def chs (nx : Nat → Nat) (k c : Nat) : Nat → Nat := fun j => if j = k then c else nx j - 1
def stp (m : Nat) (nc : Nat → Nat) (fe : Nat → (Nat → Nat) → Bool) (tf : Bool) (s : ss) : ss :=
  if s.1 = 0 then s
  else if nc (s.1 - 1) ≤ s.2.1 (s.1 - 1) then (s.1 - 1, s.2.1, s.2.2.1, s.2.2.2.1, s.2.2.2.2.1, s.2.2.2.2.2.1, s.2.2.2.2.2.2)
  else if 1000 ≤ s.2.2.1 then (0, s.2.1, s.2.2.1 + 1, s.2.2.2.1, true, s.2.2.2.2.2.1, s.2.2.2.2.2.2)
  else if fe s.1 (chs s.2.1 (s.1 - 1) (s.2.1 (s.1 - 1))) = true then
    (if s.1 < m then (s.1 + 1, sup (sup s.2.1 (s.1 - 1) (s.2.1 (s.1 - 1) + 1)) s.1 0, s.2.2.1 + 1, s.2.2.2.1, s.2.2.2.2.1, sup s.2.2.2.2.2.1 s.2.2.1 (s.1 - 1, s.2.1 (s.1 - 1), true), s.2.2.2.2.2.2)
     else ((if tf = true then 0 else s.1), sup s.2.1 (s.1 - 1) (s.2.1 (s.1 - 1) + 1), s.2.2.1 + 1, s.2.2.2.1 + 1, s.2.2.2.2.1, sup s.2.2.2.2.2.1 s.2.2.1 (s.1 - 1, s.2.1 (s.1 - 1), true), sup s.2.2.2.2.2.2 s.2.2.2.1 (chs s.2.1 (s.1 - 1) (s.2.1 (s.1 - 1)))))
  else (s.1, sup s.2.1 (s.1 - 1) (s.2.1 (s.1 - 1) + 1), s.2.2.1 + 1, s.2.2.2.1, s.2.2.2.2.1, sup s.2.2.2.2.2.1 s.2.2.1 (s.1 - 1, s.2.1 (s.1 - 1), false), s.2.2.2.2.2.2)
def rn (m : Nat) (nc : Nat → Nat) (fe : Nat → (Nat → Nat) → Bool) (tf : Bool) : Nat → ss → ss
  | 0, s => s
  | n + 1, s => rn m nc fe tf n (stp m nc fe tf s)
def s_0 : ss := (1, fun _ => 0, 0, 0, false, fun _ => (0, 0, false), fun _ _ => 0)
section
variable {m : Nat} {nc : Nat → Nat} {fe : Nat → (Nat → Nat) → Bool} {tf : Bool}
theorem stp_0 {s : ss} (h : s.1 = 0) : stp m nc fe tf s = s := if_pos h
theorem rn_0 {s : ss} (h : s.1 = 0) : ∀ n, rn m nc fe tf n s = s := by
  intro n
  induction n with
  | zero => rfl
  | succ n ih =>
    show rn m nc fe tf n (stp m nc fe tf s) = s
    rw [stp_0 h]; exact ih
theorem stp_back {s : ss} (h : s.1 ≠ 0) (c : nc (s.1 - 1) ≤ s.2.1 (s.1 - 1)) : stp m nc fe tf s = (s.1 - 1, s.2.1, s.2.2.1, s.2.2.2.1, s.2.2.2.2.1, s.2.2.2.2.2.1, s.2.2.2.2.2.2) := by
  unfold stp
  rw [if_neg h, if_pos c]
theorem stp_sp {s : ss} (h : s.1 ≠ 0) (c : ¬ nc (s.1 - 1) ≤ s.2.1 (s.1 - 1)) (t : 1000 ≤ s.2.2.1) : stp m nc fe tf s = (0, s.2.1, s.2.2.1 + 1, s.2.2.2.1, true, s.2.2.2.2.2.1, s.2.2.2.2.2.2) := by
  unfold stp
  rw [if_neg h, if_neg c, if_pos t]
theorem stp_down {s : ss} (h : s.1 ≠ 0) (c : ¬ nc (s.1 - 1) ≤ s.2.1 (s.1 - 1)) (t : ¬ 1000 ≤ s.2.2.1) (f : fe s.1 (chs s.2.1 (s.1 - 1) (s.2.1 (s.1 - 1))) = true) (l : s.1 < m) : stp m nc fe tf s = (s.1 + 1, sup (sup s.2.1 (s.1 - 1) (s.2.1 (s.1 - 1) + 1)) s.1 0, s.2.2.1 + 1, s.2.2.2.1, s.2.2.2.2.1, sup s.2.2.2.2.2.1 s.2.2.1 (s.1 - 1, s.2.1 (s.1 - 1), true), s.2.2.2.2.2.2) := by
  unfold stp
  rw [if_neg h, if_neg c, if_neg t, if_pos f, if_pos l]
theorem stp_way {s : ss} (h : s.1 ≠ 0) (c : ¬ nc (s.1 - 1) ≤ s.2.1 (s.1 - 1)) (t : ¬ 1000 ≤ s.2.2.1) (f : fe s.1 (chs s.2.1 (s.1 - 1) (s.2.1 (s.1 - 1))) = true) (l : ¬ s.1 < m) : stp m nc fe tf s = ((if tf = true then 0 else s.1), sup s.2.1 (s.1 - 1) (s.2.1 (s.1 - 1) + 1), s.2.2.1 + 1, s.2.2.2.1 + 1, s.2.2.2.2.1, sup s.2.2.2.2.2.1 s.2.2.1 (s.1 - 1, s.2.1 (s.1 - 1), true), sup s.2.2.2.2.2.2 s.2.2.2.1 (chs s.2.1 (s.1 - 1) (s.2.1 (s.1 - 1)))) := by
  unfold stp
  rw [if_neg h, if_neg c, if_neg t, if_pos f, if_neg l]
theorem stp_fail {s : ss} (h : s.1 ≠ 0) (c : ¬ nc (s.1 - 1) ≤ s.2.1 (s.1 - 1)) (t : ¬ 1000 ≤ s.2.2.1) (f : ¬ fe s.1 (chs s.2.1 (s.1 - 1) (s.2.1 (s.1 - 1))) = true) : stp m nc fe tf s = (s.1, sup s.2.1 (s.1 - 1) (s.2.1 (s.1 - 1) + 1), s.2.2.1 + 1, s.2.2.2.1, s.2.2.2.2.1, sup s.2.2.2.2.2.1 s.2.2.1 (s.1 - 1, s.2.1 (s.1 - 1), false), s.2.2.2.2.2.2) := by
  unfold stp
  rw [if_neg h, if_neg c, if_neg t, if_neg f]
/-- each step is a TRY or goes back from an ITEM to which a TRY led -/
theorem rn_done : ∀ (n i : Nat) (s : ss), s.2.2.1 ≤ 1000 ∨ s.1 = 0 → (s.1 = 0 ∨ i + s.1 ≤ 2 * s.2.2.1 + 1) → 2001 ≤ n + i → (rn m nc fe tf n s).1 = 0 := by
  intro n
  induction n with
  | zero =>
    intro i s h1 h2 h3
    show s.1 = 0
    omega
  | succ n ih =>
    intro i s h1 h2 h3
    by_cases z : s.1 = 0
    · rw [rn_0 z]; exact z
    show (rn m nc fe tf n (stp m nc fe tf s)).1 = 0
    have h1 := h1.resolve_right z
    have h2 := h2.resolve_left z
    by_cases c : nc (s.1 - 1) ≤ s.2.1 (s.1 - 1)
    · rw [stp_back z c]
      exact ih (i + 1) _ (Or.inl h1) (Or.inr (by show i + 1 + (s.1 - 1) ≤ 2 * s.2.2.1 + 1; omega)) (by omega)
    by_cases t : 1000 ≤ s.2.2.1
    · rw [stp_sp z c t]
      exact ih (i + 1) _ (Or.inr rfl) (Or.inl rfl) (by omega)
    by_cases f : fe s.1 (chs s.2.1 (s.1 - 1) (s.2.1 (s.1 - 1))) = true
    · by_cases l : s.1 < m
      · rw [stp_down z c t f l]
        exact ih (i + 1) _ (Or.inl (by show s.2.2.1 + 1 ≤ 1000; omega)) (Or.inr (by show i + 1 + (s.1 + 1) ≤ 2 * (s.2.2.1 + 1) + 1; omega)) (by omega)
      · rw [stp_way z c t f l]
        cases tf with
        | true => exact ih (i + 1) _ (Or.inr rfl) (Or.inl rfl) (by omega)
        | false => exact ih (i + 1) _ (Or.inl (by show s.2.2.1 + 1 ≤ 1000; omega)) (Or.inr (by show i + 1 + s.1 ≤ 2 * (s.2.2.1 + 1) + 1; omega)) (by omega)
    · rw [stp_fail z c t f]
      exact ih (i + 1) _ (Or.inl (by show s.2.2.1 + 1 ≤ 1000; omega)) (Or.inr (by show i + 1 + s.1 ≤ 2 * (s.2.2.1 + 1) + 1; omega)) (by omega)
theorem rn_s0 : (rn m nc fe tf 2001 s_0).1 = 0 := rn_done 2001 0 s_0 (Or.inl (by decide)) (Or.inr (by decide)) (by omega)
theorem rn_more {s : ss} : ∀ n, (rn m nc fe tf n s).1 = 0 → ∀ k, rn m nc fe tf (n + k) s = rn m nc fe tf n s := by
  intro n
  induction n generalizing s with
  | zero => intro h k; rw [Nat.zero_add]; exact rn_0 h k
  | succ n ih =>
    intro h k
    rw [show n + 1 + k = (n + k) + 1 by omega]
    exact ih h k
end
/-- the same problem, the same run -/
theorem stp_cg {m : Nat} {nc nc' : Nat → Nat} {fe fe' : Nat → (Nat → Nat) → Bool} {tf : Bool} {s : ss} (h1 : s.1 ≤ m) (hn : ∀ k, k < m → nc k = nc' k) (hf : ∀ k ch, 1 ≤ k → k ≤ m → fe k ch = fe' k ch) : stp m nc fe tf s = stp m nc' fe' tf s := by
  by_cases z : s.1 = 0
  · rw [stp_0 z, stp_0 z]
  · unfold stp
    rw [hn (s.1 - 1) (by omega), hf s.1 _ (by omega) h1]
theorem stp_m {m : Nat} {nc : Nat → Nat} {fe : Nat → (Nat → Nat) → Bool} {tf : Bool} {s : ss} (h1 : s.1 ≤ m) : (stp m nc fe tf s).1 ≤ m := by
  by_cases z : s.1 = 0
  · rw [stp_0 z]; exact h1
  by_cases c : nc (s.1 - 1) ≤ s.2.1 (s.1 - 1)
  · rw [stp_back z c]
    show s.1 - 1 ≤ m
    omega
  by_cases t : 1000 ≤ s.2.2.1
  · rw [stp_sp z c t]; exact Nat.zero_le _
  by_cases f : fe s.1 (chs s.2.1 (s.1 - 1) (s.2.1 (s.1 - 1))) = true
  · by_cases l : s.1 < m
    · rw [stp_down z c t f l]; exact l
    · rw [stp_way z c t f l]
      show (if tf = true then 0 else s.1) ≤ m
      split
      · exact Nat.zero_le _
      · exact h1
  · rw [stp_fail z c t f]; exact h1
theorem rn_cg {m : Nat} {nc nc' : Nat → Nat} {fe fe' : Nat → (Nat → Nat) → Bool} {tf : Bool} (hn : ∀ k, k < m → nc k = nc' k) (hf : ∀ k ch, 1 ≤ k → k ≤ m → fe k ch = fe' k ch) : ∀ n s, s.1 ≤ m → rn m nc fe tf n s = rn m nc' fe' tf n s := by
  intro n
  induction n with
  | zero => intro _ _; rfl
  | succ n ih =>
    intro s h
    show rn m nc fe tf n (stp m nc fe tf s) = rn m nc' fe' tf n (stp m nc' fe' tf s)
    rw [← stp_cg h hn hf]
    exact ih _ (stp_m h)
/-- the constraints of the first k ITEMS with their choices -/
def cl (B : List tC) (cc : Nat → Nat → List tC) (ch : Nat → Nat) : Nat → List tC
  | 0 => B
  | k + 1 => cc k (ch k) ++ cl B cc ch k
noncomputable def fz (n : Nat) (B : List tC) (cc : Nat → Nat → List tC) (k : Nat) (ch : Nat → Nat) : Bool := @decide (¬ tno n (cl B cc ch k)) (Classical.propDecidable _)
theorem cl_cg {B : List tC} {cc : Nat → Nat → List tC} {ch ch' : Nat → Nat} : ∀ k, (∀ j, j < k → ch j = ch' j) → cl B cc ch k = cl B cc ch' k := by
  intro k
  induction k with
  | zero => intro _; rfl
  | succ k ih =>
    intro h
    show cc k (ch k) ++ cl B cc ch k = cc k (ch' k) ++ cl B cc ch' k
    rw [h k (by omega), ih (fun j hj => h j (by omega))]
theorem fz_t {n k : Nat} {B : List tC} {cc : Nat → Nat → List tC} {ch : Nat → Nat} {D : Nat → Nat → Int} (h : ttop n (cl B cc ch k) D) : fz n B cc k ch = true := @decide_eq_true _ (Classical.propDecidable _) (fun q => q D h.1)
theorem fz_f {n k : Nat} {B : List tC} {cc : Nat → Nat → List tC} {ch : Nat → Nat} (h : tno n (cl B cc ch k)) : fz n B cc k ch = false := @decide_eq_false _ (Classical.propDecidable _) (fun q => q h)
theorem fz_cg {n : Nat} {B B' : List tC} {cc cc' : Nat → Nat → List tC} {k : Nat} {ch : Nat → Nat} (hB : ∀ c, c ∈ B ↔ c ∈ B') (hc : ∀ j, j < k → ∀ c, c ∈ cc j (ch j) ↔ c ∈ cc' j (ch j)) : fz n B cc k ch = fz n B' cc' k ch := by
  have e : ∀ k', k' ≤ k → ∀ c, c ∈ cl B cc ch k' ↔ c ∈ cl B' cc' ch k' := by
    intro k'
    induction k' with
    | zero => intro _ c; exact hB c
    | succ k' ih =>
      intro h c
      show c ∈ cc k' (ch k') ++ cl B cc ch k' ↔ c ∈ cc' k' (ch k') ++ cl B' cc' ch k'
      rw [List.mem_append, List.mem_append, hc k' (by omega) c, ih (by omega) c]
  have : tno n (cl B cc ch k) ↔ tno n (cl B' cc' ch k) := ⟨fun q => tno_cg (fun c hc => (e k (Nat.le_refl _) c).mp hc) q, fun q => tno_cg (fun c hc => (e k (Nat.le_refl _) c).mpr hc) q⟩
  rcases Classical.em (tno n (cl B cc ch k)) with q | q
  · rw [fz_f q, fz_f (this.mp q)]
  · have t : ∀ (B : List tC) (cc : Nat → Nat → List tC), ¬ tno n (cl B cc ch k) → fz n B cc k ch = true := fun B cc h => @decide_eq_true _ (Classical.propDecidable _) h
    rw [t B cc q, t B' cc' (fun x => q (this.mpr x))]
/-! the steps, plainly -/
section
variable {m : Nat} {nc : Nat → Nat} {fe : Nat → (Nat → Nat) → Bool} {tf : Bool} {f k : Nat} {nx : Nat → Nat} {tr fd : Nat} {lg : Nat → Nat × Nat × Bool} {wy : Nat → Nat → Nat}
theorem rn_back (c : nc k ≤ nx k) : rn m nc fe tf (f + 1) (k + 1, nx, tr, fd, false, lg, wy) = rn m nc fe tf f (k, nx, tr, fd, false, lg, wy) := by
  show rn m nc fe tf f (stp m nc fe tf (k + 1, nx, tr, fd, false, lg, wy)) = _
  rw [stp_back (Nat.succ_ne_zero k) c]; rfl
theorem rn_spent (c : ¬ nc k ≤ nx k) (t : 1000 ≤ tr) : rn m nc fe tf (f + 1) (k + 1, nx, tr, fd, false, lg, wy) = (0, nx, tr + 1, fd, true, lg, wy) := by
  show rn m nc fe tf f (stp m nc fe tf (k + 1, nx, tr, fd, false, lg, wy)) = _
  rw [stp_sp (Nat.succ_ne_zero k) c t]
  exact rn_0 rfl f
theorem rn_fail (c : ¬ nc k ≤ nx k) (t : ¬ 1000 ≤ tr) (h : fe (k + 1) (chs nx k (nx k)) = false) : rn m nc fe tf (f + 1) (k + 1, nx, tr, fd, false, lg, wy) = rn m nc fe tf f (k + 1, sup nx k (nx k + 1), tr + 1, fd, false, sup lg tr (k, nx k, false), wy) := by
  show rn m nc fe tf f (stp m nc fe tf (k + 1, nx, tr, fd, false, lg, wy)) = _
  rw [stp_fail (Nat.succ_ne_zero k) c t (fun q => by
    have q : fe (k + 1) (chs nx k (nx k)) = true := q
    rw [h] at q; cases q)]; rfl
theorem rn_down (c : ¬ nc k ≤ nx k) (t : ¬ 1000 ≤ tr) (h : fe (k + 1) (chs nx k (nx k)) = true) (l : k + 1 < m) : rn m nc fe tf (f + 1) (k + 1, nx, tr, fd, false, lg, wy) = rn m nc fe tf f (k + 1 + 1, sup (sup nx k (nx k + 1)) (k + 1) 0, tr + 1, fd, false, sup lg tr (k, nx k, true), wy) := by
  show rn m nc fe tf f (stp m nc fe tf (k + 1, nx, tr, fd, false, lg, wy)) = _
  rw [stp_down (Nat.succ_ne_zero k) c t h l]; rfl
theorem rn_way0 (c : ¬ nc k ≤ nx k) (t : ¬ 1000 ≤ tr) (h : fe (k + 1) (chs nx k (nx k)) = true) (l : ¬ k + 1 < m) : rn m nc fe false (f + 1) (k + 1, nx, tr, fd, false, lg, wy) = rn m nc fe false f (k + 1, sup nx k (nx k + 1), tr + 1, fd + 1, false, sup lg tr (k, nx k, true), sup wy fd (chs nx k (nx k))) := by
  show rn m nc fe false f (stp m nc fe false (k + 1, nx, tr, fd, false, lg, wy)) = _
  rw [stp_way (Nat.succ_ne_zero k) c t h l]; rfl
theorem rn_way1 (c : ¬ nc k ≤ nx k) (t : ¬ 1000 ≤ tr) (h : fe (k + 1) (chs nx k (nx k)) = true) (l : ¬ k + 1 < m) : rn m nc fe true (f + 1) (k + 1, nx, tr, fd, false, lg, wy) = (0, sup nx k (nx k + 1), tr + 1, fd + 1, false, sup lg tr (k, nx k, true), sup wy fd (chs nx k (nx k))) := by
  show rn m nc fe true f (stp m nc fe true (k + 1, nx, tr, fd, false, lg, wy)) = _
  rw [stp_way (Nat.succ_ne_zero k) c t h l]
  exact rn_0 rfl f
end
