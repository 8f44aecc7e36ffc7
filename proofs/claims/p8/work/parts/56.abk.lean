/-! what a memory of the machine over intervals says of the tables -/
noncomputable def ak_all (f : ab_V → Bool) (t : ab_T) : Bool := Lean.RArray.rec (motive := fun _ => Bool) (fun v => f v) (fun _ _ _ a b => ab_an a b) t
theorem ak_all_ok {f : ab_V → Bool} : ∀ (t : ab_T), ak_all f t = true → ∀ k, f (ab_tg t k) = true := by
  intro t
  induction t with
  | leaf v => intro h k; exact h
  | branch p l r ihl ihr =>
    intro h k
    obtain ⟨h1, h2⟩ := ab_and2 (p := ak_all f l) (q := ak_all f r) h
    rw [ab_tg_branch]
    split
    · exact ihl h1 _
    · exact ihr h2 _
noncomputable def ak_iv (lo hi : Int) (a : ab_V) : Bool := ab_an (Nat.beq a.1 0) (ab_an (ab_le lo a.2) (ab_le a.2 hi))
theorem ak_iv_ok {xs : Nat → Int32} {lo hi : Int} {a : ab_V} {v : Value} (h : ak_iv lo hi a = true) (g : ab_g xs a v) : ∃ x : Int32, v = .int x ∧ lo ≤ x.toInt ∧ x.toInt ≤ hi := by
  obtain ⟨h1, h⟩ := ab_and2 h
  obtain ⟨h2, h3⟩ := ab_and2 h
  obtain ⟨x, e, q⟩ := ab_0_of (ab_beq h1) g
  exact ⟨x, e, by rw [q]; exact ab_le_iff.mp h2, by rw [q]; exact ab_le_iff.mp h3⟩
noncomputable def ak_rf (q : Int) (a : ab_V) : Bool := ab_an (Nat.beq a.1 2) (ab_eq a.2 q)
theorem ak_rf_ok {xs : Nat → Int32} {q : Int} {a : ab_V} {o : Option Nat} (h : ak_rf q a = true) (g : ab_g xs a (sm_rv o)) : ∃ p : Nat, o = some p ∧ q = (p : Int) := by
  obtain ⟨h1, h2⟩ := ab_and2 h
  obtain ⟨p, e, e2⟩ := ab_ref_of (ab_beq h1) g
  have h2 := ab_eq_iff.mp h2
  cases o with
  | none => cases e
  | some r =>
    have e : r = p := by cases e; rfl
    exact ⟨r, rfl, by rw [e, ← e2, h2]⟩
noncomputable def ak_f1 (t : ab_T) (j : Nat) (d : en_Fd) : Bool := bif Nat.beq d.1 0 then ak_iv d.2.1 d.2.2 (ab_tg t (2 * j)) else bif Nat.beq d.1 1 then ak_rf d.2.1 (ab_tg t (2 * j + 1)) else bif Nat.beq d.1 2 then ak_rf d.2.1 (ab_tg t (2 * j + 1)) || ak_rf d.2.2 (ab_tg t (2 * j + 1)) else true
noncomputable def ak_fs (t : ab_T) : Nat → List en_Fd → Bool
  | _, [] => true
  | j, d :: r => (Nat.blt j 128 && ak_f1 t j d) && ak_fs t (j + 1) r
theorem ak_fs_ok {t : ab_T} : ∀ (l : List en_Fd) (j : Nat), ak_fs t j l = true → ∀ (k : Nat) (d : en_Fd), l[k]? = some d → j + k < 128 ∧ ak_f1 t (j + k) d = true := by
  intro l
  induction l with
  | nil => intro j _ k d h; simp at h
  | cons a r ih =>
    intro j h k d hd
    have h : ((Nat.blt j 128 && ak_f1 t j a) && ak_fs t (j + 1) r) = true := h
    obtain ⟨h1, h2⟩ := Bool.and_eq_true_iff.mp h
    obtain ⟨h3, h4⟩ := Bool.and_eq_true_iff.mp h1
    cases k with
    | zero =>
      have : a = d := by simpa using hd
      subst this
      exact ⟨Nat.le_of_ble_eq_true h3, h4⟩
    | succ k =>
      have := ih (j + 1) h2 k d (by simpa using hd)
      rw [show j + (k + 1) = j + 1 + k by omega]
      exact this
noncomputable def ak_up (f : ab_V → Bool) (t : ab_T) : Nat → Bool
  | 0 => true
  | n + 1 => f (ab_tg t n) && ak_up f t n
theorem ak_up_ok {f : ab_V → Bool} {t : ab_T} : ∀ n, ak_up f t n = true → ∀ k, k < n → f (ab_tg t k) = true := by
  intro n
  induction n with
  | zero => intro _ k hk; omega
  | succ n ih =>
    intro h k hk
    obtain ⟨h1, h2⟩ := Bool.and_eq_true_iff.mp (show (f (ab_tg t n) && ak_up f t n) = true from h)
    by_cases e : k = n
    · subst e; exact h1
    · exact ih h2 k (by omega)
noncomputable def ak_row (f : ab_V → Bool) (t : ab_T) (n : Nat) : Bool := bif Nat.ble n 16 then ak_up f t n else ak_all f t
theorem ak_row_ok {f : ab_V → Bool} {t : ab_T} {n : Nat} (h : ak_row f t n = true) (k : Nat) (hk : k < n) : f (ab_tg t k) = true := by
  unfold ak_row at h
  cases c : Nat.ble n 16 with
  | true => rw [c] at h; exact ak_up_ok n h k hk
  | false => rw [c] at h; exact ak_all_ok t h k
noncomputable def ak_c1 (d : en_D) (q : ab_Q) : Bool := (Nat.beq q.1 d.1 && Nat.beq q.2.1 d.2.1) && (bif Nat.beq d.1 0 then ak_fs q.2.2 0 d.2.2 else (match d.2.2 with
  | [] => true
  | e :: _ => bif Nat.beq e.1 0 then ak_row (ak_iv e.2.1 e.2.2) q.2.2 d.2.1 else true))
noncomputable def ak_cs (tb : en_Tb) (M : ab_M) : Nat → Bool
  | 0 => true
  | n + 1 => ak_c1 (en_tg tb.2.1 n) (ab_tg M.2 n) && ak_cs tb M n
theorem ak_cs_ok {tb : en_Tb} {M : ab_M} : ∀ n, ak_cs tb M n = true → ∀ p, p < n → ak_c1 (en_tg tb.2.1 p) (ab_tg M.2 p) = true := by
  intro n
  induction n with
  | zero => intro _ p hp; omega
  | succ n ih =>
    intro h p hp
    obtain ⟨h1, h2⟩ := Bool.and_eq_true_iff.mp (show (ak_c1 (en_tg tb.2.1 n) (ab_tg M.2 n) && ak_cs tb M n) = true from h)
    by_cases e : p = n
    · subst e; exact h1
    · exact ih h2 p (by omega)
theorem ak_mem {xs : Nat → Int32} {tb : en_Tb} {M : ab_M} {w : sm_W} (hr : ab_rm xs M w) (hn : tb.1 ≤ M.1) (h : ak_cs tb M tb.1 = true) {X : sm_W → Prop} (hX : X w) : en_mem tb X w := by
  obtain ⟨r1, r2, r3⟩ := hr
  have cell : ∀ p d, en_cell tb p = some d → p < tb.1 ∧ d = en_tg tb.2.1 p := by
    intro p d hd
    unfold en_cell at hd
    cases c : Nat.blt p tb.1 with
    | false => rw [c] at hd; cases hd
    | true =>
      rw [c] at hd
      exact ⟨Nat.le_of_ble_eq_true c, (Option.some.inj hd).symm⟩
  have at' : ∀ p d, en_cell tb p = some d → (w.1[p]? = some (d.1, d.2.1) ∧ (∀ j, j < ab_bd d.1 d.2.1 → ab_g xs (ab_tg (ab_tg M.2 p).2.2 j) (ab_val w p d.1 j))) ∧ (bif Nat.beq d.1 0 then ak_fs (ab_tg M.2 p).2.2 0 d.2.2 else (match d.2.2 with
      | [] => true
      | e :: _ => bif Nat.beq e.1 0 then ak_row (ak_iv e.2.1 e.2.2) (ab_tg M.2 p).2.2 d.2.1 else true)) = true := by
    intro p d hd
    obtain ⟨h1, h2⟩ := cell p d hd
    have q := ak_cs_ok _ h p h1
    rw [← h2] at q
    obtain ⟨q1, q2⟩ := Bool.and_eq_true_iff.mp q
    obtain ⟨q3, q4⟩ := Bool.and_eq_true_iff.mp q1
    have q3 : (ab_tg M.2 p).1 = d.1 := Nat.eq_of_beq_eq_true q3
    have q4 : (ab_tg M.2 p).2.1 = d.2.1 := Nat.eq_of_beq_eq_true q4
    have r := r3 p (by omega)
    rw [q3, q4] at r
    exact ⟨r, q2⟩
  refine ⟨fun p d hd => (at' p d hd).1.1, fun p j q hq => ?_, fun p j hq => ?_, by rw [r1]; omega, hX⟩
  · unfold en_int at hq
    split at hq
    · next d hd =>
      obtain ⟨⟨a1, a2⟩, a3⟩ := at' p d hd
      cases c0 : Nat.beq d.1 0 with
      | true =>
        rw [c0] at hq a3
        have hq : en_fiv d.2.2[j]? = some q := hq
        have a3 : ak_fs (ab_tg M.2 p).2.2 0 d.2.2 = true := a3
        have e0 : d.1 = 0 := Nat.eq_of_beq_eq_true c0
        unfold en_fiv at hq
        split at hq
        · next a b hj =>
          have hq := Option.some.inj hq
          obtain ⟨k1, k2⟩ := ak_fs_ok _ _ a3 j _ hj
          rw [Nat.zero_add] at k1 k2
          have k2 : ak_iv a b (ab_tg (ab_tg M.2 p).2.2 (2 * j)) = true := k2
          have g := a2 (2 * j) (by unfold ab_bd; rw [if_pos e0]; omega)
          obtain ⟨x, ex, x1, x2⟩ := ak_iv_ok k2 g
          have ev : ab_val w p d.1 (2 * j) = .int (w.2.1 p j) := by
            unfold ab_val
            rw [if_pos e0, if_neg (by omega), show 2 * j / 2 = j by omega]
          rw [ev] at ex
          cases ex
          rw [← hq]
          exact ⟨x1, x2⟩
        · cases hq
      | false =>
        rw [c0] at hq a3
        have hq : (bif Nat.blt j d.2.1 then en_fiv d.2.2[0]? else none) = some q := hq
        cases cj : Nat.blt j d.2.1 with
        | false => rw [cj] at hq; cases hq
        | true =>
          rw [cj] at hq
          have hj : j < d.2.1 := Nat.le_of_ble_eq_true cj
          have hq : en_fiv d.2.2[0]? = some q := hq
          have e0 : d.1 ≠ 0 := fun e => by rw [e] at c0; cases c0
          cases el : d.2.2 with
          | nil => rw [el] at hq; cases hq
          | cons e r =>
            rw [el] at hq a3
            have hq : en_fiv (some e) = some q := hq
            unfold en_fiv at hq
            split at hq
            · next a b he =>
              have he := Option.some.inj he
              subst he
              have hq := Option.some.inj hq
              have a3 : ak_row (ak_iv a b) (ab_tg M.2 p).2.2 d.2.1 = true := a3
              have g := a2 j (by unfold ab_bd; rw [if_neg e0]; exact hj)
              obtain ⟨x, ex, x1, x2⟩ := ak_iv_ok (ak_row_ok a3 j hj) g
              unfold ab_val at ex
              rw [if_neg e0] at ex
              split at ex
              · cases ex
              · cases ex
                rw [← hq]
                exact ⟨x1, x2⟩
            · cases hq
    · cases hq
  · unfold en_refs at hq ⊢
    split at hq
    · next d hd =>
      obtain ⟨⟨a1, a2⟩, a3⟩ := at' p d hd
      cases c0 : Nat.beq d.1 0 with
      | false => rw [c0] at hq; exact absurd rfl hq
      | true =>
        rw [c0] at hq a3
        have a3 : ak_fs (ab_tg M.2 p).2.2 0 d.2.2 = true := a3
        have e0 : d.1 = 0 := Nat.eq_of_beq_eq_true c0
        have gr : j < 128 → ab_g xs (ab_tg (ab_tg M.2 p).2.2 (2 * j + 1)) (sm_rv (w.2.2.2 p j)) := fun hj => by
          have g := a2 (2 * j + 1) (by unfold ab_bd; rw [if_pos e0]; omega)
          unfold ab_val at g
          rw [if_pos e0, if_pos (by omega), show (2 * j + 1) / 2 = j by omega] at g
          exact g
        show ∃ r, r ∈ (match d.2.2[j]? with
          | some (1, a, _) => [a.toNat]
          | some (2, a, b) => [a.toNat, b.toNat]
          | _ => []) ∧ w.2.2.2 p j = some r
        have hq : (match d.2.2[j]? with
          | some (1, a, _) => [a.toNat]
          | some (2, a, b) => [a.toNat, b.toNat]
          | _ => []) ≠ [] := hq
        split at hq
        · next a b hj =>
          obtain ⟨k1, k2⟩ := ak_fs_ok _ _ a3 j _ hj
          rw [Nat.zero_add] at k1 k2
          have k2 : ak_rf a (ab_tg (ab_tg M.2 p).2.2 (2 * j + 1)) = true := k2
          obtain ⟨r, er, e2⟩ := ak_rf_ok k2 (gr k1)
          exact ⟨r, by rw [e2]; exact List.mem_singleton.mpr rfl, er⟩
        · next a b hj =>
          obtain ⟨k1, k2⟩ := ak_fs_ok _ _ a3 j _ hj
          rw [Nat.zero_add] at k1 k2
          have k2 : (ak_rf a (ab_tg (ab_tg M.2 p).2.2 (2 * j + 1)) || ak_rf b (ab_tg (ab_tg M.2 p).2.2 (2 * j + 1))) = true := k2
          rcases Bool.or_eq_true_iff.mp k2 with k | k
          · obtain ⟨r, er, e2⟩ := ak_rf_ok k (gr k1)
            exact ⟨r, by rw [e2]; exact List.mem_cons_self, er⟩
          · obtain ⟨r, er, e2⟩ := ak_rf_ok k (gr k1)
            exact ⟨r, by rw [e2]; exact List.mem_cons_of_mem _ (List.mem_singleton.mpr rfl), er⟩
        · exact absurd rfl hq
    · exact absurd rfl hq
/-! the layout -/
noncomputable def ak_ly (M : ab_M) : Nat → List (Nat × Nat) → Bool
  | _, [] => true
  | p, c :: r => (Nat.beq (ab_tg M.2 p).1 c.1 && Nat.beq (ab_tg M.2 p).2.1 c.2) && ak_ly M (p + 1) r
theorem ak_ly_ok {M : ab_M} : ∀ (l : List (Nat × Nat)) (p : Nat), ak_ly M p l = true → ∀ (k : Nat) (c : Nat × Nat), l[k]? = some c → (ab_tg M.2 (p + k)).1 = c.1 ∧ (ab_tg M.2 (p + k)).2.1 = c.2 := by
  intro l
  induction l with
  | nil => intro p _ k c h; simp at h
  | cons a r ih =>
    intro p h k c hc
    obtain ⟨h1, h2⟩ := Bool.and_eq_true_iff.mp (show ((Nat.beq (ab_tg M.2 p).1 a.1 && Nat.beq (ab_tg M.2 p).2.1 a.2) && ak_ly M (p + 1) r) = true from h)
    obtain ⟨h3, h4⟩ := Bool.and_eq_true_iff.mp h1
    cases k with
    | zero =>
      have : a = c := by simpa using hc
      subst this
      exact ⟨Nat.eq_of_beq_eq_true h3, Nat.eq_of_beq_eq_true h4⟩
    | succ k =>
      have := ih (p + 1) h2 k c (by simpa using hc)
      rw [show p + (k + 1) = p + 1 + k by omega]
      exact this
theorem ak_lay {xs : Nat → Int32} {M : ab_M} {w : sm_W} {l : List (Nat × Nat)} (hr : ab_rm xs M w) (hn : M.1 = l.length) (h : ak_ly M 0 l = true) : w.1 = l := by
  obtain ⟨r1, r2, r3⟩ := hr
  refine List.ext_getElem? (fun p => ?_)
  by_cases hp : p < l.length
  · obtain ⟨c, hc⟩ : ∃ c, l[p]? = some c := ⟨l[p], List.getElem?_eq_getElem hp⟩
    have q := ak_ly_ok l 0 h p c hc
    rw [Nat.zero_add] at q
    rw [(r3 p (by omega)).1, q.1, q.2, hc]
  · rw [List.getElem?_eq_none (by omega), List.getElem?_eq_none (by omega)]
/-- a field's or an element's number -/
theorem ak_fd {xs : Nat → Int32} {M : ab_M} {w : sm_W} {p j : Nat} {n : Int} (hr : ab_rm xs M w) (hp : p < M.1) (hk : (ab_tg M.2 p).1 = 0) (hj : j < 128) (h : ak_iv n n (ab_tg (ab_tg M.2 p).2.2 (2 * j)) = true) : (w.2.1 p j).toInt = n := by
  have g := (hr.2.2 p hp).2 (2 * j) (by unfold ab_bd; rw [if_pos hk]; omega)
  obtain ⟨x, ex, x1, x2⟩ := ak_iv_ok h g
  unfold ab_val at ex
  rw [if_pos hk, if_neg (by omega), show 2 * j / 2 = j by omega] at ex
  cases ex
  omega
theorem ak_el {xs : Nat → Int32} {M : ab_M} {w : sm_W} {p j : Nat} {lo hi : Int} (hr : ab_rm xs M w) (hp : p < M.1) (hk : (ab_tg M.2 p).1 = 1) (hj : j < (ab_tg M.2 p).2.1) (h : ak_iv lo hi (ab_tg (ab_tg M.2 p).2.2 j) = true) : lo ≤ (w.2.1 p j).toInt ∧ (w.2.1 p j).toInt ≤ hi := by
  have g := (hr.2.2 p hp).2 j (by unfold ab_bd; rw [if_neg (by omega)]; exact hj)
  obtain ⟨x, ex, x1, x2⟩ := ak_iv_ok h g
  unfold ab_val at ex
  rw [if_neg (by omega), if_neg (by omega)] at ex
  cases ex
  exact ⟨x1, x2⟩
