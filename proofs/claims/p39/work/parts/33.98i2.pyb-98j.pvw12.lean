section
/-! the small methods, exact: counts, held.clear, stale, doubt, set, more, fewer (wip/pe/mkpyb.py) -/
section
variable {S : sm_C} {d : Nat} {Φ : sm_Z → Prop} {I : sm_I} {L : sm_L} {R : sm_R} {q : Nat}
theorem kP_r : ∀ t, t ∈ kPl → en_refs kl_tb t.1 t.2.1 = [t.2.2] := by decide +kernel
theorem kP_eq {w : sm_W} (hm : en_mem kl_tb klX w) (h : w.2.2.2 0 9 = some q) : kP q w.2.2.2 = w.2.2.2 := by
  funext x j
  unfold kP
  split
  · next t ht =>
    have mem := List.mem_of_find?_eq_some ht
    have pr := List.find?_some ht
    obtain ⟨p1, p2⟩ := Bool.and_eq_true_iff.mp pr
    have e1 : t.1 = x := Nat.eq_of_beq_eq_true p1
    have e2 : t.2.1 = j := Nat.eq_of_beq_eq_true p2
    obtain ⟨a, g1, g2⟩ := hm.2.2.1 t.1 t.2.1 (by rw [kP_r t mem]; exact List.cons_ne_nil _ _)
    rw [kP_r t mem] at g1
    rw [← e1, ← e2, g2, List.mem_singleton.mp g1]
  · cases e : (Nat.beq x 0 && Nat.beq j 9) with
    | false => rfl
    | true =>
      obtain ⟨p1, p2⟩ := Bool.and_eq_true_iff.mp e
      rw [Nat.eq_of_beq_eq_true p1, Nat.eq_of_beq_eq_true p2]
      exact h.symm
theorem kp_inT (hq : q = 12 ∨ q = 49) {x : Int32} (h0 : ¬ (0 ≤ x.toInt ∧ x.toInt < (I q 2).toInt) → Φ (some (.int 0), (xLay, I, L, kP q R))) (h1 : 0 ≤ x.toInt → x.toInt < (I q 2).toInt → Φ (some (.int 1), (xLay, I, L, kP q R))) : sm_wp sm_P S d 63 0 [.ref 0, .int x] [] (xLay, I, L, kP q R) (0, 0) Φ := by
  have g : (x < 0 → Φ (some (.int (0 : Int32)), (xLay, I, L, (kP q R)))) ∧ (¬ x < 0 → (((I q 2) ≤ x → Φ (some (.int (0 : Int32)), (xLay, I, L, (kP q R)))) ∧ (¬ (I q 2) ≤ x → Φ (some (.int (1 : Int32)), (xLay, I, L, (kP q R)))))) := by
    refine ⟨fun a => h0 (fun c => ?_), fun a => ⟨fun b => h0 (fun c => ?_), fun b => h1 ?_ ?_⟩⟩
    · have a := kl_lt.mp a
      rw [kl_0] at a; omega
    · have b := kl_le.mp b
      omega
    · have a := kl_nlt a
      rw [kl_0] at a; exact a
    · exact kl_nle b
  rcases hq with e | e
  · subst e; exact p12_X11_isTime_0 g
  · subst e; exact p49_X11_isTime_0 g
theorem kp_inS (hq : q = 12 ∨ q = 49) {x : Int32} (h0 : ¬ (0 ≤ x.toInt ∧ x.toInt < (I q 3).toInt) → Φ (some (.int 0), (xLay, I, L, kP q R))) (h1 : 0 ≤ x.toInt → x.toInt < (I q 3).toInt → Φ (some (.int 1), (xLay, I, L, kP q R))) : sm_wp sm_P S d 62 0 [.ref 0, .int x] [] (xLay, I, L, kP q R) (0, 0) Φ := by
  have g : (x < 0 → Φ (some (.int (0 : Int32)), (xLay, I, L, (kP q R)))) ∧ (¬ x < 0 → (((I q 3) ≤ x → Φ (some (.int (0 : Int32)), (xLay, I, L, (kP q R)))) ∧ (¬ (I q 3) ≤ x → Φ (some (.int (1 : Int32)), (xLay, I, L, (kP q R)))))) := by
    refine ⟨fun a => h0 (fun c => ?_), fun a => ⟨fun b => h0 (fun c => ?_), fun b => h1 ?_ ?_⟩⟩
    · have a := kl_lt.mp a
      rw [kl_0] at a; omega
    · have b := kl_le.mp b
      omega
    · have a := kl_nlt a
      rw [kl_0] at a; exact a
    · exact kl_nle b
  rcases hq with e | e
  · subst e; exact p12_X11_isSaying_0 g
  · subst e; exact p49_X11_isSaying_0 g
theorem kp_isMin {x : Int32} (h0 : ¬ (0 ≤ x.toInt ∧ x.toInt ≤ 1440) → Φ (some (.int 0), (xLay, I, L, kP q R))) (h1 : 0 ≤ x.toInt → x.toInt ≤ 1440 → Φ (some (.int 1), (xLay, I, L, kP q R))) : sm_wp sm_P S d 58 0 [.int x] [] (xLay, I, L, kP q R) (0, 0) Φ := by
  have c : (1440 : Int32).toInt = 1440 := by decide
  refine p_X11_isMinute_0 ⟨fun a => h0 (fun c => ?_), fun a => ⟨fun b => h0 (fun c => ?_), fun b => h1 ?_ ?_⟩⟩
  · have a := kl_lt.mp a
    rw [kl_0] at a; omega
  · have b := kl_lt.mp b
    omega
  · have a := kl_nlt a
    rw [kl_0] at a; exact a
  · have b := kl_nlt b
    omega
theorem kp_isSay (hq : q = 12 ∨ q = 49) {x : Int32} (h0 : ¬ (0 ≤ x.toInt ∧ x.toInt < (I q 3).toInt) → Φ (some (.int 0), (xLay, I, L, kP q R))) (h1 : 0 ≤ x.toInt → x.toInt < (I q 3).toInt → ((I q 6) >>> (x &&& 31)) &&& (1 : Int32) = 0 → Φ (some (.int 1), (xLay, I, L, kP q R))) (h2 : 0 ≤ x.toInt → x.toInt < (I q 3).toInt → ¬ ((I q 6) >>> (x &&& 31)) &&& (1 : Int32) = 0 → Φ (some (.int 0), (xLay, I, L, kP q R))) : sm_wp sm_P S (d + 1) 61 0 [.ref 0, .int x] [] (xLay, I, L, kP q R) (0, 0) Φ := by
  have g := kp_inS (S := S) (d := d) (L := L) (R := R) hq (x := x) (Φ := fun z => ∃ (r3 : Int32) (I1 : sm_I) (L2 : sm_L), z = (some (.int r3), (xLay, I1, L2, (kP q R))) ∧ ((r3 = 0 → Φ (some (.int (0 : Int32)), (xLay, I1, L2, (kP q R)))) ∧ (¬ r3 = 0 → (((((I1 q 6) >>> (x &&& 31)) &&& (1 : Int32)) = 0 → Φ (some (.int (1 : Int32)), (xLay, I1, L2, (kP q R)))) ∧ (¬ (((I1 q 6) >>> (x &&& 31)) &&& (1 : Int32)) = 0 → Φ (some (.int (0 : Int32)), (xLay, I1, L2, (kP q R)))))))) (fun c => ⟨_, I, L, rfl, fun _ => h0 c, fun n => absurd rfl n⟩) (fun a b => ⟨_, I, L, rfl, fun z => absurd z (by decide), fun _ => ⟨fun e => h1 a b e, fun e => h2 a b e⟩⟩)
  rcases hq with e | e
  · subst e; exact p12_X11_isSay_0 g
  · subst e; exact p49_X11_isSay_0 g
/-- what was gone through is of no use any more: the class, the reference -/
def stI (I : sm_I) : sm_I := sm_up (sm_up (sm_up (sm_up (sm_up I 0 12 0) 0 13 0) 98 8 0) 103 5 0) 98 9 0
def chI (I : sm_I) : sm_I := sm_up (sm_up I 107 70 0) 107 79 0
theorem stI_ne {p j : Nat} (h : ¬ ((p = 0 ∧ (j = 12 ∨ j = 13)) ∨ (p = 98 ∧ (j = 8 ∨ j = 9)) ∨ (p = 103 ∧ j = 5))) : stI I p j = I p j := by
  unfold stI
  rw [en_up_ne _ _ _ _ (by omega), en_up_ne _ _ _ _ (by omega), en_up_ne _ _ _ _ (by omega), en_up_ne _ _ _ _ (by omega), en_up_ne _ _ _ _ (by omega)]
theorem chI_ne {p j : Nat} (h : ¬ (p = 107 ∧ (j = 70 ∨ j = 79))) : chI I p j = I p j := by
  unfold chI
  rw [en_up_ne _ _ _ _ (by omega), en_up_ne _ _ _ _ (by omega)]
theorem kp_stale (h : Φ (none, (xLay, stI I, L, kP q R))) : sm_wp sm_P S d 86 0 [.ref 0] [] (xLay, I, L, kP q R) (0, 0) Φ := p_X11_stale_0 (fun I1 e1 I2 e2 => by
  subst e1
  subst e2
  exact h)
theorem yp_changes (h : Φ (none, (xLay, chI I, L, kM R))) : sm_wp sm_P S d 110 0 [.ref 107] [] (xLay, I, L, kM R) (0, 0) Φ := p_X12_changes_0 (fun I1 e1 => by
  subst e1
  exact h)
/-- doubt -/
def dbK (x y : Int32) (I : sm_I) : sm_I := if y = 0 then sm_up I 37 0 ((I 37 0) &&& (((1 : Int32) <<< (x &&& 31)) ^^^ (-1 : Int32))) else sm_up (sm_up I 37 0 ((I 37 0) ||| ((1 : Int32) <<< (x &&& 31)))) 39 x.toNatClampNeg (-1)
theorem kp_doubt (q2 : q = 12 ∨ q = 49) {x y : Int32} (hq : (I q 3).toInt ≤ 10) (h0 : ¬ (0 ≤ x.toInt ∧ x.toInt < (I q 3).toInt ∧ ((I q 6) >>> (x &&& 31)) &&& (1 : Int32) = 0) → Φ (some (.int 0), (xLay, I, L, kP q R))) (h1 : 0 ≤ x.toInt → x.toInt < (I q 3).toInt → ((I q 6) >>> (x &&& 31)) &&& (1 : Int32) = 0 → Φ (some (.int 1), (xLay, stI (dbK x y I), L, kP q R))) : sm_wp sm_P S (d + 2) 39 0 [.ref 0, .int x, .int y] [] (xLay, I, L, kP q R) (0, 0) Φ := by
  refine p_X11_doubt_0 (kp_isSay q2 (fun c => ⟨_, I, L, rfl, fun _ => h0 (fun k => c ⟨k.1, k.2.1⟩), fun n => absurd rfl n⟩) (fun a b e => ⟨_, I, L, rfl, fun z => absurd z (by decide), fun _ n4 e4 => ⟨fun y0 n5 e5 => kp_stale ⟨_, L, rfl, ?_⟩, fun y0 I10 e10 => ⟨kl_in a (by omega), fun I11 e11 => kp_stale ⟨_, L, rfl, ?_⟩⟩⟩⟩) (fun a b e => ⟨_, I, L, rfl, fun _ => h0 (fun k => e k.2.2), fun n => absurd rfl n⟩))
  · have h := h1 a b e
    unfold dbK at h
    rw [if_pos y0] at h
    rw [e5, e4]; exact h
  · have h := h1 a b e
    unfold dbK at h
    rw [if_neg y0] at h
    rw [e11, e10, e4]; exact h
/-- set -/
theorem kp_set (q2 : q = 12 ∨ q = 49) {x y : Int32} (hq : (I q 2).toInt ≤ 10) (h0 : ¬ ((0 ≤ x.toInt ∧ x.toInt < (I q 2).toInt) ∧ (y = -1 ∨ (0 ≤ y.toInt ∧ y.toInt ≤ 1440))) → Φ (some (.int 0), (xLay, I, L, kP q R))) (h1 : 0 ≤ x.toInt → x.toInt < (I q 2).toInt → (y = -1 ∨ (0 ≤ y.toInt ∧ y.toInt ≤ 1440)) → Φ (some (.int 1), (xLay, sm_up I 38 x.toNatClampNeg y, L, kP q R))) : sm_wp sm_P S (d + 1) 83 0 [.ref 0, .int x, .int y] [] (xLay, I, L, kP q R) (0, 0) Φ := by
  refine p_X11_set_0 (kp_inT q2 (fun c => ⟨_, I, L, rfl, fun _ => h0 (fun k => c k.1), fun n => absurd rfl n⟩) (fun a b => ⟨_, I, L, rfl, fun z => absurd z (by decide), fun _ => ⟨fun e => ⟨kl_in a (by omega), fun I4 e4 => ?_⟩, fun e => kp_isMin (fun c => ⟨_, I, L, rfl, fun _ => h0 (fun k => k.2.elim e c), fun n => absurd rfl n⟩) (fun a2 b2 => ⟨_, I, L, rfl, fun z => absurd z (by decide), fun _ => ⟨kl_in a (by omega), fun I8 e8 => ?_⟩⟩)⟩⟩))
  · rw [e4]; exact h1 a b (Or.inl e)
  · rw [e8]; exact h1 a b (Or.inr ⟨a2, b2⟩)
/-- more -/
def mrK (x y a b : Int32) (I : sm_I) : sm_I := sm_up (sm_up (sm_up (sm_up (sm_up I 41 (I 37 1).toNatClampNeg x) 42 (I 37 1).toNatClampNeg y) 43 (I 37 1).toNatClampNeg a) 44 (I 37 1).toNatClampNeg b) 37 1 (I 37 1 + 1)
def mrok (n m : Int) (x y a b : Int32) : Prop := ((0 ≤ x.toInt ∧ x.toInt < n) ∧ (y = -1 ∨ (0 ≤ y.toInt ∧ y.toInt < n))) ∧ ((-1440 ≤ a.toInt ∧ a.toInt ≤ 1440) ∧ (-1440 ≤ b.toInt ∧ b.toInt ≤ 1440)) ∧ m < 6
theorem kp_put40 {x u v : Int32} (h0 : 0 ≤ x.toInt) (h1 : x.toInt < 6) (h : Φ (none, (xLay, sm_up (sm_up I 41 x.toNatClampNeg u) 42 x.toNatClampNeg v, L, kP q R))) : sm_wp sm_P S (d + 1) 294 0 [.ref 40, .int x, .int u, .int v] [] (xLay, I, L, kP q R) (0, 0) Φ := by
  have c6 : (Int32.ofNat 6).toInt = 6 := by decide
  refine p40_X8_put_0 (p40_X8_hasRow_0 ⟨fun a => ?_, fun _ => ⟨fun b => ?_, fun _ => ⟨_, I, L, rfl, fun z => absurd z (by decide), fun _ => ⟨kl_in h0 h1, fun I4 e4 => ⟨kl_in h0 h1, fun I5 e5 => by rw [e5, e4]; exact h⟩⟩⟩⟩⟩)
  · have a := kl_lt.mp a
    rw [kl_0] at a; omega
  · have b := kl_le.mp b
    omega
theorem kp_bound40 {x u v : Int32} (h0 : 0 ≤ x.toInt) (h1 : x.toInt < 6) (h : Φ (none, (xLay, sm_up (sm_up I 43 x.toNatClampNeg u) 44 x.toNatClampNeg v, L, kP q R))) : sm_wp sm_P S (d + 1) 286 0 [.ref 40, .int x, .int u, .int v] [] (xLay, I, L, kP q R) (0, 0) Φ := by
  have c6 : (Int32.ofNat 6).toInt = 6 := by decide
  refine p40_X8_bound_0 (p40_X8_hasRow_0 ⟨fun a => ?_, fun _ => ⟨fun b => ?_, fun _ => ⟨_, I, L, rfl, fun z => absurd z (by decide), fun _ => ⟨kl_in h0 h1, fun I4 e4 => ⟨kl_in h0 h1, fun I5 e5 => by rw [e5, e4]; exact h⟩⟩⟩⟩⟩)
  · have a := kl_lt.mp a
    rw [kl_0] at a; omega
  · have b := kl_le.mp b
    omega
theorem kp_more (q2 : q = 12 ∨ q = 49) {x y a b : Int32} (hm : 0 ≤ (I 37 1).toInt) (h0 : ¬ mrok (I q 2).toInt (I 37 1).toInt x y a b → Φ (some (.int (-1)), (xLay, I, L, kP q R))) (h1 : mrok (I q 2).toInt (I 37 1).toInt x y a b → Φ (some (.int (I 37 1 + 1)), (xLay, stI (mrK x y a b I), L, kP q R))) : sm_wp sm_P S (d + 2) 69 0 [.ref 0, .int x, .int y, .int a, .int b] [] (xLay, I, L, kP q R) (0, 0) Φ := by
  have cm : (-1440 : Int32).toInt = -1440 := by decide
  have cp : (1440 : Int32).toInt = 1440 := by decide
  have c6 : (6 : Int32).toInt = 6 := by decide
  have no : ¬ ((0 ≤ x.toInt ∧ x.toInt < (I q 2).toInt) ∧ (y = -1 ∨ (0 ≤ y.toInt ∧ y.toInt < (I q 2).toInt))) → sm_wp sm_P S (d + 2) 69 5 [.ref 0, .int x, .int y, .int a, .int b] [.int (0 : Int32)] (xLay, I, L, (kP q R)) (0, 0) Φ := fun c => p_X11_more_5 ⟨fun _ => h0 (fun k => c k.1), fun n => absurd rfl n⟩
  have yes : (0 ≤ x.toInt ∧ x.toInt < (I q 2).toInt) ∧ (y = -1 ∨ (0 ≤ y.toInt ∧ y.toInt < (I q 2).toInt)) → sm_wp sm_P S (d + 2) 69 5 [.ref 0, .int x, .int y, .int a, .int b] [.int (1 : Int32)] (xLay, I, L, (kP q R)) (0, 0) Φ := fun c => by
    have mn : (if b < a then b else a).toInt = (if b.toInt < a.toInt then b.toInt else a.toInt) := by
      by_cases k : b < a
      · rw [if_pos k, if_pos (kl_lt.mp k)]
      · rw [if_neg k, if_neg (by have := kl_nlt k; omega)]
    have mx : (if a < b then b else a).toInt = (if a.toInt < b.toInt then b.toInt else a.toInt) := by
      by_cases k : a < b
      · rw [if_pos k, if_pos (kl_lt.mp k)]
      · rw [if_neg k, if_neg (by have := kl_nlt k; omega)]
    refine p_X11_more_5 ⟨fun z => absurd z (by decide), fun _ => ⟨fun k => h0 (fun o => ?_), fun k => ⟨fun k2 => ⟨fun k3 => ?_, fun k3 => h0 (fun o => ?_)⟩, fun k2 => h0 (fun o => ?_)⟩⟩⟩
    · have k := kl_lt.mp k
      rw [mn, cm] at k
      have := o.2.1
      split at k <;> omega
    · have k := kl_nlt k
      have k2 := kl_le.mp k2
      have k3 := kl_lt.mp k3
      rw [mn, cm] at k
      rw [mx, cp] at k2
      rw [c6] at k3
      have ok : mrok (I q 2).toInt (I 37 1).toInt x y a b := ⟨c, by split at k <;> split at k2 <;> omega, k3⟩
      refine kp_put40 hm k3 ⟨_, L, rfl, kp_bound40 ?_ ?_ ⟨_, L, rfl, fun I7 e7 => kp_stale ⟨_, L, rfl, ?_⟩⟩⟩
      · rw [en_up_ne _ _ _ _ (by omega), en_up_ne _ _ _ _ (by omega)]; exact hm
      · rw [en_up_ne _ _ _ _ (by omega), en_up_ne _ _ _ _ (by omega)]; exact k3
      · have h := h1 ok
        have e : I7 = mrK x y a b I := by
          rw [e7]
          unfold mrK
          rw [en_up_ne _ _ _ _ (by omega), en_up_ne _ _ _ _ (by omega), en_up_ne _ _ _ _ (by omega), en_up_ne _ _ _ _ (by omega), en_up_ne _ _ _ _ (by omega), en_up_ne _ _ _ _ (by omega)]
        rw [e]
        have e2 : stI (mrK x y a b I) 37 1 = I 37 1 + 1 := by
          rw [stI_ne (by omega)]
          exact en_up_eq _ _ _ _
        rw [e2]; exact h
    · have k3 := kl_nlt k3
      rw [c6] at k3
      have := o.2.2
      omega
    · have k2 := kl_nle k2
      rw [mx, cp] at k2
      have := o.2.1
      split at k2 <;> omega
  refine p_X11_more_0 (kp_inT q2 (fun c => ⟨_, I, L, rfl, fun _ => no (fun k => c k.1), fun n => absurd rfl n⟩) (fun a1 b1 => ⟨_, I, L, rfl, fun z => absurd z (by decide), fun _ => ⟨fun e => yes ⟨⟨a1, b1⟩, Or.inl e⟩, fun e => kp_inT q2 (fun c => ⟨_, I, L, rfl, fun _ => no (fun k => k.2.elim e c), fun n => absurd rfl n⟩) (fun a2 b2 => ⟨_, I, L, rfl, fun z => absurd z (by decide), fun _ => yes ⟨⟨a1, b1⟩, Or.inr ⟨a2, b2⟩⟩⟩)⟩⟩))
/-- fewer -/
theorem kp_fewer (h0 : (I 37 1).toInt ≤ 0 → Φ (some (.int (-1)), (xLay, I, L, kP q R))) (h1 : 0 < (I 37 1).toInt → Φ (some (.int (I 37 1 - 1)), (xLay, stI (sm_up I 37 1 (I 37 1 - 1)), L, kP q R))) : sm_wp sm_P S (d + 1) 43 0 [.ref 0] [] (xLay, I, L, kP q R) (0, 0) Φ := by
  refine p_X11_fewer_0 ⟨fun a I1 e1 => kp_stale ⟨_, L, rfl, ?_⟩, fun a => h0 ?_⟩
  · have a := kl_lt.mp a
    rw [kl_0] at a
    have h := h1 a
    rw [e1, stI_ne (by omega), en_up_eq]
    exact h
  · have a := kl_nlt a
    rw [kl_0] at a; exact a
theorem kp_f38a {I0 : sm_I} {x1 : Int32} (h : ∀ J : sm_I, (∀ j, j < 10 → J 38 j = x1) → (∀ a j, a ≠ 38 → J a j = I0 a j) → Φ (none, (xLay, J, L, kP q R))) : ∀ (m i : Nat) (I : sm_I) (x2 : Int32), x2.toInt = i → i + m = 10 → (∀ j, j < i → I 38 j = x1) → (∀ a j, a ≠ 38 → I a j = I0 a j) → sm_wp sm_P S d 306 1 [.ref 38, .int x1, .int x2, .int (Int32.ofNat 10)] [] (xLay, I, L, kP q R) (0, 0) Φ := by
  have cn : (Int32.ofNat 10).toInt = 10 := by decide
  intro m
  induction m with
  | zero =>
    intro i I x2 hx hm h1 h2
    refine p38_J7_fill_53178_1 ⟨fun _ => h I (fun j hj => h1 j (by omega)) h2, fun a => ?_⟩
    have := kl_nle a
    omega
  | succ m ih =>
    intro i I x2 hx hm h1 h2
    have nn := tk_nat hx
    have s := ml_in1 (x := x2) (by omega)
    refine p38_J7_fill_53178_1 ⟨fun a => ?_, fun _ => ⟨kl_in (by omega) (by omega), fun I1 e1 => ?_⟩⟩
    · have := kl_le.mp a
      omega
    · rw [nn] at e1
      refine ih (i + 1) I1 _ (by omega) (by omega) (fun j hj => ?_) (fun a j ha => ?_)
      · by_cases c : j = i
        · subst c; rw [e1, en_up_eq]
        · rw [e1, en_up_ne _ _ _ _ (by omega)]; exact h1 j (by omega)
      · rw [e1, en_up_ne _ _ _ _ (by omega)]; exact h2 a j ha
theorem kp_f38 {x1 : Int32} (h : ∀ J : sm_I, (∀ j, j < 10 → J 38 j = x1) → (∀ a j, a ≠ 38 → J a j = I a j) → Φ (none, (xLay, J, L, kP q R))) : sm_wp sm_P S d 306 0 [.ref 38, .int x1] [] (xLay, I, L, kP q R) (0, 0) Φ := p38_J7_fill_53178_0 (kp_f38a h 10 0 I 0 (by decide) (by decide) (fun j hj => absurd hj (Nat.not_lt_zero j)) (fun _ _ _ => rfl))
theorem kp_f39a {I0 : sm_I} {x1 : Int32} (h : ∀ J : sm_I, (∀ j, j < 55 → J 39 j = x1) → (∀ a j, a ≠ 39 → J a j = I0 a j) → Φ (none, (xLay, J, L, kP q R))) : ∀ (m i : Nat) (I : sm_I) (x2 : Int32), x2.toInt = i → i + m = 55 → (∀ j, j < i → I 39 j = x1) → (∀ a j, a ≠ 39 → I a j = I0 a j) → sm_wp sm_P S d 306 1 [.ref 39, .int x1, .int x2, .int (Int32.ofNat 55)] [] (xLay, I, L, kP q R) (0, 0) Φ := by
  have cn : (Int32.ofNat 55).toInt = 55 := by decide
  intro m
  induction m with
  | zero =>
    intro i I x2 hx hm h1 h2
    refine p39_J7_fill_53178_1 ⟨fun _ => h I (fun j hj => h1 j (by omega)) h2, fun a => ?_⟩
    have := kl_nle a
    omega
  | succ m ih =>
    intro i I x2 hx hm h1 h2
    have nn := tk_nat hx
    have s := ml_in1 (x := x2) (by omega)
    refine p39_J7_fill_53178_1 ⟨fun a => ?_, fun _ => ⟨kl_in (by omega) (by omega), fun I1 e1 => ?_⟩⟩
    · have := kl_le.mp a
      omega
    · rw [nn] at e1
      refine ih (i + 1) I1 _ (by omega) (by omega) (fun j hj => ?_) (fun a j ha => ?_)
      · by_cases c : j = i
        · subst c; rw [e1, en_up_eq]
        · rw [e1, en_up_ne _ _ _ _ (by omega)]; exact h1 j (by omega)
      · rw [e1, en_up_ne _ _ _ _ (by omega)]; exact h2 a j ha
theorem kp_f39 {x1 : Int32} (h : ∀ J : sm_I, (∀ j, j < 55 → J 39 j = x1) → (∀ a j, a ≠ 39 → J a j = I a j) → Φ (none, (xLay, J, L, kP q R))) : sm_wp sm_P S d 306 0 [.ref 39, .int x1] [] (xLay, I, L, kP q R) (0, 0) Φ := p39_J7_fill_53178_0 (kp_f39a h 55 0 I 0 (by decide) (by decide) (fun j hj => absurd hj (Nat.not_lt_zero j)) (fun _ _ _ => rfl))
/-- nothing is DOUBTED, SET, PICKED, MORE -/
def hcK (J : sm_I) : Prop := J 37 0 = 0 ∧ J 37 1 = 0 ∧ (∀ j, j < 10 → J 38 j = -1) ∧ ∀ j, j < 55 → J 39 j = -1
theorem kp_hclear (h : ∀ J : sm_I, hcK J → (∀ a j, a ≠ 37 → a ≠ 38 → a ≠ 39 → J a j = I a j) → Φ (none, (xLay, J, L, kP q R))) : sm_wp sm_P S (d + 1) 245 0 [.ref 37] [] (xLay, I, L, kP q R) (0, 0) Φ := by
  refine p_X4_clear_0 (fun I1 e1 => kp_f38 (fun J2 b2 o2 => ⟨J2, L, rfl, kp_f39 (fun J3 b3 o3 => ⟨J3, L, rfl, h J3 ⟨?_, ?_, fun j hj => ?_, b3⟩ (fun a j a1 a2 a3 => ?_)⟩)⟩))
  · rw [o3 _ _ (by decide), o2 _ _ (by decide), e1, en_up_ne _ _ _ _ (by omega), en_up_eq]
  · rw [o3 _ _ (by decide), o2 _ _ (by decide), e1, en_up_eq]
  · rw [o3 _ _ (by decide)]; exact b2 j hj
  · rw [o3 _ _ a3, o2 _ _ a2, e1, en_up_ne _ _ _ _ (by omega), en_up_ne _ _ _ _ (by omega)]
/-! the reference's -/
theorem yp_in {x a b : Int32} (h0 : ¬ (a.toInt ≤ x.toInt ∧ x.toInt ≤ b.toInt) → Φ (some (.int 0), (xLay, I, L, kM R))) (h1 : a.toInt ≤ x.toInt → x.toInt ≤ b.toInt → Φ (some (.int 1), (xLay, I, L, kM R))) : sm_wp sm_P S d 141 0 [.int x, .int a, .int b] [] (xLay, I, L, kM R) (0, 0) Φ := by
  refine p_X12_in_0 ⟨fun k => h0 (fun c => ?_), fun k => ⟨fun k2 => h0 (fun c => ?_), fun k2 => h1 (kl_nlt k) (kl_nlt k2)⟩⟩
  · have k := kl_lt.mp k
    omega
  · have k2 := kl_lt.mp k2
    omega
theorem yp_inT {x : Int32} {l : Nat} (hl : (I 107 18).toInt = l) (l1 : l ≤ 1) (hb : 0 ≤ (I 122 l).toInt ∧ (I 122 l).toInt ≤ 10) (h0 : ¬ (0 ≤ x.toInt ∧ x.toInt < (I 122 l).toInt) → Φ (some (.int 0), (xLay, I, L, kM R))) (h1 : 0 ≤ x.toInt → x.toInt < (I 122 l).toInt → Φ (some (.int 1), (xLay, I, L, kM R))) : sm_wp sm_P S (d + 1) 150 0 [.ref 107, .int x] [] (xLay, I, L, kM R) (0, 0) Φ := by
  have nl := tk_nat hl
  refine p_X12_isTime_0 ⟨kl_in (by omega) (by omega), fun n1 e1 => ?_⟩
  have s : n1.toInt = (I 122 l).toInt - 1 := by
    rw [e1, nl, Int32.toInt_sub, kl_1]; exact en_bmod (by omega) (by omega) (Or.inl rfl)
  refine yp_in (fun c => ⟨_, I, L, rfl, Or.inl rfl, h0 (fun k => c ?_)⟩) (fun a b => ⟨_, I, L, rfl, Or.inr rfl, h1 ?_ ?_⟩)
  · rw [kl_0]; omega
  · rw [kl_0] at a; exact a
  · omega
theorem yp_inS {x : Int32} {l : Nat} (hl : (I 107 18).toInt = l) (l1 : l ≤ 1) (hb : 0 ≤ (I 125 l).toInt ∧ (I 125 l).toInt ≤ 10) (h0 : ¬ (0 ≤ x.toInt ∧ x.toInt < (I 125 l).toInt) → Φ (some (.int 0), (xLay, I, L, kM R))) (h1 : 0 ≤ x.toInt → x.toInt < (I 125 l).toInt → Φ (some (.int 1), (xLay, I, L, kM R))) : sm_wp sm_P S (d + 1) 149 0 [.ref 107, .int x] [] (xLay, I, L, kM R) (0, 0) Φ := by
  have nl := tk_nat hl
  refine p_X12_isSaying_0 ⟨kl_in (by omega) (by omega), fun n1 e1 => ?_⟩
  have s : n1.toInt = (I 125 l).toInt - 1 := by
    rw [e1, nl, Int32.toInt_sub, kl_1]; exact en_bmod (by omega) (by omega) (Or.inl rfl)
  refine yp_in (fun c => ⟨_, I, L, rfl, Or.inl rfl, h0 (fun k => c ?_)⟩) (fun a b => ⟨_, I, L, rfl, Or.inr rfl, h1 ?_ ?_⟩)
  · rw [kl_0]; omega
  · rw [kl_0] at a; exact a
  · omega
theorem yp_isMin {x : Int32} (h0 : ¬ (0 ≤ x.toInt ∧ x.toInt ≤ 1440) → Φ (some (.int 0), (xLay, I, L, kM R))) (h1 : 0 ≤ x.toInt → x.toInt ≤ 1440 → Φ (some (.int 1), (xLay, I, L, kM R))) : sm_wp sm_P S (d + 1) 147 0 [.ref 107, .int x] [] (xLay, I, L, kM R) (0, 0) Φ := by
  have c : (1440 : Int32).toInt = 1440 := by decide
  refine p_X12_isMinute_0 (yp_in (fun k => ⟨_, I, L, rfl, Or.inl rfl, h0 (fun o => k ?_)⟩) (fun a b => ⟨_, I, L, rfl, Or.inr rfl, h1 ?_ ?_⟩))
  · rw [kl_0, c]; exact o
  · rw [kl_0] at a; exact a
  · rw [c] at b; exact b
def dbM (x y : Int32) (I : sm_I) : sm_I := if y = 0 then sm_up I 137 x.toNatClampNeg (vp_nar .boolean y) else sm_up (sm_up I 137 x.toNatClampNeg (vp_nar .boolean y)) 160 x.toNatClampNeg (-1)
theorem yp_doubt {x y : Int32} {l : Nat} (hl : (I 107 18).toInt = l) (l1 : l ≤ 1) (hb : 0 ≤ (I 125 l).toInt ∧ (I 125 l).toInt ≤ 10) (h0 : ¬ (0 ≤ x.toInt ∧ x.toInt < (I 125 l).toInt ∧ I 126 (10 * l + x.toNatClampNeg) = 0) → Φ (some (.int 0), (xLay, I, L, kM R))) (h1 : 0 ≤ x.toInt → x.toInt < (I 125 l).toInt → I 126 (10 * l + x.toNatClampNeg) = 0 → Φ (some (.int 1), (xLay, chI (dbM x y I), L, kM R))) : sm_wp sm_P S (d + 2) 120 0 [.ref 107, .int x, .int y] [] (xLay, I, L, kM R) (0, 0) Φ := by
  refine p_X12_doubt_0 (yp_inS hl l1 hb (fun c => ⟨_, I, L, rfl, fun _ => h0 (fun k => c ⟨k.1, k.2.1⟩), fun n => absurd rfl n⟩) (fun a b => ⟨_, I, L, rfl, fun z => absurd z (by decide), fun _ n4 e4 => ?_⟩))
  have nx := kl_nat a
  have q1 : ((10 : Int32) * (I 107 18)).toInt = 10 * (l : Int) := ml_mu (by decide) hl (by omega) (by omega)
  have q2 : n4.toInt = ((10 * l + x.toNatClampNeg : Nat) : Int) := by rw [e4, ml_ad q1 rfl (by omega) (by omega)]; omega
  have n4n := tk_nat q2
  refine ⟨kl_in (by omega) (by omega), fun e => ⟨kl_in a (by omega), fun I5 e5 => ⟨fun y0 => yp_changes ⟨_, L, rfl, ?_⟩, fun y0 => ⟨kl_in a (by omega), fun I10 e10 => yp_changes ⟨_, L, rfl, ?_⟩⟩⟩⟩, fun e => h0 (fun k => e ?_)⟩
  · rw [n4n] at e
    have h := h1 a b e
    unfold dbM at h
    rw [if_pos y0] at h
    rw [e5]; exact h
  · rw [n4n] at e
    have h := h1 a b e
    unfold dbM at h
    rw [if_neg y0] at h
    rw [e10, e5]; exact h
  · rw [n4n]; exact k.2.2
theorem yp_set {x y : Int32} {l : Nat} (hl : (I 107 18).toInt = l) (l1 : l ≤ 1) (hb : 0 ≤ (I 122 l).toInt ∧ (I 122 l).toInt ≤ 10) (h0 : ¬ ((0 ≤ x.toInt ∧ x.toInt < (I 122 l).toInt) ∧ (y = -1 ∨ (0 ≤ y.toInt ∧ y.toInt ≤ 1440))) → Φ (some (.int 0), (xLay, I, L, kM R))) (h1 : 0 ≤ x.toInt → x.toInt < (I 122 l).toInt → (y = -1 ∨ (0 ≤ y.toInt ∧ y.toInt ≤ 1440)) → Φ (some (.int 1), (xLay, sm_up I 138 x.toNatClampNeg y, L, kM R))) : sm_wp sm_P S (d + 2) 188 0 [.ref 107, .int x, .int y] [] (xLay, I, L, kM R) (0, 0) Φ := by
  refine p_X12_set_0 (yp_inT hl l1 hb (fun c => ⟨_, I, L, rfl, fun _ => h0 (fun k => c k.1), fun n => absurd rfl n⟩) (fun a b => ⟨_, I, L, rfl, fun z => absurd z (by decide), fun _ => ⟨fun e => ⟨kl_in a (by omega), fun I4 e4 => ?_⟩, fun e => yp_isMin (fun c => ⟨_, I, L, rfl, fun _ => h0 (fun k => k.2.elim e c), fun n => absurd rfl n⟩) (fun a2 b2 => ⟨_, I, L, rfl, fun z => absurd z (by decide), fun _ => ⟨kl_in a (by omega), fun I8 e8 => ?_⟩⟩)⟩⟩))
  · rw [e4]; exact h1 a b (Or.inl e)
  · rw [e8]; exact h1 a b (Or.inr ⟨a2, b2⟩)
def mrM (x y a b : Int32) (I : sm_I) : sm_I := sm_up (sm_up (sm_up (sm_up (sm_up I 144 (I 107 54).toNatClampNeg x) 145 (I 107 54).toNatClampNeg y) 146 (I 107 54).toNatClampNeg a) 147 (I 107 54).toNatClampNeg b) 107 54 (I 107 54 + 1)
theorem yp_more {x y a b : Int32} {l : Nat} (hl : (I 107 18).toInt = l) (l1 : l ≤ 1) (hb : 0 ≤ (I 122 l).toInt ∧ (I 122 l).toInt ≤ 10) (hm : 0 ≤ (I 107 54).toInt ∧ (I 107 54).toInt ≤ 6) (h0 : ¬ mrok (I 122 l).toInt (I 107 54).toInt x y a b → Φ (some (.int (-1)), (xLay, I, L, kM R))) (h1 : mrok (I 122 l).toInt (I 107 54).toInt x y a b → Φ (some (.int (I 107 54 + 1)), (xLay, chI (mrM x y a b I), L, kM R))) : sm_wp sm_P S (d + 2) 163 0 [.ref 107, .int x, .int y, .int a, .int b] [] (xLay, I, L, kM R) (0, 0) Φ := by
  have cm : (-1440 : Int32).toInt = -1440 := by decide
  have cp : (1440 : Int32).toInt = 1440 := by decide
  have c6 : (6 : Int32).toInt = 6 := by decide
  have fin : ∀ (k6 : ¬ (I 107 54) = (6 : Int32)) (cx : 0 ≤ x.toInt ∧ x.toInt < (I 122 l).toInt) (cy : y = -1 ∨ (0 ≤ y.toInt ∧ y.toInt < (I 122 l).toInt)), sm_wp sm_P S (d + 1) 141 0 [.int a, .int (-1440 : Int32), .int (1440 : Int32)] [] (xLay, I, L, (kM R)) (0, 0) (fun z => ∃ (r6 : Int32) (I4 : sm_I) (L5 : sm_L), z = (some (.int r6), (xLay, I4, L5, (kM R))) ∧ ((r6 = 0 → Φ (some (.int (-1 : Int32)), (xLay, I4, L5, (kM R)))) ∧ (¬ r6 = 0 → sm_wp sm_P S (d + 1) 141 0 [.int b, .int (-1440 : Int32), .int (1440 : Int32)] [] (xLay, I4, L5, (kM R)) (0, 0) (fun z => ∃ (r9 : Int32) (I7 : sm_I) (L8 : sm_L), z = (some (.int r9), (xLay, I7, L8, (kM R))) ∧ ((r9 = 0 → Φ (some (.int (-1 : Int32)), (xLay, I7, L8, (kM R)))) ∧ (¬ r9 = 0 → (vp_in (I7 107 54) 6) ∧ ∀ I10 : sm_I, I10 = (sm_up I7 144 (I7 107 54).toNatClampNeg x) → (vp_in (I10 107 54) 6) ∧ ∀ I11 : sm_I, I11 = (sm_up I10 145 (I10 107 54).toNatClampNeg y) → (vp_in (I11 107 54) 6) ∧ ∀ I12 : sm_I, I12 = (sm_up I11 146 (I11 107 54).toNatClampNeg a) → (vp_in (I12 107 54) 6) ∧ ∀ I13 : sm_I, I13 = (sm_up I12 147 (I12 107 54).toNatClampNeg b) → ∀ I14 : sm_I, I14 = (sm_up I13 107 54 ((I13 107 54) + (1 : Int32))) → sm_wp sm_P S (d + 1) 110 0 [.ref 107] [] (xLay, I14, L8, (kM R)) (0, 0) (fun z => ∃ (I15 : sm_I) (L16 : sm_L), z = (none, (xLay, I15, L16, (kM R))) ∧ Φ (some (.int (I15 107 54)), (xLay, I15, L16, (kM R)))))))))) := by
    intro k6 cx cy
    have n6 : (I 107 54).toInt < 6 := by
      have : (I 107 54).toInt ≠ 6 := fun e => k6 (en_ofI (by rw [e]; decide))
      omega
    refine yp_in (fun c => ⟨_, I, L, rfl, fun _ => h0 (fun k => c ?_), fun n => absurd rfl n⟩) (fun a1 a2 => ⟨_, I, L, rfl, fun z => absurd z (by decide), fun _ => yp_in (fun c => ⟨_, I, L, rfl, fun _ => h0 (fun k => c ?_), fun n => absurd rfl n⟩) (fun b1 b2 => ⟨_, I, L, rfl, fun z => absurd z (by decide), fun _ => ?_⟩)⟩)
    · rw [cm, cp]; exact k.2.1.1
    · rw [cm, cp]; exact k.2.1.2
    · rw [cm] at a1 b1
      rw [cp] at a2 b2
      refine ⟨kl_in hm.1 n6, fun I10 e10 => ?_⟩
      have g10 : I10 107 54 = I 107 54 := by rw [e10, en_up_ne _ _ _ _ (by omega)]
      rw [g10]
      refine ⟨kl_in hm.1 n6, fun I11 e11 => ?_⟩
      have g11 : I11 107 54 = I 107 54 := by rw [e11, en_up_ne _ _ _ _ (by omega), g10]
      rw [g11]
      refine ⟨kl_in hm.1 n6, fun I12 e12 => ?_⟩
      have g12 : I12 107 54 = I 107 54 := by rw [e12, en_up_ne _ _ _ _ (by omega), g11]
      rw [g12]
      refine ⟨kl_in hm.1 n6, fun I13 e13 => fun I14 e14 => ?_⟩
      have g13 : I13 107 54 = I 107 54 := by rw [e13, en_up_ne _ _ _ _ (by omega), g12]
      have e : I14 = mrM x y a b I := by rw [e14, g13, e13, e12, e11, e10]; rfl
      refine yp_changes ⟨_, L, rfl, ?_⟩
      have e2 : chI (mrM x y a b I) 107 54 = I 107 54 + 1 := by
        rw [chI_ne (by omega)]
        exact en_up_eq _ _ _ _
      rw [e, e2]
      exact h1 ⟨⟨cx, cy⟩, ⟨⟨a1, a2⟩, ⟨b1, b2⟩⟩, n6⟩
  refine p_X12_more_0 ⟨fun k6 => h0 (fun k => ?_), fun k6 => yp_inT hl l1 hb (fun c => ⟨_, I, L, rfl, fun _ => h0 (fun k => c k.1.1), fun n => absurd rfl n⟩) (fun a1 b1 => ⟨_, I, L, rfl, fun z => absurd z (by decide), fun _ => ⟨fun e => fin k6 ⟨a1, b1⟩ (Or.inl e), fun e => yp_inT hl l1 hb (fun c => ⟨_, I, L, rfl, fun _ => h0 (fun k => k.1.2.elim e c), fun n => absurd rfl n⟩) (fun a2 b2 => ⟨_, I, L, rfl, fun z => absurd z (by decide), fun _ => fin k6 ⟨a1, b1⟩ (Or.inr ⟨a2, b2⟩)⟩)⟩⟩)⟩
  have := k.2.2
  rw [k6, c6] at this
  omega
theorem yp_fewer (hm : 0 ≤ (I 107 54).toInt) (h0 : (I 107 54).toInt = 0 → Φ (some (.int (-1)), (xLay, I, L, kM R))) (h1 : 0 < (I 107 54).toInt → Φ (some (.int (I 107 54 - 1)), (xLay, chI (sm_up I 107 54 (I 107 54 - 1)), L, kM R))) : sm_wp sm_P S (d + 1) 125 0 [.ref 107] [] (xLay, I, L, kM R) (0, 0) Φ := by
  refine p_X12_fewer_0 ⟨fun k => h0 (by rw [k]; decide), fun k I1 e1 => yp_changes ⟨_, L, rfl, ?_⟩⟩
  have k : 0 < (I 107 54).toInt := by
    have : (I 107 54).toInt ≠ 0 := fun e => k (en_ofI (by rw [e]; decide))
    omega
  have h := h1 k
  rw [e1, chI_ne (by omega), en_up_eq]
  exact h
end
end
section
/-! the class's findWalks with into = 12, exact (wip/pe/mkwk.py) -/
section
variable {S : sm_C} {d : Nat} {Φ : sm_Z → Prop} {I : sm_I} {L : sm_L} {R : sm_R}
def w12ok (I : sm_I) : Prop := ∀ i, i < 36 → I 13 i = -2 ∨ 0 ≤ (I 13 i).toInt
theorem w12_wb {x y : Int32} {a b : Nat} (hx : x.toInt = a) (hy : y.toInt = b) (ha : a < 6) (hb : b < 6) (h : Φ (some (.int (I 13 (6 * a + b))), (xLay, I, L, kQ12 R))) : sm_wp sm_P S d 27 0 [.ref 12, .int x, .int y] [] (xLay, I, L, kQ12 R) (0, 0) Φ := by
  have c6 : (6 : Int32).toInt = 6 := by decide
  have q1 : (x * (6 : Int32)).toInt = (a : Int) * 6 := ml_mu hx c6 (by omega) (by omega)
  have q2 : ((x * (6 : Int32)) + y).toInt = ((6 * a + b : Nat) : Int) := (ml_ad q1 hy (by omega) (by omega)).trans (by omega)
  refine s12_X10_walkBetween_0 ⟨fun k => ?_, fun _ => ⟨fun k => ?_, fun _ => ⟨fun k => ?_, fun _ => ⟨fun _ => ⟨kl_in (by omega) (by omega), ?_⟩, fun k => ?_⟩⟩⟩⟩
  · have k := kl_lt.mp k
    rw [kl_0] at k; omega
  · have k := kl_le.mp k
    omega
  · have k := kl_lt.mp k
    rw [kl_0] at k; omega
  · rw [tk_nat q2]; exact h
  · have k := kl_nlt k
    omega
/-- a way that is no better changes nothing; a better one is laid both ways -/
theorem w12_ap {x y v : Int32} {a b : Nat} (hx : x.toInt = a) (hy : y.toInt = b) (ha : a < 6) (hb : b < 6) (h0 : ¬ (I 13 (6 * a + b)).toInt < 0 → (I 13 (6 * a + b)).toInt ≤ v.toInt → Φ (none, (xLay, I, L, kQ12 R))) (h1 : (I 13 (6 * a + b)).toInt < 0 ∨ v.toInt < (I 13 (6 * a + b)).toInt → Φ (none, (xLay, sm_up (sm_up I 13 (6 * a + b) v) 13 (6 * b + a) v, L, kQ12 R))) : sm_wp sm_P S d 13 0 [.ref 12, .int x, .int y, .int v] [] (xLay, I, L, kQ12 R) (0, 0) Φ := by
  have c6 : (6 : Int32).toInt = 6 := by decide
  have q1 : (x * (6 : Int32)).toInt = (a : Int) * 6 := ml_mu hx c6 (by omega) (by omega)
  have q2 : ((x * (6 : Int32)) + y).toInt = ((6 * a + b : Nat) : Int) := (ml_ad q1 hy (by omega) (by omega)).trans (by omega)
  have q3 : (y * (6 : Int32)).toInt = (b : Int) * 6 := ml_mu hy c6 (by omega) (by omega)
  have q4 : ((y * (6 : Int32)) + x).toInt = ((6 * b + a : Nat) : Int) := (ml_ad q3 hx (by omega) (by omega)).trans (by omega)
  have m2 := tk_nat q2
  have m4 := tk_nat q4
  refine s12_X10_addPath_0 ⟨fun k => ?_, fun _ => ⟨fun k => ?_, fun _ => ⟨fun k => ?_, fun _ => ⟨fun _ => ⟨kl_in (by omega) (by omega), fun n1 e1 => ?_⟩, fun k => ?_⟩⟩⟩⟩
  · have k := kl_lt.mp k
    rw [kl_0] at k; omega
  · have k := kl_le.mp k
    omega
  · have k := kl_lt.mp k
    rw [kl_0] at k; omega
  · rw [m2] at e1
    rw [m2, m4]
    refine ⟨fun k => ⟨kl_in (by omega) (by omega), fun I2 e2 => ⟨kl_in (by omega) (by omega), fun I3 e3 => ?_⟩⟩, fun k => ⟨fun k2 => ?_, fun k2 => ⟨kl_in (by omega) (by omega), fun I2 e2 => ⟨kl_in (by omega) (by omega), fun I3 e3 => ?_⟩⟩⟩⟩
    · have k := kl_lt.mp k
      rw [kl_0, e1] at k
      rw [e3, e2]; exact h1 (Or.inl k)
    · have k := kl_nlt k
      have k2 := kl_le.mp k2
      rw [kl_0, e1] at k
      rw [e1] at k2
      exact h0 (by omega) k2
    · have k2 := kl_nle k2
      rw [e1] at k2
      rw [e3, e2]; exact h1 (Or.inr k2)
  · have k := kl_nlt k
    omega
def w12st (p k a b : Nat) (T : Nat → Int) (I0 I : sm_I) : Prop := w12ok I ∧ (∀ u v, u < 6 → v < 6 → v < u → ((u < p ∧ (u < a ∨ (u = a ∧ v < b))) → nv (I 13 (6 * u + v)) = Fn k T (6 * u + v) ∧ nv (I 13 (6 * v + u)) = Fn k T (6 * v + u)) ∧ (¬ (u < p ∧ (u < a ∨ (u = a ∧ v < b))) → nv (I 13 (6 * u + v)) = T (6 * u + v) ∧ nv (I 13 (6 * v + u)) = T (6 * v + u))) ∧ (∀ u, u < 6 → nv (I 13 (7 * u)) = T (7 * u)) ∧ ∀ c j, c ≠ 13 → I c j = I0 c j
theorem w12st_at {p k a b : Nat} {T : Nat → Int} {I0 I : sm_I} (hT : WB 100000 T) (hk : k < 6) (h : w12st p k a b T I0 I) : (∀ u, u < 6 → nv (I 13 (6 * u + k)) = T (6 * u + k)) ∧ ∀ v, v < 6 → nv (I 13 (6 * k + v)) = T (6 * k + v) := by
  obtain ⟨-, h2, h3, -⟩ := h
  have both : ∀ u v, u < 6 → v < 6 → (u = k ∨ v = k) → nv (I 13 (6 * u + v)) = T (6 * u + v) := fun u v hu hv c => by
    have fx : Fn k T (6 * u + v) = T (6 * u + v) := by
      rcases c with c | c
      · rw [c]; exact Fn_col hk hv hT
      · rw [c]; exact Fn_row hk hT
    rcases Nat.lt_trichotomy u v with l | l | l
    · obtain ⟨g1, g2⟩ := h2 v u hv hu l
      by_cases q : v < p ∧ (v < a ∨ (v = a ∧ u < b))
      · rw [(g1 q).2, fx]
      · exact (g2 q).2
    · subst l
      have := h3 u hu
      rw [show 6 * u + u = 7 * u by omega]; exact this
    · obtain ⟨g1, g2⟩ := h2 u v hu hv l
      by_cases q : u < p ∧ (u < a ∨ (u = a ∧ v < b))
      · rw [(g1 q).1, fx]
      · exact (g2 q).1
  exact ⟨fun u hu => both u k hu hk (Or.inr rfl), fun v hv => both k v hk hv (Or.inl rfl)⟩
theorem w12_5 {I0 : sm_I} {T : Nat → Int} {p k a : Nat} (hp : p ≤ 6) (hk : k < 6) (ha : a < p) (hT : WB 100000 T) (hS : WS p T) (h : ∀ (J : sm_I) (x1 x2 : Int32), x1.toInt = k → x2.toInt = a → w12st p k (a + 1) 0 T I0 J → sm_wp sm_P S (d + 1) 18 3 [.ref 12, .int x1, .int (x2 + (1 : Int32))] [] (xLay, J, L, (kQ12 R)) (0, 0) Φ) : ∀ (m b : Nat) (I : sm_I) (x1 x2 x3 : Int32), x1.toInt = k → x2.toInt = a → x3.toInt = b → b + m = a → w12st p k a b T I0 I → sm_wp sm_P S (d + 1) 18 5 [.ref 12, .int x1, .int x2, .int x3] [] (xLay, I, L, (kQ12 R)) (0, 0) Φ := by
  intro m
  induction m with
  | zero =>
    intro b I x1 x2 x3 h1 h2 h3 hm hI
    have e : b = a := by omega
    subst e
    refine s12_X10_findWalks_5 ⟨fun _ => h I x1 x2 h1 h2 ⟨hI.1, fun u v hu hv l => ?_, hI.2.2⟩, fun q => ?_⟩
    · obtain ⟨g1, g2⟩ := hI.2.1 u v hu hv l
      exact ⟨fun q => g1 (by omega), fun q => g2 (by omega)⟩
    · have q := kl_nle q
      omega
  | succ m ih =>
    intro b I x1 x2 x3 h1 h2 h3 hm hI
    have s3 := ml_in1 (x := x3) (by omega)
    obtain ⟨r1, r2⟩ := w12st_at hT hk hI
    have t1 := r1 a (by omega)
    have t2 := r2 b (by omega)
    have ab := hI.2.1 a b (by omega) (by omega) (by omega)
    have t3 := (ab.2 (by omega)).1
    have t4 := (ab.2 (by omega)).2
    have e1 : (6 * a + b) / 6 = a := by omega
    have e2 : (6 * a + b) % 6 = b := by omega
    have symF := (WS_Fn hk hT hS).1 a b (by omega) (by omega)
    have symT := hS.1 a b (by omega) (by omega)
    have B1 := hT.1 (6 * a + k) (by omega)
    have B2 := hT.1 (6 * k + b) (by omega)
    have B3 := hT.1 (6 * a + b) (by omega)
    have ok1 := hI.1 (6 * a + k) (by omega)
    have ok2 := hI.1 (6 * k + b) (by omega)
    have ok3 := hI.1 (6 * a + b) (by omega)
    have same : Fn k T (6 * a + b) = T (6 * a + b) → sm_wp sm_P S (d + 1) 18 5 [.ref 12, .int x1, .int x2, .int (x3 + (1 : Int32))] [] (xLay, I, L, (kQ12 R)) (0, 0) Φ := fun e => ih (b + 1) I x1 x2 _ h1 h2 (by omega) (by omega) ⟨hI.1, fun u v hu hv l => by
      obtain ⟨g1, g2⟩ := hI.2.1 u v hu hv l
      refine ⟨fun q => ?_, fun q => g2 (by omega)⟩
      by_cases c : u = a ∧ v = b
      · obtain ⟨c1, c2⟩ := c
        subst c1; subst c2
        exact ⟨by rw [t3, e], by rw [t4, ← symF, e, symT]⟩
      · exact g1 (by omega), hI.2.2⟩
    refine s12_X10_findWalks_5 ⟨fun q => ?_, fun _ => w12_wb h2 h1 (by omega) (by omega) ⟨_, I, L, rfl, w12_wb h1 h3 (by omega) (by omega) ⟨_, I, L, rfl, fun c => ?_, fun c => ⟨fun c2 => ?_, fun c2 => ?_⟩⟩⟩⟩
    · have q := kl_le.mp q
      omega
    · have c := kl_lt.mp c
      rw [kl_0] at c
      unfold nv at t1
      rw [if_pos c] at t1
      refine same ?_
      unfold Fn
      rw [e1, e2, if_pos (by omega)]
    · have c := kl_nlt c
      have c2 := kl_lt.mp c2
      rw [kl_0] at c c2
      unfold nv at t1 t2
      rw [if_neg (by omega)] at t1
      rw [if_pos c2] at t2
      refine same ?_
      unfold Fn
      rw [e1, e2, if_neg (by omega), if_pos (by omega)]
    · have c := kl_nlt c
      have c2 := kl_nlt c2
      rw [kl_0] at c c2
      unfold nv at t1 t2
      rw [if_neg (by omega)] at t1 t2
      have sum : (I 13 (6 * a + k) + I 13 (6 * k + b)).toInt = T (6 * a + k) + T (6 * k + b) := ml_ad t1 t2 (by omega) (by omega)
      refine w12_ap h2 h3 (by omega) (by omega) (fun c3 c4 => ⟨I, L, rfl, same ?_⟩) (fun c3 => ⟨_, L, rfl, ?_⟩)
      · unfold nv at t3
        rw [if_neg c3] at t3
        rw [sum, t3] at c4
        unfold Fn
        rw [e1, e2, if_neg (by omega), if_neg (by omega), if_neg (by omega), if_neg (by omega)]
      · have Fv : Fn k T (6 * a + b) = T (6 * a + k) + T (6 * k + b) := by
          unfold Fn
          rw [e1, e2, if_neg (by omega), if_neg (by omega)]
          unfold nv at t3
          rcases c3 with c3 | c3
          · rw [if_pos c3] at t3
            rw [if_pos (by omega)]
          · by_cases c5 : (I 13 (6 * a + b)).toInt < 0
            · rw [if_pos c5] at t3
              rw [if_pos (by omega)]
            · rw [if_neg c5] at t3
              rw [sum, t3] at c3
              rw [if_neg (by omega), if_pos c3]
        have nvs : nv (I 13 (6 * a + k) + I 13 (6 * k + b)) = Fn k T (6 * a + b) := by
          unfold nv
          rw [sum, if_neg (by omega), Fv]
        refine ih (b + 1) _ x1 x2 _ h1 h2 (by omega) (by omega) ⟨fun i hi => ?_, fun u v hu hv l => ?_, fun u hu => ?_, fun c j hc => ?_⟩
        · by_cases g1 : i = 6 * b + a
          · rw [g1, en_up_eq]; exact Or.inr (by rw [sum]; omega)
          · rw [en_up_ne _ _ _ _ (by omega)]
            by_cases g2 : i = 6 * a + b
            · rw [g2, en_up_eq]; exact Or.inr (by rw [sum]; omega)
            · rw [en_up_ne _ _ _ _ (by omega)]; exact hI.1 i hi
        · obtain ⟨g1, g2⟩ := hI.2.1 u v hu hv l
          by_cases c : u = a ∧ v = b
          · obtain ⟨c1, c2⟩ := c
            subst c1; subst c2
            refine ⟨fun _ => ⟨?_, ?_⟩, fun q => absurd (by omega) q⟩
            · rw [en_up_ne _ _ _ _ (by omega), en_up_eq]; exact nvs
            · rw [en_up_eq, ← symF]; exact nvs
          · rw [en_up_ne _ _ _ _ (by omega), en_up_ne _ _ _ _ (by omega), en_up_ne _ _ _ _ (by omega), en_up_ne _ _ _ _ (by omega)]
            exact ⟨fun q => g1 (by omega), fun q => g2 (by omega)⟩
        · rw [en_up_ne _ _ _ _ (by omega), en_up_ne _ _ _ _ (by omega)]; exact hI.2.2.1 u hu
        · rw [en_up_ne _ _ _ _ (by omega), en_up_ne _ _ _ _ (by omega)]; exact hI.2.2.2 c j hc
theorem w12_3 {I0 : sm_I} {T : Nat → Int} {p k : Nat} (hp : p ≤ 6) (h1p : (I0 12 1).toInt = p) (hk : k < 6) (hT : WB 100000 T) (hS : WS p T) (h : ∀ (J : sm_I) (x1 : Int32), x1.toInt = k → w12ok J → (∀ i, i < 36 → nv (J 13 i) = Fn k T i) → (∀ c j, c ≠ 13 → J c j = I0 c j) → sm_wp sm_P S (d + 1) 18 1 [.ref 12, .int (x1 + (1 : Int32))] [] (xLay, J, L, (kQ12 R)) (0, 0) Φ) : ∀ (m a : Nat) (I : sm_I) (x1 x2 : Int32), x1.toInt = k → x2.toInt = a → a + m = p → w12st p k a 0 T I0 I → sm_wp sm_P S (d + 1) 18 3 [.ref 12, .int x1, .int x2] [] (xLay, I, L, (kQ12 R)) (0, 0) Φ := by
  intro m
  induction m with
  | zero =>
    intro a I x1 x2 h1 h2 hm hI
    have e : a = p := by omega
    subst e
    have e1 : I 12 1 = I0 12 1 := hI.2.2.2 12 1 (by decide)
    refine s12_X10_findWalks_3 ⟨fun _ => h I x1 h1 hI.1 (fun i hi => ?_) hI.2.2.2, fun q => ?_⟩
    · obtain ⟨u, v, hu, hv, e⟩ : ∃ u v, u < 6 ∧ v < 6 ∧ i = 6 * u + v := ⟨i / 6, i % 6, by omega, by omega, by omega⟩
      subst e
      have F := WS_Fn hk hT hS
      have W2 := WB_Fn hk hT (by decide)
      rcases Nat.lt_trichotomy u v with l | l | l
      · obtain ⟨g1, g2⟩ := hI.2.1 v u hv hu l
        by_cases q : v < a
        · exact (g1 ⟨q, Or.inl q⟩).2
        · rw [(g2 (by omega)).2, hS.1 u v hu hv, hS.2 v u hv hu (by omega) (by omega), F.1 u v hu hv, F.2 v u hv hu (by omega) (by omega)]
      · subst l
        rw [show 6 * u + u = 7 * u by omega, hI.2.2.1 u hu, hT.2 u hu, W2.2 u hu]
      · obtain ⟨g1, g2⟩ := hI.2.1 u v hu hv l
        by_cases q : u < a
        · exact (g1 ⟨q, Or.inl q⟩).1
        · rw [(g2 (by omega)).1, hS.2 u v hu hv (by omega) (by omega), F.2 u v hu hv (by omega) (by omega)]
    · have q := kl_nle q
      rw [e1] at q
      omega
  | succ m ih =>
    intro a I x1 x2 h1 h2 hm hI
    have e1 : I 12 1 = I0 12 1 := hI.2.2.2 12 1 (by decide)
    refine s12_X10_findWalks_3 ⟨fun q => ?_, fun _ => w12_5 (I0 := I0) (T := T) (k := k) (a := a) hp hk (by omega) hT hS (fun J x1 x2 h1 h2 hJ => ih (a + 1) J x1 _ h1 ?_ (by omega) hJ) a 0 I x1 x2 0 h1 h2 (by decide) (by omega) hI⟩
    · have q := kl_le.mp q
      rw [e1] at q
      omega
    · have s := ml_in1 (x := x2) (by omega)
      omega
theorem w12_1 {I0 : sm_I} {N : Nat → Int} {p : Nat} (hp : p ≤ 6) (h1p : (I0 12 1).toInt = p) (hN : WB 1440 N) (hS : WS p N) (h : ∀ J : sm_I, w12ok J → (∀ i, i < 36 → nv (J 13 i) = Ft p N i) → (∀ c j, c ≠ 13 → J c j = I0 c j) → Φ (none, (xLay, J, L, kQ12 R))) : ∀ (m k : Nat) (I : sm_I) (x1 : Int32), x1.toInt = k → k + m = p → w12ok I → (∀ i, i < 36 → nv (I 13 i) = Ft k N i) → (∀ c j, c ≠ 13 → I c j = I0 c j) → sm_wp sm_P S (d + 1) 18 1 [.ref 12, .int x1] [] (xLay, I, L, (kQ12 R)) (0, 0) Φ := by
  intro m
  induction m with
  | zero =>
    intro k I x1 h1 hm ho g o
    have e : k = p := by omega
    subst e
    refine s12_X10_findWalks_1 ⟨fun _ => h I ho g o, fun q => ?_⟩
    have q := kl_nle q
    rw [o 12 1 (by decide)] at q
    omega
  | succ m ih =>
    intro k I x1 h1 hm ho g o
    refine s12_X10_findWalks_1 ⟨fun q => ?_, fun _ => w12_3 (I0 := I0) (T := Ft k N) (k := k) hp h1p (by omega) (WB_F6 hN k (by omega)) (WS_Ft hN hS k (by omega)) (fun J x1 h1 ho gJ oJ => ih (k + 1) J _ ?_ (by omega) ho gJ oJ) p 0 I x1 0 h1 (by decide) (by omega) ⟨ho, fun u v hu hv l => ⟨fun q => absurd q (by omega), fun _ => ⟨g _ (by omega), g _ (by omega)⟩⟩, fun u hu => g _ (by omega), o⟩⟩
    · have q := kl_le.mp q
      rw [o 12 1 (by decide)] at q
      omega
    · have s := ml_in1 (x := x1) (by omega)
      omega
theorem w12_walks {p : Nat} (hp : p ≤ 6) (h1p : (I 12 1).toInt = p) (ho : w12ok I) (hN : WB 1440 (fun i => nv (I 13 i))) (hS : WS p (fun i => nv (I 13 i))) (h : ∀ J : sm_I, w12ok J → (∀ i, i < 36 → nv (J 13 i) = Ft p (fun i => nv (I 13 i)) i) → (∀ c j, c ≠ 13 → J c j = I c j) → Φ (none, (xLay, J, L, kQ12 R))) : sm_wp sm_P S (d + 1) 18 0 [.ref 12] [] (xLay, I, L, (kQ12 R)) (0, 0) Φ := s12_X10_findWalks_0 (w12_1 (I0 := I) hp h1p hN hS h p 0 I 0 (by decide) (by omega) ho (fun i _ => rfl) (fun _ _ _ => rfl))
end
end
section
/-! the class's findWalks with into = 49, exact (wip/pe/mkwk.py) -/
section
variable {S : sm_C} {d : Nat} {Φ : sm_Z → Prop} {I : sm_I} {L : sm_L} {R : sm_R}
def w49ok (I : sm_I) : Prop := ∀ i, i < 36 → I 50 i = -2 ∨ 0 ≤ (I 50 i).toInt
theorem w49_wb {x y : Int32} {a b : Nat} (hx : x.toInt = a) (hy : y.toInt = b) (ha : a < 6) (hb : b < 6) (h : Φ (some (.int (I 50 (6 * a + b))), (xLay, I, L, kQ49 R))) : sm_wp sm_P S d 27 0 [.ref 49, .int x, .int y] [] (xLay, I, L, kQ49 R) (0, 0) Φ := by
  have c6 : (6 : Int32).toInt = 6 := by decide
  have q1 : (x * (6 : Int32)).toInt = (a : Int) * 6 := ml_mu hx c6 (by omega) (by omega)
  have q2 : ((x * (6 : Int32)) + y).toInt = ((6 * a + b : Nat) : Int) := (ml_ad q1 hy (by omega) (by omega)).trans (by omega)
  refine s49_X10_walkBetween_0 ⟨fun k => ?_, fun _ => ⟨fun k => ?_, fun _ => ⟨fun k => ?_, fun _ => ⟨fun _ => ⟨kl_in (by omega) (by omega), ?_⟩, fun k => ?_⟩⟩⟩⟩
  · have k := kl_lt.mp k
    rw [kl_0] at k; omega
  · have k := kl_le.mp k
    omega
  · have k := kl_lt.mp k
    rw [kl_0] at k; omega
  · rw [tk_nat q2]; exact h
  · have k := kl_nlt k
    omega
/-- a way that is no better changes nothing; a better one is laid both ways -/
theorem w49_ap {x y v : Int32} {a b : Nat} (hx : x.toInt = a) (hy : y.toInt = b) (ha : a < 6) (hb : b < 6) (h0 : ¬ (I 50 (6 * a + b)).toInt < 0 → (I 50 (6 * a + b)).toInt ≤ v.toInt → Φ (none, (xLay, I, L, kQ49 R))) (h1 : (I 50 (6 * a + b)).toInt < 0 ∨ v.toInt < (I 50 (6 * a + b)).toInt → Φ (none, (xLay, sm_up (sm_up I 50 (6 * a + b) v) 50 (6 * b + a) v, L, kQ49 R))) : sm_wp sm_P S d 13 0 [.ref 49, .int x, .int y, .int v] [] (xLay, I, L, kQ49 R) (0, 0) Φ := by
  have c6 : (6 : Int32).toInt = 6 := by decide
  have q1 : (x * (6 : Int32)).toInt = (a : Int) * 6 := ml_mu hx c6 (by omega) (by omega)
  have q2 : ((x * (6 : Int32)) + y).toInt = ((6 * a + b : Nat) : Int) := (ml_ad q1 hy (by omega) (by omega)).trans (by omega)
  have q3 : (y * (6 : Int32)).toInt = (b : Int) * 6 := ml_mu hy c6 (by omega) (by omega)
  have q4 : ((y * (6 : Int32)) + x).toInt = ((6 * b + a : Nat) : Int) := (ml_ad q3 hx (by omega) (by omega)).trans (by omega)
  have m2 := tk_nat q2
  have m4 := tk_nat q4
  refine s49_X10_addPath_0 ⟨fun k => ?_, fun _ => ⟨fun k => ?_, fun _ => ⟨fun k => ?_, fun _ => ⟨fun _ => ⟨kl_in (by omega) (by omega), fun n1 e1 => ?_⟩, fun k => ?_⟩⟩⟩⟩
  · have k := kl_lt.mp k
    rw [kl_0] at k; omega
  · have k := kl_le.mp k
    omega
  · have k := kl_lt.mp k
    rw [kl_0] at k; omega
  · rw [m2] at e1
    rw [m2, m4]
    refine ⟨fun k => ⟨kl_in (by omega) (by omega), fun I2 e2 => ⟨kl_in (by omega) (by omega), fun I3 e3 => ?_⟩⟩, fun k => ⟨fun k2 => ?_, fun k2 => ⟨kl_in (by omega) (by omega), fun I2 e2 => ⟨kl_in (by omega) (by omega), fun I3 e3 => ?_⟩⟩⟩⟩
    · have k := kl_lt.mp k
      rw [kl_0, e1] at k
      rw [e3, e2]; exact h1 (Or.inl k)
    · have k := kl_nlt k
      have k2 := kl_le.mp k2
      rw [kl_0, e1] at k
      rw [e1] at k2
      exact h0 (by omega) k2
    · have k2 := kl_nle k2
      rw [e1] at k2
      rw [e3, e2]; exact h1 (Or.inr k2)
  · have k := kl_nlt k
    omega
def w49st (p k a b : Nat) (T : Nat → Int) (I0 I : sm_I) : Prop := w49ok I ∧ (∀ u v, u < 6 → v < 6 → v < u → ((u < p ∧ (u < a ∨ (u = a ∧ v < b))) → nv (I 50 (6 * u + v)) = Fn k T (6 * u + v) ∧ nv (I 50 (6 * v + u)) = Fn k T (6 * v + u)) ∧ (¬ (u < p ∧ (u < a ∨ (u = a ∧ v < b))) → nv (I 50 (6 * u + v)) = T (6 * u + v) ∧ nv (I 50 (6 * v + u)) = T (6 * v + u))) ∧ (∀ u, u < 6 → nv (I 50 (7 * u)) = T (7 * u)) ∧ ∀ c j, c ≠ 50 → I c j = I0 c j
theorem w49st_at {p k a b : Nat} {T : Nat → Int} {I0 I : sm_I} (hT : WB 100000 T) (hk : k < 6) (h : w49st p k a b T I0 I) : (∀ u, u < 6 → nv (I 50 (6 * u + k)) = T (6 * u + k)) ∧ ∀ v, v < 6 → nv (I 50 (6 * k + v)) = T (6 * k + v) := by
  obtain ⟨-, h2, h3, -⟩ := h
  have both : ∀ u v, u < 6 → v < 6 → (u = k ∨ v = k) → nv (I 50 (6 * u + v)) = T (6 * u + v) := fun u v hu hv c => by
    have fx : Fn k T (6 * u + v) = T (6 * u + v) := by
      rcases c with c | c
      · rw [c]; exact Fn_col hk hv hT
      · rw [c]; exact Fn_row hk hT
    rcases Nat.lt_trichotomy u v with l | l | l
    · obtain ⟨g1, g2⟩ := h2 v u hv hu l
      by_cases q : v < p ∧ (v < a ∨ (v = a ∧ u < b))
      · rw [(g1 q).2, fx]
      · exact (g2 q).2
    · subst l
      have := h3 u hu
      rw [show 6 * u + u = 7 * u by omega]; exact this
    · obtain ⟨g1, g2⟩ := h2 u v hu hv l
      by_cases q : u < p ∧ (u < a ∨ (u = a ∧ v < b))
      · rw [(g1 q).1, fx]
      · exact (g2 q).1
  exact ⟨fun u hu => both u k hu hk (Or.inr rfl), fun v hv => both k v hk hv (Or.inl rfl)⟩
theorem w49_5 {I0 : sm_I} {T : Nat → Int} {p k a : Nat} (hp : p ≤ 6) (hk : k < 6) (ha : a < p) (hT : WB 100000 T) (hS : WS p T) (h : ∀ (J : sm_I) (x1 x2 : Int32), x1.toInt = k → x2.toInt = a → w49st p k (a + 1) 0 T I0 J → sm_wp sm_P S (d + 1) 18 3 [.ref 49, .int x1, .int (x2 + (1 : Int32))] [] (xLay, J, L, (kQ49 R)) (0, 0) Φ) : ∀ (m b : Nat) (I : sm_I) (x1 x2 x3 : Int32), x1.toInt = k → x2.toInt = a → x3.toInt = b → b + m = a → w49st p k a b T I0 I → sm_wp sm_P S (d + 1) 18 5 [.ref 49, .int x1, .int x2, .int x3] [] (xLay, I, L, (kQ49 R)) (0, 0) Φ := by
  intro m
  induction m with
  | zero =>
    intro b I x1 x2 x3 h1 h2 h3 hm hI
    have e : b = a := by omega
    subst e
    refine s49_X10_findWalks_5 ⟨fun _ => h I x1 x2 h1 h2 ⟨hI.1, fun u v hu hv l => ?_, hI.2.2⟩, fun q => ?_⟩
    · obtain ⟨g1, g2⟩ := hI.2.1 u v hu hv l
      exact ⟨fun q => g1 (by omega), fun q => g2 (by omega)⟩
    · have q := kl_nle q
      omega
  | succ m ih =>
    intro b I x1 x2 x3 h1 h2 h3 hm hI
    have s3 := ml_in1 (x := x3) (by omega)
    obtain ⟨r1, r2⟩ := w49st_at hT hk hI
    have t1 := r1 a (by omega)
    have t2 := r2 b (by omega)
    have ab := hI.2.1 a b (by omega) (by omega) (by omega)
    have t3 := (ab.2 (by omega)).1
    have t4 := (ab.2 (by omega)).2
    have e1 : (6 * a + b) / 6 = a := by omega
    have e2 : (6 * a + b) % 6 = b := by omega
    have symF := (WS_Fn hk hT hS).1 a b (by omega) (by omega)
    have symT := hS.1 a b (by omega) (by omega)
    have B1 := hT.1 (6 * a + k) (by omega)
    have B2 := hT.1 (6 * k + b) (by omega)
    have B3 := hT.1 (6 * a + b) (by omega)
    have ok1 := hI.1 (6 * a + k) (by omega)
    have ok2 := hI.1 (6 * k + b) (by omega)
    have ok3 := hI.1 (6 * a + b) (by omega)
    have same : Fn k T (6 * a + b) = T (6 * a + b) → sm_wp sm_P S (d + 1) 18 5 [.ref 49, .int x1, .int x2, .int (x3 + (1 : Int32))] [] (xLay, I, L, (kQ49 R)) (0, 0) Φ := fun e => ih (b + 1) I x1 x2 _ h1 h2 (by omega) (by omega) ⟨hI.1, fun u v hu hv l => by
      obtain ⟨g1, g2⟩ := hI.2.1 u v hu hv l
      refine ⟨fun q => ?_, fun q => g2 (by omega)⟩
      by_cases c : u = a ∧ v = b
      · obtain ⟨c1, c2⟩ := c
        subst c1; subst c2
        exact ⟨by rw [t3, e], by rw [t4, ← symF, e, symT]⟩
      · exact g1 (by omega), hI.2.2⟩
    refine s49_X10_findWalks_5 ⟨fun q => ?_, fun _ => w49_wb h2 h1 (by omega) (by omega) ⟨_, I, L, rfl, w49_wb h1 h3 (by omega) (by omega) ⟨_, I, L, rfl, fun c => ?_, fun c => ⟨fun c2 => ?_, fun c2 => ?_⟩⟩⟩⟩
    · have q := kl_le.mp q
      omega
    · have c := kl_lt.mp c
      rw [kl_0] at c
      unfold nv at t1
      rw [if_pos c] at t1
      refine same ?_
      unfold Fn
      rw [e1, e2, if_pos (by omega)]
    · have c := kl_nlt c
      have c2 := kl_lt.mp c2
      rw [kl_0] at c c2
      unfold nv at t1 t2
      rw [if_neg (by omega)] at t1
      rw [if_pos c2] at t2
      refine same ?_
      unfold Fn
      rw [e1, e2, if_neg (by omega), if_pos (by omega)]
    · have c := kl_nlt c
      have c2 := kl_nlt c2
      rw [kl_0] at c c2
      unfold nv at t1 t2
      rw [if_neg (by omega)] at t1 t2
      have sum : (I 50 (6 * a + k) + I 50 (6 * k + b)).toInt = T (6 * a + k) + T (6 * k + b) := ml_ad t1 t2 (by omega) (by omega)
      refine w49_ap h2 h3 (by omega) (by omega) (fun c3 c4 => ⟨I, L, rfl, same ?_⟩) (fun c3 => ⟨_, L, rfl, ?_⟩)
      · unfold nv at t3
        rw [if_neg c3] at t3
        rw [sum, t3] at c4
        unfold Fn
        rw [e1, e2, if_neg (by omega), if_neg (by omega), if_neg (by omega), if_neg (by omega)]
      · have Fv : Fn k T (6 * a + b) = T (6 * a + k) + T (6 * k + b) := by
          unfold Fn
          rw [e1, e2, if_neg (by omega), if_neg (by omega)]
          unfold nv at t3
          rcases c3 with c3 | c3
          · rw [if_pos c3] at t3
            rw [if_pos (by omega)]
          · by_cases c5 : (I 50 (6 * a + b)).toInt < 0
            · rw [if_pos c5] at t3
              rw [if_pos (by omega)]
            · rw [if_neg c5] at t3
              rw [sum, t3] at c3
              rw [if_neg (by omega), if_pos c3]
        have nvs : nv (I 50 (6 * a + k) + I 50 (6 * k + b)) = Fn k T (6 * a + b) := by
          unfold nv
          rw [sum, if_neg (by omega), Fv]
        refine ih (b + 1) _ x1 x2 _ h1 h2 (by omega) (by omega) ⟨fun i hi => ?_, fun u v hu hv l => ?_, fun u hu => ?_, fun c j hc => ?_⟩
        · by_cases g1 : i = 6 * b + a
          · rw [g1, en_up_eq]; exact Or.inr (by rw [sum]; omega)
          · rw [en_up_ne _ _ _ _ (by omega)]
            by_cases g2 : i = 6 * a + b
            · rw [g2, en_up_eq]; exact Or.inr (by rw [sum]; omega)
            · rw [en_up_ne _ _ _ _ (by omega)]; exact hI.1 i hi
        · obtain ⟨g1, g2⟩ := hI.2.1 u v hu hv l
          by_cases c : u = a ∧ v = b
          · obtain ⟨c1, c2⟩ := c
            subst c1; subst c2
            refine ⟨fun _ => ⟨?_, ?_⟩, fun q => absurd (by omega) q⟩
            · rw [en_up_ne _ _ _ _ (by omega), en_up_eq]; exact nvs
            · rw [en_up_eq, ← symF]; exact nvs
          · rw [en_up_ne _ _ _ _ (by omega), en_up_ne _ _ _ _ (by omega), en_up_ne _ _ _ _ (by omega), en_up_ne _ _ _ _ (by omega)]
            exact ⟨fun q => g1 (by omega), fun q => g2 (by omega)⟩
        · rw [en_up_ne _ _ _ _ (by omega), en_up_ne _ _ _ _ (by omega)]; exact hI.2.2.1 u hu
        · rw [en_up_ne _ _ _ _ (by omega), en_up_ne _ _ _ _ (by omega)]; exact hI.2.2.2 c j hc
theorem w49_3 {I0 : sm_I} {T : Nat → Int} {p k : Nat} (hp : p ≤ 6) (h1p : (I0 49 1).toInt = p) (hk : k < 6) (hT : WB 100000 T) (hS : WS p T) (h : ∀ (J : sm_I) (x1 : Int32), x1.toInt = k → w49ok J → (∀ i, i < 36 → nv (J 50 i) = Fn k T i) → (∀ c j, c ≠ 50 → J c j = I0 c j) → sm_wp sm_P S (d + 1) 18 1 [.ref 49, .int (x1 + (1 : Int32))] [] (xLay, J, L, (kQ49 R)) (0, 0) Φ) : ∀ (m a : Nat) (I : sm_I) (x1 x2 : Int32), x1.toInt = k → x2.toInt = a → a + m = p → w49st p k a 0 T I0 I → sm_wp sm_P S (d + 1) 18 3 [.ref 49, .int x1, .int x2] [] (xLay, I, L, (kQ49 R)) (0, 0) Φ := by
  intro m
  induction m with
  | zero =>
    intro a I x1 x2 h1 h2 hm hI
    have e : a = p := by omega
    subst e
    have e1 : I 49 1 = I0 49 1 := hI.2.2.2 49 1 (by decide)
    refine s49_X10_findWalks_3 ⟨fun _ => h I x1 h1 hI.1 (fun i hi => ?_) hI.2.2.2, fun q => ?_⟩
    · obtain ⟨u, v, hu, hv, e⟩ : ∃ u v, u < 6 ∧ v < 6 ∧ i = 6 * u + v := ⟨i / 6, i % 6, by omega, by omega, by omega⟩
      subst e
      have F := WS_Fn hk hT hS
      have W2 := WB_Fn hk hT (by decide)
      rcases Nat.lt_trichotomy u v with l | l | l
      · obtain ⟨g1, g2⟩ := hI.2.1 v u hv hu l
        by_cases q : v < a
        · exact (g1 ⟨q, Or.inl q⟩).2
        · rw [(g2 (by omega)).2, hS.1 u v hu hv, hS.2 v u hv hu (by omega) (by omega), F.1 u v hu hv, F.2 v u hv hu (by omega) (by omega)]
      · subst l
        rw [show 6 * u + u = 7 * u by omega, hI.2.2.1 u hu, hT.2 u hu, W2.2 u hu]
      · obtain ⟨g1, g2⟩ := hI.2.1 u v hu hv l
        by_cases q : u < a
        · exact (g1 ⟨q, Or.inl q⟩).1
        · rw [(g2 (by omega)).1, hS.2 u v hu hv (by omega) (by omega), F.2 u v hu hv (by omega) (by omega)]
    · have q := kl_nle q
      rw [e1] at q
      omega
  | succ m ih =>
    intro a I x1 x2 h1 h2 hm hI
    have e1 : I 49 1 = I0 49 1 := hI.2.2.2 49 1 (by decide)
    refine s49_X10_findWalks_3 ⟨fun q => ?_, fun _ => w49_5 (I0 := I0) (T := T) (k := k) (a := a) hp hk (by omega) hT hS (fun J x1 x2 h1 h2 hJ => ih (a + 1) J x1 _ h1 ?_ (by omega) hJ) a 0 I x1 x2 0 h1 h2 (by decide) (by omega) hI⟩
    · have q := kl_le.mp q
      rw [e1] at q
      omega
    · have s := ml_in1 (x := x2) (by omega)
      omega
theorem w49_1 {I0 : sm_I} {N : Nat → Int} {p : Nat} (hp : p ≤ 6) (h1p : (I0 49 1).toInt = p) (hN : WB 1440 N) (hS : WS p N) (h : ∀ J : sm_I, w49ok J → (∀ i, i < 36 → nv (J 50 i) = Ft p N i) → (∀ c j, c ≠ 50 → J c j = I0 c j) → Φ (none, (xLay, J, L, kQ49 R))) : ∀ (m k : Nat) (I : sm_I) (x1 : Int32), x1.toInt = k → k + m = p → w49ok I → (∀ i, i < 36 → nv (I 50 i) = Ft k N i) → (∀ c j, c ≠ 50 → I c j = I0 c j) → sm_wp sm_P S (d + 1) 18 1 [.ref 49, .int x1] [] (xLay, I, L, (kQ49 R)) (0, 0) Φ := by
  intro m
  induction m with
  | zero =>
    intro k I x1 h1 hm ho g o
    have e : k = p := by omega
    subst e
    refine s49_X10_findWalks_1 ⟨fun _ => h I ho g o, fun q => ?_⟩
    have q := kl_nle q
    rw [o 49 1 (by decide)] at q
    omega
  | succ m ih =>
    intro k I x1 h1 hm ho g o
    refine s49_X10_findWalks_1 ⟨fun q => ?_, fun _ => w49_3 (I0 := I0) (T := Ft k N) (k := k) hp h1p (by omega) (WB_F6 hN k (by omega)) (WS_Ft hN hS k (by omega)) (fun J x1 h1 ho gJ oJ => ih (k + 1) J _ ?_ (by omega) ho gJ oJ) p 0 I x1 0 h1 (by decide) (by omega) ⟨ho, fun u v hu hv l => ⟨fun q => absurd q (by omega), fun _ => ⟨g _ (by omega), g _ (by omega)⟩⟩, fun u hu => g _ (by omega), o⟩⟩
    · have q := kl_le.mp q
      rw [o 49 1 (by decide)] at q
      omega
    · have s := ml_in1 (x := x1) (by omega)
      omega
theorem w49_walks {p : Nat} (hp : p ≤ 6) (h1p : (I 49 1).toInt = p) (ho : w49ok I) (hN : WB 1440 (fun i => nv (I 50 i))) (hS : WS p (fun i => nv (I 50 i))) (h : ∀ J : sm_I, w49ok J → (∀ i, i < 36 → nv (J 50 i) = Ft p (fun i => nv (I 50 i)) i) → (∀ c j, c ≠ 50 → J c j = I c j) → Φ (none, (xLay, J, L, kQ49 R))) : sm_wp sm_P S (d + 1) 18 0 [.ref 49] [] (xLay, I, L, (kQ49 R)) (0, 0) Φ := s49_X10_findWalks_0 (w49_1 (I0 := I) hp h1p hN hS h p 0 I 0 (by decide) (by omega) ho (fun i _ => rfl) (fun _ _ _ => rfl))
end
end
section
/-! the class's findMoves with into = 12, exact (wip/pe/mkmv.py) -/
section
variable {S : sm_C} {d : Nat} {Φ : sm_Z → Prop} {L : sm_L} {R : sm_R}
def mv12 (I0 I : sm_I) (w : List (Nat × Nat)) : Prop := (I 12 5).toInt = ((w.length : Nat) : Int) ∧ (∀ j, j < w.length → I 34 j = Int32.ofNat (w.getD j (0, 0)).1 ∧ I 35 j = Int32.ofNat (w.getD j (0, 0)).2 ∧ I 36 j = I0 13 (6 * (I0 15 (w.getD j (0, 0)).1).toNatClampNeg + (I0 15 (w.getD j (0, 0)).2).toNatClampNeg)) ∧ ∀ p j, ¬ (p = 12 ∧ j = 5) → p ≠ 34 → p ≠ 35 → p ≠ 36 → I p j = I0 p j
def mc12 (I : sm_I) : Nat → Nat → Bool := mvc (I 14) (I 15)
theorem km12_3 {I0 : sm_I} {T a : Nat} (hT : (I0 12 2).toInt = T) (T10 : T ≤ 10) (ha : a < T) (bp : ∀ i, i < T → I0 14 i ≠ -1 → 0 ≤ (I0 15 i).toInt ∧ (I0 15 i).toInt ≤ 5) (h : ∀ (J : sm_I) (x1 : Int32), x1.toInt = a → mv12 I0 J (mall (mc12 I0) T (a + 1)) → sm_wp sm_P S (d + 1) 17 1 [.ref 12, .int (x1 + (1 : Int32))] [] (xLay, J, L, kQ12 R) (0, 0) Φ) : ∀ (m b : Nat) (I : sm_I) (x1 x2 : Int32), x1.toInt = a → x2.toInt = b → a < b → b + m = T → mv12 I0 I (mall (mc12 I0) T a ++ mrow (mc12 I0) a b) → sm_wp sm_P S (d + 1) 17 3 [.ref 12, .int x1, .int x2] [] (xLay, I, L, kQ12 R) (0, 0) Φ := by
  intro m
  induction m with
  | zero =>
    intro b I x1 x2 h1 h2 hab hm hI
    have e : b = T := by omega
    subst e
    have e2 : I 12 2 = I0 12 2 := hI.2.2 12 2 (by omega) (by decide) (by decide) (by decide)
    refine s12_X10_findMoves_3 ⟨fun _ => h I x1 h1 hI, fun q => ?_⟩
    have q := kl_nle q
    rw [e2] at q
    omega
  | succ m ih =>
    intro b I x1 x2 h1 h2 hab hm hI
    have s2 := ml_in1 (x := x2) (by omega)
    obtain ⟨hc, hr, o⟩ := hI
    have e2 : I 12 2 = I0 12 2 := o 12 2 (by omega) (by decide) (by decide) (by decide)
    have len := mv_45 (c := mc12 I0) T10 hab (by omega : b < T)
    have o3 : ∀ j, I 14 j = I0 14 j := fun j => o 14 j (by omega) (by decide) (by decide) (by decide)
    have o4 : ∀ j, I 15 j = I0 15 j := fun j => o 15 j (by omega) (by decide) (by decide) (by decide)
    have o9 : ∀ j, I 13 j = I0 13 j := fun j => o 13 j (by omega) (by decide) (by decide) (by decide)
    have skip : mc12 I0 a b = false → sm_wp sm_P S (d + 1) 17 12 [.ref 12, .int x1, .int x2] [] (xLay, I, L, kQ12 R) (0, 0) Φ := fun q => by
      refine s12_X10_findMoves_12 (ih (b + 1) I x1 _ h1 (by omega) (by omega) (by omega) ?_)
      rw [mrow_s hab, q, if_neg (by decide), List.append_nil]
      exact ⟨hc, hr, o⟩
    have v1 : vp_in x1 10 := kl_in (by omega) (by omega)
    have v2 : vp_in x2 10 := kl_in (by omega) (by omega)
    have m1 := tk_nat h1
    have m2 := tk_nat h2
    have no : mc12 I0 a b = false → sm_wp sm_P S (d + 1) 17 8 [.ref 12, .int x1, .int x2] [.int (0 : Int32)] (xLay, I, L, kQ12 R) (0, 0) Φ := fun q => s12_X10_findMoves_8 ⟨fun _ => skip q, fun z => absurd rfl z⟩
    refine s12_X10_findMoves_3 ⟨fun q => ?_, fun _ => ⟨v1, ?_⟩⟩
    · have q := kl_le.mp q
      rw [e2] at q
      omega
    rw [m1, m2, o3, o3]
    refine ⟨fun c1 => no ?_, fun c1 => ⟨v1, v2, fun c2 => ?_, fun c2 => no ?_⟩⟩
    · unfold mc12 mvc
      simp [c1]
    rotate_left
    · unfold mc12 mvc
      simp [c2]
    refine s12_X10_findMoves_8 ⟨fun z => absurd z (by decide), fun _ => ⟨v1, v2, ?_⟩⟩
    rw [m1, m2, o4, o4]
    refine ⟨fun c3 => skip ?_, fun c3 => ⟨fun q => ?_, fun _ => ?_⟩⟩
    · unfold mc12 mvc
      simp [c3]
    · have q := kl_le.mp q
      rw [hc, (by decide : (45 : Int32).toInt = 45)] at q
      omega
    have yes : mc12 I0 a b = true := by
      unfold mc12 mvc
      simp only [decide_eq_false c1, decide_eq_true c2, decide_eq_false c3]
      rfl
    have ba := bp a ha c1
    have bb := bp b (by omega) (fun q => c1 (c2.trans q))
    have na := kl_nat ba.1
    have nb := kl_nat bb.1
    have vc : vp_in (I 12 5) 45 := kl_in (by omega) (by omega)
    have nc := tk_nat hc
    refine ⟨vc, fun I1 e1 => ?_⟩
    have g1 : I1 12 5 = I 12 5 := by rw [e1, en_up_ne _ _ _ _ (by omega)]
    rw [g1]
    refine ⟨vc, fun I2 e3 => ⟨v1, v2, ?_⟩⟩
    have k2 : ∀ p j, p ≠ 34 → p ≠ 35 → I2 p j = I p j := fun p j a b => by rw [e3, en_up_ne _ _ _ _ (by omega), e1, en_up_ne _ _ _ _ (by omega)]
    rw [k2 15 _ (by decide) (by decide), k2 15 _ (by decide) (by decide), o4, o4, k2 12 5 (by decide) (by decide)]
    refine w12_wb (a := (I0 15 a).toNatClampNeg) (b := (I0 15 b).toNatClampNeg) na.symm nb.symm (by omega) (by omega) ⟨_, I2, L, rfl, vc, fun I6 e6 I7 e7 => ?_⟩
    rw [k2 13 _ (by decide) (by decide), o9] at e6
    have g6 : I6 12 5 = I 12 5 := by rw [e6, en_up_ne _ _ _ _ (by omega), k2 12 5 (by decide) (by decide)]
    rw [g6] at e7
    rw [nc] at e1 e3 e6
    have k7 : ∀ p j, ¬ (p = 12 ∧ j = 5) → p ≠ 34 → p ≠ 35 → p ≠ 36 → I7 p j = I0 p j := fun p j a b c d => by
      rw [e7, en_up_ne _ _ _ _ a, e6, en_up_ne _ _ _ _ (by omega), k2 p j b c, o p j a b c d]
    have s1 := ml_in1 (x := I 12 5) (by omega)
    refine s12_X10_findMoves_12 (ih (b + 1) I7 x1 _ h1 (by omega) (by omega) (by omega) ⟨?_, fun j hj => ?_, k7⟩)
    · rw [mrow_s hab, yes, if_pos rfl, ← List.append_assoc, List.length_append]
      rw [e7, en_up_eq, s1, hc]
      rfl
    · rw [mrow_s hab, yes, if_pos rfl, ← List.append_assoc] at hj ⊢
      rw [List.length_append] at hj
      have hj : j < (mall (mc12 I0) T a ++ mrow (mc12 I0) a b).length + 1 := hj
      by_cases e : j < (mall (mc12 I0) T a ++ mrow (mc12 I0) a b).length
      · rw [gD_l e]
        obtain ⟨r1, r2, r3⟩ := hr j e
        refine ⟨?_, ?_, ?_⟩
        · rw [e7, en_up_ne _ _ _ _ (by omega), e6, en_up_ne _ _ _ _ (by omega), e3, en_up_ne _ _ _ _ (by omega), e1, en_up_ne _ _ _ _ (by omega)]; exact r1
        · rw [e7, en_up_ne _ _ _ _ (by omega), e6, en_up_ne _ _ _ _ (by omega), e3, en_up_ne _ _ _ _ (by omega), e1, en_up_ne _ _ _ _ (by omega)]; exact r2
        · rw [e7, en_up_ne _ _ _ _ (by omega), e6, en_up_ne _ _ _ _ (by omega), e3, en_up_ne _ _ _ _ (by omega), e1, en_up_ne _ _ _ _ (by omega)]; exact r3
      · have e : j = (mall (mc12 I0) T a ++ mrow (mc12 I0) a b).length := by omega
        rw [e, gD_n]
        have ex1 : x1 = Int32.ofNat a := en_ofI (by rw [h1, Int32.toInt_ofNat_of_lt (by omega)])
        have ex2 : x2 = Int32.ofNat b := en_ofI (by rw [h2, Int32.toInt_ofNat_of_lt (by omega)])
        refine ⟨?_, ?_, ?_⟩
        · rw [e7, en_up_ne _ _ _ _ (by omega), e6, en_up_ne _ _ _ _ (by omega), e3, en_up_ne _ _ _ _ (by omega), e1, en_up_eq, ex1]
        · rw [e7, en_up_ne _ _ _ _ (by omega), e6, en_up_ne _ _ _ _ (by omega), e3, en_up_eq, ex2]
        · rw [e7, en_up_ne _ _ _ _ (by omega), e6, en_up_eq]
theorem km12_1 {I0 : sm_I} {T : Nat} (hT : (I0 12 2).toInt = T) (T10 : T ≤ 10) (bp : ∀ i, i < T → I0 14 i ≠ -1 → 0 ≤ (I0 15 i).toInt ∧ (I0 15 i).toInt ≤ 5) (h : ∀ J : sm_I, mv12 I0 J (mall (mc12 I0) T T) → Φ (none, (xLay, J, L, kQ12 R))) : ∀ (m a : Nat) (I : sm_I) (x1 : Int32), x1.toInt = a → a + m = T → mv12 I0 I (mall (mc12 I0) T a) → sm_wp sm_P S (d + 1) 17 1 [.ref 12, .int x1] [] (xLay, I, L, kQ12 R) (0, 0) Φ := by
  intro m
  induction m with
  | zero =>
    intro a I x1 h1 hm hI
    have e : a = T := by omega
    subst e
    have e2 : I 12 2 = I0 12 2 := hI.2.2 12 2 (by omega) (by decide) (by decide) (by decide)
    refine s12_X10_findMoves_1 ⟨fun _ => h I hI, fun q => ?_⟩
    have q := kl_nle q
    rw [e2] at q
    omega
  | succ m ih =>
    intro a I x1 h1 hm hI
    have s1 := ml_in1 (x := x1) (by omega)
    have e2 : I 12 2 = I0 12 2 := hI.2.2 12 2 (by omega) (by decide) (by decide) (by decide)
    refine s12_X10_findMoves_1 ⟨fun q => ?_, fun _ => km12_3 (I0 := I0) (a := a) hT T10 (by omega) bp (fun J x1 h1 hJ => ih (a + 1) J _ ?_ (by omega) hJ) (T - (a + 1)) (a + 1) I x1 _ h1 (by omega) (by omega) (by omega) (by rw [mrow_0 (a + 1) (Nat.le_refl _), List.append_nil]; exact hI)⟩
    · have q := kl_le.mp q
      rw [e2] at q
      omega
    · have s := ml_in1 (x := x1) (by omega)
      omega
theorem k12_moves {I : sm_I} {T : Nat} (hT : (I 12 2).toInt = T) (T10 : T ≤ 10) (bp : ∀ i, i < T → I 14 i ≠ -1 → 0 ≤ (I 15 i).toInt ∧ (I 15 i).toInt ≤ 5) (h : ∀ J : sm_I, mv12 I J (mall (mc12 I) T T) → Φ (none, (xLay, J, L, kQ12 R))) : sm_wp sm_P S (d + 1) 17 0 [.ref 12] [] (xLay, I, L, kQ12 R) (0, 0) Φ := s12_X10_findMoves_0 (km12_1 (I0 := I) hT T10 bp h T 0 _ 0 (by decide) (by omega) ⟨by rw [en_up_eq]; rfl, fun j hj => absurd hj (Nat.not_lt_zero j), fun p j a _ _ _ => by rw [en_up_ne _ _ _ _ a]⟩)
end
end
section
/-! the class's findMoves with into = 49, exact (wip/pe/mkmv.py) -/
section
variable {S : sm_C} {d : Nat} {Φ : sm_Z → Prop} {L : sm_L} {R : sm_R}
def mv49 (I0 I : sm_I) (w : List (Nat × Nat)) : Prop := (I 49 5).toInt = ((w.length : Nat) : Int) ∧ (∀ j, j < w.length → I 71 j = Int32.ofNat (w.getD j (0, 0)).1 ∧ I 72 j = Int32.ofNat (w.getD j (0, 0)).2 ∧ I 73 j = I0 50 (6 * (I0 52 (w.getD j (0, 0)).1).toNatClampNeg + (I0 52 (w.getD j (0, 0)).2).toNatClampNeg)) ∧ ∀ p j, ¬ (p = 49 ∧ j = 5) → p ≠ 71 → p ≠ 72 → p ≠ 73 → I p j = I0 p j
def mc49 (I : sm_I) : Nat → Nat → Bool := mvc (I 51) (I 52)
theorem km49_3 {I0 : sm_I} {T a : Nat} (hT : (I0 49 2).toInt = T) (T10 : T ≤ 10) (ha : a < T) (bp : ∀ i, i < T → I0 51 i ≠ -1 → 0 ≤ (I0 52 i).toInt ∧ (I0 52 i).toInt ≤ 5) (h : ∀ (J : sm_I) (x1 : Int32), x1.toInt = a → mv49 I0 J (mall (mc49 I0) T (a + 1)) → sm_wp sm_P S (d + 1) 17 1 [.ref 49, .int (x1 + (1 : Int32))] [] (xLay, J, L, kQ49 R) (0, 0) Φ) : ∀ (m b : Nat) (I : sm_I) (x1 x2 : Int32), x1.toInt = a → x2.toInt = b → a < b → b + m = T → mv49 I0 I (mall (mc49 I0) T a ++ mrow (mc49 I0) a b) → sm_wp sm_P S (d + 1) 17 3 [.ref 49, .int x1, .int x2] [] (xLay, I, L, kQ49 R) (0, 0) Φ := by
  intro m
  induction m with
  | zero =>
    intro b I x1 x2 h1 h2 hab hm hI
    have e : b = T := by omega
    subst e
    have e2 : I 49 2 = I0 49 2 := hI.2.2 49 2 (by omega) (by decide) (by decide) (by decide)
    refine s49_X10_findMoves_3 ⟨fun _ => h I x1 h1 hI, fun q => ?_⟩
    have q := kl_nle q
    rw [e2] at q
    omega
  | succ m ih =>
    intro b I x1 x2 h1 h2 hab hm hI
    have s2 := ml_in1 (x := x2) (by omega)
    obtain ⟨hc, hr, o⟩ := hI
    have e2 : I 49 2 = I0 49 2 := o 49 2 (by omega) (by decide) (by decide) (by decide)
    have len := mv_45 (c := mc49 I0) T10 hab (by omega : b < T)
    have o3 : ∀ j, I 51 j = I0 51 j := fun j => o 51 j (by omega) (by decide) (by decide) (by decide)
    have o4 : ∀ j, I 52 j = I0 52 j := fun j => o 52 j (by omega) (by decide) (by decide) (by decide)
    have o9 : ∀ j, I 50 j = I0 50 j := fun j => o 50 j (by omega) (by decide) (by decide) (by decide)
    have skip : mc49 I0 a b = false → sm_wp sm_P S (d + 1) 17 12 [.ref 49, .int x1, .int x2] [] (xLay, I, L, kQ49 R) (0, 0) Φ := fun q => by
      refine s49_X10_findMoves_12 (ih (b + 1) I x1 _ h1 (by omega) (by omega) (by omega) ?_)
      rw [mrow_s hab, q, if_neg (by decide), List.append_nil]
      exact ⟨hc, hr, o⟩
    have v1 : vp_in x1 10 := kl_in (by omega) (by omega)
    have v2 : vp_in x2 10 := kl_in (by omega) (by omega)
    have m1 := tk_nat h1
    have m2 := tk_nat h2
    have no : mc49 I0 a b = false → sm_wp sm_P S (d + 1) 17 8 [.ref 49, .int x1, .int x2] [.int (0 : Int32)] (xLay, I, L, kQ49 R) (0, 0) Φ := fun q => s49_X10_findMoves_8 ⟨fun _ => skip q, fun z => absurd rfl z⟩
    refine s49_X10_findMoves_3 ⟨fun q => ?_, fun _ => ⟨v1, ?_⟩⟩
    · have q := kl_le.mp q
      rw [e2] at q
      omega
    rw [m1, m2, o3, o3]
    refine ⟨fun c1 => no ?_, fun c1 => ⟨v1, v2, fun c2 => ?_, fun c2 => no ?_⟩⟩
    · unfold mc49 mvc
      simp [c1]
    rotate_left
    · unfold mc49 mvc
      simp [c2]
    refine s49_X10_findMoves_8 ⟨fun z => absurd z (by decide), fun _ => ⟨v1, v2, ?_⟩⟩
    rw [m1, m2, o4, o4]
    refine ⟨fun c3 => skip ?_, fun c3 => ⟨fun q => ?_, fun _ => ?_⟩⟩
    · unfold mc49 mvc
      simp [c3]
    · have q := kl_le.mp q
      rw [hc, (by decide : (45 : Int32).toInt = 45)] at q
      omega
    have yes : mc49 I0 a b = true := by
      unfold mc49 mvc
      simp only [decide_eq_false c1, decide_eq_true c2, decide_eq_false c3]
      rfl
    have ba := bp a ha c1
    have bb := bp b (by omega) (fun q => c1 (c2.trans q))
    have na := kl_nat ba.1
    have nb := kl_nat bb.1
    have vc : vp_in (I 49 5) 45 := kl_in (by omega) (by omega)
    have nc := tk_nat hc
    refine ⟨vc, fun I1 e1 => ?_⟩
    have g1 : I1 49 5 = I 49 5 := by rw [e1, en_up_ne _ _ _ _ (by omega)]
    rw [g1]
    refine ⟨vc, fun I2 e3 => ⟨v1, v2, ?_⟩⟩
    have k2 : ∀ p j, p ≠ 71 → p ≠ 72 → I2 p j = I p j := fun p j a b => by rw [e3, en_up_ne _ _ _ _ (by omega), e1, en_up_ne _ _ _ _ (by omega)]
    rw [k2 52 _ (by decide) (by decide), k2 52 _ (by decide) (by decide), o4, o4, k2 49 5 (by decide) (by decide)]
    refine w49_wb (a := (I0 52 a).toNatClampNeg) (b := (I0 52 b).toNatClampNeg) na.symm nb.symm (by omega) (by omega) ⟨_, I2, L, rfl, vc, fun I6 e6 I7 e7 => ?_⟩
    rw [k2 50 _ (by decide) (by decide), o9] at e6
    have g6 : I6 49 5 = I 49 5 := by rw [e6, en_up_ne _ _ _ _ (by omega), k2 49 5 (by decide) (by decide)]
    rw [g6] at e7
    rw [nc] at e1 e3 e6
    have k7 : ∀ p j, ¬ (p = 49 ∧ j = 5) → p ≠ 71 → p ≠ 72 → p ≠ 73 → I7 p j = I0 p j := fun p j a b c d => by
      rw [e7, en_up_ne _ _ _ _ a, e6, en_up_ne _ _ _ _ (by omega), k2 p j b c, o p j a b c d]
    have s1 := ml_in1 (x := I 49 5) (by omega)
    refine s49_X10_findMoves_12 (ih (b + 1) I7 x1 _ h1 (by omega) (by omega) (by omega) ⟨?_, fun j hj => ?_, k7⟩)
    · rw [mrow_s hab, yes, if_pos rfl, ← List.append_assoc, List.length_append]
      rw [e7, en_up_eq, s1, hc]
      rfl
    · rw [mrow_s hab, yes, if_pos rfl, ← List.append_assoc] at hj ⊢
      rw [List.length_append] at hj
      have hj : j < (mall (mc49 I0) T a ++ mrow (mc49 I0) a b).length + 1 := hj
      by_cases e : j < (mall (mc49 I0) T a ++ mrow (mc49 I0) a b).length
      · rw [gD_l e]
        obtain ⟨r1, r2, r3⟩ := hr j e
        refine ⟨?_, ?_, ?_⟩
        · rw [e7, en_up_ne _ _ _ _ (by omega), e6, en_up_ne _ _ _ _ (by omega), e3, en_up_ne _ _ _ _ (by omega), e1, en_up_ne _ _ _ _ (by omega)]; exact r1
        · rw [e7, en_up_ne _ _ _ _ (by omega), e6, en_up_ne _ _ _ _ (by omega), e3, en_up_ne _ _ _ _ (by omega), e1, en_up_ne _ _ _ _ (by omega)]; exact r2
        · rw [e7, en_up_ne _ _ _ _ (by omega), e6, en_up_ne _ _ _ _ (by omega), e3, en_up_ne _ _ _ _ (by omega), e1, en_up_ne _ _ _ _ (by omega)]; exact r3
      · have e : j = (mall (mc49 I0) T a ++ mrow (mc49 I0) a b).length := by omega
        rw [e, gD_n]
        have ex1 : x1 = Int32.ofNat a := en_ofI (by rw [h1, Int32.toInt_ofNat_of_lt (by omega)])
        have ex2 : x2 = Int32.ofNat b := en_ofI (by rw [h2, Int32.toInt_ofNat_of_lt (by omega)])
        refine ⟨?_, ?_, ?_⟩
        · rw [e7, en_up_ne _ _ _ _ (by omega), e6, en_up_ne _ _ _ _ (by omega), e3, en_up_ne _ _ _ _ (by omega), e1, en_up_eq, ex1]
        · rw [e7, en_up_ne _ _ _ _ (by omega), e6, en_up_ne _ _ _ _ (by omega), e3, en_up_eq, ex2]
        · rw [e7, en_up_ne _ _ _ _ (by omega), e6, en_up_eq]
theorem km49_1 {I0 : sm_I} {T : Nat} (hT : (I0 49 2).toInt = T) (T10 : T ≤ 10) (bp : ∀ i, i < T → I0 51 i ≠ -1 → 0 ≤ (I0 52 i).toInt ∧ (I0 52 i).toInt ≤ 5) (h : ∀ J : sm_I, mv49 I0 J (mall (mc49 I0) T T) → Φ (none, (xLay, J, L, kQ49 R))) : ∀ (m a : Nat) (I : sm_I) (x1 : Int32), x1.toInt = a → a + m = T → mv49 I0 I (mall (mc49 I0) T a) → sm_wp sm_P S (d + 1) 17 1 [.ref 49, .int x1] [] (xLay, I, L, kQ49 R) (0, 0) Φ := by
  intro m
  induction m with
  | zero =>
    intro a I x1 h1 hm hI
    have e : a = T := by omega
    subst e
    have e2 : I 49 2 = I0 49 2 := hI.2.2 49 2 (by omega) (by decide) (by decide) (by decide)
    refine s49_X10_findMoves_1 ⟨fun _ => h I hI, fun q => ?_⟩
    have q := kl_nle q
    rw [e2] at q
    omega
  | succ m ih =>
    intro a I x1 h1 hm hI
    have s1 := ml_in1 (x := x1) (by omega)
    have e2 : I 49 2 = I0 49 2 := hI.2.2 49 2 (by omega) (by decide) (by decide) (by decide)
    refine s49_X10_findMoves_1 ⟨fun q => ?_, fun _ => km49_3 (I0 := I0) (a := a) hT T10 (by omega) bp (fun J x1 h1 hJ => ih (a + 1) J _ ?_ (by omega) hJ) (T - (a + 1)) (a + 1) I x1 _ h1 (by omega) (by omega) (by omega) (by rw [mrow_0 (a + 1) (Nat.le_refl _), List.append_nil]; exact hI)⟩
    · have q := kl_le.mp q
      rw [e2] at q
      omega
    · have s := ml_in1 (x := x1) (by omega)
      omega
theorem k49_moves {I : sm_I} {T : Nat} (hT : (I 49 2).toInt = T) (T10 : T ≤ 10) (bp : ∀ i, i < T → I 51 i ≠ -1 → 0 ≤ (I 52 i).toInt ∧ (I 52 i).toInt ≤ 5) (h : ∀ J : sm_I, mv49 I J (mall (mc49 I) T T) → Φ (none, (xLay, J, L, kQ49 R))) : sm_wp sm_P S (d + 1) 17 0 [.ref 49] [] (xLay, I, L, kQ49 R) (0, 0) Φ := s49_X10_findMoves_0 (km49_1 (I0 := I) hT T10 bp h T 0 _ 0 (by decide) (by omega) ⟨by rw [en_up_eq]; rfl, fun j hj => absurd hj (Nat.not_lt_zero j), fun p j a _ _ _ => by rw [en_up_ne _ _ _ _ a]⟩)
end
end
section
/-! the class's readTape with into = 12, exact (wip/pe/mk98i.py) -/
section
variable {S : sm_C} {d : Nat} {Φ : sm_Z → Prop} {I : sm_I} {L : sm_L} {R : sm_R}
theorem k12_f13a {I0 : sm_I} {x1 : Int32} (h : ∀ J : sm_I, (∀ j, j < 36 → J 13 j = x1) → (∀ a j, a ≠ 13 → J a j = I0 a j) → Φ (none, (xLay, J, L, kQ12 R))) : ∀ (m i : Nat) (I : sm_I) (x2 : Int32), x2.toInt = i → i + m = 36 → (∀ j, j < i → I 13 j = x1) → (∀ a j, a ≠ 13 → I a j = I0 a j) → sm_wp sm_P S d 306 1 [.ref 13, .int x1, .int x2, .int (Int32.ofNat 36)] [] (xLay, I, L, kQ12 R) (0, 0) Φ := by
  have cn : (Int32.ofNat 36).toInt = 36 := by decide
  intro m
  induction m with
  | zero =>
    intro i I x2 hx hm h1 h2
    refine s12f13_J7_fill_53178_1 ⟨fun _ => h I (fun j hj => h1 j (by omega)) h2, fun a => ?_⟩
    have := kl_nle a
    omega
  | succ m ih =>
    intro i I x2 hx hm h1 h2
    have nn := tk_nat hx
    have s := ml_in1 (x := x2) (by omega)
    refine s12f13_J7_fill_53178_1 ⟨fun a => ?_, fun _ => ⟨kl_in (by omega) (by omega), fun I1 e1 => ?_⟩⟩
    · have := kl_le.mp a
      omega
    · rw [nn] at e1
      refine ih (i + 1) I1 _ (by omega) (by omega) (fun j hj => ?_) (fun a j ha => ?_)
      · by_cases c : j = i
        · subst c; rw [e1, en_up_eq]
        · rw [e1, en_up_ne _ _ _ _ (by omega)]; exact h1 j (by omega)
      · rw [e1, en_up_ne _ _ _ _ (by omega)]; exact h2 a j ha
theorem k12_f13 {x1 : Int32} (h : ∀ J : sm_I, (∀ j, j < 36 → J 13 j = x1) → (∀ a j, a ≠ 13 → J a j = I a j) → Φ (none, (xLay, J, L, kQ12 R))) : sm_wp sm_P S d 306 0 [.ref 13, .int x1] [] (xLay, I, L, kQ12 R) (0, 0) Φ := s12f13_J7_fill_53178_0 (k12_f13a h 36 0 I 0 (by decide) (by decide) (fun j hj => absurd hj (Nat.not_lt_zero j)) (fun _ _ _ => rfl))
theorem k12_f14a {I0 : sm_I} {x1 : Int32} (h : ∀ J : sm_I, (∀ j, j < 10 → J 14 j = x1) → (∀ a j, a ≠ 14 → J a j = I0 a j) → Φ (none, (xLay, J, L, kQ12 R))) : ∀ (m i : Nat) (I : sm_I) (x2 : Int32), x2.toInt = i → i + m = 10 → (∀ j, j < i → I 14 j = x1) → (∀ a j, a ≠ 14 → I a j = I0 a j) → sm_wp sm_P S d 306 1 [.ref 14, .int x1, .int x2, .int (Int32.ofNat 10)] [] (xLay, I, L, kQ12 R) (0, 0) Φ := by
  have cn : (Int32.ofNat 10).toInt = 10 := by decide
  intro m
  induction m with
  | zero =>
    intro i I x2 hx hm h1 h2
    refine s12f14_J7_fill_53178_1 ⟨fun _ => h I (fun j hj => h1 j (by omega)) h2, fun a => ?_⟩
    have := kl_nle a
    omega
  | succ m ih =>
    intro i I x2 hx hm h1 h2
    have nn := tk_nat hx
    have s := ml_in1 (x := x2) (by omega)
    refine s12f14_J7_fill_53178_1 ⟨fun a => ?_, fun _ => ⟨kl_in (by omega) (by omega), fun I1 e1 => ?_⟩⟩
    · have := kl_le.mp a
      omega
    · rw [nn] at e1
      refine ih (i + 1) I1 _ (by omega) (by omega) (fun j hj => ?_) (fun a j ha => ?_)
      · by_cases c : j = i
        · subst c; rw [e1, en_up_eq]
        · rw [e1, en_up_ne _ _ _ _ (by omega)]; exact h1 j (by omega)
      · rw [e1, en_up_ne _ _ _ _ (by omega)]; exact h2 a j ha
theorem k12_f14 {x1 : Int32} (h : ∀ J : sm_I, (∀ j, j < 10 → J 14 j = x1) → (∀ a j, a ≠ 14 → J a j = I a j) → Φ (none, (xLay, J, L, kQ12 R))) : sm_wp sm_P S d 306 0 [.ref 14, .int x1] [] (xLay, I, L, kQ12 R) (0, 0) Φ := s12f14_J7_fill_53178_0 (k12_f14a h 10 0 I 0 (by decide) (by decide) (fun j hj => absurd hj (Nat.not_lt_zero j)) (fun _ _ _ => rfl))
theorem k12_f15a {I0 : sm_I} {x1 : Int32} (h : ∀ J : sm_I, (∀ j, j < 10 → J 15 j = x1) → (∀ a j, a ≠ 15 → J a j = I0 a j) → Φ (none, (xLay, J, L, kQ12 R))) : ∀ (m i : Nat) (I : sm_I) (x2 : Int32), x2.toInt = i → i + m = 10 → (∀ j, j < i → I 15 j = x1) → (∀ a j, a ≠ 15 → I a j = I0 a j) → sm_wp sm_P S d 306 1 [.ref 15, .int x1, .int x2, .int (Int32.ofNat 10)] [] (xLay, I, L, kQ12 R) (0, 0) Φ := by
  have cn : (Int32.ofNat 10).toInt = 10 := by decide
  intro m
  induction m with
  | zero =>
    intro i I x2 hx hm h1 h2
    refine s12f15_J7_fill_53178_1 ⟨fun _ => h I (fun j hj => h1 j (by omega)) h2, fun a => ?_⟩
    have := kl_nle a
    omega
  | succ m ih =>
    intro i I x2 hx hm h1 h2
    have nn := tk_nat hx
    have s := ml_in1 (x := x2) (by omega)
    refine s12f15_J7_fill_53178_1 ⟨fun a => ?_, fun _ => ⟨kl_in (by omega) (by omega), fun I1 e1 => ?_⟩⟩
    · have := kl_le.mp a
      omega
    · rw [nn] at e1
      refine ih (i + 1) I1 _ (by omega) (by omega) (fun j hj => ?_) (fun a j ha => ?_)
      · by_cases c : j = i
        · subst c; rw [e1, en_up_eq]
        · rw [e1, en_up_ne _ _ _ _ (by omega)]; exact h1 j (by omega)
      · rw [e1, en_up_ne _ _ _ _ (by omega)]; exact h2 a j ha
theorem k12_f15 {x1 : Int32} (h : ∀ J : sm_I, (∀ j, j < 10 → J 15 j = x1) → (∀ a j, a ≠ 15 → J a j = I a j) → Φ (none, (xLay, J, L, kQ12 R))) : sm_wp sm_P S d 306 0 [.ref 15, .int x1] [] (xLay, I, L, kQ12 R) (0, 0) Φ := s12f15_J7_fill_53178_0 (k12_f15a h 10 0 I 0 (by decide) (by decide) (fun j hj => absurd hj (Nat.not_lt_zero j)) (fun _ _ _ => rfl))
theorem k12_f18a {I0 : sm_I} {x1 : Int32} (h : ∀ J : sm_I, (∀ j, j < 10 → J 18 j = x1) → (∀ a j, a ≠ 18 → J a j = I0 a j) → Φ (none, (xLay, J, L, kQ12 R))) : ∀ (m i : Nat) (I : sm_I) (x2 : Int32), x2.toInt = i → i + m = 10 → (∀ j, j < i → I 18 j = x1) → (∀ a j, a ≠ 18 → I a j = I0 a j) → sm_wp sm_P S d 306 1 [.ref 18, .int x1, .int x2, .int (Int32.ofNat 10)] [] (xLay, I, L, kQ12 R) (0, 0) Φ := by
  have cn : (Int32.ofNat 10).toInt = 10 := by decide
  intro m
  induction m with
  | zero =>
    intro i I x2 hx hm h1 h2
    refine s12f18_J7_fill_53178_1 ⟨fun _ => h I (fun j hj => h1 j (by omega)) h2, fun a => ?_⟩
    have := kl_nle a
    omega
  | succ m ih =>
    intro i I x2 hx hm h1 h2
    have nn := tk_nat hx
    have s := ml_in1 (x := x2) (by omega)
    refine s12f18_J7_fill_53178_1 ⟨fun a => ?_, fun _ => ⟨kl_in (by omega) (by omega), fun I1 e1 => ?_⟩⟩
    · have := kl_le.mp a
      omega
    · rw [nn] at e1
      refine ih (i + 1) I1 _ (by omega) (by omega) (fun j hj => ?_) (fun a j ha => ?_)
      · by_cases c : j = i
        · subst c; rw [e1, en_up_eq]
        · rw [e1, en_up_ne _ _ _ _ (by omega)]; exact h1 j (by omega)
      · rw [e1, en_up_ne _ _ _ _ (by omega)]; exact h2 a j ha
theorem k12_f18 {x1 : Int32} (h : ∀ J : sm_I, (∀ j, j < 10 → J 18 j = x1) → (∀ a j, a ≠ 18 → J a j = I a j) → Φ (none, (xLay, J, L, kQ12 R))) : sm_wp sm_P S d 306 0 [.ref 18, .int x1] [] (xLay, I, L, kQ12 R) (0, 0) Φ := s12f18_J7_fill_53178_0 (k12_f18a h 10 0 I 0 (by decide) (by decide) (fun j hj => absurd hj (Nat.not_lt_zero j)) (fun _ _ _ => rfl))
theorem k12_f21a {I0 : sm_I} {x1 : Int32} (h : ∀ J : sm_I, (∀ j, j < 10 → J 21 j = x1) → (∀ a j, a ≠ 21 → J a j = I0 a j) → Φ (none, (xLay, J, L, kQ12 R))) : ∀ (m i : Nat) (I : sm_I) (x2 : Int32), x2.toInt = i → i + m = 10 → (∀ j, j < i → I 21 j = x1) → (∀ a j, a ≠ 21 → I a j = I0 a j) → sm_wp sm_P S d 306 1 [.ref 21, .int x1, .int x2, .int (Int32.ofNat 10)] [] (xLay, I, L, kQ12 R) (0, 0) Φ := by
  have cn : (Int32.ofNat 10).toInt = 10 := by decide
  intro m
  induction m with
  | zero =>
    intro i I x2 hx hm h1 h2
    refine s12f21_J7_fill_53178_1 ⟨fun _ => h I (fun j hj => h1 j (by omega)) h2, fun a => ?_⟩
    have := kl_nle a
    omega
  | succ m ih =>
    intro i I x2 hx hm h1 h2
    have nn := tk_nat hx
    have s := ml_in1 (x := x2) (by omega)
    refine s12f21_J7_fill_53178_1 ⟨fun a => ?_, fun _ => ⟨kl_in (by omega) (by omega), fun I1 e1 => ?_⟩⟩
    · have := kl_le.mp a
      omega
    · rw [nn] at e1
      refine ih (i + 1) I1 _ (by omega) (by omega) (fun j hj => ?_) (fun a j ha => ?_)
      · by_cases c : j = i
        · subst c; rw [e1, en_up_eq]
        · rw [e1, en_up_ne _ _ _ _ (by omega)]; exact h1 j (by omega)
      · rw [e1, en_up_ne _ _ _ _ (by omega)]; exact h2 a j ha
theorem k12_f21 {x1 : Int32} (h : ∀ J : sm_I, (∀ j, j < 10 → J 21 j = x1) → (∀ a j, a ≠ 21 → J a j = I a j) → Φ (none, (xLay, J, L, kQ12 R))) : sm_wp sm_P S d 306 0 [.ref 21, .int x1] [] (xLay, I, L, kQ12 R) (0, 0) Φ := s12f21_J7_fill_53178_0 (k12_f21a h 10 0 I 0 (by decide) (by decide) (fun j hj => absurd hj (Nat.not_lt_zero j)) (fun _ _ _ => rfl))
theorem k12_f22a {I0 : sm_I} {x1 : Int32} (h : ∀ J : sm_I, (∀ j, j < 10 → J 22 j = x1) → (∀ a j, a ≠ 22 → J a j = I0 a j) → Φ (none, (xLay, J, L, kQ12 R))) : ∀ (m i : Nat) (I : sm_I) (x2 : Int32), x2.toInt = i → i + m = 10 → (∀ j, j < i → I 22 j = x1) → (∀ a j, a ≠ 22 → I a j = I0 a j) → sm_wp sm_P S d 306 1 [.ref 22, .int x1, .int x2, .int (Int32.ofNat 10)] [] (xLay, I, L, kQ12 R) (0, 0) Φ := by
  have cn : (Int32.ofNat 10).toInt = 10 := by decide
  intro m
  induction m with
  | zero =>
    intro i I x2 hx hm h1 h2
    refine s12f22_J7_fill_53178_1 ⟨fun _ => h I (fun j hj => h1 j (by omega)) h2, fun a => ?_⟩
    have := kl_nle a
    omega
  | succ m ih =>
    intro i I x2 hx hm h1 h2
    have nn := tk_nat hx
    have s := ml_in1 (x := x2) (by omega)
    refine s12f22_J7_fill_53178_1 ⟨fun a => ?_, fun _ => ⟨kl_in (by omega) (by omega), fun I1 e1 => ?_⟩⟩
    · have := kl_le.mp a
      omega
    · rw [nn] at e1
      refine ih (i + 1) I1 _ (by omega) (by omega) (fun j hj => ?_) (fun a j ha => ?_)
      · by_cases c : j = i
        · subst c; rw [e1, en_up_eq]
        · rw [e1, en_up_ne _ _ _ _ (by omega)]; exact h1 j (by omega)
      · rw [e1, en_up_ne _ _ _ _ (by omega)]; exact h2 a j ha
theorem k12_f22 {x1 : Int32} (h : ∀ J : sm_I, (∀ j, j < 10 → J 22 j = x1) → (∀ a j, a ≠ 22 → J a j = I a j) → Φ (none, (xLay, J, L, kQ12 R))) : sm_wp sm_P S d 306 0 [.ref 22, .int x1] [] (xLay, I, L, kQ12 R) (0, 0) Φ := s12f22_J7_fill_53178_0 (k12_f22a h 10 0 I 0 (by decide) (by decide) (fun j hj => absurd hj (Nat.not_lt_zero j)) (fun _ _ _ => rfl))
theorem k12_f23a {I0 : sm_I} {x1 : Int32} (h : ∀ J : sm_I, (∀ j, j < 40 → J 23 j = x1) → (∀ a j, a ≠ 23 → J a j = I0 a j) → Φ (none, (xLay, J, L, kQ12 R))) : ∀ (m i : Nat) (I : sm_I) (x2 : Int32), x2.toInt = i → i + m = 40 → (∀ j, j < i → I 23 j = x1) → (∀ a j, a ≠ 23 → I a j = I0 a j) → sm_wp sm_P S d 306 1 [.ref 23, .int x1, .int x2, .int (Int32.ofNat 40)] [] (xLay, I, L, kQ12 R) (0, 0) Φ := by
  have cn : (Int32.ofNat 40).toInt = 40 := by decide
  intro m
  induction m with
  | zero =>
    intro i I x2 hx hm h1 h2
    refine s12f23_J7_fill_53178_1 ⟨fun _ => h I (fun j hj => h1 j (by omega)) h2, fun a => ?_⟩
    have := kl_nle a
    omega
  | succ m ih =>
    intro i I x2 hx hm h1 h2
    have nn := tk_nat hx
    have s := ml_in1 (x := x2) (by omega)
    refine s12f23_J7_fill_53178_1 ⟨fun a => ?_, fun _ => ⟨kl_in (by omega) (by omega), fun I1 e1 => ?_⟩⟩
    · have := kl_le.mp a
      omega
    · rw [nn] at e1
      refine ih (i + 1) I1 _ (by omega) (by omega) (fun j hj => ?_) (fun a j ha => ?_)
      · by_cases c : j = i
        · subst c; rw [e1, en_up_eq]
        · rw [e1, en_up_ne _ _ _ _ (by omega)]; exact h1 j (by omega)
      · rw [e1, en_up_ne _ _ _ _ (by omega)]; exact h2 a j ha
theorem k12_f23 {x1 : Int32} (h : ∀ J : sm_I, (∀ j, j < 40 → J 23 j = x1) → (∀ a j, a ≠ 23 → J a j = I a j) → Φ (none, (xLay, J, L, kQ12 R))) : sm_wp sm_P S d 306 0 [.ref 23, .int x1] [] (xLay, I, L, kQ12 R) (0, 0) Φ := s12f23_J7_fill_53178_0 (k12_f23a h 40 0 I 0 (by decide) (by decide) (fun j hj => absurd hj (Nat.not_lt_zero j)) (fun _ _ _ => rfl))
/-- what is told when nothing is told yet -/
def c120 (J : sm_I) : Prop := (∀ j, j < 5 → J 12 j = 0) ∧ J 12 6 = 0 ∧ (∀ i, i < 10 → J 14 i = -1 ∧ J 15 i = -1 ∧ J 18 i = -1 ∧ J 21 i = 1) ∧ (∀ i, i < 40 → J 23 i = 0) ∧ ∀ i, i < 36 → J 13 i = if i % 7 = 0 then 0 else -2
theorem k12_clear1 {I0 : sm_I} (h : ∀ J : sm_I, c120 J → (∀ p j, p < 12 → J p j = I0 p j) → Φ (none, (xLay, J, L, kQ12 R))) : ∀ (m i : Nat) (I : sm_I) (x1 : Int32), x1.toInt = i → i + m = 6 → (∀ j, j < 5 → I 12 j = 0) → I 12 6 = 0 → (∀ p j, p < 12 → I p j = I0 p j) → (∀ j, j < 36 → I 13 j = if j % 7 = 0 ∧ j < 7 * i then 0 else -2) → sm_wp sm_P S (d + 1) 16 1 [.ref 12, .int x1] [] (xLay, I, L, kQ12 R) (0, 0) Φ := by
  have c6 : (6 : Int32).toInt = 6 := by decide
  intro m
  induction m with
  | zero =>
    intro i I x1 hx hm a1 a2 a3 a4
    refine s12_X10_clear_1 ⟨fun _ => ?_, fun q => ?_⟩
    · refine k12_f14 (fun J1 b1 o1 => ⟨J1, L, rfl, k12_f15 (fun J2 b2 o2 => ⟨J2, L, rfl, k12_f18 (fun J3 b3 o3 => ⟨J3, L, rfl, k12_f21 (fun J4 b4 o4 => ⟨J4, L, rfl, k12_f22 (fun J5 b5 o5 => ⟨J5, L, rfl, k12_f23 (fun J6 b6 o6 => ⟨J6, L, rfl, h J6 ⟨fun j hj => ?_, ?_, fun k hk => ⟨?_, ?_, ?_, ?_⟩, b6, fun j hj => ?_⟩ (fun p j hp => ?_)⟩)⟩)⟩)⟩)⟩)⟩)
      · rw [o6 _ _ (by decide), o5 _ _ (by decide), o4 _ _ (by decide), o3 _ _ (by decide), o2 _ _ (by decide), o1 _ _ (by decide)]; exact a1 j hj
      · rw [o6 _ _ (by decide), o5 _ _ (by decide), o4 _ _ (by decide), o3 _ _ (by decide), o2 _ _ (by decide), o1 _ _ (by decide)]; exact a2
      · rw [o6 _ _ (by decide), o5 _ _ (by decide), o4 _ _ (by decide), o3 _ _ (by decide), o2 _ _ (by decide)]; exact b1 k hk
      · rw [o6 _ _ (by decide), o5 _ _ (by decide), o4 _ _ (by decide), o3 _ _ (by decide)]; exact b2 k hk
      · rw [o6 _ _ (by decide), o5 _ _ (by decide), o4 _ _ (by decide)]; exact b3 k hk
      · rw [o6 _ _ (by decide), o5 _ _ (by decide)]; exact b4 k hk
      · rw [o6 _ _ (by decide), o5 _ _ (by decide), o4 _ _ (by decide), o3 _ _ (by decide), o2 _ _ (by decide), o1 _ _ (by decide), a4 j hj]
        by_cases c : j % 7 = 0
        · rw [if_pos ⟨c, by omega⟩, if_pos c]
        · rw [if_neg (fun q => c q.1), if_neg c]
      · rw [o6 _ _ (by omega), o5 _ _ (by omega), o4 _ _ (by omega), o3 _ _ (by omega), o2 _ _ (by omega), o1 _ _ (by omega)]; exact a3 p j hp
    · have := kl_nle q
      omega
  | succ m ih =>
    intro i I x1 hx hm a1 a2 a3 a4
    have s1 := ml_in1 (x := x1) (by omega)
    have m6 : (x1 * 6).toInt = (i : Int) * 6 := ml_mu hx c6 (by omega) (by omega)
    have s7 : (x1 * 6 + x1).toInt = ((7 * i : Nat) : Int) := (ml_ad m6 hx (by omega) (by omega)).trans (by omega)
    have n7 := tk_nat s7
    refine s12_X10_clear_1 ⟨fun q => ?_, fun _ => ⟨kl_in (by omega) (by omega), fun I2 e2 => ?_⟩⟩
    · have := kl_le.mp q
      omega
    · rw [n7] at e2
      have o2 : ∀ p j, ¬ (p = 13 ∧ j = 7 * i) → I2 p j = I p j := fun p j hp => by rw [e2, en_up_ne _ _ _ _ hp]
      refine ih (i + 1) I2 _ (by omega) (by omega) (fun j hj => by rw [o2 _ _ (by omega)]; exact a1 j hj) (by rw [o2 _ _ (by omega)]; exact a2) (fun p j hp => by rw [o2 _ _ (by omega)]; exact a3 p j hp) (fun j hj => ?_)
      by_cases cj : j = 7 * i
      · rw [cj, e2, en_up_eq, if_pos ⟨by omega, by omega⟩]
      · rw [o2 _ _ (by omega), a4 j hj]
        by_cases c : j % 7 = 0 ∧ j < 7 * i
        · rw [if_pos c, if_pos ⟨c.1, by omega⟩]
        · rw [if_neg c, if_neg (fun q => c ⟨q.1, by have := q.1; have := q.2; omega⟩)]
theorem k12_clear (h : ∀ J : sm_I, c120 J → (∀ p j, p < 12 → J p j = I p j) → Φ (none, (xLay, J, L, kQ12 R))) : sm_wp sm_P S (d + 1) 16 0 [.ref 12] [] (xLay, I, L, kQ12 R) (0, 0) Φ := by
  refine s12_X10_clear_0 (fun I1 e1 I2 e2 I3 e3 => k12_f13 (fun J b o => ⟨J, L, rfl, k12_clear1 (I0 := I) h 6 0 J 0 (by decide) (by decide) (fun j hj => ?_) ?_ (fun p j hp => ?_) (fun j hj => ?_)⟩))
  · rw [o _ _ (by decide), en_up_ne _ _ _ _ (by omega), e3]
    match j, hj with
    | 0, _ => rw [en_up_ne _ _ _ _ (by omega), en_up_ne _ _ _ _ (by omega), e2, en_up_ne _ _ _ _ (by omega), en_up_ne _ _ _ _ (by omega), e1, en_up_ne _ _ _ _ (by omega), en_up_eq]
    | 1, _ => rw [en_up_ne _ _ _ _ (by omega), en_up_ne _ _ _ _ (by omega), e2, en_up_ne _ _ _ _ (by omega), en_up_ne _ _ _ _ (by omega), e1, en_up_eq]
    | 2, _ => rw [en_up_ne _ _ _ _ (by omega), en_up_ne _ _ _ _ (by omega), e2, en_up_ne _ _ _ _ (by omega), en_up_eq]
    | 3, _ => rw [en_up_ne _ _ _ _ (by omega), en_up_ne _ _ _ _ (by omega), e2, en_up_eq]
    | 4, _ => rw [en_up_ne _ _ _ _ (by omega), en_up_eq]
    | j + 5, hj => omega
  · rw [o _ _ (by decide), en_up_eq]
  · rw [o _ _ (by omega), en_up_ne _ _ _ _ (by omega), e3, en_up_ne _ _ _ _ (by omega), en_up_ne _ _ _ _ (by omega), e2, en_up_ne _ _ _ _ (by omega), en_up_ne _ _ _ _ (by omega), e1, en_up_ne _ _ _ _ (by omega), en_up_ne _ _ _ _ (by omega)]
  · rw [b j hj, if_neg (by omega)]
theorem k12_scan {x2 : Int32} {n : Nat} (hn : n ≤ 2000) (h2 : x2.toInt = n) (h : ∀ (c : Nat) (J : sm_I) (K : sm_L), c ≤ 501 → (J 3 3).toInt = c → tk_rows (I 1) n c J K → J 4 c = 21 → (J 5 c).toInt = n → (c ≤ 500 → tk_at (I 1) n c = n) → ks_fr I J L K → Φ (none, (xLay, J, K, kQ12 R))) : sm_wp sm_P S (d + 3) 301 0 [.ref 3, .ref 1, .int x2] [] (xLay, I, L, kQ12 R) (0, 0) Φ := by
  have q := ks_scan (S := S) (d := d) (q := 12) (Φ := Φ) (I := I) (L := L) (R := kQ12 R) hn h2 (by rw [kT_Q12]; exact h)
  rw [kT_Q12] at q
  exact q
theorem k12_syn {K : Nat → Int32} {c : Nat} (hc : (I 3 3).toInt = c) (c5 : c ≤ 501) (hK : ∀ i, i ≤ c → i ≤ 500 → I 4 i = K i) (hE : c ≤ 500 → K c = 21) (hN : ∀ i, i < c → K i ≠ 21) (h : ∀ (r : Int32) (J : sm_I), (∀ a j, a ≠ 7 → a ≠ 8 → ¬ (a = 2 ∧ j = 11) → J a j = I a j) → (SY K 501 0 0 gc0 = none → r = 0) → (∀ f j, SY K 501 0 0 gc0 = some (f, j) → r = f ∧ f ≠ 0 ∧ J 2 11 = I 5 j ∧ j ≤ 500) → Φ (some (.int r), (xLay, J, L, kQ12 R))) : sm_wp sm_P S (d + 2) 277 0 [.ref 2] [] (xLay, I, L, kQ12 R) (0, 0) Φ := by
  have q := ks_syn (S := S) (d := d) (q := 12) (Φ := Φ) (I := I) (L := L) (R := kQ12 R) hc c5 hK hE hN (by rw [kT_Q12]; exact h)
  rw [kT_Q12] at q
  exact q
/-- the pure machine's memory, as the class's stands -/
def k12_a (I : sm_I) (L : sm_L) : sg := (fun c j => if 12 ≤ c then I (c + (12 - 12)) j else I c j, fun j => L 9 j)
theorem k12_kr : kr 12 (k12_a I L) I L := ⟨fun _ _ => rfl, fun _ => rfl, fun _ => rfl, fun c j h1 h2 => by show _ = (if 12 ≤ c then I (c + (12 - 12)) j else I c j); rw [if_pos h1], fun _ => rfl⟩
theorem k12_ini (h : c120 I) (h5 : I 2 5 = 0) : ini (k12_a I L) := ⟨h5, h.1, h.2.1, h.2.2.1, h.2.2.2.1, h.2.2.2.2⟩
theorem k12_readTape {x2 : Int32} {n : Nat} (hn : n ≤ 2000) (h2 : x2.toInt = n) (hm : en_mem kl_tb klX (xLay, I, L, kQ12 R)) (h : ∀ (r : Int32) (J : sm_I) (L' : sm_L) (R' : sm_R) (a0 : sg), RDk (I 1) n a0 r J → RDt 12 (I 1) n a0 I J → Φ (some (.int r), (xLay, J, L', kQ12 R'))) : sm_wp sm_P S (d + 6) 276 0 [.ref 2, .ref 1, .int x2] [] (xLay, I, L, kQ12 R) (0, 0) Φ := by
  refine s12x_X7_readTape_0 ?_
  -- clear
  have A1 := klh_54 (Sc := S) (d + 5) (by show 1 ≤ d + 5; omega) [.ref 12] (xLay, I, L, kQ12 R) ⟨⟨rfl, rfl⟩, trivial⟩ hm ml_pf0
  have B1 : sm_wp sm_P S (d + 5) 16 0 [.ref 12] [] (xLay, I, L, kQ12 R) (0, 0) (fun z => ∃ J : sm_I, z = (none, (xLay, J, L, kQ12 R)) ∧ c120 J ∧ ∀ p j, p < 12 → J p j = I p j) := k12_clear (fun J a b => ⟨J, rfl, a, b⟩)
  refine sm_wp_mono (sm_wp_and A1 B1) (fun z hz => ?_)
  obtain ⟨⟨-, m1, f1⟩, J1, ez, c1, o1⟩ := hz
  subst ez
  have k1 : ko 12 I J1 := fun c j p1 p2 => (f1.2 c j (lw_rg (Q := 12) (by decide +kernel) p2)).1
  have m1 : en_mem kl_tb klX (xLay, J1, L, kQ12 R) := m1
  refine ⟨J1, L, rfl, ?_⟩
  have m2 : en_mem kl_tb klX (xLay, sm_up J1 2 5 0, L, kQ12 R) := kx_wr m1 (by decide +kernel) (fun q hq => by
    rw [show en_int kl_tb 2 5 = some (0, 35) from by decide +kernel] at hq
    rw [← Option.some.inj hq]; decide)
  have e1 : sm_up J1 2 5 0 1 = I 1 := funext (fun j => by rw [en_up_ne _ _ _ _ (by omega)]; exact o1 1 j (by decide))
  -- the TOKENS
  have A2 := klh_197 (Sc := S) (d + 5) (by show 3 ≤ d + 5; omega) [.ref 3, .ref 1, .int x2] (xLay, sm_up J1 2 5 0, L, kQ12 R) ⟨⟨rfl, rfl⟩, ⟨rfl, rfl⟩, ⟨rfl, by show (0 : Int) ≤ _; omega, by show _ ≤ (2000 : Int); omega⟩, trivial⟩ m2 ml_pf0
  have B2 : sm_wp sm_P S (d + 5) 301 0 [.ref 3, .ref 1, .int x2] [] (xLay, sm_up J1 2 5 0, L, kQ12 R) (0, 0) (fun z => ∃ (c : Nat) (J : sm_I) (K : sm_L), z = (none, (xLay, J, K, kQ12 R)) ∧ c ≤ 501 ∧ (J 3 3).toInt = c ∧ tk_rows (I 1) n c J K ∧ J 4 c = 21 ∧ (J 5 c).toInt = n ∧ (c ≤ 500 → tk_at (I 1) n c = n) ∧ ks_fr (sm_up J1 2 5 0) J L K) := k12_scan (d := d + 2) hn h2 (fun c J K q1 q2 q3 q4 q5 q6 q7 => ⟨c, J, K, rfl, q1, q2, by rw [← e1]; exact q3, q4, q5, by rw [← e1]; exact q6, q7⟩)
  refine sm_wp_mono (sm_wp_and A2 B2) (fun z hz => ?_)
  obtain ⟨⟨-, m3, -⟩, c, J3, K3, ez, c5, h33, hr, h21, h5c, hend, hfr⟩ := hz
  subst ez
  have m3 : en_mem kl_tb klX (xLay, J3, K3, kQ12 R) := m3
  refine ⟨J3, K3, rfl, ?_⟩
  obtain ⟨hK, hE⟩ := tk_rK c5 hr h21 hend
  have hN : ∀ i, i < c → tk_K (I 1) n i ≠ 21 := fun i hi q => by
    have := tk_K_21.mp q
    have := (hr i hi).1
    omega
  have pl : ∀ j, j ≤ c → (c = 501 → j ≤ 500) → (J3 5 j).toInt = tk_at (I 1) n j := fun j hj h5 => by
    rcases Nat.lt_or_ge j c with q | q
    · exact (hr j q).2.2.1
    · have e : j = c := by omega
      subst e
      rw [h5c, hend (by omega)]
  -- the grammar
  have A3 := klh_188 (Sc := S) (d + 5) (by show 2 ≤ d + 5; omega) [.ref 2] (xLay, J3, K3, kQ12 R) ⟨⟨rfl, rfl⟩, trivial⟩ m3 ml_pf0
  have B3 : sm_wp sm_P S (d + 5) 277 0 [.ref 2] [] (xLay, J3, K3, kQ12 R) (0, 0) (fun z => ∃ (r : Int32) (J : sm_I), z = (some (.int r), (xLay, J, K3, kQ12 R)) ∧ (∀ a j, a ≠ 7 → a ≠ 8 → ¬ (a = 2 ∧ j = 11) → J a j = J3 a j) ∧ (SY (tk_K (I 1) n) 501 0 0 gc0 = none → r = 0) ∧ ∀ f j, SY (tk_K (I 1) n) 501 0 0 gc0 = some (f, j) → r = f ∧ f ≠ 0 ∧ J 2 11 = J3 5 j ∧ j ≤ 500) := k12_syn (d := d + 3) h33 c5 hK hE hN (fun r J q1 q2 q3 => ⟨r, J, rfl, q1, q2, q3⟩)
  refine sm_wp_mono (sm_wp_and A3 B3) (fun z hz => ?_)
  obtain ⟨⟨-, m4, -⟩, r9, J4, ez, o4, s0, s1⟩ := hz
  subst ez
  have m4 : en_mem kl_tb klX (xLay, J4, K3, kQ12 R) := m4
  refine ⟨r9, J4, K3, rfl, ?_⟩
  -- what is told yet: nothing
  have tld : ∀ p j, 12 ≤ p → J4 p j = J1 p j := fun p j hp => by rw [o4 p j (by omega) (by omega) (by omega), hfr.1 p j (by omega) (by omega) (by omega), en_up_ne _ _ _ _ (by omega)]
  have k4 : ko 12 I J4 := fun c j p1 p2 => by rw [tld c j p1]; exact k1 c j p1 p2
  have c4 : c120 J4 := by
    obtain ⟨q1, q2, q3, q4, q5⟩ := c1
    refine ⟨fun j hj => by rw [tld _ _ (by decide)]; exact q1 j hj, by rw [tld _ _ (by decide)]; exact q2, fun i hi => ?_, fun i hi => by rw [tld _ _ (by decide)]; exact q4 i hi, fun i hi => by rw [tld _ _ (by decide)]; exact q5 i hi⟩
    rw [tld _ _ (by decide), tld _ _ (by decide), tld _ _ (by decide), tld _ _ (by decide)]; exact q3 i hi
  have z5 : J4 2 5 = 0 := by rw [o4 2 5 (by decide) (by decide) (by omega), hfr.1 2 5 (by decide) (by decide) (by omega), en_up_eq]
  have hini : ini (k12_a J4 K3) := k12_ini c4 z5
  have bad : ∀ f j, SY (tk_K (I 1) n) 501 0 0 gc0 = some (f, j) → r9 = f ∧ f ≠ 0 ∧ (J4 2 11).toInt = tk_at (I 1) n j := fun f j q => by
    obtain ⟨w1, w2, w3, w4⟩ := s1 f j q
    refine ⟨w1, w2, ?_⟩
    rw [w3]
    refine pl j ?_ (fun _ => w4)
    by_cases c501 : c = 501
    · omega
    · exact SY_le (hE (by omega)) 501 0 0 gc0 (Nat.zero_le _) f j q
  refine ⟨fun r0 => ?_, fun r0 => ⟨fun q => absurd q r0, fun _ => h r9 J4 K3 R (k12_a J4 K3) ⟨hini, bad, fun q => absurd (s0 q) r0⟩ ⟨k4, fun q => absurd (s0 q) r0⟩⟩⟩
  have sn : SY (tk_K (I 1) n) 501 0 0 gc0 = none := by
    cases e : SY (tk_K (I 1) n) 501 0 0 gc0 with
    | none => rfl
    | some q =>
      obtain ⟨f, j⟩ := q
      obtain ⟨w1, w2, -⟩ := s1 f j e
      rw [r0] at w1
      exact absurd w1.symm w2
  have c500 : c ≤ 500 := by
    obtain ⟨c', -, q⟩ := SY_c 501 0 0 gc0 (by decide) sn
    rcases q with ⟨q1, q2⟩ | ⟨-, q2⟩
    · rcases Nat.lt_or_ge c' c with y | y
      · exact absurd q2 (hN c' y)
      · omega
    · omega
  have kin : ∀ i, 0 ≤ (tk_K (I 1) n i).toInt ∧ (tk_K (I 1) n i).toInt ≤ 21 := fun i => (TS_of c5 (fun i hi => (hr i hi).1) hend).2.1 i
  have A4 := klh_187 (Sc := S) (d + 5) (by show 5 ≤ d + 5; omega) [.ref 2] (xLay, J4, K3, kQ12 R) ⟨⟨rfl, rfl⟩, trivial⟩ m4 ml_pf0
  have B4 : sm_wp sm_P S (d + 5) 274 0 [.ref 2] [] (xLay, J4, K3, kQ12 R) (0, 0) (fun z => ∃ (r : Int32) (J : sm_I) (L' : sm_L), z = (some (.int r), (xLay, J, L', kQ12 R)) ∧ ((ME (tk_K (I 1) n) (fun i => tk_vl (I 1) n (tk_at (I 1) n i)) 501 0 0 (k12_a J4 K3)).1 = none → r = 0 ∧ kr 12 (ME (tk_K (I 1) n) (fun i => tk_vl (I 1) n (tk_at (I 1) n i)) 501 0 0 (k12_a J4 K3)).2 J L') ∧ (∀ f j, (ME (tk_K (I 1) n) (fun i => tk_vl (I 1) n (tk_at (I 1) n i)) 501 0 0 (k12_a J4 K3)).1 = some (f, j) → r = f ∧ f ≠ 0 ∧ J 2 11 = J4 5 j ∧ j < c) ∧ ko 12 J4 J) := k12_mean (a := k12_a J4 K3) (K := tk_K (I 1) n) (V := fun i => tk_vl (I 1) n (tk_at (I 1) n i)) (by rw [o4 3 3 (by decide) (by decide) (by omega)]; exact h33) c500 (fun i hi => by rw [o4 4 i (by decide) (by decide) (by omega)]; exact hK i (by omega) (by omega)) (fun i hi => (hr i hi).2.2.2) kin (hE c500) hN m4 k12_kr (fun r21 J5 L5 q1 q2 q3 => ⟨r21, J5, L5, rfl, q1, q2, q3⟩)
  refine sm_wp_mono (sm_wp_and A4 B4) (fun z hz => ?_)
  obtain ⟨⟨-, m5, -⟩, r21, J5, L5, ez, q1, q2, q3⟩ := hz
  subst ez
  have k5 : ko 12 I J5 := fun c j p1 p2 => by rw [q3 c j p1 p2]; exact k4 c j p1 p2
  have m5 : en_mem kl_tb klX (xLay, J5, L5, kQ12 R) := m5
  refine ⟨r21, J5, L5, rfl, fun r21z => ?_, fun r21z => ?_⟩
  · have mn : (ME (tk_K (I 1) n) (fun i => tk_vl (I 1) n (tk_at (I 1) n i)) 501 0 0 (k12_a J4 K3)).1 = none := by
      cases e : (ME (tk_K (I 1) n) (fun i => tk_vl (I 1) n (tk_at (I 1) n i)) 501 0 0 (k12_a J4 K3)).1 with
      | none => rfl
      | some q =>
        obtain ⟨f, j⟩ := q
        obtain ⟨w1, w2, -⟩ := q2 f j e
        rw [r21z] at w1
        exact absurd w1.symm w2
    have fin : ∀ J' L' R', RDt 12 (I 1) n (k12_a J4 K3) I J' → Φ (some (.int r21), (xLay, J', L', kQ12 R')) := (fun J' L' R' hT => h r21 J' L' R' (k12_a J4 K3) ⟨hini, fun f j q => (by rw [sn] at q; cases q), fun _ => ⟨fun f j q => (by rw [mn] at q; cases q), fun _ => r21z⟩⟩ hT)
    obtain ⟨M, eM⟩ : ∃ M, M = (ME (tk_K (I 1) n) (fun i => tk_vl (I 1) n (tk_at (I 1) n i)) 501 0 0 (k12_a J4 K3)).2 := ⟨_, rfl⟩
    obtain ⟨s', hn, ht, -⟩ := ME_wi (V := fun i => tk_vl (I 1) n (tk_at (I 1) n i)) (tk_V (b := I 1) (n := n)) 501 0 0 (k12_a J4 K3) (WI_0 hini) mn
    rw [← eM] at hn ht
    have kc : ∀ c j, 12 ≤ c → c < 49 → J5 (c + (12 - 12)) j = M.1 c j := fun c j p1 p2 => by rw [eM]; exact (q1 mn).2.2.2.2.1 c j p1 p2
    have k13 : J5 13 = M.1 13 := funext (fun j => kc 13 j (by decide) (by decide))
    have p0 := kl_nat hn.1.1
    have p6 := hn.1.2
    have A5 := klh_67 (Sc := S) (d + 5) (by show 1 ≤ d + 5; omega) [.ref 12] (xLay, J5, L5, kQ12 R) ⟨⟨rfl, rfl⟩, trivial⟩ m5 ml_pf0
    have B5 : sm_wp sm_P S (d + 4 + 1) 18 0 [.ref 12] [] (xLay, J5, L5, kQ12 R) (0, 0) (fun z => w12ok z.2.2.1 ∧ ∀ i, i < 36 → nv (z.2.2.1 13 i) = Ft (M.1 12 1).toNatClampNeg (fun i => nv (M.1 13 i)) i) := by
      refine w12_walks (p := (M.1 12 1).toNatClampNeg) (by omega) ?_ (fun i hi => ?_) ?_ ?_ (fun J a b _ => ⟨a, fun i hi => by rw [b i hi, k13]⟩)
      · rw [show J5 12 1 = M.1 12 1 from kc 12 1 (by decide) (by decide)]; omega
      · rw [k13]
        rcases ht.2.2.2 i hi with c | c
        · exact Or.inl c
        · exact Or.inr c.1
      · rw [k13]; exact wt_WB ht
      · rw [k13]; exact wt_WS hn ht
    refine sm_wp_mono (sm_wp_and A5 B5) (fun z hz => ?_)
    obtain ⟨⟨pr6, m6, f6⟩, ok6, w6⟩ := hz
    obtain ⟨o6, lay6, J6, L6, R6⟩ := z
    have ok6 : w12ok J6 := ok6
    have w6 : ∀ i, i < 36 → nv (J6 13 i) = Ft (M.1 12 1).toNatClampNeg (fun i => nv (M.1 13 i)) i := w6
    obtain rfl : lay6 = xLay := m6.2.2.2.2.1
    obtain rfl : o6 = none := kpr9 pr6
    have e6 : kQ12 R6 = R6 := kQ12_eq m6 (by rw [(f6.2 2 6 (by decide +kernel)).2]; rfl)
    refine ⟨J6, L6, R6, by rw [e6], ?_⟩
    have A6 := klh_64 (Sc := S) (d + 5) (by show 1 ≤ d + 5; omega) [.ref 12] (xLay, J6, L6, R6) ⟨⟨rfl, rfl⟩, trivial⟩ m6 ml_pf0
    have g6 : ∀ c j, 12 ≤ c → c < 49 → c ≠ 13 → J6 (c + (12 - 12)) j = M.1 c j := fun c j p1 p2 p3 => by
      have w6 : en_wok [(13, [])] (c + (12 - 12)) j = false := lw_rv (Q := 12 - 12) p3
      rw [show J6 (c + (12 - 12)) j = J5 (c + (12 - 12)) j from (f6.2 _ j w6).1]
      exact kc c j p1 p2
    have t14 : J6 14 = M.1 14 := funext (fun j => g6 14 j (by decide) (by decide) (by decide))
    have t15 : J6 15 = M.1 15 := funext (fun j => g6 15 j (by decide) (by decide) (by decide))
    have t2 : J6 12 2 = M.1 12 2 := g6 12 2 (by decide) (by decide) (by decide)
    have b2 : 0 ≤ (J6 12 2).toInt ∧ (J6 12 2).toInt ≤ 10 := m6.2.1 12 2 (0, 10) (by decide +kernel)
    have n2 := kl_nat b2.1
    have mc6 : mc12 J6 = mvc (M.1 14) (M.1 15) := by unfold mc12; rw [t14, t15]
    have B6 : sm_wp sm_P S (d + 5) 17 0 [.ref 12] [] (xLay, J6, L6, R6) (0, 0) (fun z => bpA M → mv12 J6 z.2.2.1 (alst M)) := by
      by_cases bp : bpA M
      · have g := k12_moves (S := S) (d := d + 4) (L := L6) (R := R6) (I := J6) (T := (M.1 12 2).toNatClampNeg) (Φ := fun z => bpA M → mv12 J6 z.2.2.1 (alst M)) (by rw [← t2]; omega) (by rw [← t2]; omega) (fun i hi h14 => by
          rw [t14] at h14
          rw [t15]
          exact bp i (by rw [← t2]; rw [← t2] at hi; omega) h14) (fun J h _ => by
          rw [mc6] at h
          exact h)
        rw [e6] at g
        exact g
      · exact sm_wp_mono A6 (fun z _ q => absurd q bp)
    rw [e6]
    refine sm_wp_mono (sm_wp_and A6 B6) (fun z hz => ?_)
    obtain ⟨⟨pr7, m7, f7⟩, w7⟩ := hz
    obtain ⟨o7, lay7, J7, L7, R7⟩ := z
    have w7 : bpA M → mv12 J6 J7 (alst M) := w7
    obtain rfl : lay7 = xLay := m7.2.2.2.2.1
    obtain rfl : o7 = none := kpr9 pr7
    have e7 : kQ12 R7 = R7 := kQ12_eq m7 (by rw [(f7.2 2 6 (by decide +kernel)).2]; exact (f6.2 2 6 (by decide +kernel)).2.trans rfl)
    have s13 : J7 13 = J6 13 := funext (fun j => (f7.2 13 j rfl).1)
    refine ⟨J7, L7, R7, by rw [e7], fin J7 L7 R7 ⟨fun c j p1 p2 => ?_, fun _ _ => ⟨fun c j p1 p2 p3 p4 => ?_, ?_, fun i hi => ⟨?_, ?_⟩, fun bp => ?_⟩⟩⟩
    · have u7 : J7 c j = J6 c j := (f7.2 c j (lw_rg (Q := 12) (by decide +kernel) p2)).1
      have u6 : J6 c j = J5 c j := (f6.2 c j (lw_rg (Q := 12) (by decide +kernel) p2)).1
      rw [u7, u6]; exact k5 c j p1 p2
    · have v7 : en_wok [(12, [5]), (34, []), (35, []), (36, [])] (c + (12 - 12)) j = false := lw_rw (Q := 12 - 12) p2 p4
      have u7 : J7 (c + (12 - 12)) j = J6 (c + (12 - 12)) j := (f7.2 _ j v7).1
      rw [u7, ← eM]
      exact g6 c j p1 (by omega) p3
    · rw [← eM]; exact ⟨hn, ht⟩
    · show J7 13 i = -2 ∨ 0 ≤ (J7 13 i).toInt
      rw [s13]; exact ok6 i hi
    · show nv (J7 13 i) = _
      rw [s13, ← eM]; exact w6 i hi
    · rw [← eM] at bp ⊢
      obtain ⟨h1, h2, -⟩ := w7 bp
      refine ⟨h1, fun j hj => ?_⟩
      obtain ⟨r1, r2, r3⟩ := h2 j hj
      refine ⟨r1, r2, ?_⟩
      show J7 36 j = J7 13 _
      rw [s13, show J7 36 j = _ from r3, t15]
  · refine h r21 J5 L5 R (k12_a J4 K3) ⟨hini, fun f j q => (by rw [sn] at q; cases q), fun _ => ⟨fun f j q => ?_, fun q => absurd (q1 q).1 r21z⟩⟩ ⟨k5, fun _ q => absurd (q1 q).1 r21z⟩
    obtain ⟨w1, w2, w3, w4⟩ := q2 f j q
    refine ⟨w1, w2, ?_⟩
    rw [w3, o4 5 j (by decide) (by decide) (by omega)]
    exact pl j (by omega) (fun _ => by omega)
end
end
