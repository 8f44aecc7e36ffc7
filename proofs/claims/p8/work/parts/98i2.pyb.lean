/-! the small methods, exact: counts, held.clear, stale, doubt, set, more, fewer (wip/pe/mkpyb.py) -/
section
variable {S : sm_C} {d : Nat} {Φ : sm_Z → Prop} {I : sm_I} {L : sm_L} {R : sm_R} {q : Nat}
theorem kP_r : ∀ t, t ∈ kPl → en_refs kl_tb t.1 t.2.1 = [t.2.2] := by decide +kernel
theorem kP_eq {w : sm_W} (hm : en_mem kl_tb klX w) (h : w.2.2.2 0 9 = some q) : kP q w.2.2.2 = w.2.2.2 := by
  funext x j
  unfold kP
  split
  · next t ht =>
    have mem := List.mem_of_find?_eq_some ht
    have pr := List.find?_some ht
    obtain ⟨p1, p2⟩ := Bool.and_eq_true_iff.mp pr
    have e1 : t.1 = x := Nat.eq_of_beq_eq_true p1
    have e2 : t.2.1 = j := Nat.eq_of_beq_eq_true p2
    obtain ⟨a, g1, g2⟩ := hm.2.2.1 t.1 t.2.1 (by rw [kP_r t mem]; exact List.cons_ne_nil _ _)
    rw [kP_r t mem] at g1
    rw [← e1, ← e2, g2, List.mem_singleton.mp g1]
  · cases e : (Nat.beq x 0 && Nat.beq j 9) with
    | false => rfl
    | true =>
      obtain ⟨p1, p2⟩ := Bool.and_eq_true_iff.mp e
      rw [Nat.eq_of_beq_eq_true p1, Nat.eq_of_beq_eq_true p2]
      exact h.symm
theorem kp_inT (hq : q = 12 ∨ q = 49) {x : Int32} (h0 : ¬ (0 ≤ x.toInt ∧ x.toInt < (I q 2).toInt) → Φ (some (.int 0), (xLay, I, L, kP q R))) (h1 : 0 ≤ x.toInt → x.toInt < (I q 2).toInt → Φ (some (.int 1), (xLay, I, L, kP q R))) : sm_wp sm_P S d 63 0 [.ref 0, .int x] [] (xLay, I, L, kP q R) (0, 0) Φ := by
  have g : (x < 0 → Φ (some (.int (0 : Int32)), (xLay, I, L, (kP q R)))) ∧ (¬ x < 0 → (((I q 2) ≤ x → Φ (some (.int (0 : Int32)), (xLay, I, L, (kP q R)))) ∧ (¬ (I q 2) ≤ x → Φ (some (.int (1 : Int32)), (xLay, I, L, (kP q R)))))) := by
    refine ⟨fun a => h0 (fun c => ?_), fun a => ⟨fun b => h0 (fun c => ?_), fun b => h1 ?_ ?_⟩⟩
    · have a := kl_lt.mp a
      rw [kl_0] at a; omega
    · have b := kl_le.mp b
      omega
    · have a := kl_nlt a
      rw [kl_0] at a; exact a
    · exact kl_nle b
  rcases hq with e | e
  · subst e; exact p12_X11_isTime_0 g
  · subst e; exact p49_X11_isTime_0 g
theorem kp_inS (hq : q = 12 ∨ q = 49) {x : Int32} (h0 : ¬ (0 ≤ x.toInt ∧ x.toInt < (I q 3).toInt) → Φ (some (.int 0), (xLay, I, L, kP q R))) (h1 : 0 ≤ x.toInt → x.toInt < (I q 3).toInt → Φ (some (.int 1), (xLay, I, L, kP q R))) : sm_wp sm_P S d 62 0 [.ref 0, .int x] [] (xLay, I, L, kP q R) (0, 0) Φ := by
  have g : (x < 0 → Φ (some (.int (0 : Int32)), (xLay, I, L, (kP q R)))) ∧ (¬ x < 0 → (((I q 3) ≤ x → Φ (some (.int (0 : Int32)), (xLay, I, L, (kP q R)))) ∧ (¬ (I q 3) ≤ x → Φ (some (.int (1 : Int32)), (xLay, I, L, (kP q R)))))) := by
    refine ⟨fun a => h0 (fun c => ?_), fun a => ⟨fun b => h0 (fun c => ?_), fun b => h1 ?_ ?_⟩⟩
    · have a := kl_lt.mp a
      rw [kl_0] at a; omega
    · have b := kl_le.mp b
      omega
    · have a := kl_nlt a
      rw [kl_0] at a; exact a
    · exact kl_nle b
  rcases hq with e | e
  · subst e; exact p12_X11_isSaying_0 g
  · subst e; exact p49_X11_isSaying_0 g
theorem kp_isMin {x : Int32} (h0 : ¬ (0 ≤ x.toInt ∧ x.toInt ≤ 1440) → Φ (some (.int 0), (xLay, I, L, kP q R))) (h1 : 0 ≤ x.toInt → x.toInt ≤ 1440 → Φ (some (.int 1), (xLay, I, L, kP q R))) : sm_wp sm_P S d 58 0 [.int x] [] (xLay, I, L, kP q R) (0, 0) Φ := by
  have c : (1440 : Int32).toInt = 1440 := by decide
  refine p_X11_isMinute_0 ⟨fun a => h0 (fun c => ?_), fun a => ⟨fun b => h0 (fun c => ?_), fun b => h1 ?_ ?_⟩⟩
  · have a := kl_lt.mp a
    rw [kl_0] at a; omega
  · have b := kl_lt.mp b
    omega
  · have a := kl_nlt a
    rw [kl_0] at a; exact a
  · have b := kl_nlt b
    omega
theorem kp_isSay (hq : q = 12 ∨ q = 49) {x : Int32} (h0 : ¬ (0 ≤ x.toInt ∧ x.toInt < (I q 3).toInt) → Φ (some (.int 0), (xLay, I, L, kP q R))) (h1 : 0 ≤ x.toInt → x.toInt < (I q 3).toInt → ((I q 6) >>> (x &&& 31)) &&& (1 : Int32) = 0 → Φ (some (.int 1), (xLay, I, L, kP q R))) (h2 : 0 ≤ x.toInt → x.toInt < (I q 3).toInt → ¬ ((I q 6) >>> (x &&& 31)) &&& (1 : Int32) = 0 → Φ (some (.int 0), (xLay, I, L, kP q R))) : sm_wp sm_P S (d + 1) 61 0 [.ref 0, .int x] [] (xLay, I, L, kP q R) (0, 0) Φ := by
  have g := kp_inS (S := S) (d := d) (L := L) (R := R) hq (x := x) (Φ := fun z => ∃ (r3 : Int32) (I1 : sm_I) (L2 : sm_L), z = (some (.int r3), (xLay, I1, L2, (kP q R))) ∧ ((r3 = 0 → Φ (some (.int (0 : Int32)), (xLay, I1, L2, (kP q R)))) ∧ (¬ r3 = 0 → (((((I1 q 6) >>> (x &&& 31)) &&& (1 : Int32)) = 0 → Φ (some (.int (1 : Int32)), (xLay, I1, L2, (kP q R)))) ∧ (¬ (((I1 q 6) >>> (x &&& 31)) &&& (1 : Int32)) = 0 → Φ (some (.int (0 : Int32)), (xLay, I1, L2, (kP q R)))))))) (fun c => ⟨_, I, L, rfl, fun _ => h0 c, fun n => absurd rfl n⟩) (fun a b => ⟨_, I, L, rfl, fun z => absurd z (by decide), fun _ => ⟨fun e => h1 a b e, fun e => h2 a b e⟩⟩)
  rcases hq with e | e
  · subst e; exact p12_X11_isSay_0 g
  · subst e; exact p49_X11_isSay_0 g
/-- what was gone through is of no use any more: the class, the reference -/
def stI (I : sm_I) : sm_I := sm_up (sm_up (sm_up (sm_up (sm_up I 0 12 0) 0 13 0) 98 8 0) 103 5 0) 98 9 0
def chI (I : sm_I) : sm_I := sm_up (sm_up I 107 70 0) 107 79 0
theorem stI_ne {p j : Nat} (h : ¬ ((p = 0 ∧ (j = 12 ∨ j = 13)) ∨ (p = 98 ∧ (j = 8 ∨ j = 9)) ∨ (p = 103 ∧ j = 5))) : stI I p j = I p j := by
  unfold stI
  rw [en_up_ne _ _ _ _ (by omega), en_up_ne _ _ _ _ (by omega), en_up_ne _ _ _ _ (by omega), en_up_ne _ _ _ _ (by omega), en_up_ne _ _ _ _ (by omega)]
theorem chI_ne {p j : Nat} (h : ¬ (p = 107 ∧ (j = 70 ∨ j = 79))) : chI I p j = I p j := by
  unfold chI
  rw [en_up_ne _ _ _ _ (by omega), en_up_ne _ _ _ _ (by omega)]
theorem kp_stale (h : Φ (none, (xLay, stI I, L, kP q R))) : sm_wp sm_P S d 86 0 [.ref 0] [] (xLay, I, L, kP q R) (0, 0) Φ := p_X11_stale_0 (fun I1 e1 I2 e2 => by
  subst e1
  subst e2
  exact h)
theorem yp_changes (h : Φ (none, (xLay, chI I, L, kM R))) : sm_wp sm_P S d 110 0 [.ref 107] [] (xLay, I, L, kM R) (0, 0) Φ := p_X12_changes_0 (fun I1 e1 => by
  subst e1
  exact h)
/-- doubt -/
def dbK (x y : Int32) (I : sm_I) : sm_I := if y = 0 then sm_up I 37 0 ((I 37 0) &&& (((1 : Int32) <<< (x &&& 31)) ^^^ (-1 : Int32))) else sm_up (sm_up I 37 0 ((I 37 0) ||| ((1 : Int32) <<< (x &&& 31)))) 39 x.toNatClampNeg (-1)
theorem kp_doubt (q2 : q = 12 ∨ q = 49) {x y : Int32} (hq : (I q 3).toInt ≤ 10) (h0 : ¬ (0 ≤ x.toInt ∧ x.toInt < (I q 3).toInt ∧ ((I q 6) >>> (x &&& 31)) &&& (1 : Int32) = 0) → Φ (some (.int 0), (xLay, I, L, kP q R))) (h1 : 0 ≤ x.toInt → x.toInt < (I q 3).toInt → ((I q 6) >>> (x &&& 31)) &&& (1 : Int32) = 0 → Φ (some (.int 1), (xLay, stI (dbK x y I), L, kP q R))) : sm_wp sm_P S (d + 2) 39 0 [.ref 0, .int x, .int y] [] (xLay, I, L, kP q R) (0, 0) Φ := by
  refine p_X11_doubt_0 (kp_isSay q2 (fun c => ⟨_, I, L, rfl, fun _ => h0 (fun k => c ⟨k.1, k.2.1⟩), fun n => absurd rfl n⟩) (fun a b e => ⟨_, I, L, rfl, fun z => absurd z (by decide), fun _ n4 e4 => ⟨fun y0 n5 e5 => kp_stale ⟨_, L, rfl, ?_⟩, fun y0 I10 e10 => ⟨kl_in a (by omega), fun I11 e11 => kp_stale ⟨_, L, rfl, ?_⟩⟩⟩⟩) (fun a b e => ⟨_, I, L, rfl, fun _ => h0 (fun k => e k.2.2), fun n => absurd rfl n⟩))
  · have h := h1 a b e
    unfold dbK at h
    rw [if_pos y0] at h
    rw [e5, e4]; exact h
  · have h := h1 a b e
    unfold dbK at h
    rw [if_neg y0] at h
    rw [e11, e10, e4]; exact h
/-- set -/
theorem kp_set (q2 : q = 12 ∨ q = 49) {x y : Int32} (hq : (I q 2).toInt ≤ 10) (h0 : ¬ ((0 ≤ x.toInt ∧ x.toInt < (I q 2).toInt) ∧ (y = -1 ∨ (0 ≤ y.toInt ∧ y.toInt ≤ 1440))) → Φ (some (.int 0), (xLay, I, L, kP q R))) (h1 : 0 ≤ x.toInt → x.toInt < (I q 2).toInt → (y = -1 ∨ (0 ≤ y.toInt ∧ y.toInt ≤ 1440)) → Φ (some (.int 1), (xLay, sm_up I 38 x.toNatClampNeg y, L, kP q R))) : sm_wp sm_P S (d + 1) 83 0 [.ref 0, .int x, .int y] [] (xLay, I, L, kP q R) (0, 0) Φ := by
  refine p_X11_set_0 (kp_inT q2 (fun c => ⟨_, I, L, rfl, fun _ => h0 (fun k => c k.1), fun n => absurd rfl n⟩) (fun a b => ⟨_, I, L, rfl, fun z => absurd z (by decide), fun _ => ⟨fun e => ⟨kl_in a (by omega), fun I4 e4 => ?_⟩, fun e => kp_isMin (fun c => ⟨_, I, L, rfl, fun _ => h0 (fun k => k.2.elim e c), fun n => absurd rfl n⟩) (fun a2 b2 => ⟨_, I, L, rfl, fun z => absurd z (by decide), fun _ => ⟨kl_in a (by omega), fun I8 e8 => ?_⟩⟩)⟩⟩))
  · rw [e4]; exact h1 a b (Or.inl e)
  · rw [e8]; exact h1 a b (Or.inr ⟨a2, b2⟩)
/-- more -/
def mrK (x y a b : Int32) (I : sm_I) : sm_I := sm_up (sm_up (sm_up (sm_up (sm_up I 41 (I 37 1).toNatClampNeg x) 42 (I 37 1).toNatClampNeg y) 43 (I 37 1).toNatClampNeg a) 44 (I 37 1).toNatClampNeg b) 37 1 (I 37 1 + 1)
def mrok (n m : Int) (x y a b : Int32) : Prop := ((0 ≤ x.toInt ∧ x.toInt < n) ∧ (y = -1 ∨ (0 ≤ y.toInt ∧ y.toInt < n))) ∧ ((-1440 ≤ a.toInt ∧ a.toInt ≤ 1440) ∧ (-1440 ≤ b.toInt ∧ b.toInt ≤ 1440)) ∧ m < 6
theorem kp_put40 {x u v : Int32} (h0 : 0 ≤ x.toInt) (h1 : x.toInt < 6) (h : Φ (none, (xLay, sm_up (sm_up I 41 x.toNatClampNeg u) 42 x.toNatClampNeg v, L, kP q R))) : sm_wp sm_P S (d + 1) 294 0 [.ref 40, .int x, .int u, .int v] [] (xLay, I, L, kP q R) (0, 0) Φ := by
  have c6 : (Int32.ofNat 6).toInt = 6 := by decide
  refine p40_X8_put_0 (p40_X8_hasRow_0 ⟨fun a => ?_, fun _ => ⟨fun b => ?_, fun _ => ⟨_, I, L, rfl, fun z => absurd z (by decide), fun _ => ⟨kl_in h0 h1, fun I4 e4 => ⟨kl_in h0 h1, fun I5 e5 => by rw [e5, e4]; exact h⟩⟩⟩⟩⟩)
  · have a := kl_lt.mp a
    rw [kl_0] at a; omega
  · have b := kl_le.mp b
    omega
theorem kp_bound40 {x u v : Int32} (h0 : 0 ≤ x.toInt) (h1 : x.toInt < 6) (h : Φ (none, (xLay, sm_up (sm_up I 43 x.toNatClampNeg u) 44 x.toNatClampNeg v, L, kP q R))) : sm_wp sm_P S (d + 1) 286 0 [.ref 40, .int x, .int u, .int v] [] (xLay, I, L, kP q R) (0, 0) Φ := by
  have c6 : (Int32.ofNat 6).toInt = 6 := by decide
  refine p40_X8_bound_0 (p40_X8_hasRow_0 ⟨fun a => ?_, fun _ => ⟨fun b => ?_, fun _ => ⟨_, I, L, rfl, fun z => absurd z (by decide), fun _ => ⟨kl_in h0 h1, fun I4 e4 => ⟨kl_in h0 h1, fun I5 e5 => by rw [e5, e4]; exact h⟩⟩⟩⟩⟩)
  · have a := kl_lt.mp a
    rw [kl_0] at a; omega
  · have b := kl_le.mp b
    omega
theorem kp_more (q2 : q = 12 ∨ q = 49) {x y a b : Int32} (hm : 0 ≤ (I 37 1).toInt) (h0 : ¬ mrok (I q 2).toInt (I 37 1).toInt x y a b → Φ (some (.int (-1)), (xLay, I, L, kP q R))) (h1 : mrok (I q 2).toInt (I 37 1).toInt x y a b → Φ (some (.int (I 37 1 + 1)), (xLay, stI (mrK x y a b I), L, kP q R))) : sm_wp sm_P S (d + 2) 69 0 [.ref 0, .int x, .int y, .int a, .int b] [] (xLay, I, L, kP q R) (0, 0) Φ := by
  have cm : (-1440 : Int32).toInt = -1440 := by decide
  have cp : (1440 : Int32).toInt = 1440 := by decide
  have c6 : (6 : Int32).toInt = 6 := by decide
  have no : ¬ ((0 ≤ x.toInt ∧ x.toInt < (I q 2).toInt) ∧ (y = -1 ∨ (0 ≤ y.toInt ∧ y.toInt < (I q 2).toInt))) → sm_wp sm_P S (d + 2) 69 5 [.ref 0, .int x, .int y, .int a, .int b] [.int (0 : Int32)] (xLay, I, L, (kP q R)) (0, 0) Φ := fun c => p_X11_more_5 ⟨fun _ => h0 (fun k => c k.1), fun n => absurd rfl n⟩
  have yes : (0 ≤ x.toInt ∧ x.toInt < (I q 2).toInt) ∧ (y = -1 ∨ (0 ≤ y.toInt ∧ y.toInt < (I q 2).toInt)) → sm_wp sm_P S (d + 2) 69 5 [.ref 0, .int x, .int y, .int a, .int b] [.int (1 : Int32)] (xLay, I, L, (kP q R)) (0, 0) Φ := fun c => by
    have mn : (if b < a then b else a).toInt = (if b.toInt < a.toInt then b.toInt else a.toInt) := by
      by_cases k : b < a
      · rw [if_pos k, if_pos (kl_lt.mp k)]
      · rw [if_neg k, if_neg (by have := kl_nlt k; omega)]
    have mx : (if a < b then b else a).toInt = (if a.toInt < b.toInt then b.toInt else a.toInt) := by
      by_cases k : a < b
      · rw [if_pos k, if_pos (kl_lt.mp k)]
      · rw [if_neg k, if_neg (by have := kl_nlt k; omega)]
    refine p_X11_more_5 ⟨fun z => absurd z (by decide), fun _ => ⟨fun k => h0 (fun o => ?_), fun k => ⟨fun k2 => ⟨fun k3 => ?_, fun k3 => h0 (fun o => ?_)⟩, fun k2 => h0 (fun o => ?_)⟩⟩⟩
    · have k := kl_lt.mp k
      rw [mn, cm] at k
      have := o.2.1
      split at k <;> omega
    · have k := kl_nlt k
      have k2 := kl_le.mp k2
      have k3 := kl_lt.mp k3
      rw [mn, cm] at k
      rw [mx, cp] at k2
      rw [c6] at k3
      have ok : mrok (I q 2).toInt (I 37 1).toInt x y a b := ⟨c, by split at k <;> split at k2 <;> omega, k3⟩
      refine kp_put40 hm k3 ⟨_, L, rfl, kp_bound40 ?_ ?_ ⟨_, L, rfl, fun I7 e7 => kp_stale ⟨_, L, rfl, ?_⟩⟩⟩
      · rw [en_up_ne _ _ _ _ (by omega), en_up_ne _ _ _ _ (by omega)]; exact hm
      · rw [en_up_ne _ _ _ _ (by omega), en_up_ne _ _ _ _ (by omega)]; exact k3
      · have h := h1 ok
        have e : I7 = mrK x y a b I := by
          rw [e7]
          unfold mrK
          rw [en_up_ne _ _ _ _ (by omega), en_up_ne _ _ _ _ (by omega), en_up_ne _ _ _ _ (by omega), en_up_ne _ _ _ _ (by omega), en_up_ne _ _ _ _ (by omega), en_up_ne _ _ _ _ (by omega)]
        rw [e]
        have e2 : stI (mrK x y a b I) 37 1 = I 37 1 + 1 := by
          rw [stI_ne (by omega)]
          exact en_up_eq _ _ _ _
        rw [e2]; exact h
    · have k3 := kl_nlt k3
      rw [c6] at k3
      have := o.2.2
      omega
    · have k2 := kl_nle k2
      rw [mx, cp] at k2
      have := o.2.1
      split at k2 <;> omega
  refine p_X11_more_0 (kp_inT q2 (fun c => ⟨_, I, L, rfl, fun _ => no (fun k => c k.1), fun n => absurd rfl n⟩) (fun a1 b1 => ⟨_, I, L, rfl, fun z => absurd z (by decide), fun _ => ⟨fun e => yes ⟨⟨a1, b1⟩, Or.inl e⟩, fun e => kp_inT q2 (fun c => ⟨_, I, L, rfl, fun _ => no (fun k => k.2.elim e c), fun n => absurd rfl n⟩) (fun a2 b2 => ⟨_, I, L, rfl, fun z => absurd z (by decide), fun _ => yes ⟨⟨a1, b1⟩, Or.inr ⟨a2, b2⟩⟩⟩)⟩⟩))
/-- fewer -/
theorem kp_fewer (h0 : (I 37 1).toInt ≤ 0 → Φ (some (.int (-1)), (xLay, I, L, kP q R))) (h1 : 0 < (I 37 1).toInt → Φ (some (.int (I 37 1 - 1)), (xLay, stI (sm_up I 37 1 (I 37 1 - 1)), L, kP q R))) : sm_wp sm_P S (d + 1) 43 0 [.ref 0] [] (xLay, I, L, kP q R) (0, 0) Φ := by
  refine p_X11_fewer_0 ⟨fun a I1 e1 => kp_stale ⟨_, L, rfl, ?_⟩, fun a => h0 ?_⟩
  · have a := kl_lt.mp a
    rw [kl_0] at a
    have h := h1 a
    rw [e1, stI_ne (by omega), en_up_eq]
    exact h
  · have a := kl_nlt a
    rw [kl_0] at a; exact a
theorem kp_f38a {I0 : sm_I} {x1 : Int32} (h : ∀ J : sm_I, (∀ j, j < 10 → J 38 j = x1) → (∀ a j, a ≠ 38 → J a j = I0 a j) → Φ (none, (xLay, J, L, kP q R))) : ∀ (m i : Nat) (I : sm_I) (x2 : Int32), x2.toInt = i → i + m = 10 → (∀ j, j < i → I 38 j = x1) → (∀ a j, a ≠ 38 → I a j = I0 a j) → sm_wp sm_P S d 306 1 [.ref 38, .int x1, .int x2, .int (Int32.ofNat 10)] [] (xLay, I, L, kP q R) (0, 0) Φ := by
  have cn : (Int32.ofNat 10).toInt = 10 := by decide
  intro m
  induction m with
  | zero =>
    intro i I x2 hx hm h1 h2
    refine p38_J7_fill_53178_1 ⟨fun _ => h I (fun j hj => h1 j (by omega)) h2, fun a => ?_⟩
    have := kl_nle a
    omega
  | succ m ih =>
    intro i I x2 hx hm h1 h2
    have nn := tk_nat hx
    have s := ml_in1 (x := x2) (by omega)
    refine p38_J7_fill_53178_1 ⟨fun a => ?_, fun _ => ⟨kl_in (by omega) (by omega), fun I1 e1 => ?_⟩⟩
    · have := kl_le.mp a
      omega
    · rw [nn] at e1
      refine ih (i + 1) I1 _ (by omega) (by omega) (fun j hj => ?_) (fun a j ha => ?_)
      · by_cases c : j = i
        · subst c; rw [e1, en_up_eq]
        · rw [e1, en_up_ne _ _ _ _ (by omega)]; exact h1 j (by omega)
      · rw [e1, en_up_ne _ _ _ _ (by omega)]; exact h2 a j ha
theorem kp_f38 {x1 : Int32} (h : ∀ J : sm_I, (∀ j, j < 10 → J 38 j = x1) → (∀ a j, a ≠ 38 → J a j = I a j) → Φ (none, (xLay, J, L, kP q R))) : sm_wp sm_P S d 306 0 [.ref 38, .int x1] [] (xLay, I, L, kP q R) (0, 0) Φ := p38_J7_fill_53178_0 (kp_f38a h 10 0 I 0 (by decide) (by decide) (fun j hj => absurd hj (Nat.not_lt_zero j)) (fun _ _ _ => rfl))
theorem kp_f39a {I0 : sm_I} {x1 : Int32} (h : ∀ J : sm_I, (∀ j, j < 55 → J 39 j = x1) → (∀ a j, a ≠ 39 → J a j = I0 a j) → Φ (none, (xLay, J, L, kP q R))) : ∀ (m i : Nat) (I : sm_I) (x2 : Int32), x2.toInt = i → i + m = 55 → (∀ j, j < i → I 39 j = x1) → (∀ a j, a ≠ 39 → I a j = I0 a j) → sm_wp sm_P S d 306 1 [.ref 39, .int x1, .int x2, .int (Int32.ofNat 55)] [] (xLay, I, L, kP q R) (0, 0) Φ := by
  have cn : (Int32.ofNat 55).toInt = 55 := by decide
  intro m
  induction m with
  | zero =>
    intro i I x2 hx hm h1 h2
    refine p39_J7_fill_53178_1 ⟨fun _ => h I (fun j hj => h1 j (by omega)) h2, fun a => ?_⟩
    have := kl_nle a
    omega
  | succ m ih =>
    intro i I x2 hx hm h1 h2
    have nn := tk_nat hx
    have s := ml_in1 (x := x2) (by omega)
    refine p39_J7_fill_53178_1 ⟨fun a => ?_, fun _ => ⟨kl_in (by omega) (by omega), fun I1 e1 => ?_⟩⟩
    · have := kl_le.mp a
      omega
    · rw [nn] at e1
      refine ih (i + 1) I1 _ (by omega) (by omega) (fun j hj => ?_) (fun a j ha => ?_)
      · by_cases c : j = i
        · subst c; rw [e1, en_up_eq]
        · rw [e1, en_up_ne _ _ _ _ (by omega)]; exact h1 j (by omega)
      · rw [e1, en_up_ne _ _ _ _ (by omega)]; exact h2 a j ha
theorem kp_f39 {x1 : Int32} (h : ∀ J : sm_I, (∀ j, j < 55 → J 39 j = x1) → (∀ a j, a ≠ 39 → J a j = I a j) → Φ (none, (xLay, J, L, kP q R))) : sm_wp sm_P S d 306 0 [.ref 39, .int x1] [] (xLay, I, L, kP q R) (0, 0) Φ := p39_J7_fill_53178_0 (kp_f39a h 55 0 I 0 (by decide) (by decide) (fun j hj => absurd hj (Nat.not_lt_zero j)) (fun _ _ _ => rfl))
/-- nothing is DOUBTED, SET, PICKED, MORE -/
def hcK (J : sm_I) : Prop := J 37 0 = 0 ∧ J 37 1 = 0 ∧ (∀ j, j < 10 → J 38 j = -1) ∧ ∀ j, j < 55 → J 39 j = -1
theorem kp_hclear (h : ∀ J : sm_I, hcK J → (∀ a j, a ≠ 37 → a ≠ 38 → a ≠ 39 → J a j = I a j) → Φ (none, (xLay, J, L, kP q R))) : sm_wp sm_P S (d + 1) 245 0 [.ref 37] [] (xLay, I, L, kP q R) (0, 0) Φ := by
  refine p_X4_clear_0 (fun I1 e1 => kp_f38 (fun J2 b2 o2 => ⟨J2, L, rfl, kp_f39 (fun J3 b3 o3 => ⟨J3, L, rfl, h J3 ⟨?_, ?_, fun j hj => ?_, b3⟩ (fun a j a1 a2 a3 => ?_)⟩)⟩))
  · rw [o3 _ _ (by decide), o2 _ _ (by decide), e1, en_up_ne _ _ _ _ (by omega), en_up_eq]
  · rw [o3 _ _ (by decide), o2 _ _ (by decide), e1, en_up_eq]
  · rw [o3 _ _ (by decide)]; exact b2 j hj
  · rw [o3 _ _ a3, o2 _ _ a2, e1, en_up_ne _ _ _ _ (by omega), en_up_ne _ _ _ _ (by omega)]
/-! the reference's -/
theorem yp_in {x a b : Int32} (h0 : ¬ (a.toInt ≤ x.toInt ∧ x.toInt ≤ b.toInt) → Φ (some (.int 0), (xLay, I, L, kM R))) (h1 : a.toInt ≤ x.toInt → x.toInt ≤ b.toInt → Φ (some (.int 1), (xLay, I, L, kM R))) : sm_wp sm_P S d 141 0 [.int x, .int a, .int b] [] (xLay, I, L, kM R) (0, 0) Φ := by
  refine p_X12_in_0 ⟨fun k => h0 (fun c => ?_), fun k => ⟨fun k2 => h0 (fun c => ?_), fun k2 => h1 (kl_nlt k) (kl_nlt k2)⟩⟩
  · have k := kl_lt.mp k
    omega
  · have k2 := kl_lt.mp k2
    omega
theorem yp_inT {x : Int32} {l : Nat} (hl : (I 107 18).toInt = l) (l1 : l ≤ 1) (hb : 0 ≤ (I 122 l).toInt ∧ (I 122 l).toInt ≤ 10) (h0 : ¬ (0 ≤ x.toInt ∧ x.toInt < (I 122 l).toInt) → Φ (some (.int 0), (xLay, I, L, kM R))) (h1 : 0 ≤ x.toInt → x.toInt < (I 122 l).toInt → Φ (some (.int 1), (xLay, I, L, kM R))) : sm_wp sm_P S (d + 1) 150 0 [.ref 107, .int x] [] (xLay, I, L, kM R) (0, 0) Φ := by
  have nl := tk_nat hl
  refine p_X12_isTime_0 ⟨kl_in (by omega) (by omega), fun n1 e1 => ?_⟩
  have s : n1.toInt = (I 122 l).toInt - 1 := by
    rw [e1, nl, Int32.toInt_sub, kl_1]; exact en_bmod (by omega) (by omega) (Or.inl rfl)
  refine yp_in (fun c => ⟨_, I, L, rfl, Or.inl rfl, h0 (fun k => c ?_)⟩) (fun a b => ⟨_, I, L, rfl, Or.inr rfl, h1 ?_ ?_⟩)
  · rw [kl_0]; omega
  · rw [kl_0] at a; exact a
  · omega
theorem yp_inS {x : Int32} {l : Nat} (hl : (I 107 18).toInt = l) (l1 : l ≤ 1) (hb : 0 ≤ (I 125 l).toInt ∧ (I 125 l).toInt ≤ 10) (h0 : ¬ (0 ≤ x.toInt ∧ x.toInt < (I 125 l).toInt) → Φ (some (.int 0), (xLay, I, L, kM R))) (h1 : 0 ≤ x.toInt → x.toInt < (I 125 l).toInt → Φ (some (.int 1), (xLay, I, L, kM R))) : sm_wp sm_P S (d + 1) 149 0 [.ref 107, .int x] [] (xLay, I, L, kM R) (0, 0) Φ := by
  have nl := tk_nat hl
  refine p_X12_isSaying_0 ⟨kl_in (by omega) (by omega), fun n1 e1 => ?_⟩
  have s : n1.toInt = (I 125 l).toInt - 1 := by
    rw [e1, nl, Int32.toInt_sub, kl_1]; exact en_bmod (by omega) (by omega) (Or.inl rfl)
  refine yp_in (fun c => ⟨_, I, L, rfl, Or.inl rfl, h0 (fun k => c ?_)⟩) (fun a b => ⟨_, I, L, rfl, Or.inr rfl, h1 ?_ ?_⟩)
  · rw [kl_0]; omega
  · rw [kl_0] at a; exact a
  · omega
theorem yp_isMin {x : Int32} (h0 : ¬ (0 ≤ x.toInt ∧ x.toInt ≤ 1440) → Φ (some (.int 0), (xLay, I, L, kM R))) (h1 : 0 ≤ x.toInt → x.toInt ≤ 1440 → Φ (some (.int 1), (xLay, I, L, kM R))) : sm_wp sm_P S (d + 1) 147 0 [.ref 107, .int x] [] (xLay, I, L, kM R) (0, 0) Φ := by
  have c : (1440 : Int32).toInt = 1440 := by decide
  refine p_X12_isMinute_0 (yp_in (fun k => ⟨_, I, L, rfl, Or.inl rfl, h0 (fun o => k ?_)⟩) (fun a b => ⟨_, I, L, rfl, Or.inr rfl, h1 ?_ ?_⟩))
  · rw [kl_0, c]; exact o
  · rw [kl_0] at a; exact a
  · rw [c] at b; exact b
def dbM (x y : Int32) (I : sm_I) : sm_I := if y = 0 then sm_up I 137 x.toNatClampNeg (vp_nar .boolean y) else sm_up (sm_up I 137 x.toNatClampNeg (vp_nar .boolean y)) 160 x.toNatClampNeg (-1)
theorem yp_doubt {x y : Int32} {l : Nat} (hl : (I 107 18).toInt = l) (l1 : l ≤ 1) (hb : 0 ≤ (I 125 l).toInt ∧ (I 125 l).toInt ≤ 10) (h0 : ¬ (0 ≤ x.toInt ∧ x.toInt < (I 125 l).toInt ∧ I 126 (10 * l + x.toNatClampNeg) = 0) → Φ (some (.int 0), (xLay, I, L, kM R))) (h1 : 0 ≤ x.toInt → x.toInt < (I 125 l).toInt → I 126 (10 * l + x.toNatClampNeg) = 0 → Φ (some (.int 1), (xLay, chI (dbM x y I), L, kM R))) : sm_wp sm_P S (d + 2) 120 0 [.ref 107, .int x, .int y] [] (xLay, I, L, kM R) (0, 0) Φ := by
  refine p_X12_doubt_0 (yp_inS hl l1 hb (fun c => ⟨_, I, L, rfl, fun _ => h0 (fun k => c ⟨k.1, k.2.1⟩), fun n => absurd rfl n⟩) (fun a b => ⟨_, I, L, rfl, fun z => absurd z (by decide), fun _ n4 e4 => ?_⟩))
  have nx := kl_nat a
  have q1 : ((10 : Int32) * (I 107 18)).toInt = 10 * (l : Int) := ml_mu (by decide) hl (by omega) (by omega)
  have q2 : n4.toInt = ((10 * l + x.toNatClampNeg : Nat) : Int) := by rw [e4, ml_ad q1 rfl (by omega) (by omega)]; omega
  have n4n := tk_nat q2
  refine ⟨kl_in (by omega) (by omega), fun e => ⟨kl_in a (by omega), fun I5 e5 => ⟨fun y0 => yp_changes ⟨_, L, rfl, ?_⟩, fun y0 => ⟨kl_in a (by omega), fun I10 e10 => yp_changes ⟨_, L, rfl, ?_⟩⟩⟩⟩, fun e => h0 (fun k => e ?_)⟩
  · rw [n4n] at e
    have h := h1 a b e
    unfold dbM at h
    rw [if_pos y0] at h
    rw [e5]; exact h
  · rw [n4n] at e
    have h := h1 a b e
    unfold dbM at h
    rw [if_neg y0] at h
    rw [e10, e5]; exact h
  · rw [n4n]; exact k.2.2
theorem yp_set {x y : Int32} {l : Nat} (hl : (I 107 18).toInt = l) (l1 : l ≤ 1) (hb : 0 ≤ (I 122 l).toInt ∧ (I 122 l).toInt ≤ 10) (h0 : ¬ ((0 ≤ x.toInt ∧ x.toInt < (I 122 l).toInt) ∧ (y = -1 ∨ (0 ≤ y.toInt ∧ y.toInt ≤ 1440))) → Φ (some (.int 0), (xLay, I, L, kM R))) (h1 : 0 ≤ x.toInt → x.toInt < (I 122 l).toInt → (y = -1 ∨ (0 ≤ y.toInt ∧ y.toInt ≤ 1440)) → Φ (some (.int 1), (xLay, sm_up I 138 x.toNatClampNeg y, L, kM R))) : sm_wp sm_P S (d + 2) 188 0 [.ref 107, .int x, .int y] [] (xLay, I, L, kM R) (0, 0) Φ := by
  refine p_X12_set_0 (yp_inT hl l1 hb (fun c => ⟨_, I, L, rfl, fun _ => h0 (fun k => c k.1), fun n => absurd rfl n⟩) (fun a b => ⟨_, I, L, rfl, fun z => absurd z (by decide), fun _ => ⟨fun e => ⟨kl_in a (by omega), fun I4 e4 => ?_⟩, fun e => yp_isMin (fun c => ⟨_, I, L, rfl, fun _ => h0 (fun k => k.2.elim e c), fun n => absurd rfl n⟩) (fun a2 b2 => ⟨_, I, L, rfl, fun z => absurd z (by decide), fun _ => ⟨kl_in a (by omega), fun I8 e8 => ?_⟩⟩)⟩⟩))
  · rw [e4]; exact h1 a b (Or.inl e)
  · rw [e8]; exact h1 a b (Or.inr ⟨a2, b2⟩)
def mrM (x y a b : Int32) (I : sm_I) : sm_I := sm_up (sm_up (sm_up (sm_up (sm_up I 144 (I 107 54).toNatClampNeg x) 145 (I 107 54).toNatClampNeg y) 146 (I 107 54).toNatClampNeg a) 147 (I 107 54).toNatClampNeg b) 107 54 (I 107 54 + 1)
theorem yp_more {x y a b : Int32} {l : Nat} (hl : (I 107 18).toInt = l) (l1 : l ≤ 1) (hb : 0 ≤ (I 122 l).toInt ∧ (I 122 l).toInt ≤ 10) (hm : 0 ≤ (I 107 54).toInt ∧ (I 107 54).toInt ≤ 6) (h0 : ¬ mrok (I 122 l).toInt (I 107 54).toInt x y a b → Φ (some (.int (-1)), (xLay, I, L, kM R))) (h1 : mrok (I 122 l).toInt (I 107 54).toInt x y a b → Φ (some (.int (I 107 54 + 1)), (xLay, chI (mrM x y a b I), L, kM R))) : sm_wp sm_P S (d + 2) 163 0 [.ref 107, .int x, .int y, .int a, .int b] [] (xLay, I, L, kM R) (0, 0) Φ := by
  have cm : (-1440 : Int32).toInt = -1440 := by decide
  have cp : (1440 : Int32).toInt = 1440 := by decide
  have c6 : (6 : Int32).toInt = 6 := by decide
  have fin : ∀ (k6 : ¬ (I 107 54) = (6 : Int32)) (cx : 0 ≤ x.toInt ∧ x.toInt < (I 122 l).toInt) (cy : y = -1 ∨ (0 ≤ y.toInt ∧ y.toInt < (I 122 l).toInt)), sm_wp sm_P S (d + 1) 141 0 [.int a, .int (-1440 : Int32), .int (1440 : Int32)] [] (xLay, I, L, (kM R)) (0, 0) (fun z => ∃ (r6 : Int32) (I4 : sm_I) (L5 : sm_L), z = (some (.int r6), (xLay, I4, L5, (kM R))) ∧ ((r6 = 0 → Φ (some (.int (-1 : Int32)), (xLay, I4, L5, (kM R)))) ∧ (¬ r6 = 0 → sm_wp sm_P S (d + 1) 141 0 [.int b, .int (-1440 : Int32), .int (1440 : Int32)] [] (xLay, I4, L5, (kM R)) (0, 0) (fun z => ∃ (r9 : Int32) (I7 : sm_I) (L8 : sm_L), z = (some (.int r9), (xLay, I7, L8, (kM R))) ∧ ((r9 = 0 → Φ (some (.int (-1 : Int32)), (xLay, I7, L8, (kM R)))) ∧ (¬ r9 = 0 → (vp_in (I7 107 54) 6) ∧ ∀ I10 : sm_I, I10 = (sm_up I7 144 (I7 107 54).toNatClampNeg x) → (vp_in (I10 107 54) 6) ∧ ∀ I11 : sm_I, I11 = (sm_up I10 145 (I10 107 54).toNatClampNeg y) → (vp_in (I11 107 54) 6) ∧ ∀ I12 : sm_I, I12 = (sm_up I11 146 (I11 107 54).toNatClampNeg a) → (vp_in (I12 107 54) 6) ∧ ∀ I13 : sm_I, I13 = (sm_up I12 147 (I12 107 54).toNatClampNeg b) → ∀ I14 : sm_I, I14 = (sm_up I13 107 54 ((I13 107 54) + (1 : Int32))) → sm_wp sm_P S (d + 1) 110 0 [.ref 107] [] (xLay, I14, L8, (kM R)) (0, 0) (fun z => ∃ (I15 : sm_I) (L16 : sm_L), z = (none, (xLay, I15, L16, (kM R))) ∧ Φ (some (.int (I15 107 54)), (xLay, I15, L16, (kM R)))))))))) := by
    intro k6 cx cy
    have n6 : (I 107 54).toInt < 6 := by
      have : (I 107 54).toInt ≠ 6 := fun e => k6 (en_ofI (by rw [e]; decide))
      omega
    refine yp_in (fun c => ⟨_, I, L, rfl, fun _ => h0 (fun k => c ?_), fun n => absurd rfl n⟩) (fun a1 a2 => ⟨_, I, L, rfl, fun z => absurd z (by decide), fun _ => yp_in (fun c => ⟨_, I, L, rfl, fun _ => h0 (fun k => c ?_), fun n => absurd rfl n⟩) (fun b1 b2 => ⟨_, I, L, rfl, fun z => absurd z (by decide), fun _ => ?_⟩)⟩)
    · rw [cm, cp]; exact k.2.1.1
    · rw [cm, cp]; exact k.2.1.2
    · rw [cm] at a1 b1
      rw [cp] at a2 b2
      refine ⟨kl_in hm.1 n6, fun I10 e10 => ?_⟩
      have g10 : I10 107 54 = I 107 54 := by rw [e10, en_up_ne _ _ _ _ (by omega)]
      rw [g10]
      refine ⟨kl_in hm.1 n6, fun I11 e11 => ?_⟩
      have g11 : I11 107 54 = I 107 54 := by rw [e11, en_up_ne _ _ _ _ (by omega), g10]
      rw [g11]
      refine ⟨kl_in hm.1 n6, fun I12 e12 => ?_⟩
      have g12 : I12 107 54 = I 107 54 := by rw [e12, en_up_ne _ _ _ _ (by omega), g11]
      rw [g12]
      refine ⟨kl_in hm.1 n6, fun I13 e13 => fun I14 e14 => ?_⟩
      have g13 : I13 107 54 = I 107 54 := by rw [e13, en_up_ne _ _ _ _ (by omega), g12]
      have e : I14 = mrM x y a b I := by rw [e14, g13, e13, e12, e11, e10]; rfl
      refine yp_changes ⟨_, L, rfl, ?_⟩
      have e2 : chI (mrM x y a b I) 107 54 = I 107 54 + 1 := by
        rw [chI_ne (by omega)]
        exact en_up_eq _ _ _ _
      rw [e, e2]
      exact h1 ⟨⟨cx, cy⟩, ⟨⟨a1, a2⟩, ⟨b1, b2⟩⟩, n6⟩
  refine p_X12_more_0 ⟨fun k6 => h0 (fun k => ?_), fun k6 => yp_inT hl l1 hb (fun c => ⟨_, I, L, rfl, fun _ => h0 (fun k => c k.1.1), fun n => absurd rfl n⟩) (fun a1 b1 => ⟨_, I, L, rfl, fun z => absurd z (by decide), fun _ => ⟨fun e => fin k6 ⟨a1, b1⟩ (Or.inl e), fun e => yp_inT hl l1 hb (fun c => ⟨_, I, L, rfl, fun _ => h0 (fun k => k.1.2.elim e c), fun n => absurd rfl n⟩) (fun a2 b2 => ⟨_, I, L, rfl, fun z => absurd z (by decide), fun _ => fin k6 ⟨a1, b1⟩ (Or.inr ⟨a2, b2⟩)⟩)⟩⟩)⟩
  have := k.2.2
  rw [k6, c6] at this
  omega
theorem yp_fewer (hm : 0 ≤ (I 107 54).toInt) (h0 : (I 107 54).toInt = 0 → Φ (some (.int (-1)), (xLay, I, L, kM R))) (h1 : 0 < (I 107 54).toInt → Φ (some (.int (I 107 54 - 1)), (xLay, chI (sm_up I 107 54 (I 107 54 - 1)), L, kM R))) : sm_wp sm_P S (d + 1) 125 0 [.ref 107] [] (xLay, I, L, kM R) (0, 0) Φ := by
  refine p_X12_fewer_0 ⟨fun k => h0 (by rw [k]; decide), fun k I1 e1 => yp_changes ⟨_, L, rfl, ?_⟩⟩
  have k : 0 < (I 107 54).toInt := by
    have : (I 107 54).toInt ≠ 0 := fun e => k (en_ofI (by rw [e]; decide))
    omega
  have h := h1 k
  rw [e1, chI_ne (by omega), en_up_eq]
  exact h
end
