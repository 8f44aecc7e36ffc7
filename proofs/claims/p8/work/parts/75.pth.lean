/-! the class's grammar, exact -/
def gfr (I J : sm_I) : Prop := ∀ a j, a ≠ 7 → a ≠ 8 → J a j = I a j
theorem ks_room13 {S : sm_C} {d q : Nat} {Φ : sm_Z → Prop} {J : sm_I} {L : sm_L} {R : sm_R} {A P : Nat} (hA : (J 7 2).toInt = A) (hP : (J 7 3).toInt = P) (h : Φ (some (.int (if (decide (A ≤ 4) && decide (P ≤ 3)) = true then 1 else 0)), (xLay, J, L, kT q R))) : sm_wp sm_P S d 242 13 [.ref 7] [] (xLay, J, L, kT q R) (0, 0) Φ := by
  have c4 : (4 : Int32).toInt = 4 := by decide
  have c3 : (3 : Int32).toInt = 3 := by decide
  refine t_X3_hasRoom_13 ⟨fun a => t_X3_hasRoom_17 ⟨Or.inl rfl, ?_⟩, fun a => ⟨fun b => t_X3_hasRoom_17 ⟨Or.inl rfl, ?_⟩, fun b => t_X3_hasRoom_17 ⟨Or.inr rfl, ?_⟩⟩⟩
  · rw [kl_lt, c4] at a
    rw [if_neg (by simp; omega)] at h; exact h
  · rw [kl_lt, c3] at b
    rw [if_neg (by simp; omega)] at h; exact h
  · have a := kl_nlt a
    have b := kl_nlt b
    rw [if_pos (by simp; omega)] at h; exact h
theorem ks_room {S : sm_C} {d q : Nat} {Φ : sm_Z → Prop} {I : sm_I} {L : sm_L} {R : sm_R} {x1 x2 : Int32} {g : gc} (h0 : 0 ≤ x2.toInt) (h15 : x1 = 0 → x2.toInt < 15) (hg : gr x1 I g) (h : ∀ J : sm_I, gfr I J → (gc_ok x1 x2 g = true → gr 1 J (gc_st x1 x2 g)) → Φ (some (.int (if gc_ok x1 x2 g = true then 1 else 0)), (xLay, J, L, kT q R))) : sm_wp sm_P S d 242 0 [.ref 7, .int x1, .int x2] [] (xLay, I, L, kT q R) (0, 0) Φ := by
  have c15 : (Int32.ofNat 15).toInt = 15 := by decide
  have one : (1 : Int32).toInt = 1 := by decide
  have n6 : (6 : Int32).toNatClampNeg = 6 := by decide
  have r15 : sm_room.length = 15 := by decide
  have rm : ∀ j, j < 15 → (sm_room.getD j 0).toInt ≤ 12 := by decide
  -- a tell begins
  have start : ∀ (w : Nat) (J : sm_I), x1 = 0 → w < 15 → w = gw x2 → J = sm_up (sm_up (sm_up (sm_up I 7 1 x2) 7 2 1) 7 3 1) 8 w (I 8 w + 1) → ((sm_room.getD w 0 < J 8 w → Φ (some (.int (0 : Int32)), (xLay, J, L, kT q R))) ∧ (¬ sm_room.getD w 0 < J 8 w → Φ (some (.int (1 : Int32)), (xLay, J, L, kT q R)))) := by
    intro w J e1 hw ew eJ
    have b := hg.2.1 w hw
    have s := ml_in1 (x := I 8 w) (by omega)
    have j8 : (J 8 w).toInt = (g.tells w : Int) + 1 := by rw [eJ, en_up_eq, s]; omega
    have fr : gfr I J := fun a j a1 a2 => by rw [eJ, en_up_ne _ _ _ _ (by omega), en_up_ne _ _ _ _ (by omega), en_up_ne _ _ _ _ (by omega), en_up_ne _ _ _ _ (by omega)]
    have ok : gc_ok x1 x2 g = decide ((g.tells w : Int) + 1 ≤ (sm_room.getD w 0).toInt) := by
      unfold gc_ok; rw [if_pos ⟨e1, h15 e1⟩, ew]
    have st : gc_st x1 x2 g = ⟨x2, 1, 1, fun j => if j = gw x2 then g.tells j + 1 else g.tells j⟩ := by
      unfold gc_st; rw [if_pos ⟨e1, h15 e1⟩]
    have k := h J fr (fun o => by
      rw [ok] at o
      have o := of_decide_eq_true o
      have := rm w hw
      rw [st]
      refine ⟨?_, fun j hj => ?_, fun _ => ⟨?_, ?_, (by decide : (1 : Nat) ≤ 4), (by decide : (1 : Nat) ≤ 3)⟩⟩
      · rw [eJ, en_up_ne _ _ _ _ (by omega), en_up_ne _ _ _ _ (by omega), en_up_ne _ _ _ _ (by omega), en_up_eq]
      · show (J 8 j).toInt = ((if j = gw x2 then g.tells j + 1 else g.tells j : Nat) : Int) ∧ (if j = gw x2 then g.tells j + 1 else g.tells j) ≤ 20
        by_cases c : j = gw x2
        · rw [if_pos c, c, ← ew, j8]; omega
        · rw [if_neg c]
          have bj := hg.2.1 j hj
          rw [eJ, en_up_ne _ _ _ _ (by omega), en_up_ne _ _ _ _ (by omega), en_up_ne _ _ _ _ (by omega), en_up_ne _ _ _ _ (by omega)]
          exact bj
      · rw [eJ, en_up_ne _ _ _ _ (by omega), en_up_ne _ _ _ _ (by omega), en_up_eq]; rfl
      · rw [eJ, en_up_ne _ _ _ _ (by omega), en_up_eq]; rfl)
    rw [ok] at k
    refine ⟨fun a => ?_, fun a => ?_⟩
    · rw [kl_lt] at a
      rw [if_neg (fun q => by have q := of_decide_eq_true q; omega)] at k; exact k
    · have a := kl_nlt a
      rw [if_pos (decide_eq_true (by omega))] at k; exact k
  -- within a tell
  have inside : ¬ x1 = 0 → ((x2 = (9 : Int32) → ∀ I3 : sm_I, I3 = (sm_up I 7 2 ((I 7 2) + (1 : Int32))) → sm_wp sm_P S d 242 13 [.ref 7] [] (xLay, (sm_up I3 7 3 (1 : Int32)), L, (kT q R)) (0, 0) Φ) ∧ (¬ x2 = (9 : Int32) → ((x2 = (13 : Int32) → ∀ I1 : sm_I, I1 = (sm_up I 7 3 ((I 7 3) + (1 : Int32))) → sm_wp sm_P S d 242 13 [.ref 7] [] (xLay, I1, L, (kT q R)) (0, 0) Φ) ∧ (¬ x2 = (13 : Int32) → sm_wp sm_P S d 242 13 [.ref 7] [] (xLay, I, L, (kT q R)) (0, 0) Φ)))) := by
    intro n0
    obtain ⟨a1, a2, a3, a4⟩ := hg.2.2 n0
    have ns : ¬ (x1 = 0 ∧ x2.toInt < 15) := fun q => n0 q.1
    have ok : gc_ok x1 x2 g = (decide ((gc_st x1 x2 g).alls ≤ 4) && decide ((gc_st x1 x2 g).parts ≤ 3)) := by
      unfold gc_ok; rw [if_neg ns]
    have fin : ∀ J : sm_I, gfr I J → J 7 1 = I 7 1 → (∀ j, J 8 j = I 8 j) → (gc_st x1 x2 g).tell = g.tell → (gc_st x1 x2 g).tells = g.tells → (J 7 2).toInt = (gc_st x1 x2 g).alls → (J 7 3).toInt = (gc_st x1 x2 g).parts → sm_wp sm_P S d 242 13 [.ref 7] [] (xLay, J, L, (kT q R)) (0, 0) Φ := by
      intro J fr e1 e8 t1 t2 eA eP
      refine ks_room13 eA eP ?_
      rw [← ok]
      refine h J fr (fun o => ⟨by rw [e1, hg.1, t1], fun j hj => by rw [e8, t2]; exact hg.2.1 j hj, fun _ => ⟨eA, eP, ?_, ?_⟩⟩)
      · rw [ok] at o
        exact of_decide_eq_true (Bool.and_eq_true_iff.mp o).1
      · rw [ok] at o
        exact of_decide_eq_true (Bool.and_eq_true_iff.mp o).2
    refine ⟨fun c I3 e3 => ?_, fun c => ⟨fun c2 I3 e3 => ?_, fun c2 => ?_⟩⟩
    · have st : gc_st x1 x2 g = ⟨g.tell, g.alls + 1, 1, g.tells⟩ := by unfold gc_st; rw [if_neg ns, if_pos c]
      have s := ml_in1 (x := I 7 2) (by omega)
      refine fin _ (fun a j q1 q2 => ?_) ?_ (fun j => ?_) (by rw [st]) (by rw [st]) ?_ ?_
      · rw [en_up_ne _ _ _ _ (by omega), e3, en_up_ne _ _ _ _ (by omega)]
      · rw [en_up_ne _ _ _ _ (by omega), e3, en_up_ne _ _ _ _ (by omega)]
      · rw [en_up_ne _ _ _ _ (by omega), e3, en_up_ne _ _ _ _ (by omega)]
      · rw [en_up_ne _ _ _ _ (by omega), e3, en_up_eq, st, s]; show _ = ((g.alls + 1 : Nat) : Int); omega
      · rw [en_up_eq, st]; rfl
    · have st : gc_st x1 x2 g = ⟨g.tell, g.alls, g.parts + 1, g.tells⟩ := by unfold gc_st; rw [if_neg ns, if_neg c, if_pos c2]
      have s := ml_in1 (x := I 7 3) (by omega)
      refine fin _ (fun a j q1 q2 => ?_) ?_ (fun j => ?_) (by rw [st]) (by rw [st]) ?_ ?_
      · rw [e3, en_up_ne _ _ _ _ (by omega)]
      · rw [e3, en_up_ne _ _ _ _ (by omega)]
      · rw [e3, en_up_ne _ _ _ _ (by omega)]
      · rw [e3, en_up_ne _ _ _ _ (by omega), st]; exact a1
      · rw [e3, en_up_eq, st, s]; show _ = ((g.parts + 1 : Nat) : Int); omega
    · have st : gc_st x1 x2 g = g := by unfold gc_st; rw [if_neg ns, if_neg c, if_neg c2]
      exact fin I (fun _ _ _ _ => rfl) rfl (fun _ => rfl) (by rw [st]) (by rw [st]) (by rw [st]; exact a1) (by rw [st]; exact a2)
  refine t_X3_hasRoom_0 ⟨fun e1 => ⟨fun a => ?_, fun a => ?_⟩, fun n0 => inside n0⟩
  · have := kl_le.mp a
    have := h15 e1
    omega
  · have k15 := h15 e1
    have nn := kl_nat h0
    refine ⟨fun e8 I13 e13 => ?_, fun n8 I9 e9 => ?_⟩
    · have v6 : vp_in (6 : Int32) 15 := by rw [show (6 : Int32) = 6 from rfl]; exact kl_in (by decide) (by decide)
      refine ⟨v6, fun n14 e14 => ⟨v6, fun I15 e15 => ⟨v6, v6, ?_⟩⟩⟩
      rw [n6] at e14 e15 ⊢
      refine start 6 I15 e1 (by decide) (by unfold gw; rw [if_pos e8]) ?_
      rw [e15, e14, e13, en_up_ne _ _ _ _ (by omega), en_up_ne _ _ _ _ (by omega), en_up_ne _ _ _ _ (by omega)]
    · have v : vp_in x2 15 := kl_in h0 (by omega)
      refine ⟨v, fun n10 e10 => ⟨v, fun I11 e11 => ⟨v, v, ?_⟩⟩⟩
      refine start x2.toNatClampNeg I11 e1 (by omega) (by unfold gw; rw [if_neg n8]) ?_
      rw [e11, e10, e9, en_up_ne _ _ _ _ (by omega), en_up_ne _ _ _ _ (by omega), en_up_ne _ _ _ _ (by omega)]
