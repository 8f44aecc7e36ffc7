/-! the reference's contracts with what was gone through (wip/pe/mkYm.py) -/
section
variable {c48 : Nat → Int64}
theorem ml_refsWq : ∀ j, j < 97 → (match kMl[j]? with
  | some (some q) => decide (en_refs ml_tb3 107 j = [q])
  | _ => true) = true := by decide +kernel
theorem ml_RWq {w : sm_W} (hm : en_mem ml_tb3 (mlW c48) w) : kM w.2.2.2 = w.2.2.2 := kM_eq (fun j q hq => by
  have hj : j < 97 := by
    have : j < kMl.length := by
      rcases Nat.lt_or_ge j kMl.length with h | h
      · exact h
      · rw [List.getElem?_eq_none h] at hq; cases hq
    exact this
  have e := ml_refsWq j hj
  rw [hq] at e
  have e : en_refs ml_tb3 107 j = [q] := of_decide_eq_true e
  obtain ⟨r, h1, h2⟩ := hm.2.2.1 107 j (by rw [e]; exact List.cons_ne_nil _ _)
  rw [e] at h1
  rw [h2, List.mem_singleton.mp h1])
theorem ml_wrWq {I : sm_I} {L : sm_L} {R : sm_R} {p j : Nat} {x : Int32} (hm : en_mem ml_tb3 (mlW c48) (xLay, I, L, R)) (hX : (mlW c48) (xLay, sm_up I p j x, L, R)) (hq : ∀ q, en_int ml_tb3 p j = some q → q.1 ≤ x.toInt ∧ x.toInt ≤ q.2) : en_mem ml_tb3 (mlW c48) (xLay, sm_up I p j x, L, R) := by
  refine ⟨hm.1, ?_, hm.2.2.1, hm.2.2.2.1, hX⟩
  intro a b q h
  show q.1 ≤ (sm_up I p j x a b).toInt ∧ (sm_up I p j x a b).toInt ≤ q.2
  by_cases c : a = p ∧ b = j
  · obtain ⟨c1, c2⟩ := c
    subst c1; subst c2
    rw [en_up_eq]; exact hq q h
  · rw [en_up_ne _ _ _ _ c]; exact hm.2.1 a b q h
theorem ml_wfWq {I : sm_I} {L : sm_L} {R : sm_R} {p j : Nat} {x : Int32} {q : Int × Int} (hm : en_mem ml_tb3 (mlW c48) (xLay, I, L, R)) (hf : en_fix ml_tb3 p j = false) (e : en_int ml_tb3 p j = some q) (hx : q.1 ≤ x.toInt ∧ x.toInt ≤ q.2) : en_mem ml_tb3 (mlW c48) (xLay, sm_up I p j x, L, R) := ml_wrWq hm (mlW_ok.1 _ (I, L, R) _ _ _ hf hm.2.2.2.2) (fun r hr => by rw [e] at hr; rw [← Option.some.inj hr]; exact hx)
theorem ml_weWq {I : sm_I} {L : sm_L} {R : sm_R} {p j n : Nat} {x : Int32} {q : Int × Int} (hm : en_mem ml_tb3 (mlW c48) (xLay, I, L, R)) (hX : (mlW c48) (xLay, sm_up I p j x, L, R)) (e : en_int ml_tb3 p j = bif Nat.blt j n then some q else none) (hx : q.1 ≤ x.toInt ∧ x.toInt ≤ q.2) : en_mem ml_tb3 (mlW c48) (xLay, sm_up I p j x, L, R) := ml_wrWq hm hX (fun r hr => by
  rw [e] at hr
  cases c : Nat.blt j n with
  | true => rw [c] at hr; rw [← Option.some.inj hr]; exact hx
  | false => rw [c] at hr; cases hr)
theorem ml_tapedWq {w : sm_W} (hm : en_mem ml_tb3 (mlW c48) w) : 0 ≤ (w.2.1 107 2).toInt ∧ (w.2.1 107 2).toInt ≤ 2000 := hm.2.1 107 2 (0, 2000) (by decide +kernel)
theorem ml_liveWq {w : sm_W} (hm : en_mem ml_tb3 (mlW c48) w) : 0 ≤ (w.2.1 107 18).toInt ∧ (w.2.1 107 18).toInt ≤ 1 ∧ ((w.2.1 107 18).toNatClampNeg : Int) = (w.2.1 107 18).toInt ∧ ((w.2.1 107 18).toNatClampNeg = 0 ∨ (w.2.1 107 18).toNatClampNeg = 1) := by
  have l : 0 ≤ (w.2.1 107 18).toInt ∧ (w.2.1 107 18).toInt ≤ 1 := hm.2.1 107 18 (0, 1) (by decide +kernel)
  have ln := kl_nat l.1
  refine ⟨l.1, l.2, ln, ?_⟩
  omega
theorem ml_rowWq {w : sm_W} (hm : en_mem ml_tb3 (mlW c48) w) {p n : Nat} {q : Int × Int} (e : ∀ j, en_int ml_tb3 p j = bif Nat.blt j n then some q else none) (j : Nat) (hj : j < n) : q.1 ≤ (w.2.1 p j).toInt ∧ (w.2.1 p j).toInt ≤ q.2 := hm.2.1 p j q (by rw [e j, show Nat.blt j n = true from Nat.ble_eq_true_of_le hj]; rfl)
theorem ml_we2Wq {I : sm_I} {L : sm_L} {R : sm_R} {p j n : Nat} {x : Int32} {q : Int × Int} (hm : en_mem ml_tb3 (mlW c48) (xLay, I, L, R)) (hf : en_fix ml_tb3 p j = false) (e : en_int ml_tb3 p j = bif Nat.blt j n then some q else none) (hx : q.1 ≤ x.toInt ∧ x.toInt ≤ q.2) : en_mem ml_tb3 (mlW c48) (xLay, sm_up I p j x, L, R) := ml_weWq hm (mlW_ok.1 _ (I, L, R) _ _ _ hf hm.2.2.2.2) e hx
theorem ml_cvWq {S : sm_C} {d : Nat} {c : en_Ct} {vs : List Value} {I : sm_I} {L : sm_L} {R : sm_R} {C : sm_I → sm_L → sm_R → Prop} (h : en_hold ml_tb3 (mlW c48) sm_P S c) (hd : c.2.2.2.2.2 ≤ d) (hv : en_pvs c.2.1 vs) (hm : en_mem ml_tb3 (mlW c48) (xLay, I, L, R)) (hp : en_pf c.2.2.1 (xLay, I, L, R)) (hr : c.2.2.2.1 = (9, 0, 0)) (k : ∀ (I' : sm_I) (L' : sm_L) (R' : sm_R), en_mem ml_tb3 (mlW c48) (xLay, I', L', R') → en_fr c.2.2.2.2.1 (xLay, I, L, R) (xLay, I', L', R') → C I' L' R') : sm_wp sm_P S d c.1 0 vs [] (xLay, I, L, kM R) (0, 0) (fun z => ∃ (I2 : sm_I) (L2 : sm_L) (R2 : sm_R), z = (none, (xLay, I2, L2, kM R2)) ∧ C I2 L2 R2) := by
  have e0 : kM R = R := ml_RWq hm
  rw [e0]
  refine sm_wp_mono (h d hd vs _ hv hm hp) (fun z q => ?_)
  obtain ⟨o, lay, I2, L2, R2⟩ := z
  obtain ⟨q1, q2, q3⟩ := q
  obtain rfl : lay = xLay := q2.2.2.2.2.1
  have e : kM R2 = R2 := ml_RWq q2
  rw [hr] at q1
  have q1 : en_pr (9, 0, 0) o := q1
  cases o with
  | none => exact ⟨I2, L2, R2, by rw [e], k I2 L2 R2 q2 q3⟩
  | some v =>
    rcases q1 with q1 | ⟨q1, -⟩
    · cases v with
      | int r => have q1 : (9 : Nat) = 0 := q1.1; omega
      | long _ => have q1 : (9 : Nat) = 5 := q1; omega
      | null => have q1 : (9 : Nat) = 1 := q1; omega
      | ref p => have q1 : (9 : Nat) = 2 := q1.1; omega
      | float _ => exact q1.elim
      | double _ => exact q1.elim
      | retAddr _ => exact q1.elim
    · have q1 : (9 : Nat) = 3 := q1
      omega
theorem ml_topWq {S : sm_C} {d f : Nat} {vs : List Value} {t : en_Fd} {W : en_W} {w : sm_W} (hm : en_mem ml_tb3 (mlW c48) w) (h : ∀ (I : sm_I) (L : sm_L) (R : sm_R), w = (xLay, I, L, R) → en_mem ml_tb3 (mlW c48) (xLay, I, L, R) → sm_wp sm_P S d f 0 vs [] (xLay, I, L, kM R) (0, 0) (fun z => ∃ (o : Option Value) (I2 : sm_I) (L2 : sm_L) (R2 : sm_R), z = (o, (xLay, I2, L2, kM R2)) ∧ en_pr t o ∧ en_mem ml_tb3 (mlW c48) (xLay, I2, L2, R2) ∧ en_fr W (xLay, I, L, R) (xLay, I2, L2, R2))) : sm_wp sm_P S d f 0 vs [] w (0, 0) (fun z => en_pr t z.1 ∧ en_mem ml_tb3 (mlW c48) z.2 ∧ en_fr W w z.2) := by
  obtain ⟨lay, I, L, R⟩ := w
  obtain rfl : lay = xLay := hm.2.2.2.2.1
  have e : kM R = R := ml_RWq hm
  have q := h I L R rfl hm
  rw [e] at q
  refine sm_wp_mono q (fun z q => ?_)
  obtain ⟨o, I2, L2, R2, rfl, q1, q2, q3⟩ := q
  have e2 : kM R2 = R2 := ml_RWq q2
  rw [e2]
  exact ⟨q1, q2, q3⟩
end
