/-! worlds of the reference -/
theorem ml_refs : ∀ j, j < 97 → (match kMl[j]? with
  | some (some q) => decide (en_refs ml_tb 107 j = [q])
  | _ => true) = true := by decide +kernel
theorem ml_R {w : sm_W} (hm : en_mem ml_tb mlX w) : kM w.2.2.2 = w.2.2.2 := kM_eq (fun j q hq => by
  have hj : j < 97 := by
    have : j < kMl.length := by
      rcases Nat.lt_or_ge j kMl.length with h | h
      · exact h
      · rw [List.getElem?_eq_none h] at hq; cases hq
    exact this
  have e := ml_refs j hj
  rw [hq] at e
  have e : en_refs ml_tb 107 j = [q] := of_decide_eq_true e
  obtain ⟨r, h1, h2⟩ := hm.2.2.1 107 j (by rw [e]; exact List.cons_ne_nil _ _)
  rw [e] at h1
  rw [h2, List.mem_singleton.mp h1])
theorem ml_wr {I : sm_I} {L : sm_L} {R : sm_R} {p j : Nat} {x : Int32} (hm : en_mem ml_tb mlX (xLay, I, L, R)) (hX : mlX (xLay, sm_up I p j x, L, R)) (hq : ∀ q, en_int ml_tb p j = some q → q.1 ≤ x.toInt ∧ x.toInt ≤ q.2) : en_mem ml_tb mlX (xLay, sm_up I p j x, L, R) := by
  refine ⟨hm.1, ?_, hm.2.2.1, hm.2.2.2.1, hX⟩
  intro a b q h
  show q.1 ≤ (sm_up I p j x a b).toInt ∧ (sm_up I p j x a b).toInt ≤ q.2
  by_cases c : a = p ∧ b = j
  · obtain ⟨c1, c2⟩ := c
    subst c1; subst c2
    rw [en_up_eq]; exact hq q h
  · rw [en_up_ne _ _ _ _ c]; exact hm.2.1 a b q h
/-- a field -/
theorem ml_wf {I : sm_I} {L : sm_L} {R : sm_R} {p j : Nat} {x : Int32} {q : Int × Int} (hm : en_mem ml_tb mlX (xLay, I, L, R)) (hf : en_fix ml_tb p j = false) (e : en_int ml_tb p j = some q) (hx : q.1 ≤ x.toInt ∧ x.toInt ≤ q.2) : en_mem ml_tb mlX (xLay, sm_up I p j x, L, R) := ml_wr hm (mlX_ok.1 _ (I, L, R) _ _ _ hf hm.2.2.2.2) (fun r hr => by rw [e] at hr; rw [← Option.some.inj hr]; exact hx)
/-- an element of a row -/
theorem ml_we {I : sm_I} {L : sm_L} {R : sm_R} {p j n : Nat} {x : Int32} {q : Int × Int} (hm : en_mem ml_tb mlX (xLay, I, L, R)) (hX : mlX (xLay, sm_up I p j x, L, R)) (e : en_int ml_tb p j = bif Nat.blt j n then some q else none) (hx : q.1 ≤ x.toInt ∧ x.toInt ≤ q.2) : en_mem ml_tb mlX (xLay, sm_up I p j x, L, R) := ml_wr hm hX (fun r hr => by
  rw [e] at hr
  cases c : Nat.blt j n with
  | true => rw [c] at hr; rw [← Option.some.inj hr]; exact hx
  | false => rw [c] at hr; cases hr)
theorem ml_fr {W : en_W} {w0 : sm_W} {lay : List (Nat × Nat)} {I : sm_I} {L : sm_L} {R : sm_R} {p j : Nat} {x : Int32} (h : en_fr W w0 (lay, I, L, R)) (hw : en_wok W p j = true) : en_fr W w0 (lay, sm_up I p j x, L, R) := by
  refine ⟨h.1, fun a b hab => ⟨?_, (h.2 a b hab).2⟩⟩
  show sm_up I p j x a b = w0.2.1 a b
  rw [en_up_ne _ _ _ _ (fun c => by rw [c.1, c.2, hw] at hab; cases hab)]
  exact (h.2 a b hab).1
theorem ml_byte (x : Int32) : -128 ≤ (vp_nar .byte x).toInt ∧ (vp_nar .byte x).toInt ≤ 127 := by
  show -128 ≤ (x.toInt8.toInt32).toInt ∧ (x.toInt8.toInt32).toInt ≤ 127
  rw [Int8.toInt_toInt32]
  exact ⟨Int8.le_toInt _, Int8.toInt_le _⟩
theorem ml_taped {w : sm_W} (hm : en_mem ml_tb mlX w) : 0 ≤ (w.2.1 107 2).toInt ∧ (w.2.1 107 2).toInt ≤ 2000 := hm.2.1 107 2 (0, 2000) (by decide +kernel)
