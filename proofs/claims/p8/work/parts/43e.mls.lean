/-! choices: a number that the world tells -/
def ml_ch (I : sm_I) (x : Int32) : Int32 := if (10 : Int32) ≤ x then (if (60 : Int32) ≤ x then (if I 152 (x - 60).toNatClampNeg = -1 then 0 else 2) else (if I 142 (x - 10).toNatClampNeg = -1 then 0 else 2)) else I 128 ((10 : Int32) * I 107 18 + x).toNatClampNeg
theorem mx_choices {S : sm_C} {d : Nat} {Φ : sm_Z → Prop} {I : sm_I} {L : sm_L} {R : sm_R} {x : Int32} (hm : en_mem ml_tb mlX (xLay, I, L, R)) (h0 : 0 ≤ x.toInt) (h1 : x.toInt ≤ 69) (hh : x.toInt ≤ 54 ∨ 60 ≤ x.toInt) (h : 0 ≤ (ml_ch I x).toInt → (ml_ch I x).toInt ≤ 4 → Φ (some (.int (ml_ch I x)), (xLay, I, L, kM R))) : sm_wp sm_P S d 114 0 [.ref 107, .int x] [] (xLay, I, L, kM R) (0, 0) Φ := by
  have c10 : (10 : Int32).toInt = 10 := by decide
  have c60 : (60 : Int32).toInt = 60 := by decide
  have t0 : (0 : Int32).toInt = 0 := by decide
  have t2 : (2 : Int32).toInt = 2 := by decide
  refine v_X12_choices_0 ⟨fun a => ⟨fun b => ⟨?_, fun n1 e1 => ⟨fun c => ?_, fun c => ?_⟩⟩, fun b => ⟨?_, fun n1 e1 => ⟨fun c => ?_, fun c => ?_⟩⟩⟩, fun a n6 e6 => ⟨?_, ?_⟩⟩
  · have b' := kl_le.mp b
    rw [c60] at b'
    have s : (x - 60).toInt = x.toInt - 60 := by rw [Int32.toInt_sub, c60]; exact en_bmod (by omega) (by omega) (Or.inl rfl)
    exact kl_in (by omega) (by omega)
  · have e : ml_ch I x = 0 := by unfold ml_ch; rw [if_pos a, if_pos b, if_pos (e1 ▸ c)]
    rw [e] at h; exact h (by rw [t0]; omega) (by rw [t0]; omega)
  · have e : ml_ch I x = 2 := by unfold ml_ch; rw [if_pos a, if_pos b, if_neg (e1 ▸ c)]
    rw [e] at h; exact h (by rw [t2]; omega) (by rw [t2]; omega)
  · have a' := kl_le.mp a
    have b' := kl_nle b
    rw [c10] at a'
    rw [c60] at b'
    have s : (x - 10).toInt = x.toInt - 10 := by rw [Int32.toInt_sub, c10]; exact en_bmod (by omega) (by omega) (Or.inl rfl)
    exact kl_in (by omega) (by omega)
  · have e : ml_ch I x = 0 := by unfold ml_ch; rw [if_pos a, if_neg b, if_pos (e1 ▸ c)]
    rw [e] at h; exact h (by rw [t0]; omega) (by rw [t0]; omega)
  · have e : ml_ch I x = 2 := by unfold ml_ch; rw [if_pos a, if_neg b, if_neg (e1 ▸ c)]
    rw [e] at h; exact h (by rw [t2]; omega) (by rw [t2]; omega)
  all_goals
    obtain ⟨l0, l1, ln, lc⟩ := ml_live hm
    have l0 : 0 ≤ (I 107 18).toInt := l0
    have l1 : (I 107 18).toInt ≤ 1 := l1
    have a' := kl_nle a
    rw [c10] at a'
    have m1 : ((10 : Int32) * I 107 18).toInt = 10 * (I 107 18).toInt := by rw [kl_mul (by rw [c10]; omega) (by rw [c10]; omega), c10]
    have m2 : n6.toInt = 10 * (I 107 18).toInt + x.toInt := by rw [e6, kl_add (by rw [m1]; omega) (by rw [m1]; omega), m1]
  · exact kl_in (by omega) (by omega)
  · have nn := kl_nat (i := n6) (by omega)
    have ba : 0 ≤ (I 128 n6.toNatClampNeg).toInt ∧ (I 128 n6.toNatClampNeg).toInt ≤ 4 := ml_row hm (p := 128) (n := 20) (q := (0, 4)) (fun _ => rfl) _ (by omega)
    have e : ml_ch I x = I 128 n6.toNatClampNeg := by unfold ml_ch; rw [if_neg a, e6]
    rw [e] at h; exact h ba.1 ba.2
