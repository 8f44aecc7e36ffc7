section
/-! the class's reader with into = 49, exact by the pure machine, second part (template wip/pe/83.tpl.txt) -/
section
variable {S : sm_C} {d : Nat} {Φ : sm_Z → Prop} {I I0 : sm_I} {L L0 : sm_L} {R : sm_R} {a : sg}
theorem k49_addPart6 {x2 : Int32} (hz : kz 49 a I L I0 L0) (q0 : 0 ≤ x2.toInt) (q1 : x2.toInt < 10) (h : ∀ J L', kz 49 (ad_pt6 x2 a) J L' I0 L0 → Φ (none, (xLay, J, L', kQ49 R))) : sm_wp sm_P S d 12 6 [.ref 49, .int x2] [] (xLay, I, L, kQ49 R) (0, 0) Φ := by
  have e22 : I 59 x2.toNatClampNeg = a.1 22 x2.toNatClampNeg := k49_T hz 22 _ (by decide) (by decide)
  have e23 : ∀ j, I 60 j = a.1 23 j := fun j => k49_T hz 23 j (by decide) (by decide)
  have c40 : (Int32.ofNat 40).toInt = 40 := by decide
  unfold ad_pt6 at h
  refine s49_X10_addPart_6 ⟨kl_in q0 (by omega), fun n1 en => ?_⟩
  rw [e22] at en
  rw [← en] at h
  refine ⟨fun c => ?_, fun c => ⟨fun c1 => ?_, fun c1 => ?_⟩⟩
  · rw [if_pos c] at h; exact s49_X10_addPart_10 (h I L hz)
  · rw [if_neg c, if_pos (show (40 : Int32) ≤ n1 from c1)] at h; exact s49_X10_addPart_10 (h I L hz)
  · rw [if_neg c, if_neg (show ¬ (40 : Int32) ≤ n1 from c1)] at h
    have c := kl_nlt0 c
    have c1 := kl_nle c1
    have v : vp_in n1 40 := kl_in c (by omega)
    rw [e23]
    refine ⟨v, fun c2 => ?_, fun c2 => ⟨v, fun n2 en2 => ⟨v, fun I3 q3 => ?_⟩⟩⟩
    · rw [if_pos c2] at h; exact s49_X10_addPart_10 (h I L hz)
    · rw [if_neg c2] at h
      rw [q3, en2]
      exact s49_X10_addPart_10 (h _ L (k49_up (by decide) (by decide) hz))
theorem k49_addPart {x1 : Int32} {b : Bool} (hz : kz 49 a I L I0 L0) (hb : x1 = 0 ↔ b = false) (h : ∀ J L', kz 49 (ad_part b a) J L' I0 L0 → Φ (none, (xLay, J, L', kQ49 R))) : sm_wp sm_P S d 12 0 [.ref 49, .int x1] [] (xLay, I, L, kQ49 R) (0, 0) Φ := by
  have e3 : I 49 3 = a.1 12 3 := k49_T hz 12 3 (by decide) (by decide)
  have c10 : (10 : Int32).toInt = 10 := by decide
  unfold ad_part at h
  refine s49_X10_addPart_0 ?_
  rw [e3]
  have e22 : I 59 (a.1 12 3 - 1).toNatClampNeg = a.1 22 (a.1 12 3 - 1).toNatClampNeg := k49_T hz 22 _ (by decide) (by decide)
  rw [e22]
  refine ⟨fun c => ?_, fun c => ⟨fun c1 => ?_, fun c1 => ?_⟩⟩
  · rw [if_pos c] at h; exact h I L hz
  · rw [if_neg c, if_pos c1] at h
    have c0 := kl_nlt0 c
    have c9 := kl_lt.mp c1
    have v : vp_in (a.1 12 3 - 1) 10 := kl_in c0 (by omega)
    refine ⟨fun c2 => ?_, fun c2 => ⟨v, fun c3 => ?_, fun c3 => ⟨v, fun n1 en => ⟨v, fun I2 q2 => ?_⟩⟩⟩⟩
    · rw [if_neg (by rw [hb.mp c2]; decide)] at h
      exact k49_addPart6 hz c0 (by omega) h
    all_goals
      have bt : b = true := by
        cases e : b with
        | true => rfl
        | false => exact absurd (hb.mpr e) c2
      rw [if_pos bt] at h
    · rw [if_pos c3] at h
      exact k49_addPart6 hz c0 (by omega) h
    · rw [if_neg c3] at h
      rw [q2, en]
      exact k49_addPart6 (k49_up (by decide) (by decide) hz) c0 (by omega) h
  · rw [if_neg c, if_neg c1] at h; exact h I L hz
theorem k49_trustLast {x1 : Int32} (hz : kz 49 a I L I0 L0) (h : ∀ J L', kz 49 (tr_last x1 a) J L' I0 L0 → Φ (none, (xLay, J, L', kQ49 R))) : sm_wp sm_P S d 25 0 [.ref 49, .int x1] [] (xLay, I, L, kQ49 R) (0, 0) Φ := by
  have e3 : I 49 3 = a.1 12 3 := k49_T hz 12 3 (by decide) (by decide)
  have c10 : (10 : Int32).toInt = 10 := by decide
  unfold tr_last at h
  refine s49_X10_trustLast_0 ⟨fun c => ?_, fun c => ⟨fun c1 => ?_, fun c1 => ⟨?_, fun I1 q1 => ?_⟩⟩⟩
  · rw [if_pos (by rw [← e3]; exact c)] at h; exact h I L hz
  · rw [if_neg (by rw [← e3]; exact c), if_pos (by rw [← e3]; exact c1)] at h; exact h I L hz
  · have c := kl_nle c
    have c1 := kl_nlt c1
    rw [kl_0] at c
    have s : (I 49 3 - 1).toInt = (I 49 3).toInt - 1 := by rw [Int32.toInt_sub, kl_1]; exact en_bmod (by omega) (by omega) (Or.inl rfl)
    exact kl_in (by omega) (by omega)
  · rw [if_neg (by rw [← e3]; exact c), if_neg (by rw [← e3]; exact c1)] at h
    rw [q1, e3]
    exact h _ L (k49_up (by decide) (by decide) hz)
theorem k49_takeTrust {x1 : Int32} (hz : kz 49 a I L I0 L0) (h : ∀ J L', kz 49 (tk_trust x1 a).2 J L' I0 L0 → Φ (some (.int (tk_trust x1 a).1), (xLay, J, L', kQ49 R))) : sm_wp sm_P S (d + 1) 284 0 [.ref 2, .int x1] [] (xLay, I, L, kQ49 R) (0, 0) Φ := by
  unfold tk_trust at h
  refine s49_X7_takeTrust_0 ⟨fun c => ?_, fun c => ⟨fun c1 => ?_, fun c1 => ?_⟩⟩
  · rw [if_pos c] at h; exact h I L hz
  · rw [if_neg c, if_pos c1] at h
    exact k49_trustLast hz (fun J L' hJ => ⟨J, L', rfl, h J L' hJ⟩)
  · rw [if_neg c, if_neg c1] at h; exact h I L hz
theorem k49_sp16 {Ψ : sm_Z → Prop} {x1 x2 x3 x4 x5 : Int32} (hz : kz 49 a I L I0 L0) (h : ∀ J L', kz 49 (spb 16 10 x1 x2 x3 x4 x5 a) J L' I0 L0 → Ψ (none, (xLay, J, L', kQ49 R))) : sm_wp sm_P S (d + 1) 294 0 [.ref 53, .int x1, .int x2, .int x3] [] (xLay, I, L, kQ49 R) (0, 0) (fun z => ∃ (I1 : sm_I) (L2 : sm_L), z = (none, (xLay, I1, L2, (kQ49 R))) ∧ I1 2 10 = I 2 10 ∧ I1 2 8 = I 2 8 ∧ sm_wp sm_P S (d + 1) 286 0 [.ref 53, .int x1, .int x4, .int x5] [] (xLay, I1, L2, (kQ49 R)) (0, 0) Ψ) := by
  unfold spb at h
  refine s49c16_X8_put_0 (s49c16_X8_hasRow_0 ⟨fun c => ⟨_, I, L, rfl, fun _ => ⟨I, L, rfl, rfl, rfl, ?_⟩, fun z => absurd rfl z⟩, fun c => ⟨fun c1 => ⟨_, I, L, rfl, fun _ => ⟨I, L, rfl, rfl, rfl, ?_⟩, fun z => absurd rfl z⟩, fun c1 => ⟨_, I, L, rfl, fun z => absurd z (by decide), fun _ => ?_⟩⟩⟩)
  · rw [if_pos c] at h
    exact s49c16_X8_bound_0 (s49c16_X8_hasRow_0 ⟨fun _ => ⟨_, I, L, rfl, fun _ => h I L hz, fun z => absurd rfl z⟩, fun z => absurd c z⟩)
  · rw [if_neg c, if_pos c1] at h
    exact s49c16_X8_bound_0 (s49c16_X8_hasRow_0 ⟨fun z => absurd z c, fun _ => ⟨fun _ => ⟨_, I, L, rfl, fun _ => h I L hz, fun z => absurd rfl z⟩, fun z => absurd c1 z⟩⟩)
  · rw [if_neg c, if_neg c1] at h
    have c0 := kl_nlt0 c
    have c9 := kl_nle c1
    have v : vp_in x1 10 := kl_in c0 (by rw [show (Int32.ofNat 10).toInt = 10 from by decide] at c9; omega)
    refine ⟨v, fun I4 q4 => ⟨v, fun I5 q5 => ⟨I5, L, rfl, ?_, ?_, ?_⟩⟩⟩
    · rw [q5, en_up_ne _ _ _ _ (by omega), q4, en_up_ne _ _ _ _ (by omega)]
    · rw [q5, en_up_ne _ _ _ _ (by omega), q4, en_up_ne _ _ _ _ (by omega)]
    · refine s49c16_X8_bound_0 (s49c16_X8_hasRow_0 ⟨fun z => absurd z c, fun _ => ⟨fun z => absurd z c1, fun _ => ⟨_, I5, L, rfl, fun z => absurd z (by decide), fun _ => ⟨v, fun I6 q6 => ⟨v, fun I7 q7 => ?_⟩⟩⟩⟩⟩)
      rw [q7, q6, q5, q4]
      exact h _ L (k49_up (c := 20) (by decide) (by decide) (k49_up (c := 19) (by decide) (by decide) (k49_up (c := 18) (by decide) (by decide) (k49_up (c := 17) (by decide) (by decide) hz))))
theorem k49_sp24 {Ψ : sm_Z → Prop} {x1 x2 x3 x4 x5 : Int32} (hz : kz 49 a I L I0 L0) (h : ∀ J L', kz 49 (spb 24 120 x1 x2 x3 x4 x5 a) J L' I0 L0 → Ψ (none, (xLay, J, L', kQ49 R))) : sm_wp sm_P S (d + 1) 294 0 [.ref 61, .int x1, .int x2, .int x3] [] (xLay, I, L, kQ49 R) (0, 0) (fun z => ∃ (I1 : sm_I) (L2 : sm_L), z = (none, (xLay, I1, L2, (kQ49 R))) ∧ I1 2 10 = I 2 10 ∧ I1 2 8 = I 2 8 ∧ sm_wp sm_P S (d + 1) 286 0 [.ref 61, .int x1, .int x4, .int x5] [] (xLay, I1, L2, (kQ49 R)) (0, 0) Ψ) := by
  unfold spb at h
  refine s49c24_X8_put_0 (s49c24_X8_hasRow_0 ⟨fun c => ⟨_, I, L, rfl, fun _ => ⟨I, L, rfl, rfl, rfl, ?_⟩, fun z => absurd rfl z⟩, fun c => ⟨fun c1 => ⟨_, I, L, rfl, fun _ => ⟨I, L, rfl, rfl, rfl, ?_⟩, fun z => absurd rfl z⟩, fun c1 => ⟨_, I, L, rfl, fun z => absurd z (by decide), fun _ => ?_⟩⟩⟩)
  · rw [if_pos c] at h
    exact s49c24_X8_bound_0 (s49c24_X8_hasRow_0 ⟨fun _ => ⟨_, I, L, rfl, fun _ => h I L hz, fun z => absurd rfl z⟩, fun z => absurd c z⟩)
  · rw [if_neg c, if_pos c1] at h
    exact s49c24_X8_bound_0 (s49c24_X8_hasRow_0 ⟨fun z => absurd z c, fun _ => ⟨fun _ => ⟨_, I, L, rfl, fun _ => h I L hz, fun z => absurd rfl z⟩, fun z => absurd c1 z⟩⟩)
  · rw [if_neg c, if_neg c1] at h
    have c0 := kl_nlt0 c
    have c9 := kl_nle c1
    have v : vp_in x1 120 := kl_in c0 (by rw [show (Int32.ofNat 120).toInt = 120 from by decide] at c9; omega)
    refine ⟨v, fun I4 q4 => ⟨v, fun I5 q5 => ⟨I5, L, rfl, ?_, ?_, ?_⟩⟩⟩
    · rw [q5, en_up_ne _ _ _ _ (by omega), q4, en_up_ne _ _ _ _ (by omega)]
    · rw [q5, en_up_ne _ _ _ _ (by omega), q4, en_up_ne _ _ _ _ (by omega)]
    · refine s49c24_X8_bound_0 (s49c24_X8_hasRow_0 ⟨fun z => absurd z c, fun _ => ⟨fun z => absurd z c1, fun _ => ⟨_, I5, L, rfl, fun z => absurd z (by decide), fun _ => ⟨v, fun I6 q6 => ⟨v, fun I7 q7 => ?_⟩⟩⟩⟩⟩)
      rw [q7, q6, q5, q4]
      exact h _ L (k49_up (c := 28) (by decide) (by decide) (k49_up (c := 27) (by decide) (by decide) (k49_up (c := 26) (by decide) (by decide) (k49_up (c := 25) (by decide) (by decide) hz))))
theorem k49_sp29 {Ψ : sm_Z → Prop} {x1 x2 x3 x4 x5 : Int32} (hz : kz 49 a I L I0 L0) (h : ∀ J L', kz 49 (spb 29 5 x1 x2 x3 x4 x5 a) J L' I0 L0 → Ψ (none, (xLay, J, L', kQ49 R))) : sm_wp sm_P S (d + 1) 294 0 [.ref 66, .int x1, .int x2, .int x3] [] (xLay, I, L, kQ49 R) (0, 0) (fun z => ∃ (I1 : sm_I) (L2 : sm_L), z = (none, (xLay, I1, L2, (kQ49 R))) ∧ I1 2 10 = I 2 10 ∧ I1 2 8 = I 2 8 ∧ sm_wp sm_P S (d + 1) 286 0 [.ref 66, .int x1, .int x4, .int x5] [] (xLay, I1, L2, (kQ49 R)) (0, 0) Ψ) := by
  unfold spb at h
  refine s49c29_X8_put_0 (s49c29_X8_hasRow_0 ⟨fun c => ⟨_, I, L, rfl, fun _ => ⟨I, L, rfl, rfl, rfl, ?_⟩, fun z => absurd rfl z⟩, fun c => ⟨fun c1 => ⟨_, I, L, rfl, fun _ => ⟨I, L, rfl, rfl, rfl, ?_⟩, fun z => absurd rfl z⟩, fun c1 => ⟨_, I, L, rfl, fun z => absurd z (by decide), fun _ => ?_⟩⟩⟩)
  · rw [if_pos c] at h
    exact s49c29_X8_bound_0 (s49c29_X8_hasRow_0 ⟨fun _ => ⟨_, I, L, rfl, fun _ => h I L hz, fun z => absurd rfl z⟩, fun z => absurd c z⟩)
  · rw [if_neg c, if_pos c1] at h
    exact s49c29_X8_bound_0 (s49c29_X8_hasRow_0 ⟨fun z => absurd z c, fun _ => ⟨fun _ => ⟨_, I, L, rfl, fun _ => h I L hz, fun z => absurd rfl z⟩, fun z => absurd c1 z⟩⟩)
  · rw [if_neg c, if_neg c1] at h
    have c0 := kl_nlt0 c
    have c9 := kl_nle c1
    have v : vp_in x1 5 := kl_in c0 (by rw [show (Int32.ofNat 5).toInt = 5 from by decide] at c9; omega)
    refine ⟨v, fun I4 q4 => ⟨v, fun I5 q5 => ⟨I5, L, rfl, ?_, ?_, ?_⟩⟩⟩
    · rw [q5, en_up_ne _ _ _ _ (by omega), q4, en_up_ne _ _ _ _ (by omega)]
    · rw [q5, en_up_ne _ _ _ _ (by omega), q4, en_up_ne _ _ _ _ (by omega)]
    · refine s49c29_X8_bound_0 (s49c29_X8_hasRow_0 ⟨fun z => absurd z c, fun _ => ⟨fun z => absurd z c1, fun _ => ⟨_, I5, L, rfl, fun z => absurd z (by decide), fun _ => ⟨v, fun I6 q6 => ⟨v, fun I7 q7 => ?_⟩⟩⟩⟩⟩)
      rw [q7, q6, q5, q4]
      exact h _ L (k49_up (c := 33) (by decide) (by decide) (k49_up (c := 32) (by decide) (by decide) (k49_up (c := 31) (by decide) (by decide) (k49_up (c := 30) (by decide) (by decide) hz))))
theorem k49_addPath {x1 x2 x3 : Int32} (hz : kz 49 a I L I0 L0) (h : ∀ J L', kz 49 (ad_path x1 x2 x3 a) J L' I0 L0 → Φ (none, (xLay, J, L', kQ49 R))) : sm_wp sm_P S d 13 0 [.ref 49, .int x1, .int x2, .int x3] [] (xLay, I, L, kQ49 R) (0, 0) Φ := by
  have c6 : (6 : Int32).toInt = 6 := by decide
  unfold ad_path at h
  refine s49_X10_addPath_0 ⟨fun c => ?_, fun c => ⟨fun c1 => ?_, fun c1 => ⟨fun c2 => ?_, fun c2 => ⟨fun c3 => ?_, fun c3 => ?_⟩⟩⟩⟩
  · rw [if_pos c] at h; exact h I L hz
  · rw [if_neg c, if_pos c1] at h; exact h I L hz
  · rw [if_neg c, if_neg c1, if_pos c2] at h; exact h I L hz
  · rw [if_neg c, if_neg c1, if_neg c2, if_pos c3] at h
    have d0 := kl_nlt0 c
    have d1 := kl_nle c1
    have d2 := kl_nlt0 c2
    have d3 := kl_lt.mp c3
    have ix : ∀ x y : Int32, 0 ≤ x.toInt → x.toInt < 6 → 0 ≤ y.toInt → y.toInt < 6 → vp_in (x * 6 + y) 36 := fun x y p1 p2 p3 p4 => by
      have m : (x * 6).toInt = x.toInt * 6 := ml_mu rfl c6 (by omega) (by omega)
      have s : (x * 6 + y).toInt = x.toInt * 6 + y.toInt := ml_ad m rfl (by omega) (by omega)
      exact kl_in (by omega) (by omega)
    have v1 := ix x1 x2 d0 (by omega) d2 (by omega)
    have v2 := ix x2 x1 d2 (by omega) d0 (by omega)
    have e13 : I 50 (x1 * 6 + x2).toNatClampNeg = a.1 13 (x1 * 6 + x2).toNatClampNeg := k49_T hz 13 _ (by decide) (by decide)
    have wr : ∀ I2 : sm_I, I2 = (sm_up I 50 ((x1 * (6 : Int32)) + x2).toNatClampNeg x3) → ∀ I3 : sm_I, I3 = (sm_up I2 50 ((x2 * (6 : Int32)) + x1).toNatClampNeg x3) → kz 49 (ad_w x1 x2 x3 a) I3 L I0 L0 := fun I2 q2 I3 q3 => by
      rw [q3, q2]
      exact k49_up (c := 13) (by decide) (by decide) (k49_up (c := 13) (by decide) (by decide) hz)
    refine ⟨v1, fun n1 en => ?_⟩
    rw [e13] at en
    rw [← en] at h
    refine ⟨fun c4 => ⟨v1, fun I2 q2 => ⟨v2, fun I3 q3 => ?_⟩⟩, fun c4 => ⟨fun c5 => ?_, fun c5 => ⟨v1, fun I2 q2 => ⟨v2, fun I3 q3 => ?_⟩⟩⟩⟩
    · rw [if_pos c4] at h; exact h I3 L (wr I2 q2 I3 q3)
    · rw [if_neg c4, if_pos c5] at h; exact h I L hz
    · rw [if_neg c4, if_neg c5] at h; exact h I3 L (wr I2 q2 I3 q3)
  · rw [if_neg c, if_neg c1, if_neg c2, if_neg c3] at h; exact h I L hz
theorem k49_endPO {x1 : Int32} (hz : kz 49 a I L I0 L0) (h : ∀ J L', kz 49 (en_po x1 a) J L' I0 L0 → Φ (none, (xLay, J, L', kQ49 R))) : sm_wp sm_P S (d + 2) 270 0 [.ref 2, .int x1] [] (xLay, I, L, kQ49 R) (0, 0) Φ := by
  have e7 : I 2 7 = a.1 2 7 := hz.1.1 7 (by decide)
  have e8 : I 2 8 = a.1 2 8 := hz.1.1 8 (by decide)
  have e9 : I 2 9 = a.1 2 9 := hz.1.1 9 (by decide)
  have e10 : I 2 10 = a.1 2 10 := hz.1.1 10 (by decide)
  unfold en_po at h
  refine s49_X7_endPathOrOpen_0 ⟨fun c => ?_, fun c => ?_⟩
  · rw [if_pos (by rw [← e7]; exact c)] at h
    rw [e8, e9]
    exact k49_addPath hz (fun J L' hJ => ⟨J, L', rfl, h J L' hJ⟩)
  · rw [if_neg (by rw [← e7]; exact c)] at h
    rw [e8, e9]
    refine sm_wp_mono (k49_sp16 (Ψ := fun z => ∃ (I4 : sm_I) (L5 : sm_L), z = (none, (xLay, I4, L5, (kQ49 R))) ∧ Φ (none, (xLay, I4, L5, (kQ49 R)))) (x4 := a.1 2 10) (x5 := x1) hz (fun J L' hJ => ⟨J, L', rfl, h J L' hJ⟩)) (fun z hq => ?_)
    obtain ⟨I1, L2, ez, q10, q8, w⟩ := hq
    refine ⟨I1, L2, ez, ?_⟩
    rw [q8, e8, q10, e10]
    exact w
theorem k49_lastSpan (hz : kz 49 a I L I0 L0) (h : Φ (some (.int (la_span a)), (xLay, I, L, kQ49 R))) : sm_wp sm_P S (d + 1) 22 0 [.ref 49] [] (xLay, I, L, kQ49 R) (0, 0) Φ := by
  have e3 : I 49 3 = a.1 12 3 := k49_T hz 12 3 (by decide) (by decide)
  have c10 : (Int32.ofNat 10).toInt = 10 := by decide
  have c40 : (Int32.ofNat 40).toInt = 40 := by decide
  have part : ∀ q c : Int32, ∀ {Ψ : sm_Z → Prop}, Ψ (some (.int (pa_of q c a)), (xLay, I, L, kQ49 R)) → sm_wp sm_P S d 23 0 [.ref 49, .int q, .int c] [] (xLay, I, L, kQ49 R) (0, 0) Ψ := by
    intro q c Ψ g
    unfold pa_of at g
    refine s49_X10_partsOf_0 ⟨fun c1 => ?_, fun c1 => ⟨fun c2 => ?_, fun c2 => ⟨?_, ?_⟩⟩⟩
    · rw [if_pos c1] at g; exact g
    · rw [if_neg c1, if_pos (show (40 : Int32) ≤ q * 4 + c from c2)] at g; exact g
    · have c1 := kl_nlt0 c1
      have c2 := kl_nle c2
      exact kl_in c1 (by omega)
    · rw [if_neg c1, if_neg (show ¬ (40 : Int32) ≤ q * 4 + c from c2)] at g
      rw [show I 60 (q * 4 + c).toNatClampNeg = a.1 23 (q * 4 + c).toNatClampNeg from k49_T hz 23 _ (by decide) (by decide)]; exact g
  have val : ∀ q : Int32, ∀ {Ψ : sm_Z → Prop}, Ψ (some (.int (va22 q a)), (xLay, I, L, kQ49 R)) → sm_wp sm_P S d 89 0 [.ref 59, .int q, .int (0 : Int32)] [] (xLay, I, L, kQ49 R) (0, 0) Ψ := by
    intro q Ψ g
    unfold va22 at g
    refine s49v22_X11_valueAt_0 ⟨fun c1 => ?_, fun c1 => ⟨fun c2 => ?_, fun c2 => ⟨?_, ?_⟩⟩⟩
    · rw [if_pos c1] at g; exact g
    · rw [if_neg c1, if_pos (show (10 : Int32) ≤ q from c2)] at g; exact g
    · have c1 := kl_nlt0 c1
      have c2 := kl_nle c2
      exact kl_in c1 (by omega)
    · rw [if_neg c1, if_neg (show ¬ (10 : Int32) ≤ q from c2)] at g
      rw [show I 59 q.toNatClampNeg = a.1 22 q.toNatClampNeg from k49_T hz 22 _ (by decide) (by decide)]; exact g
  refine s49_X10_lastSpan_0 ?_
  rw [e3]
  refine val _ ⟨_, I, L, rfl, s49_X10_firstSpan_0 ⟨_, I, L, rfl, part _ _ ⟨_, I, L, rfl, ?_⟩⟩⟩
  exact h
theorem k49_endSpan {x1 : Int32} (hz : kz 49 a I L I0 L0) (h : ∀ J L', kz 49 (en_sp x1 a) J L' I0 L0 → Φ (none, (xLay, J, L', kQ49 R))) : sm_wp sm_P S (d + 2) 271 0 [.ref 2, .int x1] [] (xLay, I, L, kQ49 R) (0, 0) Φ := by
  have e7 : I 2 7 = a.1 2 7 := hz.1.1 7 (by decide)
  have e8 : I 2 8 = a.1 2 8 := hz.1.1 8 (by decide)
  have e9 : I 2 9 = a.1 2 9 := hz.1.1 9 (by decide)
  have e10 : I 2 10 = a.1 2 10 := hz.1.1 10 (by decide)
  have e4 : I 49 4 = a.1 12 4 := k49_T hz 12 4 (by decide) (by decide)
  unfold en_sp at h
  refine s49_X7_endSpan_0 ⟨fun c => ⟨fun z => absurd z (by decide), fun _ => ⟨fun z => absurd z (by decide), fun _ => ?_⟩⟩, fun c => ⟨fun _ => ⟨fun _ => ?_, fun z => absurd rfl z⟩, fun z => absurd rfl z⟩⟩
  · rw [if_pos (by rw [← e7]; exact c)] at h
    rw [e8, e9, e4]
    refine sm_wp_mono (k49_sp29 (Ψ := fun z => ∃ (I4 : sm_I) (L5 : sm_L), z = (none, (xLay, I4, L5, (kQ49 R))) ∧ Φ (none, (xLay, I4, L5, (kQ49 R)))) (x4 := a.1 2 10) (x5 := x1) hz (fun J L' hJ => ⟨J, L', rfl, h J L' hJ⟩)) (fun z hq => ?_)
    obtain ⟨I1, L2, ez, q10, q8, w⟩ := hq
    refine ⟨I1, L2, ez, ?_⟩
    rw [q10, e10]
    exact w
  · rw [if_neg (by rw [← e7]; exact c)] at h
    refine k49_lastSpan hz ⟨_, I, L, rfl, ?_⟩
    rw [e8, e9]
    refine sm_wp_mono (k49_sp24 (Ψ := fun z => ∃ (I4 : sm_I) (L5 : sm_L), z = (none, (xLay, I4, L5, (kQ49 R))) ∧ Φ (none, (xLay, I4, L5, (kQ49 R)))) (x4 := a.1 2 10) (x5 := x1) hz (fun J L' hJ => ⟨J, L', rfl, h J L' hJ⟩)) (fun z hq => ?_)
    obtain ⟨I1, L2, ez, q10, q8, w⟩ := hq
    refine ⟨I1, L2, ez, ?_⟩
    rw [q10, e10]
    exact w
theorem kT_Q49 : kT 49 (kQ49 R) = kQ49 R := by
  funext x j
  unfold kT
  cases e : (Nat.beq x 2 && Nat.beq j 6) with
  | true =>
    obtain ⟨e1, e2⟩ := Bool.and_eq_true_iff.mp e
    rw [Nat.eq_of_beq_eq_true e1, Nat.eq_of_beq_eq_true e2]; rfl
  | false =>
    show (match (kTl x)[j]? with
      | some (some p) => some p
      | _ => kQ49 R x j) = kQ49 R x j
    by_cases c2 : x = 2
    · subst c2
      match j, e with
      | 0, _ => rfl
      | 1, _ => rfl
      | 2, _ => rfl
      | 3, _ => rfl
      | 4, _ => rfl
      | 5, _ => rfl
      | 6, _ => rfl
      | j + 7, _ => rfl
    · by_cases c3 : x = 3
      · subst c3
        match j with
        | 0 => rfl
        | 1 => rfl
        | 2 => rfl
        | j + 3 => rfl
      · by_cases c7 : x = 7
        · subst c7
          match j with
          | 0 => rfl
          | j + 1 => rfl
        · have : kTl x = [] := by
            unfold kTl
            rw [show Nat.beq x 2 = false from by cases q : Nat.beq x 2 with | true => exact absurd (Nat.eq_of_beq_eq_true q) c2 | false => rfl]
            rw [show Nat.beq x 3 = false from by cases q : Nat.beq x 3 with | true => exact absurd (Nat.eq_of_beq_eq_true q) c3 | false => rfl]
            rw [show Nat.beq x 7 = false from by cases q : Nat.beq x 7 with | true => exact absurd (Nat.eq_of_beq_eq_true q) c7 | false => rfl]
            rfl
          rw [this]; rfl
theorem k49_follow {x0 x1 : Int32} (h : Φ (some (.int (fw x0 x1)), (xLay, I, L, kQ49 R))) : sm_wp sm_P S d 241 0 [.int x0, .int x1] [] (xLay, I, L, kQ49 R) (0, 0) Φ := by
  rw [← kT_Q49] at h ⊢
  exact ks_follow h
theorem k49_takeInt {x1 x2 x3 : Int32} (hz : kz 49 a I L I0 L0) (h : ∀ J L', kz 49 (tk_int x1 x2 x3 a).2 J L' I0 L0 → Φ (some (.int (tk_int x1 x2 x3 a).1), (xLay, J, L', kQ49 R))) : sm_wp sm_P S (d + 3) 279 0 [.ref 2, .int x1, .int x2, .int x3] [] (xLay, I, L, kQ49 R) (0, 0) Φ := by
  unfold tk_int at h
  have go : ∀ x : Int32, x2 = 16 → x = sg_n x1 x3 → ((x1 = (5 : Int32) → sm_wp sm_P S (d + 2) 270 0 [.ref 2, .int x] [] (xLay, I, L, (kQ49 R)) (0, 0) (fun z => ∃ (I13 : sm_I) (L14 : sm_L), z = (none, (xLay, I13, L14, (kQ49 R))) ∧ Φ (some (.int (0 : Int32)), (xLay, I13, L14, (kQ49 R))))) ∧ (¬ x1 = (5 : Int32) → sm_wp sm_P S (d + 2) 241 0 [.int x1, .int x2] [] (xLay, I, L, (kQ49 R)) (0, 0) (fun z => ∃ (r6 : Int32) (I4 : sm_I) (L5 : sm_L), z = (some (.int r6), (xLay, I4, L5, (kQ49 R))) ∧ ((r6 = (26 : Int32) → sm_wp sm_P S (d + 2) 271 0 [.ref 2, .int x] [] (xLay, I4, L5, (kQ49 R)) (0, 0) (fun z => ∃ (I7 : sm_I) (L8 : sm_L), z = (none, (xLay, I7, L8, (kQ49 R))) ∧ Φ (some (.int (0 : Int32)), (xLay, I7, L8, (kQ49 R))))) ∧ (¬ r6 = (26 : Int32) → Φ (some (.int (0 : Int32)), (xLay, (sm_up I4 2 10 x), L5, (kQ49 R)))))))) := by
    intro x c ex
    rw [if_pos c, ← ex] at h
    refine ⟨fun c1 => ?_, fun c1 => k49_follow ⟨_, I, L, rfl, fun c2 => ?_, fun c2 => ?_⟩⟩
    · rw [if_pos c1] at h
      exact k49_endPO hz (fun J L' hJ => ⟨J, L', rfl, h J L' hJ⟩)
    · rw [if_neg c1, if_pos c2] at h
      exact k49_endSpan hz (fun J L' hJ => ⟨J, L', rfl, h J L' hJ⟩)
    · rw [if_neg c1, if_neg c2] at h
      exact h _ L (kz_r (by decide) (Or.inl ⟨rfl, by decide⟩) hz)
  refine s49_X7_takeInt_0 ⟨fun c => ?_, fun c => ?_⟩
  · refine s49_X3_isBehindMinus_0 ⟨fun b => ⟨_, I, L, rfl, fun z => absurd z (by decide), fun _ => go _ c (by unfold sg_n; rw [if_pos b])⟩, fun b => ⟨fun b2 => ⟨_, I, L, rfl, fun z => absurd z (by decide), fun _ => go _ c (by unfold sg_n; rw [if_neg b, if_pos b2])⟩, fun b2 => ⟨_, I, L, rfl, fun _ => go _ c (by unfold sg_n; rw [if_neg b, if_neg b2]), fun z => absurd rfl z⟩⟩⟩
  · rw [if_neg c] at h
    exact h I L hz
end
end
section
/-! the class's take and meaningFault with into = 12, exact (wip/pe/mk84.py) -/
section
variable {S : sm_C} {d : Nat} {Φ : sm_Z → Prop} {I I0 : sm_I} {L L0 : sm_L} {R : sm_R} {a : sg}
theorem k12_take {x1 x2 : Int32} {y3 : Int64} (hz : kz 12 a I L I0 L0) (b0 : 0 ≤ (I 2 5).toInt) (b1 : (I 2 5).toInt ≤ 35) (t0 : 0 ≤ (I 12 2).toInt) (t1 : (I 12 2).toInt ≤ 10) (s0 : 0 ≤ (I 12 3).toInt) (h : ∀ J L' {r : Int32}, kz 12 (tk_take x1 x2 y3 a).2 J L' I0 L0 → r = (tk_take x1 x2 y3 a).1 → Φ (some (.int r), (xLay, J, L', kQ12 R))) : sm_wp sm_P S (d + 4) 278 0 [.ref 2, .int x1, .int x2, .long y3] [] (xLay, I, L, kQ12 R) (0, 0) Φ := by
  have h0 : x1.toInt = 0 → Φ (some (.int (0 : Int32)), (xLay, (sm_up I 2 7 x2), L, (kQ12 R))) := fun c => by
    have et : tk_take x1 x2 y3 a = (0, u2 a 2 7 x2) := by unfold tk_take; rw [if_pos c]
    refine h _ L ?_ (by rw [et])
    rw [et]; exact kz_r (by decide) (Or.inl ⟨rfl, by decide⟩) hz
  have t26 : x1.toInt = 26 → ((x2 = (9 : Int32) → sm_wp sm_P S (d + 4) 278 9 [.ref 2, .int x2] [] (xLay, I, L, (kQ12 R)) (0, 0) Φ) ∧ (¬ x2 = (9 : Int32) → ((x2 = (13 : Int32) → sm_wp sm_P S (d + 4) 278 9 [.ref 2, .int x2] [] (xLay, I, L, (kQ12 R)) (0, 0) Φ) ∧ (¬ x2 = (13 : Int32) → sm_wp sm_P S (d + 4) 278 13 [] [] (xLay, I, L, (kQ12 R)) (0, 0) Φ)))) := fun c => by
    have et : tk_take x1 x2 y3 a = (0, if x2 = 9 then ad_part true a else if x2 = 13 then ad_part false a else a) := by unfold tk_take; rw [if_neg (by omega), if_neg (by omega), if_neg (by omega), if_neg (by omega), if_neg (by omega), if_neg (by omega), if_pos c]
    refine ⟨fun c9 => ?_, fun c9 => ⟨fun c13 => ?_, fun c13 => ?_⟩⟩
    · rw [if_pos c9] at et
      refine s12_X7_take_9 ⟨fun _ => ?_, fun z => absurd c9 z⟩
      exact s12_X7_take_12 (k12_addPart (b := true) hz (by decide) (fun J L' hJ => ⟨J, L', rfl, s12_X7_take_13 (h J L' (by rw [et]; exact hJ) (by rw [et]))⟩))
    · rw [if_neg c9, if_pos c13] at et
      refine s12_X7_take_9 ⟨fun z => absurd z c9, fun _ => ?_⟩
      exact s12_X7_take_12 (k12_addPart (b := false) hz (by decide) (fun J L' hJ => ⟨J, L', rfl, s12_X7_take_13 (h J L' (by rw [et]; exact hJ) (by rw [et]))⟩))
    · rw [if_neg c9, if_neg c13] at et
      exact s12_X7_take_13 (h I L (by rw [et]; exact hz) (by rw [et]))
  exact s12_X7_take_0 ⟨fun c0 => h0 c0, fun c0 => ⟨fun c1 => k12_takeNew hz b0 b1 s0 (fun J L' hJ => ⟨_, J, L', rfl, h J L' (by rw [show tk_take x1 x2 y3 a = tk_new y3 a from by unfold tk_take; rw [if_neg (by omega), if_pos (by omega)]]; exact hJ) (by rw [show tk_take x1 x2 y3 a = tk_new y3 a from by unfold tk_take; rw [if_neg (by omega), if_pos (by omega)]])⟩), fun c1 => ⟨fun c2 => k12_takeInt hz  (fun J L' hJ => ⟨_, J, L', rfl, h J L' (by rw [show tk_take x1 x2 y3 a = tk_int x1 x2 y3.toInt32 a from by unfold tk_take; rw [if_neg (by omega), if_neg (by omega), if_neg (by omega), if_neg (by omega), if_neg (by omega), if_neg (by omega), if_neg (by omega), if_neg (by omega)]]; exact hJ) (by rw [show tk_take x1 x2 y3 a = tk_int x1 x2 y3.toInt32 a from by unfold tk_take; rw [if_neg (by omega), if_neg (by omega), if_neg (by omega), if_neg (by omega), if_neg (by omega), if_neg (by omega), if_neg (by omega), if_neg (by omega)]])⟩), fun c2 => ⟨fun c3 => k12_takePath hz b0 b1 (fun J L' hJ => ⟨_, J, L', rfl, h J L' (by rw [show tk_take x1 x2 y3 a = tk_path x1 y3 a from by unfold tk_take; rw [if_neg (by omega), if_neg (by omega), if_pos (by omega)]]; exact hJ) (by rw [show tk_take x1 x2 y3 a = tk_path x1 y3 a from by unfold tk_take; rw [if_neg (by omega), if_neg (by omega), if_pos (by omega)]])⟩), fun c3 => ⟨fun c4 => k12_takePath hz b0 b1 (fun J L' hJ => ⟨_, J, L', rfl, h J L' (by rw [show tk_take x1 x2 y3 a = tk_path x1 y3 a from by unfold tk_take; rw [if_neg (by omega), if_neg (by omega), if_pos (by omega)]]; exact hJ) (by rw [show tk_take x1 x2 y3 a = tk_path x1 y3 a from by unfold tk_take; rw [if_neg (by omega), if_neg (by omega), if_pos (by omega)]])⟩), fun c4 => ⟨fun c5 => k12_takeInt hz  (fun J L' hJ => ⟨_, J, L', rfl, h J L' (by rw [show tk_take x1 x2 y3 a = tk_int x1 x2 y3.toInt32 a from by unfold tk_take; rw [if_neg (by omega), if_neg (by omega), if_neg (by omega), if_neg (by omega), if_neg (by omega), if_neg (by omega), if_neg (by omega), if_neg (by omega)]]; exact hJ) (by rw [show tk_take x1 x2 y3 a = tk_int x1 x2 y3.toInt32 a from by unfold tk_take; rw [if_neg (by omega), if_neg (by omega), if_neg (by omega), if_neg (by omega), if_neg (by omega), if_neg (by omega), if_neg (by omega), if_neg (by omega)]])⟩), fun c5 => ⟨fun c6 => k12_takeNew hz b0 b1 s0 (fun J L' hJ => ⟨_, J, L', rfl, h J L' (by rw [show tk_take x1 x2 y3 a = tk_new y3 a from by unfold tk_take; rw [if_neg (by omega), if_pos (by omega)]]; exact hJ) (by rw [show tk_take x1 x2 y3 a = tk_new y3 a from by unfold tk_take; rw [if_neg (by omega), if_pos (by omega)]])⟩), fun c6 => ⟨fun c7 => k12_takeInt hz  (fun J L' hJ => ⟨_, J, L', rfl, h J L' (by rw [show tk_take x1 x2 y3 a = tk_int x1 x2 y3.toInt32 a from by unfold tk_take; rw [if_neg (by omega), if_neg (by omega), if_neg (by omega), if_neg (by omega), if_neg (by omega), if_neg (by omega), if_neg (by omega), if_neg (by omega)]]; exact hJ) (by rw [show tk_take x1 x2 y3 a = tk_int x1 x2 y3.toInt32 a from by unfold tk_take; rw [if_neg (by omega), if_neg (by omega), if_neg (by omega), if_neg (by omega), if_neg (by omega), if_neg (by omega), if_neg (by omega), if_neg (by omega)]])⟩), fun c7 => ⟨fun c8 => k12_takeWhere hz b0 b1 (fun J L' hJ => ⟨_, J, L', rfl, h J L' (by rw [show tk_take x1 x2 y3 a = tk_where x1 y3 a from by unfold tk_take; rw [if_neg (by omega), if_neg (by omega), if_neg (by omega), if_pos (by omega)]]; exact hJ) (by rw [show tk_take x1 x2 y3 a = tk_where x1 y3 a from by unfold tk_take; rw [if_neg (by omega), if_neg (by omega), if_neg (by omega), if_pos (by omega)]])⟩), fun c8 => ⟨fun c9 => k12_takeInt hz  (fun J L' hJ => ⟨_, J, L', rfl, h J L' (by rw [show tk_take x1 x2 y3 a = tk_int x1 x2 y3.toInt32 a from by unfold tk_take; rw [if_neg (by omega), if_neg (by omega), if_neg (by omega), if_neg (by omega), if_neg (by omega), if_neg (by omega), if_neg (by omega), if_neg (by omega)]]; exact hJ) (by rw [show tk_take x1 x2 y3 a = tk_int x1 x2 y3.toInt32 a from by unfold tk_take; rw [if_neg (by omega), if_neg (by omega), if_neg (by omega), if_neg (by omega), if_neg (by omega), if_neg (by omega), if_neg (by omega), if_neg (by omega)]])⟩), fun c9 => ⟨fun c10 => k12_takeWhere hz b0 b1 (fun J L' hJ => ⟨_, J, L', rfl, h J L' (by rw [show tk_take x1 x2 y3 a = tk_where x1 y3 a from by unfold tk_take; rw [if_neg (by omega), if_neg (by omega), if_neg (by omega), if_pos (by omega)]]; exact hJ) (by rw [show tk_take x1 x2 y3 a = tk_where x1 y3 a from by unfold tk_take; rw [if_neg (by omega), if_neg (by omega), if_neg (by omega), if_pos (by omega)]])⟩), fun c10 => ⟨fun c11 => k12_takeNew hz b0 b1 s0 (fun J L' hJ => ⟨_, J, L', rfl, h J L' (by rw [show tk_take x1 x2 y3 a = tk_new y3 a from by unfold tk_take; rw [if_neg (by omega), if_pos (by omega)]]; exact hJ) (by rw [show tk_take x1 x2 y3 a = tk_new y3 a from by unfold tk_take; rw [if_neg (by omega), if_pos (by omega)]])⟩), fun c11 => ⟨fun c12 => k12_takeInt hz  (fun J L' hJ => ⟨_, J, L', rfl, h J L' (by rw [show tk_take x1 x2 y3 a = tk_int x1 x2 y3.toInt32 a from by unfold tk_take; rw [if_neg (by omega), if_neg (by omega), if_neg (by omega), if_neg (by omega), if_neg (by omega), if_neg (by omega), if_neg (by omega), if_neg (by omega)]]; exact hJ) (by rw [show tk_take x1 x2 y3 a = tk_int x1 x2 y3.toInt32 a from by unfold tk_take; rw [if_neg (by omega), if_neg (by omega), if_neg (by omega), if_neg (by omega), if_neg (by omega), if_neg (by omega), if_neg (by omega), if_neg (by omega)]])⟩), fun c12 => ⟨fun c13 => k12_takeTrust hz  (fun J L' hJ => ⟨_, J, L', rfl, h J L' (by rw [show tk_take x1 x2 y3 a = tk_trust y3.toInt32 a from by unfold tk_take; rw [if_neg (by omega), if_neg (by omega), if_neg (by omega), if_neg (by omega), if_neg (by omega), if_neg (by omega), if_neg (by omega), if_pos (by omega)]]; exact hJ) (by rw [show tk_take x1 x2 y3 a = tk_trust y3.toInt32 a from by unfold tk_take; rw [if_neg (by omega), if_neg (by omega), if_neg (by omega), if_neg (by omega), if_neg (by omega), if_neg (by omega), if_neg (by omega), if_pos (by omega)]])⟩), fun c13 => ⟨fun c14 => k12_takeNew hz b0 b1 s0 (fun J L' hJ => ⟨_, J, L', rfl, h J L' (by rw [show tk_take x1 x2 y3 a = tk_new y3 a from by unfold tk_take; rw [if_neg (by omega), if_pos (by omega)]]; exact hJ) (by rw [show tk_take x1 x2 y3 a = tk_new y3 a from by unfold tk_take; rw [if_neg (by omega), if_pos (by omega)]])⟩), fun c14 => ⟨fun c15 => k12_takeNew hz b0 b1 s0 (fun J L' hJ => ⟨_, J, L', rfl, h J L' (by rw [show tk_take x1 x2 y3 a = tk_new y3 a from by unfold tk_take; rw [if_neg (by omega), if_pos (by omega)]]; exact hJ) (by rw [show tk_take x1 x2 y3 a = tk_new y3 a from by unfold tk_take; rw [if_neg (by omega), if_pos (by omega)]])⟩), fun c15 => ⟨fun c16 => k12_takeInt hz  (fun J L' hJ => ⟨_, J, L', rfl, h J L' (by rw [show tk_take x1 x2 y3 a = tk_int x1 x2 y3.toInt32 a from by unfold tk_take; rw [if_neg (by omega), if_neg (by omega), if_neg (by omega), if_neg (by omega), if_neg (by omega), if_neg (by omega), if_neg (by omega), if_neg (by omega)]]; exact hJ) (by rw [show tk_take x1 x2 y3 a = tk_int x1 x2 y3.toInt32 a from by unfold tk_take; rw [if_neg (by omega), if_neg (by omega), if_neg (by omega), if_neg (by omega), if_neg (by omega), if_neg (by omega), if_neg (by omega), if_neg (by omega)]])⟩), fun c16 => ⟨fun c17 => k12_takeSpanTime hz b0 b1 (fun J L' hJ => ⟨_, J, L', rfl, h J L' (by rw [show tk_take x1 x2 y3 a = tk_span x1 y3 a from by unfold tk_take; rw [if_neg (by omega), if_neg (by omega), if_neg (by omega), if_neg (by omega), if_neg (by omega), if_pos (by omega)]]; exact hJ) (by rw [show tk_take x1 x2 y3 a = tk_span x1 y3 a from by unfold tk_take; rw [if_neg (by omega), if_neg (by omega), if_neg (by omega), if_neg (by omega), if_neg (by omega), if_pos (by omega)]])⟩), fun c17 => ⟨fun c18 => k12_takeInt hz  (fun J L' hJ => ⟨_, J, L', rfl, h J L' (by rw [show tk_take x1 x2 y3 a = tk_int x1 x2 y3.toInt32 a from by unfold tk_take; rw [if_neg (by omega), if_neg (by omega), if_neg (by omega), if_neg (by omega), if_neg (by omega), if_neg (by omega), if_neg (by omega), if_neg (by omega)]]; exact hJ) (by rw [show tk_take x1 x2 y3 a = tk_int x1 x2 y3.toInt32 a from by unfold tk_take; rw [if_neg (by omega), if_neg (by omega), if_neg (by omega), if_neg (by omega), if_neg (by omega), if_neg (by omega), if_neg (by omega), if_neg (by omega)]])⟩), fun c18 => ⟨fun c19 => k12_takeInt hz  (fun J L' hJ => ⟨_, J, L', rfl, h J L' (by rw [show tk_take x1 x2 y3 a = tk_int x1 x2 y3.toInt32 a from by unfold tk_take; rw [if_neg (by omega), if_neg (by omega), if_neg (by omega), if_neg (by omega), if_neg (by omega), if_neg (by omega), if_neg (by omega), if_neg (by omega)]]; exact hJ) (by rw [show tk_take x1 x2 y3 a = tk_int x1 x2 y3.toInt32 a from by unfold tk_take; rw [if_neg (by omega), if_neg (by omega), if_neg (by omega), if_neg (by omega), if_neg (by omega), if_neg (by omega), if_neg (by omega), if_neg (by omega)]])⟩), fun c19 => ⟨fun c20 => k12_takeSpanTime hz b0 b1 (fun J L' hJ => ⟨_, J, L', rfl, h J L' (by rw [show tk_take x1 x2 y3 a = tk_span x1 y3 a from by unfold tk_take; rw [if_neg (by omega), if_neg (by omega), if_neg (by omega), if_neg (by omega), if_neg (by omega), if_pos (by omega)]]; exact hJ) (by rw [show tk_take x1 x2 y3 a = tk_span x1 y3 a from by unfold tk_take; rw [if_neg (by omega), if_neg (by omega), if_neg (by omega), if_neg (by omega), if_neg (by omega), if_pos (by omega)]])⟩), fun c20 => ⟨fun c21 => k12_takeInt hz  (fun J L' hJ => ⟨_, J, L', rfl, h J L' (by rw [show tk_take x1 x2 y3 a = tk_int x1 x2 y3.toInt32 a from by unfold tk_take; rw [if_neg (by omega), if_neg (by omega), if_neg (by omega), if_neg (by omega), if_neg (by omega), if_neg (by omega), if_neg (by omega), if_neg (by omega)]]; exact hJ) (by rw [show tk_take x1 x2 y3 a = tk_int x1 x2 y3.toInt32 a from by unfold tk_take; rw [if_neg (by omega), if_neg (by omega), if_neg (by omega), if_neg (by omega), if_neg (by omega), if_neg (by omega), if_neg (by omega), if_neg (by omega)]])⟩), fun c21 => ⟨fun c22 => k12_takeInt hz  (fun J L' hJ => ⟨_, J, L', rfl, h J L' (by rw [show tk_take x1 x2 y3 a = tk_int x1 x2 y3.toInt32 a from by unfold tk_take; rw [if_neg (by omega), if_neg (by omega), if_neg (by omega), if_neg (by omega), if_neg (by omega), if_neg (by omega), if_neg (by omega), if_neg (by omega)]]; exact hJ) (by rw [show tk_take x1 x2 y3 a = tk_int x1 x2 y3.toInt32 a from by unfold tk_take; rw [if_neg (by omega), if_neg (by omega), if_neg (by omega), if_neg (by omega), if_neg (by omega), if_neg (by omega), if_neg (by omega), if_neg (by omega)]])⟩), fun c22 => ⟨fun c23 => k12_takeInt hz  (fun J L' hJ => ⟨_, J, L', rfl, h J L' (by rw [show tk_take x1 x2 y3 a = tk_int x1 x2 y3.toInt32 a from by unfold tk_take; rw [if_neg (by omega), if_neg (by omega), if_neg (by omega), if_neg (by omega), if_neg (by omega), if_neg (by omega), if_neg (by omega), if_neg (by omega)]]; exact hJ) (by rw [show tk_take x1 x2 y3 a = tk_int x1 x2 y3.toInt32 a from by unfold tk_take; rw [if_neg (by omega), if_neg (by omega), if_neg (by omega), if_neg (by omega), if_neg (by omega), if_neg (by omega), if_neg (by omega), if_neg (by omega)]])⟩), fun c23 => ⟨fun c24 => k12_takeInt hz  (fun J L' hJ => ⟨_, J, L', rfl, h J L' (by rw [show tk_take x1 x2 y3 a = tk_int x1 x2 y3.toInt32 a from by unfold tk_take; rw [if_neg (by omega), if_neg (by omega), if_neg (by omega), if_neg (by omega), if_neg (by omega), if_neg (by omega), if_neg (by omega), if_neg (by omega)]]; exact hJ) (by rw [show tk_take x1 x2 y3 a = tk_int x1 x2 y3.toInt32 a from by unfold tk_take; rw [if_neg (by omega), if_neg (by omega), if_neg (by omega), if_neg (by omega), if_neg (by omega), if_neg (by omega), if_neg (by omega), if_neg (by omega)]])⟩), fun c24 => ⟨fun c25 => k12_takeInt hz  (fun J L' hJ => ⟨_, J, L', rfl, h J L' (by rw [show tk_take x1 x2 y3 a = tk_int x1 x2 y3.toInt32 a from by unfold tk_take; rw [if_neg (by omega), if_neg (by omega), if_neg (by omega), if_neg (by omega), if_neg (by omega), if_neg (by omega), if_neg (by omega), if_neg (by omega)]]; exact hJ) (by rw [show tk_take x1 x2 y3 a = tk_int x1 x2 y3.toInt32 a from by unfold tk_take; rw [if_neg (by omega), if_neg (by omega), if_neg (by omega), if_neg (by omega), if_neg (by omega), if_neg (by omega), if_neg (by omega), if_neg (by omega)]])⟩), fun c25 => ⟨fun c26 => t26 c26, fun c26 => ⟨fun c27 => k12_takeOpen hz b0 b1 t0 t1 (fun J L' hJ => ⟨_, J, L', rfl, h J L' (by rw [show tk_take x1 x2 y3 a = tk_open x1 y3 a from by unfold tk_take; rw [if_neg (by omega), if_neg (by omega), if_neg (by omega), if_neg (by omega), if_pos (by omega)]]; exact hJ) (by rw [show tk_take x1 x2 y3 a = tk_open x1 y3 a from by unfold tk_take; rw [if_neg (by omega), if_neg (by omega), if_neg (by omega), if_neg (by omega), if_pos (by omega)]])⟩), fun c27 => ⟨fun c28 => k12_takeInt hz  (fun J L' hJ => ⟨_, J, L', rfl, h J L' (by rw [show tk_take x1 x2 y3 a = tk_int x1 x2 y3.toInt32 a from by unfold tk_take; rw [if_neg (by omega), if_neg (by omega), if_neg (by omega), if_neg (by omega), if_neg (by omega), if_neg (by omega), if_neg (by omega), if_neg (by omega)]]; exact hJ) (by rw [show tk_take x1 x2 y3 a = tk_int x1 x2 y3.toInt32 a from by unfold tk_take; rw [if_neg (by omega), if_neg (by omega), if_neg (by omega), if_neg (by omega), if_neg (by omega), if_neg (by omega), if_neg (by omega), if_neg (by omega)]])⟩), fun c28 => ⟨fun c29 => k12_takeOpen hz b0 b1 t0 t1 (fun J L' hJ => ⟨_, J, L', rfl, h J L' (by rw [show tk_take x1 x2 y3 a = tk_open x1 y3 a from by unfold tk_take; rw [if_neg (by omega), if_neg (by omega), if_neg (by omega), if_neg (by omega), if_pos (by omega)]]; exact hJ) (by rw [show tk_take x1 x2 y3 a = tk_open x1 y3 a from by unfold tk_take; rw [if_neg (by omega), if_neg (by omega), if_neg (by omega), if_neg (by omega), if_pos (by omega)]])⟩), fun c29 => k12_takeInt hz  (fun J L' hJ => ⟨_, J, L', rfl, h J L' (by rw [show tk_take x1 x2 y3 a = tk_int x1 x2 y3.toInt32 a from by unfold tk_take; rw [if_neg (by omega), if_neg (by omega), if_neg (by omega), if_neg (by omega), if_neg (by omega), if_neg (by omega), if_neg (by omega), if_neg (by omega)]]; exact hJ) (by rw [show tk_take x1 x2 y3 a = tk_int x1 x2 y3.toInt32 a from by unfold tk_take; rw [if_neg (by omega), if_neg (by omega), if_neg (by omega), if_neg (by omega), if_neg (by omega), if_neg (by omega), if_neg (by omega), if_neg (by omega)]])⟩)⟩⟩⟩⟩⟩⟩⟩⟩⟩⟩⟩⟩⟩⟩⟩⟩⟩⟩⟩⟩⟩⟩⟩⟩⟩⟩⟩⟩⟩⟩
theorem k12_mean1 {K : Nat → Int32} {V : Nat → Int64} {c : Nat} {M0 : Option (Int32 × Nat) × sg} (hc : (I0 3 3).toInt = c) (c5 : c ≤ 500) (hK : ∀ i, i < c → I0 4 i = K i) (hV : ∀ i, i < c → L0 6 i = V i) (hR : ∀ i, 0 ≤ (K i).toInt ∧ (K i).toInt ≤ 21) (hE : K c = 21) (hN : ∀ i, i < c → K i ≠ 21) (h : ∀ (r : Int32) (J : sm_I) (L' : sm_L), (M0.1 = none → r = 0 ∧ kr 12 M0.2 J L') → (∀ f j, M0.1 = some (f, j) → r = f ∧ f ≠ 0 ∧ J 2 11 = I0 5 j ∧ j < c) → ko 12 I0 J → Φ (some (.int r), (xLay, J, L', kQ12 R))) : ∀ (m t : Nat) (I : sm_I) (L : sm_L) (x1 x2 : Int32) (a : sg), x2.toInt = t → t + m = c → -1 ≤ x1.toInt → x1.toInt ≤ 30 → en_mem kl_tb klX (xLay, I, L, kQ12 R) → kz 12 a I L I0 L0 → ME K V (501 - t) t x1 a = M0 → sm_wp sm_P S (d + 5) 274 1 [.ref 2, .int x1, .int x2] [] (xLay, I, L, kQ12 R) (0, 0) Φ := by
  intro m
  induction m with
  | zero =>
    intro t I L x1 x2 a hx hm b0 b1 hM hz hR0
    have e : t = c := by omega
    subst e
    have e33 : I 3 3 = I0 3 3 := hz.2.1 3 3 (by decide) (by decide)
    refine s12_X7_meaningFault_1 ⟨fun _ => ?_, fun c1 => ?_⟩
    · rw [show 501 - t = (500 - t) + 1 by omega] at hR0
      have hR0 : (if K t = 21 then (none, a) else if (ms x1 (K t) (V t) a).1 = 0 then ME K V (500 - t) (t + 1) (fw x1 (K t)) (ms x1 (K t) (V t) a).2 else (some ((ms x1 (K t) (V t) a).1, t), a)) = M0 := hR0
      rw [if_pos hE] at hR0
      refine h 0 I L (fun _ => ⟨rfl, ?_⟩) (fun f j q => ?_) hz.2.2.2
      · rw [← hR0]; exact hz.1
      · rw [← hR0] at q; cases q
    · have := kl_nle c1
      rw [e33] at this
      omega
  | succ m ih =>
    intro t I L x1 x2 a hx hm b0 b1 hM hz hR0
    have e33 : I 3 3 = I0 3 3 := hz.2.1 3 3 (by decide) (by decide)
    have nt := tk_nat hx
    have s := ml_in1 (x := x2) (by omega)
    have v : vp_in x2 502 := kl_in (by omega) (by omega)
    have e4 : I 4 x2.toNatClampNeg = K t := by rw [nt, hz.2.1 4 t (by decide) (by decide)]; exact hK t (by omega)
    have e6 : L 6 x2.toNatClampNeg = V t := by rw [nt, hz.2.2.1 t]; exact hV t (by omega)
    rw [show 501 - t = (501 - (t + 1)) + 1 by omega] at hR0
    have hR0 : (if K t = 21 then (none, a) else if (ms x1 (K t) (V t) a).1 = 0 then ME K V (501 - (t + 1)) (t + 1) (fw x1 (K t)) (ms x1 (K t) (V t) a).2 else (some ((ms x1 (K t) (V t) a).1, t), a)) = M0 := hR0
    rw [if_neg (hN t (by omega))] at hR0
    have kb := hR t
    have B5 : 0 ≤ (I 2 5).toInt ∧ (I 2 5).toInt ≤ 35 := hM.2.1 2 5 (0, 35) (by decide +kernel)
    have B2 : 0 ≤ (I 12 2).toInt ∧ (I 12 2).toInt ≤ 10 := hM.2.1 12 2 (0, 10) (by decide +kernel)
    have B3 : 0 ≤ (I 12 3).toInt ∧ (I 12 3).toInt ≤ 10 := hM.2.1 12 3 (0, 10) (by decide +kernel)
    -- a fault
    have bad : ∀ (f : Int32) (I2 : sm_I) (L2 : sm_L), kw 12 I0 I2 L0 L2 → f ≠ 0 → M0.1 = some (f, t) → sm_wp sm_P S (d + 5) 274 8 [.ref 2, .int x1, .int x2, .int (K t), .int f] [] (xLay, I2, L2, kQ12 R) (0, 0) Φ := by
      intro f I2 L2 w nf em
      refine s12_X7_meaningFault_8 ⟨fun z => absurd z nf, fun _ => ⟨v, fun I5 q5 => h f I5 L2 (fun z => ?_) (fun g j q => ?_) (fun p i p1 p2 => by rw [q5, en_up_ne _ _ _ _ (by omega)]; exact w.2.2 p i p1 p2)⟩⟩
      · rw [em] at z; cases z
      · rw [em] at q
        have q := Option.some.inj q
        have q1 : f = g := congrArg Prod.fst q
        have q2 : t = j := congrArg Prod.snd q
        subst q1
        subst q2
        refine ⟨rfl, nf, ?_, by omega⟩
        rw [q5, en_up_eq, nt]
        exact w.1 5 t (by decide) (by decide)
    -- the TOKEN is taken
    have go : ¬ (K t = 16 ∧ ¬ lg_cmp (V t) 1440 ≤ 0) → sm_wp sm_P S (d + 4) 278 0 [.ref 2, .int x1, .int (K t), .long (V t)] [] (xLay, I, L, (kQ12 R)) (0, 0) (fun z => ∃ (r8 : Int32) (I6 : sm_I) (L7 : sm_L), z = (some (.int r8), (xLay, I6, L7, (kQ12 R))) ∧ sm_wp sm_P S (d + 5) 274 8 [.ref 2, .int x1, .int x2, .int (K t), .int r8] [] (xLay, I6, L7, (kQ12 R)) (0, 0) Φ) := by
      intro nb
      have em : ms x1 (K t) (V t) a = tk_take x1 (K t) (V t) a := by unfold ms; rw [if_neg nb]
      have A := klh_186 (Sc := S) (d + 4) (by show 4 ≤ d + 4; omega) [.ref 2, .int x1, .int (K t), .long (V t)] (xLay, I, L, kQ12 R) ⟨⟨rfl, rfl⟩, ⟨rfl, b0, b1⟩, ⟨rfl, kb⟩, rfl, trivial⟩ hM ml_pf0
      have B : sm_wp sm_P S (d + 4) 278 0 [.ref 2, .int x1, .int (K t), .long (V t)] [] (xLay, I, L, kQ12 R) (0, 0) (fun z => ∃ (r : Int32) (J : sm_I) (L' : sm_L), z = (some (.int r), (xLay, J, L', kQ12 R)) ∧ kz 12 (tk_take x1 (K t) (V t) a).2 J L' I0 L0 ∧ r = (tk_take x1 (K t) (V t) a).1) := k12_take hz B5.1 B5.2 B2.1 B2.2 B3.1 (fun J L' r hJ er => ⟨r, J, L', rfl, hJ, er⟩)
      refine sm_wp_mono (sm_wp_and A B) (fun z hq => ?_)
      obtain ⟨⟨-, mz, -⟩, r, J, L', ez, hJ, er⟩ := hq
      subst ez
      refine ⟨r, J, L', rfl, ?_⟩
      rw [em] at hR0
      by_cases c0 : r = 0
      · rw [if_pos (by rw [← er]; exact c0)] at hR0
        refine s12_X7_meaningFault_8 ⟨fun _ => k12_follow ⟨_, J, L', rfl, ?_⟩, fun z => absurd c0 z⟩
        have fr := fw_r x1 (K t)
        exact ih (t + 1) J L' _ _ _ (by omega) (by omega) fr.1 fr.2 mz hJ hR0
      · rw [if_neg (by rw [← er]; exact c0)] at hR0
        exact bad r J L' hJ.2 c0 (by rw [← hR0, er])
    refine s12_X7_meaningFault_1 ⟨fun c1 => ?_, fun c1 => ⟨v, ?_⟩⟩
    · have := kl_le.mp c1
      rw [e33] at this
      omega
    · rw [e4, e6]
      refine ⟨fun c16 => ⟨v, fun cv => ⟨fun _ => ⟨v, go (fun z => z.2 cv)⟩, fun z => absurd rfl z⟩, fun cv => ⟨fun z => absurd z (by decide), fun _ => ?_⟩⟩, fun c16 => ⟨fun _ => ⟨v, go (fun z => c16 z.1)⟩, fun z => absurd rfl z⟩⟩
      have em : ms x1 (K t) (V t) a = (5, a) := by unfold ms; rw [if_pos ⟨c16, cv⟩]
      rw [em, if_neg (show ¬ (5 : Int32) = 0 by decide)] at hR0
      exact bad 5 I L hz.2 (by decide) (by rw [← hR0])
theorem k12_mean {K : Nat → Int32} {V : Nat → Int64} {c : Nat} (hc : (I 3 3).toInt = c) (c5 : c ≤ 500) (hK : ∀ i, i < c → I 4 i = K i) (hV : ∀ i, i < c → L 6 i = V i) (hR : ∀ i, 0 ≤ (K i).toInt ∧ (K i).toInt ≤ 21) (hE : K c = 21) (hN : ∀ i, i < c → K i ≠ 21) (hM : en_mem kl_tb klX (xLay, I, L, kQ12 R)) (hz : kr 12 a I L) (h : ∀ (r : Int32) (J : sm_I) (L' : sm_L), ((ME K V 501 0 0 a).1 = none → r = 0 ∧ kr 12 (ME K V 501 0 0 a).2 J L') → (∀ f j, (ME K V 501 0 0 a).1 = some (f, j) → r = f ∧ f ≠ 0 ∧ J 2 11 = I 5 j ∧ j < c) → ko 12 I J → Φ (some (.int r), (xLay, J, L', kQ12 R))) : sm_wp sm_P S (d + 5) 274 0 [.ref 2] [] (xLay, I, L, kQ12 R) (0, 0) Φ := s12_X7_meaningFault_0 (k12_mean1 hc c5 hK hV hR hE hN h c 0 I L 0 0 a (by decide) (by omega) (by decide) (by decide) hM ⟨hz, fun _ _ _ _ => rfl, fun _ => rfl, fun _ _ _ _ => rfl⟩ rfl)
end
end
section
/-! the class's take and meaningFault with into = 49, exact (wip/pe/mk84.py) -/
section
variable {S : sm_C} {d : Nat} {Φ : sm_Z → Prop} {I I0 : sm_I} {L L0 : sm_L} {R : sm_R} {a : sg}
theorem k49_take {x1 x2 : Int32} {y3 : Int64} (hz : kz 49 a I L I0 L0) (b0 : 0 ≤ (I 2 5).toInt) (b1 : (I 2 5).toInt ≤ 35) (t0 : 0 ≤ (I 49 2).toInt) (t1 : (I 49 2).toInt ≤ 10) (s0 : 0 ≤ (I 49 3).toInt) (h : ∀ J L' {r : Int32}, kz 49 (tk_take x1 x2 y3 a).2 J L' I0 L0 → r = (tk_take x1 x2 y3 a).1 → Φ (some (.int r), (xLay, J, L', kQ49 R))) : sm_wp sm_P S (d + 4) 278 0 [.ref 2, .int x1, .int x2, .long y3] [] (xLay, I, L, kQ49 R) (0, 0) Φ := by
  have h0 : x1.toInt = 0 → Φ (some (.int (0 : Int32)), (xLay, (sm_up I 2 7 x2), L, (kQ49 R))) := fun c => by
    have et : tk_take x1 x2 y3 a = (0, u2 a 2 7 x2) := by unfold tk_take; rw [if_pos c]
    refine h _ L ?_ (by rw [et])
    rw [et]; exact kz_r (by decide) (Or.inl ⟨rfl, by decide⟩) hz
  have t26 : x1.toInt = 26 → ((x2 = (9 : Int32) → sm_wp sm_P S (d + 4) 278 9 [.ref 2, .int x2] [] (xLay, I, L, (kQ49 R)) (0, 0) Φ) ∧ (¬ x2 = (9 : Int32) → ((x2 = (13 : Int32) → sm_wp sm_P S (d + 4) 278 9 [.ref 2, .int x2] [] (xLay, I, L, (kQ49 R)) (0, 0) Φ) ∧ (¬ x2 = (13 : Int32) → sm_wp sm_P S (d + 4) 278 13 [] [] (xLay, I, L, (kQ49 R)) (0, 0) Φ)))) := fun c => by
    have et : tk_take x1 x2 y3 a = (0, if x2 = 9 then ad_part true a else if x2 = 13 then ad_part false a else a) := by unfold tk_take; rw [if_neg (by omega), if_neg (by omega), if_neg (by omega), if_neg (by omega), if_neg (by omega), if_neg (by omega), if_pos c]
    refine ⟨fun c9 => ?_, fun c9 => ⟨fun c13 => ?_, fun c13 => ?_⟩⟩
    · rw [if_pos c9] at et
      refine s49_X7_take_9 ⟨fun _ => ?_, fun z => absurd c9 z⟩
      exact s49_X7_take_12 (k49_addPart (b := true) hz (by decide) (fun J L' hJ => ⟨J, L', rfl, s49_X7_take_13 (h J L' (by rw [et]; exact hJ) (by rw [et]))⟩))
    · rw [if_neg c9, if_pos c13] at et
      refine s49_X7_take_9 ⟨fun z => absurd z c9, fun _ => ?_⟩
      exact s49_X7_take_12 (k49_addPart (b := false) hz (by decide) (fun J L' hJ => ⟨J, L', rfl, s49_X7_take_13 (h J L' (by rw [et]; exact hJ) (by rw [et]))⟩))
    · rw [if_neg c9, if_neg c13] at et
      exact s49_X7_take_13 (h I L (by rw [et]; exact hz) (by rw [et]))
  exact s49_X7_take_0 ⟨fun c0 => h0 c0, fun c0 => ⟨fun c1 => k49_takeNew hz b0 b1 s0 (fun J L' hJ => ⟨_, J, L', rfl, h J L' (by rw [show tk_take x1 x2 y3 a = tk_new y3 a from by unfold tk_take; rw [if_neg (by omega), if_pos (by omega)]]; exact hJ) (by rw [show tk_take x1 x2 y3 a = tk_new y3 a from by unfold tk_take; rw [if_neg (by omega), if_pos (by omega)]])⟩), fun c1 => ⟨fun c2 => k49_takeInt hz  (fun J L' hJ => ⟨_, J, L', rfl, h J L' (by rw [show tk_take x1 x2 y3 a = tk_int x1 x2 y3.toInt32 a from by unfold tk_take; rw [if_neg (by omega), if_neg (by omega), if_neg (by omega), if_neg (by omega), if_neg (by omega), if_neg (by omega), if_neg (by omega), if_neg (by omega)]]; exact hJ) (by rw [show tk_take x1 x2 y3 a = tk_int x1 x2 y3.toInt32 a from by unfold tk_take; rw [if_neg (by omega), if_neg (by omega), if_neg (by omega), if_neg (by omega), if_neg (by omega), if_neg (by omega), if_neg (by omega), if_neg (by omega)]])⟩), fun c2 => ⟨fun c3 => k49_takePath hz b0 b1 (fun J L' hJ => ⟨_, J, L', rfl, h J L' (by rw [show tk_take x1 x2 y3 a = tk_path x1 y3 a from by unfold tk_take; rw [if_neg (by omega), if_neg (by omega), if_pos (by omega)]]; exact hJ) (by rw [show tk_take x1 x2 y3 a = tk_path x1 y3 a from by unfold tk_take; rw [if_neg (by omega), if_neg (by omega), if_pos (by omega)]])⟩), fun c3 => ⟨fun c4 => k49_takePath hz b0 b1 (fun J L' hJ => ⟨_, J, L', rfl, h J L' (by rw [show tk_take x1 x2 y3 a = tk_path x1 y3 a from by unfold tk_take; rw [if_neg (by omega), if_neg (by omega), if_pos (by omega)]]; exact hJ) (by rw [show tk_take x1 x2 y3 a = tk_path x1 y3 a from by unfold tk_take; rw [if_neg (by omega), if_neg (by omega), if_pos (by omega)]])⟩), fun c4 => ⟨fun c5 => k49_takeInt hz  (fun J L' hJ => ⟨_, J, L', rfl, h J L' (by rw [show tk_take x1 x2 y3 a = tk_int x1 x2 y3.toInt32 a from by unfold tk_take; rw [if_neg (by omega), if_neg (by omega), if_neg (by omega), if_neg (by omega), if_neg (by omega), if_neg (by omega), if_neg (by omega), if_neg (by omega)]]; exact hJ) (by rw [show tk_take x1 x2 y3 a = tk_int x1 x2 y3.toInt32 a from by unfold tk_take; rw [if_neg (by omega), if_neg (by omega), if_neg (by omega), if_neg (by omega), if_neg (by omega), if_neg (by omega), if_neg (by omega), if_neg (by omega)]])⟩), fun c5 => ⟨fun c6 => k49_takeNew hz b0 b1 s0 (fun J L' hJ => ⟨_, J, L', rfl, h J L' (by rw [show tk_take x1 x2 y3 a = tk_new y3 a from by unfold tk_take; rw [if_neg (by omega), if_pos (by omega)]]; exact hJ) (by rw [show tk_take x1 x2 y3 a = tk_new y3 a from by unfold tk_take; rw [if_neg (by omega), if_pos (by omega)]])⟩), fun c6 => ⟨fun c7 => k49_takeInt hz  (fun J L' hJ => ⟨_, J, L', rfl, h J L' (by rw [show tk_take x1 x2 y3 a = tk_int x1 x2 y3.toInt32 a from by unfold tk_take; rw [if_neg (by omega), if_neg (by omega), if_neg (by omega), if_neg (by omega), if_neg (by omega), if_neg (by omega), if_neg (by omega), if_neg (by omega)]]; exact hJ) (by rw [show tk_take x1 x2 y3 a = tk_int x1 x2 y3.toInt32 a from by unfold tk_take; rw [if_neg (by omega), if_neg (by omega), if_neg (by omega), if_neg (by omega), if_neg (by omega), if_neg (by omega), if_neg (by omega), if_neg (by omega)]])⟩), fun c7 => ⟨fun c8 => k49_takeWhere hz b0 b1 (fun J L' hJ => ⟨_, J, L', rfl, h J L' (by rw [show tk_take x1 x2 y3 a = tk_where x1 y3 a from by unfold tk_take; rw [if_neg (by omega), if_neg (by omega), if_neg (by omega), if_pos (by omega)]]; exact hJ) (by rw [show tk_take x1 x2 y3 a = tk_where x1 y3 a from by unfold tk_take; rw [if_neg (by omega), if_neg (by omega), if_neg (by omega), if_pos (by omega)]])⟩), fun c8 => ⟨fun c9 => k49_takeInt hz  (fun J L' hJ => ⟨_, J, L', rfl, h J L' (by rw [show tk_take x1 x2 y3 a = tk_int x1 x2 y3.toInt32 a from by unfold tk_take; rw [if_neg (by omega), if_neg (by omega), if_neg (by omega), if_neg (by omega), if_neg (by omega), if_neg (by omega), if_neg (by omega), if_neg (by omega)]]; exact hJ) (by rw [show tk_take x1 x2 y3 a = tk_int x1 x2 y3.toInt32 a from by unfold tk_take; rw [if_neg (by omega), if_neg (by omega), if_neg (by omega), if_neg (by omega), if_neg (by omega), if_neg (by omega), if_neg (by omega), if_neg (by omega)]])⟩), fun c9 => ⟨fun c10 => k49_takeWhere hz b0 b1 (fun J L' hJ => ⟨_, J, L', rfl, h J L' (by rw [show tk_take x1 x2 y3 a = tk_where x1 y3 a from by unfold tk_take; rw [if_neg (by omega), if_neg (by omega), if_neg (by omega), if_pos (by omega)]]; exact hJ) (by rw [show tk_take x1 x2 y3 a = tk_where x1 y3 a from by unfold tk_take; rw [if_neg (by omega), if_neg (by omega), if_neg (by omega), if_pos (by omega)]])⟩), fun c10 => ⟨fun c11 => k49_takeNew hz b0 b1 s0 (fun J L' hJ => ⟨_, J, L', rfl, h J L' (by rw [show tk_take x1 x2 y3 a = tk_new y3 a from by unfold tk_take; rw [if_neg (by omega), if_pos (by omega)]]; exact hJ) (by rw [show tk_take x1 x2 y3 a = tk_new y3 a from by unfold tk_take; rw [if_neg (by omega), if_pos (by omega)]])⟩), fun c11 => ⟨fun c12 => k49_takeInt hz  (fun J L' hJ => ⟨_, J, L', rfl, h J L' (by rw [show tk_take x1 x2 y3 a = tk_int x1 x2 y3.toInt32 a from by unfold tk_take; rw [if_neg (by omega), if_neg (by omega), if_neg (by omega), if_neg (by omega), if_neg (by omega), if_neg (by omega), if_neg (by omega), if_neg (by omega)]]; exact hJ) (by rw [show tk_take x1 x2 y3 a = tk_int x1 x2 y3.toInt32 a from by unfold tk_take; rw [if_neg (by omega), if_neg (by omega), if_neg (by omega), if_neg (by omega), if_neg (by omega), if_neg (by omega), if_neg (by omega), if_neg (by omega)]])⟩), fun c12 => ⟨fun c13 => k49_takeTrust hz  (fun J L' hJ => ⟨_, J, L', rfl, h J L' (by rw [show tk_take x1 x2 y3 a = tk_trust y3.toInt32 a from by unfold tk_take; rw [if_neg (by omega), if_neg (by omega), if_neg (by omega), if_neg (by omega), if_neg (by omega), if_neg (by omega), if_neg (by omega), if_pos (by omega)]]; exact hJ) (by rw [show tk_take x1 x2 y3 a = tk_trust y3.toInt32 a from by unfold tk_take; rw [if_neg (by omega), if_neg (by omega), if_neg (by omega), if_neg (by omega), if_neg (by omega), if_neg (by omega), if_neg (by omega), if_pos (by omega)]])⟩), fun c13 => ⟨fun c14 => k49_takeNew hz b0 b1 s0 (fun J L' hJ => ⟨_, J, L', rfl, h J L' (by rw [show tk_take x1 x2 y3 a = tk_new y3 a from by unfold tk_take; rw [if_neg (by omega), if_pos (by omega)]]; exact hJ) (by rw [show tk_take x1 x2 y3 a = tk_new y3 a from by unfold tk_take; rw [if_neg (by omega), if_pos (by omega)]])⟩), fun c14 => ⟨fun c15 => k49_takeNew hz b0 b1 s0 (fun J L' hJ => ⟨_, J, L', rfl, h J L' (by rw [show tk_take x1 x2 y3 a = tk_new y3 a from by unfold tk_take; rw [if_neg (by omega), if_pos (by omega)]]; exact hJ) (by rw [show tk_take x1 x2 y3 a = tk_new y3 a from by unfold tk_take; rw [if_neg (by omega), if_pos (by omega)]])⟩), fun c15 => ⟨fun c16 => k49_takeInt hz  (fun J L' hJ => ⟨_, J, L', rfl, h J L' (by rw [show tk_take x1 x2 y3 a = tk_int x1 x2 y3.toInt32 a from by unfold tk_take; rw [if_neg (by omega), if_neg (by omega), if_neg (by omega), if_neg (by omega), if_neg (by omega), if_neg (by omega), if_neg (by omega), if_neg (by omega)]]; exact hJ) (by rw [show tk_take x1 x2 y3 a = tk_int x1 x2 y3.toInt32 a from by unfold tk_take; rw [if_neg (by omega), if_neg (by omega), if_neg (by omega), if_neg (by omega), if_neg (by omega), if_neg (by omega), if_neg (by omega), if_neg (by omega)]])⟩), fun c16 => ⟨fun c17 => k49_takeSpanTime hz b0 b1 (fun J L' hJ => ⟨_, J, L', rfl, h J L' (by rw [show tk_take x1 x2 y3 a = tk_span x1 y3 a from by unfold tk_take; rw [if_neg (by omega), if_neg (by omega), if_neg (by omega), if_neg (by omega), if_neg (by omega), if_pos (by omega)]]; exact hJ) (by rw [show tk_take x1 x2 y3 a = tk_span x1 y3 a from by unfold tk_take; rw [if_neg (by omega), if_neg (by omega), if_neg (by omega), if_neg (by omega), if_neg (by omega), if_pos (by omega)]])⟩), fun c17 => ⟨fun c18 => k49_takeInt hz  (fun J L' hJ => ⟨_, J, L', rfl, h J L' (by rw [show tk_take x1 x2 y3 a = tk_int x1 x2 y3.toInt32 a from by unfold tk_take; rw [if_neg (by omega), if_neg (by omega), if_neg (by omega), if_neg (by omega), if_neg (by omega), if_neg (by omega), if_neg (by omega), if_neg (by omega)]]; exact hJ) (by rw [show tk_take x1 x2 y3 a = tk_int x1 x2 y3.toInt32 a from by unfold tk_take; rw [if_neg (by omega), if_neg (by omega), if_neg (by omega), if_neg (by omega), if_neg (by omega), if_neg (by omega), if_neg (by omega), if_neg (by omega)]])⟩), fun c18 => ⟨fun c19 => k49_takeInt hz  (fun J L' hJ => ⟨_, J, L', rfl, h J L' (by rw [show tk_take x1 x2 y3 a = tk_int x1 x2 y3.toInt32 a from by unfold tk_take; rw [if_neg (by omega), if_neg (by omega), if_neg (by omega), if_neg (by omega), if_neg (by omega), if_neg (by omega), if_neg (by omega), if_neg (by omega)]]; exact hJ) (by rw [show tk_take x1 x2 y3 a = tk_int x1 x2 y3.toInt32 a from by unfold tk_take; rw [if_neg (by omega), if_neg (by omega), if_neg (by omega), if_neg (by omega), if_neg (by omega), if_neg (by omega), if_neg (by omega), if_neg (by omega)]])⟩), fun c19 => ⟨fun c20 => k49_takeSpanTime hz b0 b1 (fun J L' hJ => ⟨_, J, L', rfl, h J L' (by rw [show tk_take x1 x2 y3 a = tk_span x1 y3 a from by unfold tk_take; rw [if_neg (by omega), if_neg (by omega), if_neg (by omega), if_neg (by omega), if_neg (by omega), if_pos (by omega)]]; exact hJ) (by rw [show tk_take x1 x2 y3 a = tk_span x1 y3 a from by unfold tk_take; rw [if_neg (by omega), if_neg (by omega), if_neg (by omega), if_neg (by omega), if_neg (by omega), if_pos (by omega)]])⟩), fun c20 => ⟨fun c21 => k49_takeInt hz  (fun J L' hJ => ⟨_, J, L', rfl, h J L' (by rw [show tk_take x1 x2 y3 a = tk_int x1 x2 y3.toInt32 a from by unfold tk_take; rw [if_neg (by omega), if_neg (by omega), if_neg (by omega), if_neg (by omega), if_neg (by omega), if_neg (by omega), if_neg (by omega), if_neg (by omega)]]; exact hJ) (by rw [show tk_take x1 x2 y3 a = tk_int x1 x2 y3.toInt32 a from by unfold tk_take; rw [if_neg (by omega), if_neg (by omega), if_neg (by omega), if_neg (by omega), if_neg (by omega), if_neg (by omega), if_neg (by omega), if_neg (by omega)]])⟩), fun c21 => ⟨fun c22 => k49_takeInt hz  (fun J L' hJ => ⟨_, J, L', rfl, h J L' (by rw [show tk_take x1 x2 y3 a = tk_int x1 x2 y3.toInt32 a from by unfold tk_take; rw [if_neg (by omega), if_neg (by omega), if_neg (by omega), if_neg (by omega), if_neg (by omega), if_neg (by omega), if_neg (by omega), if_neg (by omega)]]; exact hJ) (by rw [show tk_take x1 x2 y3 a = tk_int x1 x2 y3.toInt32 a from by unfold tk_take; rw [if_neg (by omega), if_neg (by omega), if_neg (by omega), if_neg (by omega), if_neg (by omega), if_neg (by omega), if_neg (by omega), if_neg (by omega)]])⟩), fun c22 => ⟨fun c23 => k49_takeInt hz  (fun J L' hJ => ⟨_, J, L', rfl, h J L' (by rw [show tk_take x1 x2 y3 a = tk_int x1 x2 y3.toInt32 a from by unfold tk_take; rw [if_neg (by omega), if_neg (by omega), if_neg (by omega), if_neg (by omega), if_neg (by omega), if_neg (by omega), if_neg (by omega), if_neg (by omega)]]; exact hJ) (by rw [show tk_take x1 x2 y3 a = tk_int x1 x2 y3.toInt32 a from by unfold tk_take; rw [if_neg (by omega), if_neg (by omega), if_neg (by omega), if_neg (by omega), if_neg (by omega), if_neg (by omega), if_neg (by omega), if_neg (by omega)]])⟩), fun c23 => ⟨fun c24 => k49_takeInt hz  (fun J L' hJ => ⟨_, J, L', rfl, h J L' (by rw [show tk_take x1 x2 y3 a = tk_int x1 x2 y3.toInt32 a from by unfold tk_take; rw [if_neg (by omega), if_neg (by omega), if_neg (by omega), if_neg (by omega), if_neg (by omega), if_neg (by omega), if_neg (by omega), if_neg (by omega)]]; exact hJ) (by rw [show tk_take x1 x2 y3 a = tk_int x1 x2 y3.toInt32 a from by unfold tk_take; rw [if_neg (by omega), if_neg (by omega), if_neg (by omega), if_neg (by omega), if_neg (by omega), if_neg (by omega), if_neg (by omega), if_neg (by omega)]])⟩), fun c24 => ⟨fun c25 => k49_takeInt hz  (fun J L' hJ => ⟨_, J, L', rfl, h J L' (by rw [show tk_take x1 x2 y3 a = tk_int x1 x2 y3.toInt32 a from by unfold tk_take; rw [if_neg (by omega), if_neg (by omega), if_neg (by omega), if_neg (by omega), if_neg (by omega), if_neg (by omega), if_neg (by omega), if_neg (by omega)]]; exact hJ) (by rw [show tk_take x1 x2 y3 a = tk_int x1 x2 y3.toInt32 a from by unfold tk_take; rw [if_neg (by omega), if_neg (by omega), if_neg (by omega), if_neg (by omega), if_neg (by omega), if_neg (by omega), if_neg (by omega), if_neg (by omega)]])⟩), fun c25 => ⟨fun c26 => t26 c26, fun c26 => ⟨fun c27 => k49_takeOpen hz b0 b1 t0 t1 (fun J L' hJ => ⟨_, J, L', rfl, h J L' (by rw [show tk_take x1 x2 y3 a = tk_open x1 y3 a from by unfold tk_take; rw [if_neg (by omega), if_neg (by omega), if_neg (by omega), if_neg (by omega), if_pos (by omega)]]; exact hJ) (by rw [show tk_take x1 x2 y3 a = tk_open x1 y3 a from by unfold tk_take; rw [if_neg (by omega), if_neg (by omega), if_neg (by omega), if_neg (by omega), if_pos (by omega)]])⟩), fun c27 => ⟨fun c28 => k49_takeInt hz  (fun J L' hJ => ⟨_, J, L', rfl, h J L' (by rw [show tk_take x1 x2 y3 a = tk_int x1 x2 y3.toInt32 a from by unfold tk_take; rw [if_neg (by omega), if_neg (by omega), if_neg (by omega), if_neg (by omega), if_neg (by omega), if_neg (by omega), if_neg (by omega), if_neg (by omega)]]; exact hJ) (by rw [show tk_take x1 x2 y3 a = tk_int x1 x2 y3.toInt32 a from by unfold tk_take; rw [if_neg (by omega), if_neg (by omega), if_neg (by omega), if_neg (by omega), if_neg (by omega), if_neg (by omega), if_neg (by omega), if_neg (by omega)]])⟩), fun c28 => ⟨fun c29 => k49_takeOpen hz b0 b1 t0 t1 (fun J L' hJ => ⟨_, J, L', rfl, h J L' (by rw [show tk_take x1 x2 y3 a = tk_open x1 y3 a from by unfold tk_take; rw [if_neg (by omega), if_neg (by omega), if_neg (by omega), if_neg (by omega), if_pos (by omega)]]; exact hJ) (by rw [show tk_take x1 x2 y3 a = tk_open x1 y3 a from by unfold tk_take; rw [if_neg (by omega), if_neg (by omega), if_neg (by omega), if_neg (by omega), if_pos (by omega)]])⟩), fun c29 => k49_takeInt hz  (fun J L' hJ => ⟨_, J, L', rfl, h J L' (by rw [show tk_take x1 x2 y3 a = tk_int x1 x2 y3.toInt32 a from by unfold tk_take; rw [if_neg (by omega), if_neg (by omega), if_neg (by omega), if_neg (by omega), if_neg (by omega), if_neg (by omega), if_neg (by omega), if_neg (by omega)]]; exact hJ) (by rw [show tk_take x1 x2 y3 a = tk_int x1 x2 y3.toInt32 a from by unfold tk_take; rw [if_neg (by omega), if_neg (by omega), if_neg (by omega), if_neg (by omega), if_neg (by omega), if_neg (by omega), if_neg (by omega), if_neg (by omega)]])⟩)⟩⟩⟩⟩⟩⟩⟩⟩⟩⟩⟩⟩⟩⟩⟩⟩⟩⟩⟩⟩⟩⟩⟩⟩⟩⟩⟩⟩⟩⟩
theorem k49_mean1 {K : Nat → Int32} {V : Nat → Int64} {c : Nat} {M0 : Option (Int32 × Nat) × sg} (hc : (I0 3 3).toInt = c) (c5 : c ≤ 500) (hK : ∀ i, i < c → I0 4 i = K i) (hV : ∀ i, i < c → L0 6 i = V i) (hR : ∀ i, 0 ≤ (K i).toInt ∧ (K i).toInt ≤ 21) (hE : K c = 21) (hN : ∀ i, i < c → K i ≠ 21) (h : ∀ (r : Int32) (J : sm_I) (L' : sm_L), (M0.1 = none → r = 0 ∧ kr 49 M0.2 J L') → (∀ f j, M0.1 = some (f, j) → r = f ∧ f ≠ 0 ∧ J 2 11 = I0 5 j ∧ j < c) → ko 49 I0 J → Φ (some (.int r), (xLay, J, L', kQ49 R))) : ∀ (m t : Nat) (I : sm_I) (L : sm_L) (x1 x2 : Int32) (a : sg), x2.toInt = t → t + m = c → -1 ≤ x1.toInt → x1.toInt ≤ 30 → en_mem kl_tb klX (xLay, I, L, kQ49 R) → kz 49 a I L I0 L0 → ME K V (501 - t) t x1 a = M0 → sm_wp sm_P S (d + 5) 274 1 [.ref 2, .int x1, .int x2] [] (xLay, I, L, kQ49 R) (0, 0) Φ := by
  intro m
  induction m with
  | zero =>
    intro t I L x1 x2 a hx hm b0 b1 hM hz hR0
    have e : t = c := by omega
    subst e
    have e33 : I 3 3 = I0 3 3 := hz.2.1 3 3 (by decide) (by decide)
    refine s49_X7_meaningFault_1 ⟨fun _ => ?_, fun c1 => ?_⟩
    · rw [show 501 - t = (500 - t) + 1 by omega] at hR0
      have hR0 : (if K t = 21 then (none, a) else if (ms x1 (K t) (V t) a).1 = 0 then ME K V (500 - t) (t + 1) (fw x1 (K t)) (ms x1 (K t) (V t) a).2 else (some ((ms x1 (K t) (V t) a).1, t), a)) = M0 := hR0
      rw [if_pos hE] at hR0
      refine h 0 I L (fun _ => ⟨rfl, ?_⟩) (fun f j q => ?_) hz.2.2.2
      · rw [← hR0]; exact hz.1
      · rw [← hR0] at q; cases q
    · have := kl_nle c1
      rw [e33] at this
      omega
  | succ m ih =>
    intro t I L x1 x2 a hx hm b0 b1 hM hz hR0
    have e33 : I 3 3 = I0 3 3 := hz.2.1 3 3 (by decide) (by decide)
    have nt := tk_nat hx
    have s := ml_in1 (x := x2) (by omega)
    have v : vp_in x2 502 := kl_in (by omega) (by omega)
    have e4 : I 4 x2.toNatClampNeg = K t := by rw [nt, hz.2.1 4 t (by decide) (by decide)]; exact hK t (by omega)
    have e6 : L 6 x2.toNatClampNeg = V t := by rw [nt, hz.2.2.1 t]; exact hV t (by omega)
    rw [show 501 - t = (501 - (t + 1)) + 1 by omega] at hR0
    have hR0 : (if K t = 21 then (none, a) else if (ms x1 (K t) (V t) a).1 = 0 then ME K V (501 - (t + 1)) (t + 1) (fw x1 (K t)) (ms x1 (K t) (V t) a).2 else (some ((ms x1 (K t) (V t) a).1, t), a)) = M0 := hR0
    rw [if_neg (hN t (by omega))] at hR0
    have kb := hR t
    have B5 : 0 ≤ (I 2 5).toInt ∧ (I 2 5).toInt ≤ 35 := hM.2.1 2 5 (0, 35) (by decide +kernel)
    have B2 : 0 ≤ (I 49 2).toInt ∧ (I 49 2).toInt ≤ 10 := hM.2.1 49 2 (0, 10) (by decide +kernel)
    have B3 : 0 ≤ (I 49 3).toInt ∧ (I 49 3).toInt ≤ 10 := hM.2.1 49 3 (0, 10) (by decide +kernel)
    -- a fault
    have bad : ∀ (f : Int32) (I2 : sm_I) (L2 : sm_L), kw 49 I0 I2 L0 L2 → f ≠ 0 → M0.1 = some (f, t) → sm_wp sm_P S (d + 5) 274 8 [.ref 2, .int x1, .int x2, .int (K t), .int f] [] (xLay, I2, L2, kQ49 R) (0, 0) Φ := by
      intro f I2 L2 w nf em
      refine s49_X7_meaningFault_8 ⟨fun z => absurd z nf, fun _ => ⟨v, fun I5 q5 => h f I5 L2 (fun z => ?_) (fun g j q => ?_) (fun p i p1 p2 => by rw [q5, en_up_ne _ _ _ _ (by omega)]; exact w.2.2 p i p1 p2)⟩⟩
      · rw [em] at z; cases z
      · rw [em] at q
        have q := Option.some.inj q
        have q1 : f = g := congrArg Prod.fst q
        have q2 : t = j := congrArg Prod.snd q
        subst q1
        subst q2
        refine ⟨rfl, nf, ?_, by omega⟩
        rw [q5, en_up_eq, nt]
        exact w.1 5 t (by decide) (by decide)
    -- the TOKEN is taken
    have go : ¬ (K t = 16 ∧ ¬ lg_cmp (V t) 1440 ≤ 0) → sm_wp sm_P S (d + 4) 278 0 [.ref 2, .int x1, .int (K t), .long (V t)] [] (xLay, I, L, (kQ49 R)) (0, 0) (fun z => ∃ (r8 : Int32) (I6 : sm_I) (L7 : sm_L), z = (some (.int r8), (xLay, I6, L7, (kQ49 R))) ∧ sm_wp sm_P S (d + 5) 274 8 [.ref 2, .int x1, .int x2, .int (K t), .int r8] [] (xLay, I6, L7, (kQ49 R)) (0, 0) Φ) := by
      intro nb
      have em : ms x1 (K t) (V t) a = tk_take x1 (K t) (V t) a := by unfold ms; rw [if_neg nb]
      have A := klh_186 (Sc := S) (d + 4) (by show 4 ≤ d + 4; omega) [.ref 2, .int x1, .int (K t), .long (V t)] (xLay, I, L, kQ49 R) ⟨⟨rfl, rfl⟩, ⟨rfl, b0, b1⟩, ⟨rfl, kb⟩, rfl, trivial⟩ hM ml_pf0
      have B : sm_wp sm_P S (d + 4) 278 0 [.ref 2, .int x1, .int (K t), .long (V t)] [] (xLay, I, L, kQ49 R) (0, 0) (fun z => ∃ (r : Int32) (J : sm_I) (L' : sm_L), z = (some (.int r), (xLay, J, L', kQ49 R)) ∧ kz 49 (tk_take x1 (K t) (V t) a).2 J L' I0 L0 ∧ r = (tk_take x1 (K t) (V t) a).1) := k49_take hz B5.1 B5.2 B2.1 B2.2 B3.1 (fun J L' r hJ er => ⟨r, J, L', rfl, hJ, er⟩)
      refine sm_wp_mono (sm_wp_and A B) (fun z hq => ?_)
      obtain ⟨⟨-, mz, -⟩, r, J, L', ez, hJ, er⟩ := hq
      subst ez
      refine ⟨r, J, L', rfl, ?_⟩
      rw [em] at hR0
      by_cases c0 : r = 0
      · rw [if_pos (by rw [← er]; exact c0)] at hR0
        refine s49_X7_meaningFault_8 ⟨fun _ => k49_follow ⟨_, J, L', rfl, ?_⟩, fun z => absurd c0 z⟩
        have fr := fw_r x1 (K t)
        exact ih (t + 1) J L' _ _ _ (by omega) (by omega) fr.1 fr.2 mz hJ hR0
      · rw [if_neg (by rw [← er]; exact c0)] at hR0
        exact bad r J L' hJ.2 c0 (by rw [← hR0, er])
    refine s49_X7_meaningFault_1 ⟨fun c1 => ?_, fun c1 => ⟨v, ?_⟩⟩
    · have := kl_le.mp c1
      rw [e33] at this
      omega
    · rw [e4, e6]
      refine ⟨fun c16 => ⟨v, fun cv => ⟨fun _ => ⟨v, go (fun z => z.2 cv)⟩, fun z => absurd rfl z⟩, fun cv => ⟨fun z => absurd z (by decide), fun _ => ?_⟩⟩, fun c16 => ⟨fun _ => ⟨v, go (fun z => c16 z.1)⟩, fun z => absurd rfl z⟩⟩
      have em : ms x1 (K t) (V t) a = (5, a) := by unfold ms; rw [if_pos ⟨c16, cv⟩]
      rw [em, if_neg (show ¬ (5 : Int32) = 0 by decide)] at hR0
      exact bad 5 I L hz.2 (by decide) (by rw [← hR0])
theorem k49_mean {K : Nat → Int32} {V : Nat → Int64} {c : Nat} (hc : (I 3 3).toInt = c) (c5 : c ≤ 500) (hK : ∀ i, i < c → I 4 i = K i) (hV : ∀ i, i < c → L 6 i = V i) (hR : ∀ i, 0 ≤ (K i).toInt ∧ (K i).toInt ≤ 21) (hE : K c = 21) (hN : ∀ i, i < c → K i ≠ 21) (hM : en_mem kl_tb klX (xLay, I, L, kQ49 R)) (hz : kr 49 a I L) (h : ∀ (r : Int32) (J : sm_I) (L' : sm_L), ((ME K V 501 0 0 a).1 = none → r = 0 ∧ kr 49 (ME K V 501 0 0 a).2 J L') → (∀ f j, (ME K V 501 0 0 a).1 = some (f, j) → r = f ∧ f ≠ 0 ∧ J 2 11 = I 5 j ∧ j < c) → ko 49 I J → Φ (some (.int r), (xLay, J, L', kQ49 R))) : sm_wp sm_P S (d + 5) 274 0 [.ref 2] [] (xLay, I, L, kQ49 R) (0, 0) Φ := s49_X7_meaningFault_0 (k49_mean1 hc c5 hK hV hR hE hN h c 0 I L 0 0 a (by decide) (by omega) (by decide) (by decide) hM ⟨hz, fun _ _ _ _ => rfl, fun _ => rfl, fun _ _ _ _ => rfl⟩ rfl)
end
end
section
/-! THE REFERENCE reads: modes. K: kinds of the TOKENS, P: their places, V: the class's longs, W: the reference's names, N: its INTS; c of them -/
def TS (K : Nat → Int32) (P : Nat → Nat) (V W : Nat → Int64) (N : Nat → Int32) (c : Nat) : Prop := c ≤ 501 ∧ (∀ i, 0 ≤ (K i).toInt ∧ (K i).toInt ≤ 21) ∧ (c ≤ 500 → K c = 21) ∧ (∀ i, i < c → K i ≠ 21) ∧ (∀ i j, i < j → j ≤ c → P i < P j) ∧ (∀ i, i < c → K i = 16 → ∃ v : Nat, v < 10000 ∧ (V i).toInt = v ∧ (N i).toInt = v) ∧ (∀ i j, i < c → j < c → K i = 15 → K j = 15 → (V i = V j ↔ W i = W j))
/-- the reference's rows of TOKENS -/
def tx (K : Nat → Int32) (P : Nat → Nat) (W : Nat → Int64) (N : Nat → Int32) (c : Nat) (I : sm_I) (L : sm_L) : Prop := (∀ i, i ≤ c → i ≤ 500 → I 110 i = kd_m.getD (K i).toNatClampNeg 0 ∧ (I 111 i).toInt = P i) ∧ (∀ i, i < c → i ≤ 500 → I 112 i = N i ∧ L 113 i = W i)
abbrev mo : Type := Option (Nat × Int32 × gc)
abbrev eo : Type := Nat × Option (Int32 × sg)
section
variable (K : Nat → Int32) (P : Nat → Nat) (V W : Nat → Int64) (N : Nat → Int32) (c : Nat) (R0 : Option (Int32 × Nat)) (M0 : Option (Int32 × Nat) × sg)
def PFa (I : sm_I) : Prop := 0 < (I 107 13).toInt ∧ ∃ j, R0 = some (I 107 13, j) ∧ (I 107 14).toInt = P j
def PSm (m : mo) (I : sm_I) (L : sm_L) : Prop := tx K P W N c I L ∧ 0 ≤ (I 107 11).toInt ∧ (I 107 11).toInt ≤ 500 ∧ match m with
  | none => PFa P R0 I
  | some (t, s, g) => I 107 13 = 0 ∧ (I 107 11).toInt = t ∧ t ≤ c ∧ SY K (501 - t) t s g = R0 ∧ (s ≠ 0 → g.alls ≤ 4 ∧ g.parts ≤ 3)
def PEm (e : eo) (I : sm_I) : Prop := I 107 13 = 0 → match e with
  | (t, none) => 0 < (I 107 15).toInt ∧ ∃ j, j < t ∧ M0.1 = some (I 107 15, j) ∧ (I 107 16).toInt = P j
  | (t, some (s, a)) => I 107 15 = 0 ∧ ME K V (501 - t) t s a = M0
end
/-- nothing but the reader's place, fault and worst -/
def xfr (I J : sm_I) : Prop := ∀ p j, ¬ (p = 107 ∧ (j = 11 ∨ j = 13 ∨ j = 14 ∨ j = 15 ∨ j = 16)) → J p j = I p j
theorem xfr_rf {I : sm_I} : xfr I I := fun _ _ _ => rfl
theorem xfr_tr {I J H : sm_I} (h : xfr I J) (g : xfr J H) : xfr I H := fun p j q => (g p j q).trans (h p j q)
/-- a word of the grammar, told by its number -/
theorem kd_inj : ∀ i, i < 22 → ∀ j, j < 22 → kd_m.getD i 0 = kd_m.getD j 0 → i = j := by decide +kernel
theorem kd_is {k : Int32} {i : Nat} (h0 : 0 ≤ k.toInt) (h1 : k.toInt ≤ 21) (hi : i < 22) : kd_m.getD k.toNatClampNeg 0 = kd_m.getD i 0 ↔ k = Int32.ofNat i := by
  have n := kl_nat h0
  constructor
  · intro h
    have e := kd_inj _ (by omega) i hi h
    refine en_ofI ?_
    rw [Int32.toInt_ofNat_of_lt (by omega)]; omega
  · intro h
    rw [h]
    have : (Int32.ofNat i).toNatClampNeg = i := tk_nat (Int32.toInt_ofNat_of_lt (by omega))
    rw [this]
theorem k_lt22 {k : Int32} (h0 : 0 ≤ k.toInt) (h1 : k.toInt ≤ 21) : ∃ i, i < 22 ∧ k = Int32.ofNat i := ⟨k.toNatClampNeg, by have := kl_nat h0; omega, en_ofI (by have n := kl_nat h0; rw [Int32.toInt_ofNat_of_lt (by omega)]; omega)⟩
section
variable {K : Nat → Int32} {P : Nat → Nat} {V W : Nat → Int64} {N : Nat → Int32} {c : Nat} {R0 : Option (Int32 × Nat)} {M0 : Option (Int32 × Nat) × sg}
variable {S : sm_C} {d : Nat} {Φ : sm_Z → Prop} {I J : sm_I} {L : sm_L} {R : sm_R} {m : mo} {e : eo}
theorem tx_fr (h : tx K P W N c I L) (f : ∀ p j, 110 ≤ p → p ≤ 113 → J p j = I p j) : tx K P W N c J L := ⟨fun i a b => by rw [f 110 i (by decide) (by decide), f 111 i (by decide) (by decide)]; exact h.1 i a b, fun i a b => by rw [f 112 i (by decide) (by decide)]; exact h.2 i a b⟩
theorem PS_f (h : PSm K P W N c R0 m I L) : 0 ≤ (I 107 13).toInt := by
  unfold PSm at h
  match m, h with
  | none, h => have := h.2.2.2.1; omega
  | some (t, s, g), h => rw [h.2.2.2.1]; decide
theorem PS_0 (h : PSm K P W N c R0 m I L) (z : I 107 13 = 0) : ∃ t s g, m = some (t, s, g) ∧ (I 107 11).toInt = t ∧ t ≤ c ∧ t ≤ 500 ∧ SY K (501 - t) t s g = R0 ∧ (s ≠ 0 → g.alls ≤ 4 ∧ g.parts ≤ 3) := by
  unfold PSm at h
  match m, h with
  | none, h =>
    have := h.2.2.2.1
    rw [z, kl_0] at this; omega
  | some (t, s, g), h => exact ⟨t, s, g, rfl, h.2.2.2.2.1, h.2.2.2.2.2.1, by have := h.2.2.2.2.1; have := h.2.2.1; omega, h.2.2.2.2.2.2⟩
theorem PS_le0 (h : PSm K P W N c R0 m I L) (z : I 107 13 ≤ 0) : I 107 13 = 0 := by
  have a := PS_f h
  have z := kl_le.mp z
  rw [kl_0] at z
  exact en_ofI (by rw [kl_0]; omega)
theorem PS_n0 (h : PSm K P W N c R0 m I L) (z : ¬ I 107 13 = 0) : m = none := by
  unfold PSm at h
  match m, h with
  | none, _ => rfl
  | some (t, s, g), h => exact absurd h.2.2.2.1 z
theorem PS_so {t : Nat} {s : Int32} {g : gc} (h : PSm K P W N c R0 (some (t, s, g)) I L) : I 107 13 = 0 := h.2.2.2.1
theorem PS_no (h : PSm K P W N c R0 none I L) : ¬ I 107 13 = 0 := fun z => by
  have := h.2.2.2.1
  rw [z, kl_0] at this; omega
/-- a cell of another row has changed -/
theorem PS_up {p j : Nat} {x : Int32} (hp : p ≠ 107) (h4 : ¬ (110 ≤ p ∧ p ≤ 113)) (h : PSm K P W N c R0 m I L) : PSm K P W N c R0 m (sm_up I p j x) L := by
  unfold PSm PFa at h ⊢
  rw [en_up_ne _ _ _ _ (by omega), en_up_ne _ _ _ _ (by omega), en_up_ne _ _ _ _ (by omega)]
  exact ⟨tx_fr h.1 (fun p' j' _ _ => en_up_ne _ _ _ _ (by omega)), h.2⟩
theorem PE_up {p j : Nat} {x : Int32} (hp : p ≠ 107) (h : PEm K P V M0 e I) : PEm K P V M0 e (sm_up I p j x) := by
  unfold PEm at h ⊢
  rw [en_up_ne _ _ _ _ (by omega), en_up_ne _ _ _ _ (by omega), en_up_ne _ _ _ _ (by omega)]
  exact h
theorem PE_cg (h : PEm K P V M0 e I) (z : J 107 13 = 0 → I 107 13 = 0) (e5 : J 107 15 = I 107 15) (e6 : J 107 16 = I 107 16) : PEm K P V M0 e J := by
  unfold PEm at h ⊢
  intro q
  rw [e5, e6]
  exact h (z q)
theorem PE_n (z : ¬ I 107 13 = 0) : PEm K P V M0 e I := fun q => absurd q z
/-- one step of the grammar -/
theorem SY_s {t : Nat} {s : Int32} {g : gc} (t5 : t ≤ 500) (h : SY K (501 - t) t s g = R0) : (if gf s (K t) t g = 0 then (if K t = 21 then none else SY K (501 - (t + 1)) (t + 1) (fw s (K t)) (gc_st s (K t) g)) else some (gf s (K t) t g, t)) = R0 := by
  rw [show 501 - t = (501 - (t + 1)) + 1 by omega] at h
  exact h
/-- one step of the meaning -/
theorem ME_s {t : Nat} {s : Int32} {a : sg} (t5 : t ≤ 500) (h : ME K V (501 - t) t s a = M0) : (if K t = 21 then (none, a) else if (ms s (K t) (V t) a).1 = 0 then ME K V (501 - (t + 1)) (t + 1) (fw s (K t)) (ms s (K t) (V t) a).2 else (some ((ms s (K t) (V t) a).1, t), a)) = M0 := by
  rw [show 501 - t = (501 - (t + 1)) + 1 by omega] at h
  exact h
theorem PE_st {t : Nat} {s : Int32} {a a' : sg} (t5 : t ≤ 500) (n21 : K t ≠ 21) (hs : ms s (K t) (V t) a = (0, a')) (h : PEm K P V M0 (t, some (s, a)) I) : PEm K P V M0 (t + 1, some (fw s (K t), a')) I := fun z => by
  obtain ⟨h1, h2⟩ := h z
  have h2 := ME_s t5 h2
  rw [if_neg n21, hs, if_pos rfl] at h2
  exact ⟨h1, h2⟩
theorem PE_w {t u : Nat} (h : PEm K P V M0 (t, none) I) (hu : t ≤ u) : PEm K P V M0 (u, none) I := fun z => by
  obtain ⟨h1, j, h2, h3⟩ := h z
  exact ⟨h1, j, by omega, h3⟩
theorem ME_f {t : Nat} {s f : Int32} {a a' : sg} (t5 : t ≤ 500) (n21 : K t ≠ 21) (hs : ms s (K t) (V t) a = (f, a')) (nf : f ≠ 0) (h : ME K V (501 - t) t s a = M0) : M0.1 = some (f, t) := by
  have h := ME_s t5 h
  rw [if_neg n21, hs, if_neg nf] at h
  rw [← h]
/-! what reads on -/
theorem x_is {i : Nat} {x : Int32} (hT : TS K P V W N c) (hi : i < 22) (hx : x = kd_m.getD i 0) (hS : PSm K P W N c R0 m I L) (h : ∀ r : Int32, (r = 0 ∨ r = 1) → (¬ r = 0 ↔ ∃ t s g, m = some (t, s, g) ∧ K t = Int32.ofNat i) → Φ (some (.int r), (xLay, I, L, kM R))) : sm_wp sm_P S d 143 0 [.ref 107, .int x] [] (xLay, I, L, kM R) (0, 0) Φ := by
  have bt := hS.2.1
  have bt2 := hS.2.2.1
  refine u_X12_is_0 ⟨fun a => ?_, fun a => h 0 (Or.inl rfl) ⟨fun z => absurd rfl z, fun ⟨t, s, g, q, _⟩ => absurd (by rw [q] at hS; exact PS_so hS) a⟩⟩
  obtain ⟨t, s, g, em, h11, tc, t5, hs, -⟩ := PS_0 hS a
  have nt := tk_nat h11
  have kr := hT.2.1 t
  have e110 := (hS.1.1 t tc t5).1
  refine ⟨kl_in bt (by omega), fun b => h 1 (Or.inr rfl) ⟨fun _ => ⟨t, s, g, em, ?_⟩, fun _ => by decide⟩, fun b => h 0 (Or.inl rfl) ⟨fun z => absurd rfl z, fun ⟨t', s', g', q, k⟩ => ?_⟩⟩
  · rw [nt, e110, hx] at b
    exact (kd_is kr.1 kr.2 hi).mp b
  · rw [em] at q
    have q := congrArg Prod.fst (Option.some.inj q)
    have q : t = t' := q
    subst q
    exfalso
    apply b
    rw [nt, e110, hx]
    exact (kd_is kr.1 kr.2 hi).mpr k
theorem x_fail {x : Int32} (hx : 0 < x.toInt) (hS : PSm K P W N c R0 m I L) (hE : PEm K P V M0 e I) (hg : ∀ t s g, m = some (t, s, g) → R0 = some (x, t)) (h : ∀ J : sm_I, xfr I J → J 107 11 = I 107 11 → PSm K P W N c R0 none J L → PEm K P V M0 e J → Φ (none, (xLay, J, L, kM R))) : sm_wp sm_P S d 123 0 [.ref 107, .int x] [] (xLay, I, L, kM R) (0, 0) Φ := by
  have bt := hS.2.1
  have bt2 := hS.2.2.1
  have g11 : (sm_up I 107 13 x) 107 11 = I 107 11 := en_up_ne _ _ _ _ (by omega)
  refine u_X12_fail_0 ⟨fun a => ⟨by rw [g11]; exact kl_in bt (by omega), fun n1 e1 I2 e2 => ?_⟩, fun a => ?_⟩
  · obtain ⟨t, s, g, em, h11, tc, t5, hs, -⟩ := PS_0 hS (PS_le0 hS a)
    have nt := tk_nat h11
    rw [g11, nt, en_up_ne _ _ _ _ (by omega)] at e1
    have f2 : xfr I I2 := fun p j q => by rw [e2, en_up_ne _ _ _ _ (by omega), en_up_ne _ _ _ _ (by omega)]
    have n13 : I2 107 13 = x := by rw [e2, en_up_ne _ _ _ _ (by omega), en_up_eq]
    have n11 : I2 107 11 = I 107 11 := by rw [e2, en_up_ne _ _ _ _ (by omega), g11]
    have nz : ¬ I2 107 13 = 0 := fun z => by rw [n13] at z; rw [z, kl_0] at hx; omega
    refine h I2 f2 n11 ⟨tx_fr hS.1 (fun p j _ _ => f2 p j (by omega)), by rw [n11]; exact bt, by rw [n11]; exact bt2, by rw [n13]; exact hx, t, ?_, ?_⟩ (PE_n nz)
    · rw [n13]; exact hg t s g em
    · rw [e2, en_up_eq, e1]; exact (hS.1.1 t tc t5).2
  · have nz : ¬ I 107 13 = 0 := fun z => a (by rw [z]; decide)
    have := PS_n0 hS nz
    subst this
    exact h I xfr_rf rfl hS hE
/-- it goes on, or that was TOKEN 501 -/
theorem x_go {k : Int32} (hT : TS K P V W N c) (hS : PSm K P W N c R0 m I L) (hE : PEm K P V M0 e I) (hg : ∀ t s g, m = some (t, s, g) → K t = k ∧ K t ≠ 21 ∧ fw s k ≠ -1 ∧ ¬ ((k = 9 ∨ k = 13) ∧ g.tell = 12) ∧ gc_ok s k g = true ∧ (gc_st s k g).alls ≤ 4 ∧ (gc_st s k g).parts ≤ 3) (h : ∀ (J : sm_I) (m' : mo), xfr I J → PSm K P W N c R0 m' J L → PEm K P V M0 e J → (m' = none ∨ ∃ t s g, m = some (t, s, g) ∧ t < c ∧ t < 500 ∧ m' = some (t + 1, fw s k, gc_st s k g)) → Φ (none, (xLay, J, L, kM R))) : sm_wp sm_P S (d + 1) 136 0 [.ref 107] [] (xLay, I, L, kM R) (0, 0) Φ := by
  have bt := hS.2.1
  have bt2 := hS.2.2.1
  have c500 : (500 : Int32).toInt = 500 := by decide
  refine u_X12_goesOn_0 ⟨fun a => x_fail (by decide) hS hE (fun t s g em => ?_) (fun J f _ p q => ⟨J, L, R, rfl, h J none f p q (Or.inl rfl)⟩), fun a I1 e1 => ?_⟩
  · obtain ⟨g1, g2, g3, g4, g5, -⟩ := hg t s g em
    rw [em] at hS
    obtain ⟨t', s', g', em', h11, tc, t5, hs, -⟩ := PS_0 hS (PS_so hS)
    obtain ⟨rfl, rfl, rfl⟩ : t = t' ∧ s = s' ∧ g = g' := by
      have q := Option.some.inj em'
      exact ⟨congrArg Prod.fst q, congrArg (fun x => x.2.1) q, congrArg (fun x => x.2.2) q⟩
    have t500 : 500 ≤ t := by rw [a, c500] at h11; omega
    have hs := SY_s t5 hs
    have ef : gf s (K t) t g = 2 := by
      unfold gf
      rw [if_neg (by rw [g1]; exact fun z => z.elim (fun y => g3 y) (fun y => g4 y)), if_neg g2, if_pos t500]
    rw [ef, if_neg (by decide)] at hs
    exact hs.symm
  · have a' : (I 107 11).toInt ≠ 500 := fun q => a (en_ofI (by rw [q, c500]))
    have s1 := ml_in1 (x := I 107 11) (by omega)
    have f1 : xfr I I1 := fun p j q => by rw [e1, en_up_ne _ _ _ _ (by omega)]
    have n11 : (I1 107 11).toInt = (I 107 11).toInt + 1 := by rw [e1, en_up_eq]; exact s1
    have n13 : I1 107 13 = I 107 13 := by rw [e1, en_up_ne _ _ _ _ (by omega)]
    have n14 : I1 107 14 = I 107 14 := by rw [e1, en_up_ne _ _ _ _ (by omega)]
    have hE1 : PEm K P V M0 e I1 := PE_cg hE (fun z => by rw [n13] at z; exact z) (by rw [e1, en_up_ne _ _ _ _ (by omega)]) (by rw [e1, en_up_ne _ _ _ _ (by omega)])
    have tx1 : tx K P W N c I1 L := tx_fr hS.1 (fun p j _ _ => f1 p j (by omega))
    by_cases z : I 107 13 = 0
    · obtain ⟨t, s, g, em, h11, tc, t5, hs, -⟩ := PS_0 hS z
      obtain ⟨g1, g2, g3, g4, g5, g6⟩ := hg t s g em
      have hs := SY_s t5 hs
      have tl : t < 500 := by omega
      have ef : gf s (K t) t g = 0 := by
        unfold gf
        rw [if_neg (by rw [g1]; exact fun z => z.elim (fun y => g3 y) (fun y => g4 y)), if_neg g2, if_neg (by omega), g1, if_pos g5]
      rw [ef, if_pos rfl, if_neg g2, g1] at hs
      have tl2 : t < c := by
        rcases Nat.lt_or_ge t c with q | q
        · exact q
        · have : t = c := by omega
          subst this
          exact absurd (hT.2.2.1 (by omega)) g2
      exact h I1 (some (t + 1, fw s k, gc_st s k g)) f1 ⟨tx1, by omega, by omega, by rw [n13]; exact z, by omega, by omega, hs, fun _ => g6⟩ hE1 (Or.inr ⟨t, s, g, em, tl2, tl, rfl⟩)
    · have em := PS_n0 hS z
      subst em
      refine h I1 none f1 ⟨tx1, by omega, by omega, ?_⟩ hE1 (Or.inl rfl)
      have q : PFa P R0 I := hS.2.2.2
      show PFa P R0 I1
      unfold PFa at q ⊢
      rw [n13, n14]; exact q
end
end
section
/-! the reference's reader: both machines in step -/
section
variable (K : Nat → Int32) (P : Nat → Nat) (V W : Nat → Int64) (N : Nat → Int32) (c : Nat) (R0 : Option (Int32 × Nat)) (M0 : Option (Int32 × Nat) × sg)
/-- the grammar's mode m; what is meant so far, o (none: a fault of meaning is known) -/
def PX (m : mo) (o : Option sg) (I : sm_I) (L : sm_L) : Prop := PSm K P W N c R0 m I L ∧ match m with
  | none => True
  | some (t, s, _) => PEm K P V M0 (t, o.map (fun a => (s, a))) I
/-- a fault of meaning is known, at t or ahead of it -/
def PWx (x : Int32) (t : Nat) (I : sm_I) : Prop := I 107 13 = 0 → 0 < (I 107 15).toInt ∧ ∃ j, M0.1 = some (I 107 15, j) ∧ (I 107 16).toInt = P j ∧ (j < t ∨ (j = t ∧ ¬ x < I 107 15))
end
section
variable {K : Nat → Int32} {P : Nat → Nat} {V W : Nat → Int64} {N : Nat → Int32} {c : Nat} {R0 : Option (Int32 × Nat)} {M0 : Option (Int32 × Nat) × sg}
variable {S : sm_C} {d : Nat} {Φ : sm_Z → Prop} {I J : sm_I} {L : sm_L} {R : sm_R} {m : mo} {e : eo} {o : Option sg}
theorem PW_e {x : Int32} {t : Nat} (h : PWx P M0 x t I) : PEm K P V M0 (t + 1, none) I := fun z => by
  obtain ⟨h1, j, h2, h3, h4⟩ := h z
  exact ⟨h1, j, by omega, h2, h3⟩
theorem PE_W {x : Int32} {t u : Nat} (h : PEm K P V M0 (u, none) I) (hu : u ≤ t) : PWx P M0 x t I := fun z => by
  obtain ⟨h1, j, h2, h3, h4⟩ := h z
  exact ⟨h1, j, h3, h4, Or.inl (by omega)⟩
theorem PX_F (h : PSm K P W N c R0 none I L) : PX K P V W N c R0 M0 none o I L := ⟨h, trivial⟩
theorem PX_up {p j : Nat} {x : Int32} (hp : p ≠ 107) (h4 : ¬ (110 ≤ p ∧ p ≤ 113)) (h : PX K P V W N c R0 M0 m o I L) : PX K P V W N c R0 M0 m o (sm_up I p j x) L := by
  refine ⟨PS_up hp h4 h.1, ?_⟩
  match m, h with
  | none, _ => trivial
  | some (t, s, g), h => exact PE_up hp h.2
theorem om {o o' : Option sg} {f : sg → sg} {a' : sg} (h : o' = none ∨ o' = o.map f) (q : o' = some a') : ∃ a, o = some a ∧ a' = f a := by
  rcases h with h | h
  · rw [h] at q; cases q
  · rw [h] at q
    cases e : o with
    | none => rw [e] at q; cases q
    | some a => rw [e] at q; exact ⟨a, rfl, (Option.some.inj q).symm⟩
/-- a fault of meaning -/
theorem x_wrong {x1 x2 : Int32} {t : Nat} (hT : TS K P V W N c) (hx : 0 < x1.toInt) (h2 : x2.toInt = t) (tc : t ≤ c) (t5 : t ≤ 500) (hS : PSm K P W N c R0 m I L) (hw : I 107 13 = 0 → (0 < (I 107 15).toInt ∧ ∃ j, M0.1 = some (I 107 15, j) ∧ (I 107 16).toInt = P j ∧ (j < t ∨ (j = t ∧ ¬ x1 < I 107 15))) ∨ ((I 107 15 = 0 ∨ (0 < (I 107 15).toInt ∧ ∃ j, t < j ∧ j ≤ c ∧ (I 107 16).toInt = P j)) ∧ M0.1 = some (x1, t))) (h : ∀ J : sm_I, xfr I J → J 107 11 = I 107 11 → PSm K P W N c R0 m J L → PWx P M0 x1 t J → Φ (none, (xLay, J, L, kM R))) : sm_wp sm_P S d 213 0 [.ref 107, .int x1, .int x2] [] (xLay, I, L, kM R) (0, 0) Φ := by
  have n2 := tk_nat h2
  have eP : (I 111 x2.toNatClampNeg).toInt = P t := by rw [n2]; exact (hS.1.1 t tc t5).2
  have same : (I 107 13 = 0 → 0 < (I 107 15).toInt ∧ ∃ j, M0.1 = some (I 107 15, j) ∧ (I 107 16).toInt = P j ∧ (j < t ∨ (j = t ∧ ¬ x1 < I 107 15))) → Φ (none, (xLay, I, L, kM R)) := fun q => h I xfr_rf rfl hS q
  have wr : I 107 13 = 0 → M0.1 = some (x1, t) → ∀ J : sm_I, J = sm_up (sm_up I 107 15 x1) 107 16 (I 111 x2.toNatClampNeg) → Φ (none, (xLay, J, L, kM R)) := by
    intro z hM J e
    have f : xfr I J := fun p j q => by rw [e, en_up_ne _ _ _ _ (by omega), en_up_ne _ _ _ _ (by omega)]
    have n11 : J 107 11 = I 107 11 := by rw [e, en_up_ne _ _ _ _ (by omega), en_up_ne _ _ _ _ (by omega)]
    have n13 : J 107 13 = I 107 13 := by rw [e, en_up_ne _ _ _ _ (by omega), en_up_ne _ _ _ _ (by omega)]
    have n14 : J 107 14 = I 107 14 := by rw [e, en_up_ne _ _ _ _ (by omega), en_up_ne _ _ _ _ (by omega)]
    have n15 : J 107 15 = x1 := by rw [e, en_up_ne _ _ _ _ (by omega), en_up_eq]
    have n16 : (J 107 16).toInt = P t := by rw [e, en_up_eq]; exact eP
    refine h J f n11 ?_ (fun _ => ⟨by rw [n15]; exact hx, t, by rw [n15]; exact hM, n16, Or.inr ⟨rfl, by rw [n15]; exact fun q => by rw [kl_lt] at q; omega⟩⟩)
    unfold PSm PFa at hS ⊢
    rw [n11, n13, n14]
    exact ⟨tx_fr hS.1 (fun p j _ _ => f p j (by omega)), hS.2⟩
  refine u_X12_wrong_0 ⟨kl_in (by omega) (by omega), fun a => same (fun z => ?_), fun a => ?_⟩
  · rw [z] at a; exact absurd a (by decide)
  · have z : I 107 13 = 0 := by
      have q := PS_f hS
      have a := kl_nlt a
      rw [kl_0] at a
      exact en_ofI (by rw [kl_0]; omega)
    have hw := hw z
    refine ⟨fun b => wr z ?_, fun b => ⟨fun l => same (fun _ => ?_), fun l => ⟨fun eq => ⟨fun lx => wr z ?_, fun lx => same (fun _ => ?_)⟩, fun ne => wr z ?_⟩⟩⟩
    · rcases hw with ⟨w1, -⟩ | w
      · rw [b, kl_0] at w1; omega
      · exact w.2
    · rcases hw with w | ⟨w1, w2⟩
      · exact w
      · exfalso
        rw [kl_lt, eP] at l
        rcases w1 with w1 | ⟨w1, j, j1, j2, j3⟩
        · exact b w1
        · have := hT.2.2.2.2.1 t j j1 j2
          omega
    · rcases hw with ⟨w1, j, j1, j2, j3⟩ | w
      · exfalso
        have q : (I 111 x2.toNatClampNeg).toInt = (I 107 16).toInt := by rw [eq]
        rcases j3 with j3 | j3
        · have := hT.2.2.2.2.1 j t j3 tc
          omega
        · exact j3.2 lx
      · exact w.2
    · rcases hw with w | ⟨w1, w2⟩
      · exact w
      · exfalso
        have q : (I 111 x2.toNatClampNeg).toInt = (I 107 16).toInt := by rw [eq]
        rcases w1 with w1 | ⟨w1, j, j1, j2, j3⟩
        · exact b w1
        · have := hT.2.2.2.2.1 t j j1 j2
          omega
    · rcases hw with ⟨w1, j, j1, j2, j3⟩ | w
      · exfalso
        have l := kl_nlt l
        rcases j3 with j3 | j3
        · have := hT.2.2.2.2.1 j t j3 tc
          omega
        · rw [j3.1] at j2
          exact ne (en_ofI (by omega))
      · exact w.2
/-! a TOKEN that must come -/
def mkx (s : Int32) (i : Nat) (ex : List Nat) : Bool := decide (s ≠ 0) && decide (i < 21) && decide (fw s (Int32.ofNat i) ≠ -1) && decide (i ≠ 9) && decide (i ≠ 13) && (List.range 22).all (fun j => decide (j = i) || decide (fw s (Int32.ofNat j) = -1) || ex.contains j)
theorem mkx_ok {s : Int32} {i : Nat} {ex : List Nat} (h : mkx s i ex = true) : s ≠ 0 ∧ i < 21 ∧ fw s (Int32.ofNat i) ≠ -1 ∧ i ≠ 9 ∧ i ≠ 13 ∧ ∀ j, j < 22 → j = i ∨ fw s (Int32.ofNat j) = -1 ∨ j ∈ ex := by
  unfold mkx at h
  simp only [Bool.and_eq_true, Bool.or_eq_true, List.all_eq_true, List.mem_range, decide_eq_true_eq, List.contains_iff_mem] at h
  obtain ⟨⟨⟨⟨⟨h1, h2⟩, h3⟩, h4⟩, h5⟩, h6⟩ := h
  exact ⟨h1, h2, h3, h4, h5, fun j hj => by rcases h6 j hj with (q | q) | q; exact Or.inl q; exact Or.inr (Or.inl q); exact Or.inr (Or.inr q)⟩
theorem i32n {i j : Nat} (hi : i < 22) (hj : j < 22) (h : Int32.ofNat i = Int32.ofNat j) : i = j := by
  have := congrArg Int32.toInt h
  rw [Int32.toInt_ofNat_of_lt (by omega), Int32.toInt_ofNat_of_lt (by omega)] at this
  omega
/-- within a tell, at a TOKEN that counts nothing -/
theorem gc_in {s : Int32} {i : Nat} {g : gc} (h0 : s ≠ 0) (hi : i < 21) (h9 : i ≠ 9) (h13 : i ≠ 13) (hg : g.alls ≤ 4 ∧ g.parts ≤ 3) : gc_st s (Int32.ofNat i) g = g ∧ gc_ok s (Int32.ofNat i) g = true ∧ ¬ ((Int32.ofNat i = 9 ∨ Int32.ofNat i = 13) ∧ g.tell = 12) ∧ Int32.ofNat i ≠ 21 := by
  have n9 : ¬ Int32.ofNat i = 9 := fun q => h9 (i32n (by omega) (by omega) (show Int32.ofNat i = Int32.ofNat 9 from q))
  have n13 : ¬ Int32.ofNat i = 13 := fun q => h13 (i32n (by omega) (by omega) (show Int32.ofNat i = Int32.ofNat 13 from q))
  have n21 : ¬ Int32.ofNat i = 21 := fun q => by have := i32n (by omega) (by omega) (show Int32.ofNat i = Int32.ofNat 21 from q); omega
  have st : gc_st s (Int32.ofNat i) g = g := by unfold gc_st; rw [if_neg (fun q => h0 q.1), if_neg n9, if_neg n13]
  refine ⟨st, ?_, fun q => q.1.elim n9 n13, n21⟩
  unfold gc_ok
  rw [if_neg (fun q => h0 q.1), st, decide_eq_true hg.1, decide_eq_true hg.2]; rfl
/-- what must come, whatever it means (PE as it was) -/
theorem x_must {i : Nat} {x : Int32} (ex : List Nat) (hT : TS K P V W N c) (hx : x = kd_m.getD i 0) (hS : PSm K P W N c R0 m I L) (hE : PEm K P V M0 e I) (hg : ∀ t s g, m = some (t, s, g) → mkx s i ex = true ∧ ∀ j, j ∈ ex → K t = Int32.ofNat j → (j = 9 ∨ j = 13) ∧ g.tell = 12) (h : ∀ (J : sm_I) (m' : mo), xfr I J → PSm K P W N c R0 m' J L → PEm K P V M0 e J → (m' = none ∨ ∃ t s g, m = some (t, s, g) ∧ t < c ∧ t < 500 ∧ K t = Int32.ofNat i ∧ m' = some (t + 1, fw s (Int32.ofNat i), g)) → Φ (none, (xLay, J, L, kM R))) : sm_wp sm_P S (d + 2) 165 0 [.ref 107, .int x] [] (xLay, I, L, kM R) (0, 0) Φ := by
  by_cases z : I 107 13 = 0
  · obtain ⟨t, s, g, em, h11, tc, t5, hs, hgk⟩ := PS_0 hS z
    obtain ⟨hmk, hex⟩ := hg t s g em
    obtain ⟨k1, k2, k3, k4, k5, k6⟩ := mkx_ok hmk
    have gk := hgk k1
    obtain ⟨q1, q2, q3, q4⟩ := gc_in k1 k2 k4 k5 gk
    refine u_X12_must_0 (x_is hT (by omega) hx hS (fun r _ hr => ⟨r, I, L, R, rfl, fun r0 => ?_, fun r1 => ?_⟩))
    · have nk : K t ≠ Int32.ofNat i := fun q => by
        have : ¬ r = 0 := hr.mpr ⟨t, s, g, em, q⟩
        exact this r0
      refine x_fail (by decide) hS hE (fun t' s' g' em' => ?_) (fun J f _ p q => ⟨J, L, R, rfl, h J none f p q (Or.inl rfl)⟩)
      obtain ⟨rfl, rfl, rfl⟩ : t = t' ∧ s = s' ∧ g = g' := by
        have q := Option.some.inj (em.symm.trans em')
        exact ⟨congrArg Prod.fst q, congrArg (fun x => x.2.1) q, congrArg (fun x => x.2.2) q⟩
      have hs := SY_s t5 hs
      have ef : gf s (K t) t g = 1 := by
        unfold gf
        rw [if_pos]
        obtain ⟨j, j1, j2⟩ := k_lt22 (hT.2.1 t).1 (hT.2.1 t).2
        rcases k6 j j1 with q | q | q
        · exact absurd (by rw [j2, q]) nk
        · exact Or.inl (by rw [j2]; exact q)
        · obtain ⟨y1, y2⟩ := hex j q j2
          refine Or.inr ⟨?_, y2⟩
          rcases y1 with y | y
          · left; rw [j2, y]; rfl
          · right; rw [j2, y]; rfl
      rw [ef, if_neg (by decide)] at hs
      exact hs.symm
    · obtain ⟨t', s', g', em', ek⟩ := hr.mp r1
      obtain ⟨rfl, rfl, rfl⟩ : t = t' ∧ s = s' ∧ g = g' := by
        have q := Option.some.inj (em.symm.trans em')
        exact ⟨congrArg Prod.fst q, congrArg (fun x => x.2.1) q, congrArg (fun x => x.2.2) q⟩
      refine x_go (k := Int32.ofNat i) hT hS hE (fun t' s' g' em' => ?_) (fun J m' f p q rel => ⟨J, L, R, rfl, h J m' f p q ?_⟩)
      · obtain ⟨rfl, rfl, rfl⟩ : t = t' ∧ s = s' ∧ g = g' := by
          have q := Option.some.inj (em.symm.trans em')
          exact ⟨congrArg Prod.fst q, congrArg (fun x => x.2.1) q, congrArg (fun x => x.2.2) q⟩
        exact ⟨ek, by rw [ek]; exact q4, k3, q3, q2, by rw [q1]; exact gk⟩
      · rcases rel with rel | ⟨t', s', g', em', b1, b2, b3⟩
        · exact Or.inl rel
        · obtain ⟨rfl, rfl, rfl⟩ : t = t' ∧ s = s' ∧ g = g' := by
            have q := Option.some.inj (em.symm.trans em')
            exact ⟨congrArg Prod.fst q, congrArg (fun x => x.2.1) q, congrArg (fun x => x.2.2) q⟩
          exact Or.inr ⟨t, s, g, em, b1, b2, ek, by rw [b3, q1]⟩
  · have em := PS_n0 hS z
    subst em
    refine u_X12_must_0 (u_X12_is_0 ⟨fun q => absurd q z, fun _ => ⟨0, I, L, R, rfl, fun _ => ?_, fun q => absurd rfl q⟩⟩)
    exact x_fail (by decide) hS hE (fun t s g q => by cases q) (fun J f _ p q => ⟨J, L, R, rfl, h J none f p q (Or.inl rfl)⟩)
/-- what means nothing by itself -/
theorem x_mustT {i : Nat} {x s0 : Int32} (ex : List Nat) (hT : TS K P V W N c) (hx : x = kd_m.getD i 0) (hm : mkx s0 i ex = true) (ht : ∀ (v : Int64) (a : sg), ms s0 (Int32.ofNat i) v a = (0, a)) (hX : PX K P V W N c R0 M0 m o I L) (hg : ∀ t s g, m = some (t, s, g) → s = s0 ∧ ∀ j, j ∈ ex → K t = Int32.ofNat j → (j = 9 ∨ j = 13) ∧ g.tell = 12) (h : ∀ (J : sm_I) (m' : mo), xfr I J → PX K P V W N c R0 M0 m' o J L → (m' = none ∨ ∃ t g, m = some (t, s0, g) ∧ t < c ∧ t < 500 ∧ K t = Int32.ofNat i ∧ m' = some (t + 1, fw s0 (Int32.ofNat i), g)) → Φ (none, (xLay, J, L, kM R))) : sm_wp sm_P S (d + 2) 165 0 [.ref 107, .int x] [] (xLay, I, L, kM R) (0, 0) Φ := by
  have hE : ∃ e, PEm K P V M0 e I ∧ ∀ t s g, m = some (t, s, g) → e = (t, o.map (fun a => (s, a))) := by
    match m, hX with
    | none, hX => exact ⟨(0, none), PE_n (PS_no hX.1), fun t s g q => by cases q⟩
    | some (t, s, g), hX =>
      refine ⟨_, hX.2, fun t' s' g' q => ?_⟩
      have q := Option.some.inj q
      have q1 : t = t' := congrArg Prod.fst q
      have q2 : s = s' := congrArg (fun x => x.2.1) q
      rw [← q1, ← q2]
  obtain ⟨e, hE, ee⟩ := hE
  obtain ⟨k1, k2, k3, k4, k5, k6⟩ := mkx_ok hm
  refine x_must ex hT hx hX.1 hE (fun t s g em => ⟨by rw [(hg t s g em).1]; exact hm, (hg t s g em).2⟩) (fun J m' f p q rel => h J m' f ?_ ?_)
  · refine ⟨p, ?_⟩
    rcases rel with rel | ⟨t, s, g, em, b1, b2, ek, b3⟩
    · subst rel; trivial
    · subst b3
      have es := (hg t s g em).1
      subst es
      rw [ee t s g em] at q
      have n21 : K t ≠ 21 := hT.2.2.2.1 t b1
      cases eo : o with
      | none =>
        rw [eo] at q
        exact PE_w q (Nat.le_succ t)
      | some a =>
        rw [eo] at q
        have := PE_st (by omega) n21 (by rw [ek]; exact ht (V t) a) q
        rw [ek] at this
        exact this
  · rcases rel with rel | ⟨t, s, g, em, b1, b2, ek, b3⟩
    · exact Or.inl rel
    · have es := (hg t s g em).1
      subst es
      exact Or.inr ⟨t, g, em, b1, b2, ek, b3⟩
end
end
