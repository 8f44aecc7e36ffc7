/-! the class's reader with into = 49, exact by the pure machine, second part (template wip/pe/83.tpl.txt) -/
section
variable {S : sm_C} {d : Nat} {Φ : sm_Z → Prop} {I I0 : sm_I} {L L0 : sm_L} {R : sm_R} {a : sg}
theorem k49_addPart6 {x2 : Int32} (hz : kz 49 a I L I0 L0) (q0 : 0 ≤ x2.toInt) (q1 : x2.toInt < 10) (h : ∀ J L', kz 49 (ad_pt6 x2 a) J L' I0 L0 → Φ (none, (xLay, J, L', kQ49 R))) : sm_wp sm_P S d 12 6 [.ref 49, .int x2] [] (xLay, I, L, kQ49 R) (0, 0) Φ := by
  have e22 : I 59 x2.toNatClampNeg = a.1 22 x2.toNatClampNeg := k49_T hz 22 _ (by decide) (by decide)
  have e23 : ∀ j, I 60 j = a.1 23 j := fun j => k49_T hz 23 j (by decide) (by decide)
  have c40 : (Int32.ofNat 40).toInt = 40 := by decide
  unfold ad_pt6 at h
  refine s49_X10_addPart_6 ⟨kl_in q0 (by omega), fun n1 en => ?_⟩
  rw [e22] at en
  rw [← en] at h
  refine ⟨fun c => ?_, fun c => ⟨fun c1 => ?_, fun c1 => ?_⟩⟩
  · rw [if_pos c] at h; exact s49_X10_addPart_10 (h I L hz)
  · rw [if_neg c, if_pos (show (40 : Int32) ≤ n1 from c1)] at h; exact s49_X10_addPart_10 (h I L hz)
  · rw [if_neg c, if_neg (show ¬ (40 : Int32) ≤ n1 from c1)] at h
    have c := kl_nlt0 c
    have c1 := kl_nle c1
    have v : vp_in n1 40 := kl_in c (by omega)
    rw [e23]
    refine ⟨v, fun c2 => ?_, fun c2 => ⟨v, fun n2 en2 => ⟨v, fun I3 q3 => ?_⟩⟩⟩
    · rw [if_pos c2] at h; exact s49_X10_addPart_10 (h I L hz)
    · rw [if_neg c2] at h
      rw [q3, en2]
      exact s49_X10_addPart_10 (h _ L (k49_up (by decide) (by decide) hz))
theorem k49_addPart {x1 : Int32} {b : Bool} (hz : kz 49 a I L I0 L0) (hb : x1 = 0 ↔ b = false) (h : ∀ J L', kz 49 (ad_part b a) J L' I0 L0 → Φ (none, (xLay, J, L', kQ49 R))) : sm_wp sm_P S d 12 0 [.ref 49, .int x1] [] (xLay, I, L, kQ49 R) (0, 0) Φ := by
  have e3 : I 49 3 = a.1 12 3 := k49_T hz 12 3 (by decide) (by decide)
  have c10 : (10 : Int32).toInt = 10 := by decide
  unfold ad_part at h
  refine s49_X10_addPart_0 ?_
  rw [e3]
  have e22 : I 59 (a.1 12 3 - 1).toNatClampNeg = a.1 22 (a.1 12 3 - 1).toNatClampNeg := k49_T hz 22 _ (by decide) (by decide)
  rw [e22]
  refine ⟨fun c => ?_, fun c => ⟨fun c1 => ?_, fun c1 => ?_⟩⟩
  · rw [if_pos c] at h; exact h I L hz
  · rw [if_neg c, if_pos c1] at h
    have c0 := kl_nlt0 c
    have c9 := kl_lt.mp c1
    have v : vp_in (a.1 12 3 - 1) 10 := kl_in c0 (by omega)
    refine ⟨fun c2 => ?_, fun c2 => ⟨v, fun c3 => ?_, fun c3 => ⟨v, fun n1 en => ⟨v, fun I2 q2 => ?_⟩⟩⟩⟩
    · rw [if_neg (by rw [hb.mp c2]; decide)] at h
      exact k49_addPart6 hz c0 (by omega) h
    all_goals
      have bt : b = true := by
        cases e : b with
        | true => rfl
        | false => exact absurd (hb.mpr e) c2
      rw [if_pos bt] at h
    · rw [if_pos c3] at h
      exact k49_addPart6 hz c0 (by omega) h
    · rw [if_neg c3] at h
      rw [q2, en]
      exact k49_addPart6 (k49_up (by decide) (by decide) hz) c0 (by omega) h
  · rw [if_neg c, if_neg c1] at h; exact h I L hz
theorem k49_trustLast {x1 : Int32} (hz : kz 49 a I L I0 L0) (h : ∀ J L', kz 49 (tr_last x1 a) J L' I0 L0 → Φ (none, (xLay, J, L', kQ49 R))) : sm_wp sm_P S d 25 0 [.ref 49, .int x1] [] (xLay, I, L, kQ49 R) (0, 0) Φ := by
  have e3 : I 49 3 = a.1 12 3 := k49_T hz 12 3 (by decide) (by decide)
  have c10 : (10 : Int32).toInt = 10 := by decide
  unfold tr_last at h
  refine s49_X10_trustLast_0 ⟨fun c => ?_, fun c => ⟨fun c1 => ?_, fun c1 => ⟨?_, fun I1 q1 => ?_⟩⟩⟩
  · rw [if_pos (by rw [← e3]; exact c)] at h; exact h I L hz
  · rw [if_neg (by rw [← e3]; exact c), if_pos (by rw [← e3]; exact c1)] at h; exact h I L hz
  · have c := kl_nle c
    have c1 := kl_nlt c1
    rw [kl_0] at c
    have s : (I 49 3 - 1).toInt = (I 49 3).toInt - 1 := by rw [Int32.toInt_sub, kl_1]; exact en_bmod (by omega) (by omega) (Or.inl rfl)
    exact kl_in (by omega) (by omega)
  · rw [if_neg (by rw [← e3]; exact c), if_neg (by rw [← e3]; exact c1)] at h
    rw [q1, e3]
    exact h _ L (k49_up (by decide) (by decide) hz)
theorem k49_takeTrust {x1 : Int32} (hz : kz 49 a I L I0 L0) (h : ∀ J L', kz 49 (tk_trust x1 a).2 J L' I0 L0 → Φ (some (.int (tk_trust x1 a).1), (xLay, J, L', kQ49 R))) : sm_wp sm_P S (d + 1) 284 0 [.ref 2, .int x1] [] (xLay, I, L, kQ49 R) (0, 0) Φ := by
  unfold tk_trust at h
  refine s49_X7_takeTrust_0 ⟨fun c => ?_, fun c => ⟨fun c1 => ?_, fun c1 => ?_⟩⟩
  · rw [if_pos c] at h; exact h I L hz
  · rw [if_neg c, if_pos c1] at h
    exact k49_trustLast hz (fun J L' hJ => ⟨J, L', rfl, h J L' hJ⟩)
  · rw [if_neg c, if_neg c1] at h; exact h I L hz
theorem k49_sp16 {Ψ : sm_Z → Prop} {x1 x2 x3 x4 x5 : Int32} (hz : kz 49 a I L I0 L0) (h : ∀ J L', kz 49 (spb 16 10 x1 x2 x3 x4 x5 a) J L' I0 L0 → Ψ (none, (xLay, J, L', kQ49 R))) : sm_wp sm_P S (d + 1) 294 0 [.ref 53, .int x1, .int x2, .int x3] [] (xLay, I, L, kQ49 R) (0, 0) (fun z => ∃ (I1 : sm_I) (L2 : sm_L), z = (none, (xLay, I1, L2, (kQ49 R))) ∧ I1 2 10 = I 2 10 ∧ I1 2 8 = I 2 8 ∧ sm_wp sm_P S (d + 1) 286 0 [.ref 53, .int x1, .int x4, .int x5] [] (xLay, I1, L2, (kQ49 R)) (0, 0) Ψ) := by
  unfold spb at h
  refine s49c16_X8_put_0 (s49c16_X8_hasRow_0 ⟨fun c => ⟨_, I, L, rfl, fun _ => ⟨I, L, rfl, rfl, rfl, ?_⟩, fun z => absurd rfl z⟩, fun c => ⟨fun c1 => ⟨_, I, L, rfl, fun _ => ⟨I, L, rfl, rfl, rfl, ?_⟩, fun z => absurd rfl z⟩, fun c1 => ⟨_, I, L, rfl, fun z => absurd z (by decide), fun _ => ?_⟩⟩⟩)
  · rw [if_pos c] at h
    exact s49c16_X8_bound_0 (s49c16_X8_hasRow_0 ⟨fun _ => ⟨_, I, L, rfl, fun _ => h I L hz, fun z => absurd rfl z⟩, fun z => absurd c z⟩)
  · rw [if_neg c, if_pos c1] at h
    exact s49c16_X8_bound_0 (s49c16_X8_hasRow_0 ⟨fun z => absurd z c, fun _ => ⟨fun _ => ⟨_, I, L, rfl, fun _ => h I L hz, fun z => absurd rfl z⟩, fun z => absurd c1 z⟩⟩)
  · rw [if_neg c, if_neg c1] at h
    have c0 := kl_nlt0 c
    have c9 := kl_nle c1
    have v : vp_in x1 10 := kl_in c0 (by rw [show (Int32.ofNat 10).toInt = 10 from by decide] at c9; omega)
    refine ⟨v, fun I4 q4 => ⟨v, fun I5 q5 => ⟨I5, L, rfl, ?_, ?_, ?_⟩⟩⟩
    · rw [q5, en_up_ne _ _ _ _ (by omega), q4, en_up_ne _ _ _ _ (by omega)]
    · rw [q5, en_up_ne _ _ _ _ (by omega), q4, en_up_ne _ _ _ _ (by omega)]
    · refine s49c16_X8_bound_0 (s49c16_X8_hasRow_0 ⟨fun z => absurd z c, fun _ => ⟨fun z => absurd z c1, fun _ => ⟨_, I5, L, rfl, fun z => absurd z (by decide), fun _ => ⟨v, fun I6 q6 => ⟨v, fun I7 q7 => ?_⟩⟩⟩⟩⟩)
      rw [q7, q6, q5, q4]
      exact h _ L (k49_up (c := 20) (by decide) (by decide) (k49_up (c := 19) (by decide) (by decide) (k49_up (c := 18) (by decide) (by decide) (k49_up (c := 17) (by decide) (by decide) hz))))
theorem k49_sp24 {Ψ : sm_Z → Prop} {x1 x2 x3 x4 x5 : Int32} (hz : kz 49 a I L I0 L0) (h : ∀ J L', kz 49 (spb 24 120 x1 x2 x3 x4 x5 a) J L' I0 L0 → Ψ (none, (xLay, J, L', kQ49 R))) : sm_wp sm_P S (d + 1) 294 0 [.ref 61, .int x1, .int x2, .int x3] [] (xLay, I, L, kQ49 R) (0, 0) (fun z => ∃ (I1 : sm_I) (L2 : sm_L), z = (none, (xLay, I1, L2, (kQ49 R))) ∧ I1 2 10 = I 2 10 ∧ I1 2 8 = I 2 8 ∧ sm_wp sm_P S (d + 1) 286 0 [.ref 61, .int x1, .int x4, .int x5] [] (xLay, I1, L2, (kQ49 R)) (0, 0) Ψ) := by
  unfold spb at h
  refine s49c24_X8_put_0 (s49c24_X8_hasRow_0 ⟨fun c => ⟨_, I, L, rfl, fun _ => ⟨I, L, rfl, rfl, rfl, ?_⟩, fun z => absurd rfl z⟩, fun c => ⟨fun c1 => ⟨_, I, L, rfl, fun _ => ⟨I, L, rfl, rfl, rfl, ?_⟩, fun z => absurd rfl z⟩, fun c1 => ⟨_, I, L, rfl, fun z => absurd z (by decide), fun _ => ?_⟩⟩⟩)
  · rw [if_pos c] at h
    exact s49c24_X8_bound_0 (s49c24_X8_hasRow_0 ⟨fun _ => ⟨_, I, L, rfl, fun _ => h I L hz, fun z => absurd rfl z⟩, fun z => absurd c z⟩)
  · rw [if_neg c, if_pos c1] at h
    exact s49c24_X8_bound_0 (s49c24_X8_hasRow_0 ⟨fun z => absurd z c, fun _ => ⟨fun _ => ⟨_, I, L, rfl, fun _ => h I L hz, fun z => absurd rfl z⟩, fun z => absurd c1 z⟩⟩)
  · rw [if_neg c, if_neg c1] at h
    have c0 := kl_nlt0 c
    have c9 := kl_nle c1
    have v : vp_in x1 120 := kl_in c0 (by rw [show (Int32.ofNat 120).toInt = 120 from by decide] at c9; omega)
    refine ⟨v, fun I4 q4 => ⟨v, fun I5 q5 => ⟨I5, L, rfl, ?_, ?_, ?_⟩⟩⟩
    · rw [q5, en_up_ne _ _ _ _ (by omega), q4, en_up_ne _ _ _ _ (by omega)]
    · rw [q5, en_up_ne _ _ _ _ (by omega), q4, en_up_ne _ _ _ _ (by omega)]
    · refine s49c24_X8_bound_0 (s49c24_X8_hasRow_0 ⟨fun z => absurd z c, fun _ => ⟨fun z => absurd z c1, fun _ => ⟨_, I5, L, rfl, fun z => absurd z (by decide), fun _ => ⟨v, fun I6 q6 => ⟨v, fun I7 q7 => ?_⟩⟩⟩⟩⟩)
      rw [q7, q6, q5, q4]
      exact h _ L (k49_up (c := 28) (by decide) (by decide) (k49_up (c := 27) (by decide) (by decide) (k49_up (c := 26) (by decide) (by decide) (k49_up (c := 25) (by decide) (by decide) hz))))
theorem k49_sp29 {Ψ : sm_Z → Prop} {x1 x2 x3 x4 x5 : Int32} (hz : kz 49 a I L I0 L0) (h : ∀ J L', kz 49 (spb 29 5 x1 x2 x3 x4 x5 a) J L' I0 L0 → Ψ (none, (xLay, J, L', kQ49 R))) : sm_wp sm_P S (d + 1) 294 0 [.ref 66, .int x1, .int x2, .int x3] [] (xLay, I, L, kQ49 R) (0, 0) (fun z => ∃ (I1 : sm_I) (L2 : sm_L), z = (none, (xLay, I1, L2, (kQ49 R))) ∧ I1 2 10 = I 2 10 ∧ I1 2 8 = I 2 8 ∧ sm_wp sm_P S (d + 1) 286 0 [.ref 66, .int x1, .int x4, .int x5] [] (xLay, I1, L2, (kQ49 R)) (0, 0) Ψ) := by
  unfold spb at h
  refine s49c29_X8_put_0 (s49c29_X8_hasRow_0 ⟨fun c => ⟨_, I, L, rfl, fun _ => ⟨I, L, rfl, rfl, rfl, ?_⟩, fun z => absurd rfl z⟩, fun c => ⟨fun c1 => ⟨_, I, L, rfl, fun _ => ⟨I, L, rfl, rfl, rfl, ?_⟩, fun z => absurd rfl z⟩, fun c1 => ⟨_, I, L, rfl, fun z => absurd z (by decide), fun _ => ?_⟩⟩⟩)
  · rw [if_pos c] at h
    exact s49c29_X8_bound_0 (s49c29_X8_hasRow_0 ⟨fun _ => ⟨_, I, L, rfl, fun _ => h I L hz, fun z => absurd rfl z⟩, fun z => absurd c z⟩)
  · rw [if_neg c, if_pos c1] at h
    exact s49c29_X8_bound_0 (s49c29_X8_hasRow_0 ⟨fun z => absurd z c, fun _ => ⟨fun _ => ⟨_, I, L, rfl, fun _ => h I L hz, fun z => absurd rfl z⟩, fun z => absurd c1 z⟩⟩)
  · rw [if_neg c, if_neg c1] at h
    have c0 := kl_nlt0 c
    have c9 := kl_nle c1
    have v : vp_in x1 5 := kl_in c0 (by rw [show (Int32.ofNat 5).toInt = 5 from by decide] at c9; omega)
    refine ⟨v, fun I4 q4 => ⟨v, fun I5 q5 => ⟨I5, L, rfl, ?_, ?_, ?_⟩⟩⟩
    · rw [q5, en_up_ne _ _ _ _ (by omega), q4, en_up_ne _ _ _ _ (by omega)]
    · rw [q5, en_up_ne _ _ _ _ (by omega), q4, en_up_ne _ _ _ _ (by omega)]
    · refine s49c29_X8_bound_0 (s49c29_X8_hasRow_0 ⟨fun z => absurd z c, fun _ => ⟨fun z => absurd z c1, fun _ => ⟨_, I5, L, rfl, fun z => absurd z (by decide), fun _ => ⟨v, fun I6 q6 => ⟨v, fun I7 q7 => ?_⟩⟩⟩⟩⟩)
      rw [q7, q6, q5, q4]
      exact h _ L (k49_up (c := 33) (by decide) (by decide) (k49_up (c := 32) (by decide) (by decide) (k49_up (c := 31) (by decide) (by decide) (k49_up (c := 30) (by decide) (by decide) hz))))
theorem k49_addPath {x1 x2 x3 : Int32} (hz : kz 49 a I L I0 L0) (h : ∀ J L', kz 49 (ad_path x1 x2 x3 a) J L' I0 L0 → Φ (none, (xLay, J, L', kQ49 R))) : sm_wp sm_P S d 13 0 [.ref 49, .int x1, .int x2, .int x3] [] (xLay, I, L, kQ49 R) (0, 0) Φ := by
  have c6 : (6 : Int32).toInt = 6 := by decide
  unfold ad_path at h
  refine s49_X10_addPath_0 ⟨fun c => ?_, fun c => ⟨fun c1 => ?_, fun c1 => ⟨fun c2 => ?_, fun c2 => ⟨fun c3 => ?_, fun c3 => ?_⟩⟩⟩⟩
  · rw [if_pos c] at h; exact h I L hz
  · rw [if_neg c, if_pos c1] at h; exact h I L hz
  · rw [if_neg c, if_neg c1, if_pos c2] at h; exact h I L hz
  · rw [if_neg c, if_neg c1, if_neg c2, if_pos c3] at h
    have d0 := kl_nlt0 c
    have d1 := kl_nle c1
    have d2 := kl_nlt0 c2
    have d3 := kl_lt.mp c3
    have ix : ∀ x y : Int32, 0 ≤ x.toInt → x.toInt < 6 → 0 ≤ y.toInt → y.toInt < 6 → vp_in (x * 6 + y) 36 := fun x y p1 p2 p3 p4 => by
      have m : (x * 6).toInt = x.toInt * 6 := ml_mu rfl c6 (by omega) (by omega)
      have s : (x * 6 + y).toInt = x.toInt * 6 + y.toInt := ml_ad m rfl (by omega) (by omega)
      exact kl_in (by omega) (by omega)
    have v1 := ix x1 x2 d0 (by omega) d2 (by omega)
    have v2 := ix x2 x1 d2 (by omega) d0 (by omega)
    have e13 : I 50 (x1 * 6 + x2).toNatClampNeg = a.1 13 (x1 * 6 + x2).toNatClampNeg := k49_T hz 13 _ (by decide) (by decide)
    have wr : ∀ I2 : sm_I, I2 = (sm_up I 50 ((x1 * (6 : Int32)) + x2).toNatClampNeg x3) → ∀ I3 : sm_I, I3 = (sm_up I2 50 ((x2 * (6 : Int32)) + x1).toNatClampNeg x3) → kz 49 (ad_w x1 x2 x3 a) I3 L I0 L0 := fun I2 q2 I3 q3 => by
      rw [q3, q2]
      exact k49_up (c := 13) (by decide) (by decide) (k49_up (c := 13) (by decide) (by decide) hz)
    refine ⟨v1, fun n1 en => ?_⟩
    rw [e13] at en
    rw [← en] at h
    refine ⟨fun c4 => ⟨v1, fun I2 q2 => ⟨v2, fun I3 q3 => ?_⟩⟩, fun c4 => ⟨fun c5 => ?_, fun c5 => ⟨v1, fun I2 q2 => ⟨v2, fun I3 q3 => ?_⟩⟩⟩⟩
    · rw [if_pos c4] at h; exact h I3 L (wr I2 q2 I3 q3)
    · rw [if_neg c4, if_pos c5] at h; exact h I L hz
    · rw [if_neg c4, if_neg c5] at h; exact h I3 L (wr I2 q2 I3 q3)
  · rw [if_neg c, if_neg c1, if_neg c2, if_neg c3] at h; exact h I L hz
theorem k49_endPO {x1 : Int32} (hz : kz 49 a I L I0 L0) (h : ∀ J L', kz 49 (en_po x1 a) J L' I0 L0 → Φ (none, (xLay, J, L', kQ49 R))) : sm_wp sm_P S (d + 2) 270 0 [.ref 2, .int x1] [] (xLay, I, L, kQ49 R) (0, 0) Φ := by
  have e7 : I 2 7 = a.1 2 7 := hz.1.1 7 (by decide)
  have e8 : I 2 8 = a.1 2 8 := hz.1.1 8 (by decide)
  have e9 : I 2 9 = a.1 2 9 := hz.1.1 9 (by decide)
  have e10 : I 2 10 = a.1 2 10 := hz.1.1 10 (by decide)
  unfold en_po at h
  refine s49_X7_endPathOrOpen_0 ⟨fun c => ?_, fun c => ?_⟩
  · rw [if_pos (by rw [← e7]; exact c)] at h
    rw [e8, e9]
    exact k49_addPath hz (fun J L' hJ => ⟨J, L', rfl, h J L' hJ⟩)
  · rw [if_neg (by rw [← e7]; exact c)] at h
    rw [e8, e9]
    refine sm_wp_mono (k49_sp16 (Ψ := fun z => ∃ (I4 : sm_I) (L5 : sm_L), z = (none, (xLay, I4, L5, (kQ49 R))) ∧ Φ (none, (xLay, I4, L5, (kQ49 R)))) (x4 := a.1 2 10) (x5 := x1) hz (fun J L' hJ => ⟨J, L', rfl, h J L' hJ⟩)) (fun z hq => ?_)
    obtain ⟨I1, L2, ez, q10, q8, w⟩ := hq
    refine ⟨I1, L2, ez, ?_⟩
    rw [q8, e8, q10, e10]
    exact w
theorem k49_lastSpan (hz : kz 49 a I L I0 L0) (h : Φ (some (.int (la_span a)), (xLay, I, L, kQ49 R))) : sm_wp sm_P S (d + 1) 22 0 [.ref 49] [] (xLay, I, L, kQ49 R) (0, 0) Φ := by
  have e3 : I 49 3 = a.1 12 3 := k49_T hz 12 3 (by decide) (by decide)
  have c10 : (Int32.ofNat 10).toInt = 10 := by decide
  have c40 : (Int32.ofNat 40).toInt = 40 := by decide
  have part : ∀ q c : Int32, ∀ {Ψ : sm_Z → Prop}, Ψ (some (.int (pa_of q c a)), (xLay, I, L, kQ49 R)) → sm_wp sm_P S d 23 0 [.ref 49, .int q, .int c] [] (xLay, I, L, kQ49 R) (0, 0) Ψ := by
    intro q c Ψ g
    unfold pa_of at g
    refine s49_X10_partsOf_0 ⟨fun c1 => ?_, fun c1 => ⟨fun c2 => ?_, fun c2 => ⟨?_, ?_⟩⟩⟩
    · rw [if_pos c1] at g; exact g
    · rw [if_neg c1, if_pos (show (40 : Int32) ≤ q * 4 + c from c2)] at g; exact g
    · have c1 := kl_nlt0 c1
      have c2 := kl_nle c2
      exact kl_in c1 (by omega)
    · rw [if_neg c1, if_neg (show ¬ (40 : Int32) ≤ q * 4 + c from c2)] at g
      rw [show I 60 (q * 4 + c).toNatClampNeg = a.1 23 (q * 4 + c).toNatClampNeg from k49_T hz 23 _ (by decide) (by decide)]; exact g
  have val : ∀ q : Int32, ∀ {Ψ : sm_Z → Prop}, Ψ (some (.int (va22 q a)), (xLay, I, L, kQ49 R)) → sm_wp sm_P S d 89 0 [.ref 59, .int q, .int (0 : Int32)] [] (xLay, I, L, kQ49 R) (0, 0) Ψ := by
    intro q Ψ g
    unfold va22 at g
    refine s49v22_X11_valueAt_0 ⟨fun c1 => ?_, fun c1 => ⟨fun c2 => ?_, fun c2 => ⟨?_, ?_⟩⟩⟩
    · rw [if_pos c1] at g; exact g
    · rw [if_neg c1, if_pos (show (10 : Int32) ≤ q from c2)] at g; exact g
    · have c1 := kl_nlt0 c1
      have c2 := kl_nle c2
      exact kl_in c1 (by omega)
    · rw [if_neg c1, if_neg (show ¬ (10 : Int32) ≤ q from c2)] at g
      rw [show I 59 q.toNatClampNeg = a.1 22 q.toNatClampNeg from k49_T hz 22 _ (by decide) (by decide)]; exact g
  refine s49_X10_lastSpan_0 ?_
  rw [e3]
  refine val _ ⟨_, I, L, rfl, s49_X10_firstSpan_0 ⟨_, I, L, rfl, part _ _ ⟨_, I, L, rfl, ?_⟩⟩⟩
  exact h
theorem k49_endSpan {x1 : Int32} (hz : kz 49 a I L I0 L0) (h : ∀ J L', kz 49 (en_sp x1 a) J L' I0 L0 → Φ (none, (xLay, J, L', kQ49 R))) : sm_wp sm_P S (d + 2) 271 0 [.ref 2, .int x1] [] (xLay, I, L, kQ49 R) (0, 0) Φ := by
  have e7 : I 2 7 = a.1 2 7 := hz.1.1 7 (by decide)
  have e8 : I 2 8 = a.1 2 8 := hz.1.1 8 (by decide)
  have e9 : I 2 9 = a.1 2 9 := hz.1.1 9 (by decide)
  have e10 : I 2 10 = a.1 2 10 := hz.1.1 10 (by decide)
  have e4 : I 49 4 = a.1 12 4 := k49_T hz 12 4 (by decide) (by decide)
  unfold en_sp at h
  refine s49_X7_endSpan_0 ⟨fun c => ⟨fun z => absurd z (by decide), fun _ => ⟨fun z => absurd z (by decide), fun _ => ?_⟩⟩, fun c => ⟨fun _ => ⟨fun _ => ?_, fun z => absurd rfl z⟩, fun z => absurd rfl z⟩⟩
  · rw [if_pos (by rw [← e7]; exact c)] at h
    rw [e8, e9, e4]
    refine sm_wp_mono (k49_sp29 (Ψ := fun z => ∃ (I4 : sm_I) (L5 : sm_L), z = (none, (xLay, I4, L5, (kQ49 R))) ∧ Φ (none, (xLay, I4, L5, (kQ49 R)))) (x4 := a.1 2 10) (x5 := x1) hz (fun J L' hJ => ⟨J, L', rfl, h J L' hJ⟩)) (fun z hq => ?_)
    obtain ⟨I1, L2, ez, q10, q8, w⟩ := hq
    refine ⟨I1, L2, ez, ?_⟩
    rw [q10, e10]
    exact w
  · rw [if_neg (by rw [← e7]; exact c)] at h
    refine k49_lastSpan hz ⟨_, I, L, rfl, ?_⟩
    rw [e8, e9]
    refine sm_wp_mono (k49_sp24 (Ψ := fun z => ∃ (I4 : sm_I) (L5 : sm_L), z = (none, (xLay, I4, L5, (kQ49 R))) ∧ Φ (none, (xLay, I4, L5, (kQ49 R)))) (x4 := a.1 2 10) (x5 := x1) hz (fun J L' hJ => ⟨J, L', rfl, h J L' hJ⟩)) (fun z hq => ?_)
    obtain ⟨I1, L2, ez, q10, q8, w⟩ := hq
    refine ⟨I1, L2, ez, ?_⟩
    rw [q10, e10]
    exact w
theorem kT_Q49 : kT 49 (kQ49 R) = kQ49 R := by
  funext x j
  unfold kT
  cases e : (Nat.beq x 2 && Nat.beq j 6) with
  | true =>
    obtain ⟨e1, e2⟩ := Bool.and_eq_true_iff.mp e
    rw [Nat.eq_of_beq_eq_true e1, Nat.eq_of_beq_eq_true e2]; rfl
  | false =>
    show (match (kTl x)[j]? with
      | some (some p) => some p
      | _ => kQ49 R x j) = kQ49 R x j
    by_cases c2 : x = 2
    · subst c2
      match j, e with
      | 0, _ => rfl
      | 1, _ => rfl
      | 2, _ => rfl
      | 3, _ => rfl
      | 4, _ => rfl
      | 5, _ => rfl
      | 6, _ => rfl
      | j + 7, _ => rfl
    · by_cases c3 : x = 3
      · subst c3
        match j with
        | 0 => rfl
        | 1 => rfl
        | 2 => rfl
        | j + 3 => rfl
      · by_cases c7 : x = 7
        · subst c7
          match j with
          | 0 => rfl
          | j + 1 => rfl
        · have : kTl x = [] := by
            unfold kTl
            rw [show Nat.beq x 2 = false from by cases q : Nat.beq x 2 with | true => exact absurd (Nat.eq_of_beq_eq_true q) c2 | false => rfl]
            rw [show Nat.beq x 3 = false from by cases q : Nat.beq x 3 with | true => exact absurd (Nat.eq_of_beq_eq_true q) c3 | false => rfl]
            rw [show Nat.beq x 7 = false from by cases q : Nat.beq x 7 with | true => exact absurd (Nat.eq_of_beq_eq_true q) c7 | false => rfl]
            rfl
          rw [this]; rfl
theorem k49_follow {x0 x1 : Int32} (h : Φ (some (.int (fw x0 x1)), (xLay, I, L, kQ49 R))) : sm_wp sm_P S d 241 0 [.int x0, .int x1] [] (xLay, I, L, kQ49 R) (0, 0) Φ := by
  rw [← kT_Q49] at h ⊢
  exact ks_follow h
theorem k49_takeInt {x1 x2 x3 : Int32} (hz : kz 49 a I L I0 L0) (h : ∀ J L', kz 49 (tk_int x1 x2 x3 a).2 J L' I0 L0 → Φ (some (.int (tk_int x1 x2 x3 a).1), (xLay, J, L', kQ49 R))) : sm_wp sm_P S (d + 3) 279 0 [.ref 2, .int x1, .int x2, .int x3] [] (xLay, I, L, kQ49 R) (0, 0) Φ := by
  unfold tk_int at h
  have go : ∀ x : Int32, x2 = 16 → x = sg_n x1 x3 → ((x1 = (5 : Int32) → sm_wp sm_P S (d + 2) 270 0 [.ref 2, .int x] [] (xLay, I, L, (kQ49 R)) (0, 0) (fun z => ∃ (I13 : sm_I) (L14 : sm_L), z = (none, (xLay, I13, L14, (kQ49 R))) ∧ Φ (some (.int (0 : Int32)), (xLay, I13, L14, (kQ49 R))))) ∧ (¬ x1 = (5 : Int32) → sm_wp sm_P S (d + 2) 241 0 [.int x1, .int x2] [] (xLay, I, L, (kQ49 R)) (0, 0) (fun z => ∃ (r6 : Int32) (I4 : sm_I) (L5 : sm_L), z = (some (.int r6), (xLay, I4, L5, (kQ49 R))) ∧ ((r6 = (26 : Int32) → sm_wp sm_P S (d + 2) 271 0 [.ref 2, .int x] [] (xLay, I4, L5, (kQ49 R)) (0, 0) (fun z => ∃ (I7 : sm_I) (L8 : sm_L), z = (none, (xLay, I7, L8, (kQ49 R))) ∧ Φ (some (.int (0 : Int32)), (xLay, I7, L8, (kQ49 R))))) ∧ (¬ r6 = (26 : Int32) → Φ (some (.int (0 : Int32)), (xLay, (sm_up I4 2 10 x), L5, (kQ49 R)))))))) := by
    intro x c ex
    rw [if_pos c, ← ex] at h
    refine ⟨fun c1 => ?_, fun c1 => k49_follow ⟨_, I, L, rfl, fun c2 => ?_, fun c2 => ?_⟩⟩
    · rw [if_pos c1] at h
      exact k49_endPO hz (fun J L' hJ => ⟨J, L', rfl, h J L' hJ⟩)
    · rw [if_neg c1, if_pos c2] at h
      exact k49_endSpan hz (fun J L' hJ => ⟨J, L', rfl, h J L' hJ⟩)
    · rw [if_neg c1, if_neg c2] at h
      exact h _ L (kz_r (by decide) (Or.inl ⟨rfl, by decide⟩) hz)
  refine s49_X7_takeInt_0 ⟨fun c => ?_, fun c => ?_⟩
  · refine s49_X3_isBehindMinus_0 ⟨fun b => ⟨_, I, L, rfl, fun z => absurd z (by decide), fun _ => go _ c (by unfold sg_n; rw [if_pos b])⟩, fun b => ⟨fun b2 => ⟨_, I, L, rfl, fun z => absurd z (by decide), fun _ => go _ c (by unfold sg_n; rw [if_neg b, if_pos b2])⟩, fun b2 => ⟨_, I, L, rfl, fun _ => go _ c (by unfold sg_n; rw [if_neg b, if_neg b2]), fun z => absurd rfl z⟩⟩⟩
  · rw [if_neg c] at h
    exact h I L hz
end
