/-! tells of the reference, exact: a span -/
/-- nothing but the span i, and the reader's place, fault and worst -/
def sfr (i : Nat) (I J : sm_I) : Prop := ∀ p j, ¬ (130 ≤ p ∧ p ≤ 133 ∧ j = i) → ¬ (p = 107 ∧ (j = 11 ∨ j = 13 ∨ j = 14 ∨ j = 15 ∨ j = 16)) → J p j = I p j
theorem sfr_x {i : Nat} {I J H : sm_I} (h : sfr i I J) (g : xfr J H) : sfr i I H := fun p j a b => (g p j b).trans (h p j a b)
theorem sfr_u {i p : Nat} {x : Int32} {I J H : sm_I} (h : sfr i I J) (p1 : 130 ≤ p) (p2 : p ≤ 133) (e : H = sm_up J p i x) : sfr i I H := fun q j a b => by rw [e, en_up_ne _ _ _ _ (by omega)]; exact h q j a b
/-- the same but for what the reader holds of a span -/
def spb0 (a0 b : sg) : Prop := b.2 = a0.2 ∧ (∀ p j, p ≠ 2 → b.1 p j = a0.1 p j) ∧ b.1 2 5 = a0.1 2 5 ∧ b.1 2 7 = a0.1 2 7
theorem spb0_u {a0 b : sg} {j : Nat} {x : Int32} (h : spb0 a0 b) (j1 : j = 8 ∨ j = 9 ∨ j = 10) : spb0 a0 (u2 b 2 j x) := ⟨h.1, fun p q hp => by rw [u2_ne _ _ _ _ (by omega)]; exact h.2.1 p q hp, by rw [u2_ne _ _ _ _ (by omega)]; exact h.2.2.1, by rw [u2_ne _ _ _ _ (by omega)]; exact h.2.2.2⟩
def spok (t0 : Nat) (g0 : gc) (i : Nat) (o : Option sg) (I J : sm_I) (m' : mo) (o' : Option sg) : Prop := sfr i I J ∧ (m' = none ∨ ∃ t', m' = some (t', 26, g0) ∧ t0 < t' ∧ ∀ a', o' = some a' → ∃ a0, o = some a0 ∧ ∃ b, a' = en_sp (J 133 i) b ∧ spb0 a0 b ∧ b.1 2 8 = J 130 i ∧ b.1 2 9 = J 131 i ∧ b.1 2 10 = J 132 i ∧ 0 ≤ (J 130 i).toInt ∧ (J 130 i).toInt ≤ 9 ∧ -1 ≤ (J 131 i).toInt ∧ (J 131 i).toInt ≤ 9)
section
variable {K : Nat → Int32} {P : Nat → Nat} {V W : Nat → Int64} {N : Nat → Int32} {c : Nat} {R0 : Option (Int32 × Nat)} {M0 : Option (Int32 × Nat) × sg}
variable {S : sm_C} {d : Nat} {Φ : sm_Z → Prop} {I H : sm_I} {L : sm_L} {R : sm_R} {m : mo} {o o3 : Option sg} {x1 : Int32} {i t0 : Nat} {g0 : gc}
theorem x_spS (hT : TS K P V W N c) (h1 : x1.toInt = i) (hi : i < 260) (fH : sfr i I H) (XH : PX K P V W N c R0 M0 m o3 H L) (rm : ∀ t' s' g', m = some (t', s', g') → t0 < t' ∧ s' = 21 ∧ g' = g0) (ro : m ≠ none → ∀ b, o3 = some b → ∃ a0, o = some a0 ∧ spb0 a0 b ∧ b.1 2 8 = H 130 i ∧ b.1 2 9 = H 131 i ∧ 0 ≤ (H 130 i).toInt ∧ (H 130 i).toInt ≤ 9 ∧ -1 ≤ (H 131 i).toInt ∧ (H 131 i).toInt ≤ 9) (h : ∀ (J : sm_I) (m' : mo) (o' : Option sg), PX K P V W N c R0 M0 m' o' J L → spok t0 g0 i o I J m' o' → Φ (none, (xLay, J, L, kM R))) : sm_wp sm_P S (d + 3) 169 0 [.ref 107, .int (1 : Int32)] [] (xLay, H, L, kM R) (0, 0) (fun z => ∃ (r41 : Int32) (I38 : sm_I) (L39 : sm_L) (R40 : sm_R), z = (some (.int r41), (xLay, I38, L39, kM R40)) ∧ (vp_in x1 260) ∧ ∀ I42 : sm_I, I42 = (sm_up I38 132 x1.toNatClampNeg r41) → sm_wp sm_P S (d + 3) 169 0 [.ref 107, .int (1 : Int32)] [] (xLay, I42, L39, kM R40) (0, 0) (fun z => ∃ (r52 : Int32) (I49 : sm_I) (L50 : sm_L) (R51 : sm_R), z = (some (.int r52), (xLay, I49, L50, kM R51)) ∧ (vp_in x1 260) ∧ ∀ I53 : sm_I, I53 = (sm_up I49 133 x1.toNatClampNeg r52) → Φ (none, (xLay, I53, L50, kM R51)))) := by
  have v : vp_in x1 260 := kl_in (by omega) (by omega)
  have n1 := tk_nat h1
  refine x_numS (s0 := 21) (s1 := 22) hT (by decide +kernel) (by decide +kernel) (by decide +kernel) (by decide +kernel) (by decide +kernel) (fun r a => u2 a 2 10 r) (fun v a hv => by rw [ms_16 hv]; rfl) (fun v a hv => by rw [ms_16 hv]; rfl) (fun v a => rfl) XH (fun t' s' g' em => (rm t' s' g' em).2.1) (fun r J m1 o1 f X1 r1 => ⟨r, J, L, R, rfl, v, fun J2 e2 => ?_⟩)
  rw [n1] at e2
  have X2 : PX K P V W N c R0 M0 m1 o1 J2 L := by rw [e2]; exact PX_up (by decide) (by omega) X1
  have e21 : ∀ t' s' g', m1 = some (t', s', g') → t0 < t' ∧ s' = 23 ∧ g' = g0 := fun t' s' g' em => by
    rcases r1 with r1 | ⟨t2, g2, u, em2, q1, q2, q3, q4, q5⟩
    · rw [r1] at em; cases em
    · rw [q4] at em
      obtain ⟨y1, y2, y3⟩ := mo_i em
      obtain ⟨z1, z2, z3⟩ := rm t2 21 g2 em2
      exact ⟨by omega, by rw [← y2]; decide +kernel, by rw [← y3]; exact z3⟩
  refine x_numS (s0 := 23) (s1 := 24) hT (by decide +kernel) (by decide +kernel) (by decide +kernel) (by decide +kernel) (by decide +kernel) en_sp (fun v a hv => by rw [ms_16 hv]; rfl) (fun v a hv => by rw [ms_16 hv]; rfl) (fun v a => rfl) X2 (fun t' s' g' em => (e21 t' s' g' em).2.1) (fun r' J3 m3 o3' f3 X3 r3 => ⟨r', J3, L, R, rfl, v, fun J4 e4 => ?_⟩)
  rw [n1] at e4
  have X4 : PX K P V W N c R0 M0 m3 o3' J4 L := by rw [e4]; exact PX_up (by decide) (by omega) X3
  refine h J4 m3 o3' X4 ⟨?_, ?_⟩
  · exact sfr_u (sfr_x (sfr_u (sfr_x fH f) (by decide) (by decide) e2) f3) (by decide) (by decide) e4
  · rcases r3 with r3 | ⟨t2, g2, u, em2, q1, q2, q3, q4, q5⟩
    · exact Or.inl r3
    · obtain ⟨z1, z2, z3⟩ := e21 t2 23 g2 em2
      refine Or.inr ⟨u + 1, ?_, by omega, fun a' ea => ?_⟩
      · rw [q4, z3, show fw 23 16 = 26 from by decide +kernel]
      · rcases q5 with q5 | ⟨-, -, q5⟩
        · rw [q5] at ea; cases ea
        obtain ⟨b2, eb, eb'⟩ := om (Or.inr q5) ea
        rcases r1 with r1 | ⟨t4, g4, u4, em4, p1, p2, p3, p4, p5⟩
        · rw [r1] at em2; cases em2
        rcases p5 with p5 | ⟨-, -, p5⟩
        · rw [p5] at eb; cases eb
        obtain ⟨b1, ec, ec'⟩ := om (Or.inr p5) eb
        obtain ⟨a0, ea0, w1, w2, w3, w4⟩ := ro (by rw [em4]; exact Option.some_ne_none _) b1 ec
        have k30 : J4 130 i = H 130 i := by rw [e4, en_up_ne _ _ _ _ (by omega), f3 130 i (by omega), e2, en_up_ne _ _ _ _ (by omega), f 130 i (by omega)]
        have k31 : J4 131 i = H 131 i := by rw [e4, en_up_ne _ _ _ _ (by omega), f3 131 i (by omega), e2, en_up_ne _ _ _ _ (by omega), f 131 i (by omega)]
        have k32 : J4 132 i = r := by rw [e4, en_up_ne _ _ _ _ (by omega), f3 132 i (by omega), e2, en_up_eq]
        have k33 : J4 133 i = r' := by rw [e4, en_up_eq]
        refine ⟨a0, ea0, b2, by rw [k33]; exact eb', ?_⟩
        subst ec'
        rw [k30, k31, k32]
        exact ⟨spb0_u w1 (by omega), by rw [u2_ne _ _ _ _ (by omega)]; exact w2, by rw [u2_ne _ _ _ _ (by omega)]; exact w3, u2_eq _ _ _ _, w4⟩
theorem x_spU (hT : TS K P V W N c) (h1 : x1.toInt = i) (hi : i < 260) (fH : sfr i I H) (XH : PX K P V W N c R0 M0 m o3 H L) (rm : ∀ t' s' g', m = some (t', s', g') → t0 < t' ∧ s' = 19 ∧ g' = g0) (ro : m ≠ none → ∀ b, o3 = some b → ∃ a0, o = some a0 ∧ spb0 a0 b ∧ b.1 2 8 = H 130 i ∧ b.1 2 9 = H 131 i ∧ 0 ≤ (H 130 i).toInt ∧ (H 130 i).toInt ≤ 9 ∧ -1 ≤ (H 131 i).toInt ∧ (H 131 i).toInt ≤ 9) (h : ∀ (J : sm_I) (m' : mo) (o' : Option sg), PX K P V W N c R0 M0 m' o' J L → spok t0 g0 i o I J m' o' → Φ (none, (xLay, J, L, kM R))) : sm_wp sm_P S (d + 3) 169 0 [.ref 107, .int (0 : Int32)] [] (xLay, H, L, kM R) (0, 0) (fun z => ∃ (r41 : Int32) (I38 : sm_I) (L39 : sm_L) (R40 : sm_R), z = (some (.int r41), (xLay, I38, L39, kM R40)) ∧ (vp_in x1 260) ∧ ∀ I42 : sm_I, I42 = (sm_up I38 132 x1.toNatClampNeg r41) → sm_wp sm_P S (d + 3) 169 0 [.ref 107, .int (0 : Int32)] [] (xLay, I42, L39, kM R40) (0, 0) (fun z => ∃ (r52 : Int32) (I49 : sm_I) (L50 : sm_L) (R51 : sm_R), z = (some (.int r52), (xLay, I49, L50, kM R51)) ∧ (vp_in x1 260) ∧ ∀ I53 : sm_I, I53 = (sm_up I49 133 x1.toNatClampNeg r52) → Φ (none, (xLay, I53, L50, kM R51)))) := by
  have v : vp_in x1 260 := kl_in (by omega) (by omega)
  have n1 := tk_nat h1
  refine x_numU (s0 := 19) hT (by decide +kernel) (fun r a => u2 a 2 10 r) (fun v a hv => by rw [ms_16 hv]; rfl) XH (fun t' s' g' em => (rm t' s' g' em).2.1) (fun r J m1 o1 f X1 r1 => ⟨r, J, L, R, rfl, v, fun J2 e2 => ?_⟩)
  rw [n1] at e2
  have X2 : PX K P V W N c R0 M0 m1 o1 J2 L := by rw [e2]; exact PX_up (by decide) (by omega) X1
  have e21 : ∀ t' s' g', m1 = some (t', s', g') → t0 < t' ∧ s' = 25 ∧ g' = g0 := fun t' s' g' em => by
    rcases r1 with r1 | ⟨t2, g2, em2, q2, q3, q4, q5⟩
    · rw [r1] at em; cases em
    · rw [q4] at em
      obtain ⟨y1, y2, y3⟩ := mo_i em
      obtain ⟨z1, z2, z3⟩ := rm t2 19 g2 em2
      exact ⟨by omega, by rw [← y2]; decide +kernel, by rw [← y3]; exact z3⟩
  refine x_numU (s0 := 25) hT (by decide +kernel) en_sp (fun v a hv => by rw [ms_16 hv]; rfl) X2 (fun t' s' g' em => (e21 t' s' g' em).2.1) (fun r' J3 m3 o3' f3 X3 r3 => ⟨r', J3, L, R, rfl, v, fun J4 e4 => ?_⟩)
  rw [n1] at e4
  have X4 : PX K P V W N c R0 M0 m3 o3' J4 L := by rw [e4]; exact PX_up (by decide) (by omega) X3
  refine h J4 m3 o3' X4 ⟨?_, ?_⟩
  · exact sfr_u (sfr_x (sfr_u (sfr_x fH f) (by decide) (by decide) e2) f3) (by decide) (by decide) e4
  · rcases r3 with r3 | ⟨t2, g2, em2, q2, q3, q4, q5⟩
    · exact Or.inl r3
    · obtain ⟨z1, z2, z3⟩ := e21 t2 25 g2 em2
      refine Or.inr ⟨t2 + 1, ?_, by omega, fun a' ea => ?_⟩
      · rw [q4, z3, show fw 25 16 = 26 from by decide +kernel]
      · rcases q5 with q5 | ⟨-, -, q5⟩
        · rw [q5] at ea; cases ea
        obtain ⟨b2, eb, eb'⟩ := om (Or.inr q5) ea
        rcases r1 with r1 | ⟨t4, g4, em4, p2, p3, p4, p5⟩
        · rw [r1] at em2; cases em2
        rcases p5 with p5 | ⟨-, -, p5⟩
        · rw [p5] at eb; cases eb
        obtain ⟨b1, ec, ec'⟩ := om (Or.inr p5) eb
        obtain ⟨a0, ea0, w1, w2, w3, w4⟩ := ro (by rw [em4]; exact Option.some_ne_none _) b1 ec
        have k30 : J4 130 i = H 130 i := by rw [e4, en_up_ne _ _ _ _ (by omega), f3 130 i (by omega), e2, en_up_ne _ _ _ _ (by omega), f 130 i (by omega)]
        have k31 : J4 131 i = H 131 i := by rw [e4, en_up_ne _ _ _ _ (by omega), f3 131 i (by omega), e2, en_up_ne _ _ _ _ (by omega), f 131 i (by omega)]
        have k32 : J4 132 i = r := by rw [e4, en_up_ne _ _ _ _ (by omega), f3 132 i (by omega), e2, en_up_eq]
        have k33 : J4 133 i = r' := by rw [e4, en_up_eq]
        refine ⟨a0, ea0, b2, by rw [k33]; exact eb', ?_⟩
        subst ec'
        rw [k30, k31, k32]
        exact ⟨spb0_u w1 (by omega), by rw [u2_ne _ _ _ _ (by omega)]; exact w2, by rw [u2_ne _ _ _ _ (by omega)]; exact w3, u2_eq _ _ _ _, w4⟩
theorem x_tellSpan (hT : TS K P V W N c) (h1 : x1.toInt = i) (hi : i < 260) (b0 : 0 ≤ (I 107 20).toInt) (b1 : (I 107 20).toInt ≤ 50) (hb : ∀ j, j < cntm I → 0 ≤ (I 117 j).toInt) (hf : ∀ nm, -1 ≤ (fdm I L nm 2).toInt ∧ (fdm I L nm 2).toInt ≤ 9) (hX : PX K P V W N c R0 M0 m o I L) (hs : ∀ t' s' g', m = some (t', s', g') → t' = t0 ∧ s' = 17 ∧ g' = g0) (hl : ∀ a0, o = some a0 → ∀ b, spb0 a0 b → ∀ u, u < c → K u = 15 → fd b (V u) 3 = fdm I L (W u) 2) (h : ∀ (J : sm_I) (m' : mo) (o' : Option sg), PX K P V W N c R0 M0 m' o' J L → spok t0 g0 i o I J m' o' → Φ (none, (xLay, J, L, kM R))) : sm_wp sm_P S (d + 4) 201 0 [.ref 107, .int x1] [] (xLay, I, L, kM R) (0, 0) Φ := by
  have v : vp_in x1 260 := kl_in (by omega) (by omega)
  have n1 := tk_nat h1
  have rf : ∀ a0 : sg, spb0 a0 a0 := fun a0 => ⟨rfl, fun _ _ _ => rfl, rfl, rfl⟩
  refine u_X12_tellSpan_0 (x_knownS (kd := 3) (s0 := 17) hT (by decide +kernel) hX (fun t' s' g' em => (hs t' s' g' em).2.1) b0 b1 hb (fun t' g' a1 em eo uc ku => hl a1 eo a1 (rf a1) t' uc ku) (fun r a => u2 (u2 a 2 8 r) 2 9 (-1)) (fun v a => by rw [ms_15]; rfl) (fun r4 J1 m1 o1 f1 X1 r1 => ⟨r4, J1, L, R, rfl, ?_⟩))
  have e1 : ∀ t' s' g', m1 = some (t', s', g') → t' = t0 + 1 ∧ s' = 18 ∧ g' = g0 ∧ ∀ b, o1 = some b → ∃ a0, o = some a0 ∧ b = u2 (u2 a0 2 8 r4) 2 9 (-1) ∧ 0 ≤ r4.toInt ∧ r4.toInt ≤ 9 := fun t' s' g' em => by
    rcases r1 with ⟨r1, -⟩ | ⟨t2, g2, em2, q1, q2, q3, q4, q5, q6⟩
    · rw [r1] at em; cases em
    · rw [q4] at em
      obtain ⟨y1, y2, y3⟩ := mo_i em
      obtain ⟨z1, z2, z3⟩ := hs t2 17 g2 em2
      refine ⟨by omega, by rw [← y2]; decide +kernel, by rw [← y3]; exact z3, fun b eb => ?_⟩
      rcases q6 with q6 | ⟨q7, q6⟩
      · rw [q6] at eb; cases eb
      obtain ⟨a0, ea, ea'⟩ := om (Or.inr q6) eb
      have := hf (W t2)
      rw [← q5] at this
      have q7 := ml_m1 q7
      exact ⟨a0, ea, ea', by omega, by omega⟩
  refine x_is (i := 14) hT (by decide) rfl X1.1 (fun r8 _ hr8 => ⟨r8, J1, L, R, rfl, fun r0 => ?_, fun r0 => ?_⟩)
  · refine x_mustT (i := 11) (s0 := 18) [14] hT rfl (by decide +kernel) (fun v a => rfl) X1 (fun t' s' g' em => ⟨(e1 t' s' g' em).2.1, fun j hj ekj => ?_⟩) (fun J2 m2 f2 X2 r2 => ⟨J2, L, R, rfl, fun z => ?_, fun z => ?_⟩)
    · rw [List.mem_singleton.mp hj] at ekj
      exact absurd r0 (hr8.mpr ⟨t', s', g', em, ekj⟩)
    · have z := PS_le0 X2.1 z
      have f12 : xfr I J2 := xfr_tr f1 f2
      have c20 : J2 107 20 = I 107 20 := f12 107 20 (by omega)
      have cm2 : cntm J2 = cntm I := by unfold cntm; rw [c20]
      have e2 : ∀ t' s' g', m2 = some (t', s', g') → t' = t0 + 2 ∧ s' = 20 ∧ g' = g0 ∧ ∀ b, o1 = some b → ∃ a0, o = some a0 ∧ b = u2 (u2 a0 2 8 r4) 2 9 (-1) ∧ 0 ≤ r4.toInt ∧ r4.toInt ≤ 9 := fun t' s' g' em => by
        rcases r2 with r2 | ⟨t3, g3, em3, v1, v2, v3, v4⟩
        · rw [r2] at em; cases em
        · rw [v4] at em
          obtain ⟨y1, y2, y3⟩ := mo_i em
          obtain ⟨z1, z2, z3, z4⟩ := e1 t3 18 g3 em3
          exact ⟨by omega, by rw [← y2]; decide +kernel, by rw [← y3]; exact z3, z4⟩
      refine x_knownS (kd := 3) (s0 := 20) hT (by decide +kernel) X2 (fun t' s' g' em => (e2 t' s' g' em).2.1) (by rw [c20]; exact b0) (by rw [c20]; exact b1) (fun j hj => by rw [f12 117 j (by omega)]; exact hb j (by rw [← cm2]; exact hj)) (fun t' g' a1 em eo uc ku => ?_) (fun r a => u2 a 2 9 r) (fun v a => by rw [ms_15]; rfl) (fun r16 J3 m3 o3 f3 X3 r3 => ⟨r16, J3, L, R, rfl, v, fun J4 e4 => ⟨v, fun J5 e5 => ?_⟩⟩)
      · obtain ⟨-, -, -, y8⟩ := e2 t' 20 g' em
        obtain ⟨a0, ea, ea', -⟩ := y8 a1 eo
        subst ea'
        rw [fdm_cg f12]
        exact hl a0 ea _ (spb0_u (spb0_u (rf a0) (by omega)) (by omega)) t' uc ku
      rw [n1] at e4 e5
      have f13 : xfr I J3 := xfr_tr f12 f3
      have sf3 : sfr i I J3 := fun p j _ b => f13 p j b
      have sf5 : sfr i I J5 := sfr_u (sfr_u sf3 (by decide) (by decide) e4) (by decide) (by decide) e5
      have X5 : PX K P V W N c R0 M0 m3 o3 J5 L := by rw [e5, e4]; exact PX_up (by decide) (by omega) (PX_up (by decide) (by omega) X3)
      have k30 : J5 130 i = r4 := by rw [e5, en_up_eq]
      have k31 : J5 131 i = r16 := by rw [e5, en_up_ne _ _ _ _ (by omega), e4, en_up_eq]
      refine ⟨fun _ => ?_, fun q => absurd r0 q⟩
      refine sm_wp_mono (x_spS (H := J5) (o := o) (t0 := t0) (g0 := g0) hT h1 hi sf5 X5 (fun t' s' g' em => ?_) (fun nm b eb => ?_) h) (fun z hq => ?_)
      · rcases r3 with ⟨r3, -⟩ | ⟨t3, g3, em3, q1, q2, q3, q4, q5, q6⟩
        · rw [r3] at em; cases em
        · rw [q4] at em
          obtain ⟨y1, y2, y3⟩ := mo_i em
          obtain ⟨z1, z2, z3, -⟩ := e2 t3 20 g3 em3
          exact ⟨by omega, by rw [← y2]; decide +kernel, by rw [← y3]; exact z3⟩
      · rcases r3 with ⟨r3, -⟩ | ⟨t3, g3, em3, q1, q2, q3, q4, q5, q6⟩
        · exact absurd r3 nm
        · rcases q6 with q6 | ⟨q7, q6⟩
          · rw [q6] at eb; cases eb
          obtain ⟨b2, eb2, eb2'⟩ := om (Or.inr q6) eb
          obtain ⟨-, -, -, y8⟩ := e2 t3 20 g3 em3
          obtain ⟨a0, ea, ea', w0, w9⟩ := y8 b2 eb2
          subst ea'
          subst eb2'
          have := hf (W t3)
          rw [← fdm_cg f12, ← q5] at this
          refine ⟨a0, ea, spb0_u (spb0_u (spb0_u (rf a0) (by omega)) (by omega)) (by omega), ?_, ?_, ?_⟩
          · rw [k30, u2_ne _ _ _ _ (by omega), u2_ne _ _ _ _ (by omega), u2_eq]
          · rw [k31, u2_eq]
          · rw [k30, k31]; exact ⟨w0, w9, this.1, this.2⟩
      · obtain ⟨r41, I38, L39, R40, ez, w1, w2⟩ := hq
        refine ⟨r41, I38, L39, R40, ez, w1, fun I42 e42 => ⟨fun _ => w2 I42 e42, fun q => absurd r0 q⟩⟩
    · have nz : ¬ J2 107 13 = 0 := fun y => z (by rw [y]; decide)
      have em2 := PS_n0 X2.1 nz
      subst em2
      refine ⟨v, fun J4 e4 => ⟨v, fun J5 e5 => ⟨fun _ => ?_, fun q => absurd r0 q⟩⟩⟩
      rw [n1] at e4 e5
      have f12 : xfr I J2 := xfr_tr f1 f2
      have sf5 : sfr i I J5 := sfr_u (sfr_u (fun p j _ b => f12 p j b) (by decide) (by decide) e4) (by decide) (by decide) e5
      have X5 : PX K P V W N c R0 M0 none none J5 L := PX_F (by rw [e5, e4]; exact PS_up (by decide) (by omega) (PS_up (by decide) (by omega) X2.1))
      refine sm_wp_mono (x_spS (H := J5) (o := o) (t0 := t0) (g0 := g0) hT h1 hi sf5 X5 (fun t' s' g' em => by cases em) (fun nm => absurd rfl nm) h) (fun z hq => ?_)
      obtain ⟨r41, I38, L39, R40, ez, w1, w2⟩ := hq
      refine ⟨r41, I38, L39, R40, ez, w1, fun I42 e42 => ⟨fun _ => w2 I42 e42, fun q => absurd r0 q⟩⟩
  · obtain ⟨tk, sk, gk, emk, ekk⟩ := hr8.mp r0
    refine x_goT (i := 14) (s0 := 18) [11] hT (by decide +kernel) (fun v a => rfl) X1 (fun t' s' g' em => ⟨(e1 t' s' g' em).2.1, ?_⟩) (fun J2 m2 f2 X2 r2 => ⟨J2, L, R, rfl, v, fun J4 e4 => ⟨v, fun J5 e5 => ?_⟩⟩)
    · rw [emk] at em
      rw [← (mo_i em).1]; exact ekk
    rw [n1] at e4 e5
    have f12 : xfr I J2 := xfr_tr f1 f2
    have sf5 : sfr i I J5 := sfr_u (sfr_u (fun p j _ b => f12 p j b) (by decide) (by decide) e4) (by decide) (by decide) e5
    have X5 : PX K P V W N c R0 M0 m2 o1 J5 L := by rw [e5, e4]; exact PX_up (by decide) (by omega) (PX_up (by decide) (by omega) X2)
    have k30 : J5 130 i = r4 := by rw [e5, en_up_eq]
    have k31 : J5 131 i = -1 := by rw [e5, en_up_ne _ _ _ _ (by omega), e4, en_up_eq]
    refine ⟨fun q => absurd q r0, fun _ => ?_⟩
    refine sm_wp_mono (x_spU (H := J5) (o := o) (t0 := t0) (g0 := g0) hT h1 hi sf5 X5 (fun t' s' g' em => ?_) (fun nm b eb => ?_) h) (fun z hq => ?_)
    · rcases r2 with r2 | ⟨t3, g3, em3, v1, v2, v3, v4⟩
      · rw [r2] at em; cases em
      · rw [v4] at em
        obtain ⟨y1, y2, y3⟩ := mo_i em
        obtain ⟨z1, z2, z3, -⟩ := e1 t3 18 g3 em3
        exact ⟨by omega, by rw [← y2]; decide +kernel, by rw [← y3]; exact z3⟩
    · obtain ⟨-, -, -, y8⟩ := e1 tk sk gk emk
      obtain ⟨a0, ea, ea', w0, w9⟩ := y8 b eb
      subst ea'
      refine ⟨a0, ea, spb0_u (spb0_u (rf a0) (by omega)) (by omega), ?_, ?_, ?_⟩
      · rw [k30, u2_ne _ _ _ _ (by omega), u2_eq]
      · rw [k31, u2_eq]
      · rw [k30, k31]; exact ⟨w0, w9, by decide, by decide⟩
    · obtain ⟨r41, I38, L39, R40, ez, w1, w2⟩ := hq
      refine ⟨r41, I38, L39, R40, ez, w1, fun I42 e42 => ⟨fun q => absurd q r0, fun _ => w2 I42 e42⟩⟩
end
