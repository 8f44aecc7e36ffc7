section
/-! the reference's tell, exact: which one (wip/pe/mk98f.py) -/
section
variable {K : Nat → Int32} {P : Nat → Nat} {V W : Nat → Int64} {N : Nat → Int32} {c : Nat} {R0 : Option (Int32 × Nat)} {M0 : Option (Int32 × Nat) × sg}
variable {S : sm_C} {d : Nat} {Φ : sm_Z → Prop} {I : sm_I} {L : sm_L} {R : sm_R} {m : mo} {o : Option sg} {l s t : Nat} {g : gc}
theorem fw0_no : ∀ i, i < 22 → fw 0 (Int32.ofNat i) = -1 ∨ i = 0 ∨ i = 1 ∨ i = 2 ∨ i = 3 ∨ i = 6 ∨ i = 8 ∨ i = 10 ∨ i = 12 ∨ i = 21 := by decide +kernel
theorem x_tell (hT : TS K P V W N c) (hls : ml_ls l s) (hm : en_mem ml_tb mlX (xLay, I, L, R)) (hI : ml_TI l s I) (hX : PX K P V W N c R0 M0 (some (t, 0, g)) o I L) (hG : rG s g I) (hR : ∀ a, o = some a → rL K V W s t a I L) (n21 : K t ≠ 21) (h : ∀ (J : sm_I) (L' : sm_L), TP K P V W N c R0 M0 s t J L' → Φ (none, (xLay, J, L', kM R))) : sm_wp sm_P S (d + 7) 195 0 [.ref 107] [] (xLay, I, L, kM R) (0, 0) Φ := by
  obtain ⟨hl1, hs1⟩ := ml_l1 hls
  obtain ⟨sn, sv⟩ := ml_sn hls hI
  have bc := ml_cs hs1 hm
  have b34 := x_34 hs1 hm
  have b120 : 0 ≤ (I 120 s).toInt ∧ (I 120 s).toInt ≤ 12 := ml_row hm (p := 120) (n := 2) (q := (0, 12)) (fun _ => rfl) s (by omega)
  have z := PS_so hX.1
  have bt := hX.1.2.1
  have bt2 := hX.1.2.2.1
  have h11 : (I 107 11).toInt = t := hX.1.2.2.2.2.1
  have tc : t ≤ c := hX.1.2.2.2.2.2.1
  have t5 : t ≤ 500 := by omega
  have hSY : SY K (501 - t) t 0 g = R0 := hX.1.2.2.2.2.2.2.1
  have hs := SY_s t5 hSY
  have kr := hT.2.1 t
  have e110 := (hX.1.1.1 t tc t5).1
  obtain ⟨e, hE, -⟩ := PX_e hX
  -- the word is none that begins a tell
  have no : fw 0 (K t) = -1 → sm_wp sm_P S (d + 6) 123 0 [.ref 107, .int (1 : Int32)] [] (xLay, I, L, (kM R)) (0, 0) (fun z => ∃ (I65 : sm_I) (L66 : sm_L) (R67 : sm_R), z = (none, (xLay, I65, L66, (kM R67))) ∧ sm_wp sm_P S (d + 7) 195 30 [] [] (xLay, I65, L66, (kM R67)) (0, 0) Φ) := fun q => by
    refine x_fail (by decide) hX.1 hE (fun t' s' g' em => ?_) (fun J f _ p _ => ⟨J, L, R, rfl, u_X12_tell_30 (h J L ⟨none, none, PX_F p, Or.inl rfl⟩)⟩)
    obtain ⟨rfl, rfl, rfl⟩ := mo_i em
    have ef : gf 0 (K t) t g = 1 := by unfold gf; rw [if_pos (Or.inl q)]
    rw [ef, if_neg (by decide)] at hs
    exact hs.symm
  -- there are as many as there may be
  have full : ∀ k : Int32, K t = k → fw 0 k ≠ -1 → ¬ (k = 9 ∨ k = 13) → k.toInt < 15 → (sm_room.getD (gw k) 0).toInt < (g.tells (gw k) : Int) + 1 → ∀ t' s' g', (some (t, (0 : Int32), g) : mo) = some (t', s', g') → R0 = some (2, t') := fun k ek kf k9 k15 fu t' s' g' em => by
    obtain ⟨rfl, rfl, rfl⟩ := mo_i em
    have ef : gf 0 (K t) t g = 2 := by
      unfold gf
      rw [if_neg (by rw [ek]; exact fun y => y.elim (fun w => kf w) (fun w => k9 w.1)), if_neg n21]
      by_cases c5 : 500 ≤ t
      · rw [if_pos c5]
      · rw [if_neg c5, if_neg]
        rw [ek]
        unfold gc_ok
        rw [if_pos ⟨rfl, k15⟩]
        intro y
        have y := of_decide_eq_true y
        omega
    rw [ef, if_neg (by decide)] at hs
    exact hs.symm
  obtain ⟨G1, G2, G3, G4, G5, G6, G7⟩ := hG
  have kk : ∀ i, i < 22 → (kd_m.getD (K t).toNatClampNeg 0 = kd_m.getD i 0 ↔ K t = Int32.ofNat i) := fun i hi => kd_is kr.1 kr.2 hi
  have val : ∀ (n1 x : Int32), n1 = kd_m.getD (K t).toNatClampNeg 0 → n1.toInt = x.toInt → kd_m.getD (K t).toNatClampNeg 0 = x := fun n1 x en ex => by rw [← en]; exact en_ofI ex
  refine u_X12_tell_0 ⟨kl_in bt (by omega), fun n1 en => ?_⟩
  rw [tk_nat h11, e110] at en
  have dead : (∀ i, i < 22 → (i = 0 ∨ i = 1 ∨ i = 2 ∨ i = 3 ∨ i = 6 ∨ i = 8 ∨ i = 10 ∨ i = 12) → ¬ n1.toInt = (kd_m.getD i 0).toInt) → fw 0 (K t) = -1 := fun q => by
    obtain ⟨i, i1, i2⟩ := k_lt22 kr.1 kr.2
    rcases fw0_no i i1 with y | y
    · rw [i2]; exact y
    · exfalso
      have eq : n1 = kd_m.getD i 0 := by rw [en]; exact (kk i i1).mpr i2
      by_cases y21 : i = 21
      · rw [y21] at i2; exact n21 i2
      · exact q i i1 (by omega) (by rw [eq])
  rw [sn]
  have tl20 : n1.toInt = 20 → (vp_in (I 107 19) 2) ∧ (((I 118 s) = (4 : Int32) → sm_wp sm_P S (d + 6) 123 0 [.ref 107, .int (2 : Int32)] [] (xLay, I, L, (kM R)) (0, 0) (fun z => ∃ (I92 : sm_I) (L93 : sm_L) (R94 : sm_R), z = (none, (xLay, I92, L93, (kM R94))) ∧ sm_wp sm_P S (d + 7) 195 3 [.ref 107] [] (xLay, I92, L93, (kM R94)) (0, 0) Φ)) ∧ (¬ (I 118 s) = (4 : Int32) → sm_wp sm_P S (d + 7) 195 3 [.ref 107] [] (xLay, I, L, (kM R)) (0, 0) Φ)) := fun q => by
    have ek : K t = 0 := (kk 0 (by decide)).mp (val n1 20 en q)
    refine ⟨sv, fun fu => ?_, fun nf => ?_⟩
    · refine x_fail (by decide) hX.1 hE (full 0 ek (by decide +kernel) (by decide) (by decide) ?_) (fun J f _ p _ => ⟨J, L, R, rfl, u_X12_tell_3 ⟨fun y => absurd y (PS_no p), fun _ => u_X12_tell_30 (h J L ⟨none, none, PX_F p, Or.inl rfl⟩)⟩⟩)
      have y := congrArg Int32.toInt fu
      rw [show (4 : Int32).toInt = 4 from by decide] at y
      rw [show gw 0 = 0 from by decide, show (sm_room.getD 0 0).toInt = 4 from by decide]
      omega
    · have nf' : (I 118 s).toInt ≠ 4 := fun y => nf (en_ofI (by rw [y]; decide))
      exact u_X12_tell_3 ⟨fun _ => x_tellName0 (d := d + 2) hT hls hm hI hX ⟨G1, G2, G3, G4, G5, G6, G7⟩ hR ek (by omega) (fun J L' tp => ⟨J, L', R, rfl, u_X12_tell_30 (h J L' tp)⟩), fun y => absurd z y⟩
  have tl21 : n1.toInt = 21 → (vp_in (I 107 19) 2) ∧ (((I 119 s) = (6 : Int32) → sm_wp sm_P S (d + 6) 123 0 [.ref 107, .int (2 : Int32)] [] (xLay, I, L, (kM R)) (0, 0) (fun z => ∃ (I92 : sm_I) (L93 : sm_L) (R94 : sm_R), z = (none, (xLay, I92, L93, (kM R94))) ∧ sm_wp sm_P S (d + 7) 195 7 [.ref 107] [] (xLay, I92, L93, (kM R94)) (0, 0) Φ)) ∧ (¬ (I 119 s) = (6 : Int32) → sm_wp sm_P S (d + 7) 195 7 [.ref 107] [] (xLay, I, L, (kM R)) (0, 0) Φ)) := fun q => by
    have ek : K t = 1 := (kk 1 (by decide)).mp (val n1 21 en q)
    refine ⟨sv, fun fu => ?_, fun nf => ?_⟩
    · refine x_fail (by decide) hX.1 hE (full 1 ek (by decide +kernel) (by decide) (by decide) ?_) (fun J f _ p _ => ⟨J, L, R, rfl, u_X12_tell_7 ⟨fun y => absurd y (PS_no p), fun _ => u_X12_tell_30 (h J L ⟨none, none, PX_F p, Or.inl rfl⟩)⟩⟩)
      have y := congrArg Int32.toInt fu
      rw [show (6 : Int32).toInt = 6 from by decide] at y
      rw [show gw 1 = 1 from by decide, show (sm_room.getD 1 0).toInt = 6 from by decide]
      omega
    · have nf' : (I 119 s).toInt ≠ 6 := fun y => nf (en_ofI (by rw [y]; decide))
      exact u_X12_tell_7 ⟨fun _ => x_tellName1 (d := d + 2) hT hls hm hI hX ⟨G1, G2, G3, G4, G5, G6, G7⟩ hR ek (by omega) (fun J L' tp => ⟨J, L', R, rfl, u_X12_tell_30 (h J L' tp)⟩), fun y => absurd z y⟩
  have tl22 : n1.toInt = 22 → (vp_in (I 107 19) 2) ∧ (((I 120 s) = (12 : Int32) → sm_wp sm_P S (d + 6) 123 0 [.ref 107, .int (2 : Int32)] [] (xLay, I, L, (kM R)) (0, 0) (fun z => ∃ (I92 : sm_I) (L93 : sm_L) (R94 : sm_R), z = (none, (xLay, I92, L93, (kM R94))) ∧ sm_wp sm_P S (d + 7) 195 11 [.ref 107] [] (xLay, I92, L93, (kM R94)) (0, 0) Φ)) ∧ (¬ (I 120 s) = (12 : Int32) → sm_wp sm_P S (d + 7) 195 11 [.ref 107] [] (xLay, I, L, (kM R)) (0, 0) Φ)) := fun q => by
    have ek : K t = 2 := (kk 2 (by decide)).mp (val n1 22 en q)
    refine ⟨sv, fun fu => ?_, fun nf => ?_⟩
    · refine x_fail (by decide) hX.1 hE (full 2 ek (by decide +kernel) (by decide) (by decide) ?_) (fun J f _ p _ => ⟨J, L, R, rfl, u_X12_tell_11 ⟨fun y => absurd y (PS_no p), fun _ => u_X12_tell_30 (h J L ⟨none, none, PX_F p, Or.inl rfl⟩)⟩⟩)
      have y := congrArg Int32.toInt fu
      rw [show (12 : Int32).toInt = 12 from by decide] at y
      rw [show gw 2 = 2 from by decide, show (sm_room.getD 2 0).toInt = 12 from by decide]
      omega
    · have nf' : (I 120 s).toInt ≠ 12 := fun y => nf (en_ofI (by rw [y]; decide))
      exact u_X12_tell_11 ⟨fun _ => x_tellWay (d := d + 2) hT hls hm hI hX ⟨G1, G2, G3, G4, G5, G6, G7⟩ hR ek (by omega) (fun J L' tp => ⟨J, L', R, rfl, u_X12_tell_30 (h J L' tp)⟩), fun y => absurd z y⟩
  have tl23 : n1.toInt = 23 → (vp_in (I 107 19) 2) ∧ (((I 122 s) = (10 : Int32) → sm_wp sm_P S (d + 6) 123 0 [.ref 107, .int (2 : Int32)] [] (xLay, I, L, (kM R)) (0, 0) (fun z => ∃ (I92 : sm_I) (L93 : sm_L) (R94 : sm_R), z = (none, (xLay, I92, L93, (kM R94))) ∧ sm_wp sm_P S (d + 7) 195 15 [.ref 107] [] (xLay, I92, L93, (kM R94)) (0, 0) Φ)) ∧ (¬ (I 122 s) = (10 : Int32) → sm_wp sm_P S (d + 7) 195 15 [.ref 107] [] (xLay, I, L, (kM R)) (0, 0) Φ)) := fun q => by
    have ek : K t = 3 := (kk 3 (by decide)).mp (val n1 23 en q)
    refine ⟨sv, fun fu => ?_, fun nf => ?_⟩
    · refine x_fail (by decide) hX.1 hE (full 3 ek (by decide +kernel) (by decide) (by decide) ?_) (fun J f _ p _ => ⟨J, L, R, rfl, u_X12_tell_15 ⟨fun y => absurd y (PS_no p), fun _ => u_X12_tell_30 (h J L ⟨none, none, PX_F p, Or.inl rfl⟩)⟩⟩)
      have y := congrArg Int32.toInt fu
      rw [show (10 : Int32).toInt = 10 from by decide] at y
      rw [show gw 3 = 3 from by decide, show (sm_room.getD 3 0).toInt = 10 from by decide]
      omega
    · have nf' : (I 122 s).toInt ≠ 10 := fun y => nf (en_ofI (by rw [y]; decide))
      exact u_X12_tell_15 ⟨fun _ => x_tellTime (d := d + 2) hT hls hm hI hX ⟨G1, G2, G3, G4, G5, G6, G7⟩ hR ek (by omega) (fun J L' tp => ⟨J, L', R, rfl, u_X12_tell_30 (h J L' tp)⟩), fun y => absurd z y⟩
  have tl26 : n1.toInt = 26 → (vp_in (I 107 19) 2) ∧ (((I 125 s) = (10 : Int32) → sm_wp sm_P S (d + 6) 123 0 [.ref 107, .int (2 : Int32)] [] (xLay, I, L, (kM R)) (0, 0) (fun z => ∃ (I92 : sm_I) (L93 : sm_L) (R94 : sm_R), z = (none, (xLay, I92, L93, (kM R94))) ∧ sm_wp sm_P S (d + 7) 195 19 [.ref 107] [] (xLay, I92, L93, (kM R94)) (0, 0) Φ)) ∧ (¬ (I 125 s) = (10 : Int32) → sm_wp sm_P S (d + 7) 195 19 [.ref 107] [] (xLay, I, L, (kM R)) (0, 0) Φ)) := fun q => by
    have ek : K t = 6 := (kk 6 (by decide)).mp (val n1 26 en q)
    refine ⟨sv, fun fu => ?_, fun nf => ?_⟩
    · refine x_fail (by decide) hX.1 hE (full 6 ek (by decide +kernel) (by decide) (by decide) ?_) (fun J f _ p _ => ⟨J, L, R, rfl, u_X12_tell_19 ⟨fun y => absurd y (PS_no p), fun _ => u_X12_tell_30 (h J L ⟨none, none, PX_F p, Or.inl rfl⟩)⟩⟩)
      have y := congrArg Int32.toInt fu
      rw [show (10 : Int32).toInt = 10 from by decide] at y
      rw [show gw 6 = 6 from by decide, show (sm_room.getD 6 0).toInt = 10 from by decide]
      omega
    · have nf' : (I 125 s).toInt ≠ 10 := fun y => nf (en_ofI (by rw [y]; decide))
      exact u_X12_tell_19 ⟨fun _ => x_tellSay (d := d + 0) hT hls hm hI hX ⟨G1, G2, G3, G4, G5, G6, G7⟩ hR ek (by omega) (fun J L' tp => ⟨J, L', R, rfl, u_X12_tell_30 (h J L' tp)⟩), fun y => absurd z y⟩
  have tl27 : n1.toInt = 27 → (vp_in (I 107 19) 2) ∧ (((I 125 s) = (10 : Int32) → sm_wp sm_P S (d + 6) 123 0 [.ref 107, .int (2 : Int32)] [] (xLay, I, L, (kM R)) (0, 0) (fun z => ∃ (I92 : sm_I) (L93 : sm_L) (R94 : sm_R), z = (none, (xLay, I92, L93, (kM R94))) ∧ sm_wp sm_P S (d + 7) 195 19 [.ref 107] [] (xLay, I92, L93, (kM R94)) (0, 0) Φ)) ∧ (¬ (I 125 s) = (10 : Int32) → sm_wp sm_P S (d + 7) 195 19 [.ref 107] [] (xLay, I, L, (kM R)) (0, 0) Φ)) := fun q => by
    have ek : K t = 8 := (kk 8 (by decide)).mp (val n1 27 en q)
    refine ⟨sv, fun fu => ?_, fun nf => ?_⟩
    · refine x_fail (by decide) hX.1 hE (full 8 ek (by decide +kernel) (by decide) (by decide) ?_) (fun J f _ p _ => ⟨J, L, R, rfl, u_X12_tell_19 ⟨fun y => absurd y (PS_no p), fun _ => u_X12_tell_30 (h J L ⟨none, none, PX_F p, Or.inl rfl⟩)⟩⟩)
      have y := congrArg Int32.toInt fu
      rw [show (10 : Int32).toInt = 10 from by decide] at y
      rw [show gw 8 = 6 from by decide, show (sm_room.getD 6 0).toInt = 10 from by decide]
      omega
    · have nf' : (I 125 s).toInt ≠ 10 := fun y => nf (en_ofI (by rw [y]; decide))
      exact u_X12_tell_19 ⟨fun _ => x_tellSure (d := d + 0) hT hls hm hI hX ⟨G1, G2, G3, G4, G5, G6, G7⟩ hR ek (by omega) (fun J L' tp => ⟨J, L', R, rfl, u_X12_tell_30 (h J L' tp)⟩), fun y => absurd z y⟩
  have tl32 : n1.toInt = 32 → (vp_in (I 107 19) 2) ∧ (((I 134 s) = (4 : Int32) → sm_wp sm_P S (d + 6) 123 0 [.ref 107, .int (2 : Int32)] [] (xLay, I, L, (kM R)) (0, 0) (fun z => ∃ (I92 : sm_I) (L93 : sm_L) (R94 : sm_R), z = (none, (xLay, I92, L93, (kM R94))) ∧ sm_wp sm_P S (d + 7) 195 23 [.ref 107] [] (xLay, I92, L93, (kM R94)) (0, 0) Φ)) ∧ (¬ (I 134 s) = (4 : Int32) → sm_wp sm_P S (d + 7) 195 23 [.ref 107] [] (xLay, I, L, (kM R)) (0, 0) Φ)) := fun q => by
    have ek : K t = 10 := (kk 10 (by decide)).mp (val n1 32 en q)
    refine ⟨sv, fun fu => ?_, fun nf => ?_⟩
    · refine x_fail (by decide) hX.1 hE (full 10 ek (by decide +kernel) (by decide) (by decide) ?_) (fun J f _ p _ => ⟨J, L, R, rfl, u_X12_tell_23 ⟨fun y => absurd y (PS_no p), fun _ => u_X12_tell_30 (h J L ⟨none, none, PX_F p, Or.inl rfl⟩)⟩⟩)
      have y := congrArg Int32.toInt fu
      rw [show (4 : Int32).toInt = 4 from by decide] at y
      rw [show gw 10 = 10 from by decide, show (sm_room.getD 10 0).toInt = 4 from by decide]
      omega
    · have nf' : (I 134 s).toInt ≠ 4 := fun y => nf (en_ofI (by rw [y]; decide))
      exact u_X12_tell_23 ⟨fun _ => x_tellOpen (d := d + 2) hT hls hm hI hX ⟨G1, G2, G3, G4, G5, G6, G7⟩ hR ek (by omega) (fun J L' tp => ⟨J, L', R, rfl, u_X12_tell_30 (h J L' tp)⟩), fun y => absurd z y⟩
  have tl33 : n1.toInt = 33 → (vp_in (I 107 19) 2) ∧ (((I 136 s) = (5 : Int32) → sm_wp sm_P S (d + 6) 123 0 [.ref 107, .int (2 : Int32)] [] (xLay, I, L, (kM R)) (0, 0) (fun z => ∃ (I92 : sm_I) (L93 : sm_L) (R94 : sm_R), z = (none, (xLay, I92, L93, (kM R94))) ∧ sm_wp sm_P S (d + 7) 195 27 [.ref 107] [] (xLay, I92, L93, (kM R94)) (0, 0) Φ)) ∧ (¬ (I 136 s) = (5 : Int32) → sm_wp sm_P S (d + 7) 195 27 [.ref 107] [] (xLay, I, L, (kM R)) (0, 0) Φ)) := fun q => by
    have ek : K t = 12 := (kk 12 (by decide)).mp (val n1 33 en q)
    refine ⟨sv, fun fu => ?_, fun nf => ?_⟩
    · refine x_fail (by decide) hX.1 hE (full 12 ek (by decide +kernel) (by decide) (by decide) ?_) (fun J f _ p _ => ⟨J, L, R, rfl, u_X12_tell_27 ⟨fun y => absurd y (PS_no p), fun _ => u_X12_tell_30 (h J L ⟨none, none, PX_F p, Or.inl rfl⟩)⟩⟩)
      have y := congrArg Int32.toInt fu
      rw [show (5 : Int32).toInt = 5 from by decide] at y
      rw [show gw 12 = 12 from by decide, show (sm_room.getD 12 0).toInt = 5 from by decide]
      omega
    · have nf' : (I 136 s).toInt ≠ 5 := fun y => nf (en_ofI (by rw [y]; decide))
      exact u_X12_tell_27 ⟨fun _ => x_tellQuestion (d := d + 1) hT hls hm hI hX ⟨G1, G2, G3, G4, G5, G6, G7⟩ hR ek (by omega) (fun J L' tp => ⟨J, L', R, rfl, u_X12_tell_30 (h J L' tp)⟩), fun y => absurd z y⟩
  exact ⟨fun q20 => tl20 q20, fun q20 => ⟨fun q21 => tl21 q21, fun q21 => ⟨fun q22 => tl22 q22, fun q22 => ⟨fun q23 => tl23 q23, fun q23 => ⟨fun q24 => no (dead (fun i _ hi => by rw [q24]; rcases hi with rfl | rfl | rfl | rfl | rfl | rfl | rfl | rfl <;> decide)), fun q24 => ⟨fun q25 => no (dead (fun i _ hi => by rw [q25]; rcases hi with rfl | rfl | rfl | rfl | rfl | rfl | rfl | rfl <;> decide)), fun q25 => ⟨fun q26 => tl26 q26, fun q26 => ⟨fun q27 => tl27 q27, fun q27 => ⟨fun q28 => no (dead (fun i _ hi => by rw [q28]; rcases hi with rfl | rfl | rfl | rfl | rfl | rfl | rfl | rfl <;> decide)), fun q28 => ⟨fun q29 => no (dead (fun i _ hi => by rw [q29]; rcases hi with rfl | rfl | rfl | rfl | rfl | rfl | rfl | rfl <;> decide)), fun q29 => ⟨fun q30 => no (dead (fun i _ hi => by rw [q30]; rcases hi with rfl | rfl | rfl | rfl | rfl | rfl | rfl | rfl <;> decide)), fun q30 => ⟨fun q31 => no (dead (fun i _ hi => by rw [q31]; rcases hi with rfl | rfl | rfl | rfl | rfl | rfl | rfl | rfl <;> decide)), fun q31 => ⟨fun q32 => tl32 q32, fun q32 => ⟨fun q33 => tl33 q33, fun q33 => no (dead (fun i _ hi => by rcases hi with rfl | rfl | rfl | rfl | rfl | rfl | rfl | rfl <;> first | exact q20 | exact q21 | exact q22 | exact q23 | exact q26 | exact q27 | exact q32 | exact q33))⟩⟩⟩⟩⟩⟩⟩⟩⟩⟩⟩⟩⟩⟩
end
end
section
/-! WALKS: the pure table -/
def Fn (k : Nat) (N : Nat → Int) (i : Nat) : Int := if N (6 * (i / 6) + k) < 0 then N i else if N (6 * k + i % 6) < 0 then N i else if N i < 0 then N (6 * (i / 6) + k) + N (6 * k + i % 6) else if N (6 * (i / 6) + k) + N (6 * k + i % 6) < N i then N (6 * (i / 6) + k) + N (6 * k + i % 6) else N i
def Ft : Nat → (Nat → Int) → Nat → Int
  | 0, N => N
  | k + 1, N => Fn k (Ft k N)
/-- a table of ways: none is -1, a PLACE and itself 0 -/
def WB (B : Int) (N : Nat → Int) : Prop := (∀ i, i < 36 → -1 ≤ N i ∧ N i ≤ B) ∧ ∀ r, r < 6 → N (7 * r) = 0
theorem Fn_row {k r : Nat} {B : Int} {N : Nat → Int} (hk : k < 6) (h : WB B N) : Fn k N (6 * r + k) = N (6 * r + k) := by
  unfold Fn
  have e1 : (6 * r + k) / 6 = r := by omega
  have e2 : (6 * r + k) % 6 = k := by omega
  have e3 : N (6 * k + k) = 0 := by rw [show 6 * k + k = 7 * k by omega]; exact h.2 k hk
  rw [e1, e2, e3]
  repeat' split
  all_goals first
    | rfl
    | omega
theorem Fn_col {k c : Nat} {B : Int} {N : Nat → Int} (hk : k < 6) (hc : c < 6) (h : WB B N) : Fn k N (6 * k + c) = N (6 * k + c) := by
  unfold Fn
  have e1 : (6 * k + c) / 6 = k := by omega
  have e2 : (6 * k + c) % 6 = c := by omega
  have e3 : N (6 * k + k) = 0 := by rw [show 6 * k + k = 7 * k by omega]; exact h.2 k hk
  rw [e1, e2, e3]
  repeat' split
  all_goals first
    | rfl
    | omega
theorem WB_Fn {k : Nat} {B : Int} {N : Nat → Int} (hk : k < 6) (h : WB B N) (hB : 0 ≤ B) : WB (2 * B) (Fn k N) := by
  refine ⟨fun i hi => ?_, fun r hr => ?_⟩
  · have a := h.1 (6 * (i / 6) + k) (by omega)
    have b := h.1 (6 * k + i % 6) (by omega)
    have c := h.1 i hi
    unfold Fn
    split
    · omega
    · split
      · omega
      · split
        · omega
        · split
          · omega
          · omega
  · have a := h.1 (6 * (7 * r / 6) + k) (by omega)
    have b := h.1 (6 * k + 7 * r % 6) (by omega)
    have c := h.2 r hr
    unfold Fn
    rw [c]
    split
    · rfl
    · split
      · rfl
      · split
        · omega
        · split
          · omega
          · rfl
theorem WB_up {B C : Int} {N : Nat → Int} (h : WB B N) (hBC : B ≤ C) : WB C N := ⟨fun i hi => ⟨(h.1 i hi).1, Int.le_trans (h.1 i hi).2 hBC⟩, h.2⟩
theorem WB_Ft {N : Nat → Int} (h : WB 1440 N) : ∀ k, k ≤ 6 → WB (1440 * 2 ^ k) (Ft k N) := by
  intro k
  induction k with
  | zero => intro _; exact WB_up h (by decide)
  | succ k ih =>
    intro hk
    have g := WB_Fn (k := k) (by omega) (ih (by omega)) (Int.mul_nonneg (by decide) (Int.pow_nonneg (by decide)))
    refine WB_up g ?_
    rw [Int.pow_succ, Int.mul_comm (2 ^ k) 2, ← Int.mul_assoc, ← Int.mul_assoc, Int.mul_comm 2 1440]
    exact Int.le_refl _
theorem WB_F6 {N : Nat → Int} (h : WB 1440 N) (k : Nat) (hk : k ≤ 6) : WB 100000 (Ft k N) := WB_up (WB_Ft h k hk) (by
  rcases (by omega : k = 0 ∨ k = 1 ∨ k = 2 ∨ k = 3 ∨ k = 4 ∨ k = 5 ∨ k = 6) with e | e | e | e | e | e | e <;> subst e <;> decide)
/-- nothing leads from or to what is no PLACE -/
def WS (p : Nat) (N : Nat → Int) : Prop := (∀ a b, a < 6 → b < 6 → N (6 * a + b) = N (6 * b + a)) ∧ ∀ a b, a < 6 → b < 6 → a ≠ b → p ≤ a → N (6 * a + b) = -1
theorem WS_Fn {k p : Nat} {B : Int} {N : Nat → Int} (hk : k < 6) (h : WB B N) (g : WS p N) : WS p (Fn k N) := by
  have sym : ∀ a b, a < 6 → b < 6 → Fn k N (6 * a + b) = Fn k N (6 * b + a) := fun a b ha hb => by
    have e1 : (6 * a + b) / 6 = a := by omega
    have e2 : (6 * a + b) % 6 = b := by omega
    have e3 : (6 * b + a) / 6 = b := by omega
    have e4 : (6 * b + a) % 6 = a := by omega
    unfold Fn
    rw [e1, e2, e3, e4, g.1 a b ha hb, g.1 a k ha hk, g.1 k b hk hb, Int.add_comm (N (6 * k + a))]
    split <;> split <;> rfl
  refine ⟨sym, fun a b ha hb ab pa => ?_⟩
  have e1 : (6 * a + b) / 6 = a := by omega
  have e2 : (6 * a + b) % 6 = b := by omega
  by_cases c : a = k
  · rw [c, Fn_col (B := B) hk hb h, ← c]; exact g.2 a b ha hb ab pa
  · unfold Fn
    rw [e1, e2, g.2 a k ha hk c pa, if_pos (by decide)]
    exact g.2 a b ha hb ab pa
theorem Fn_out {k p : Nat} {B : Int} {N : Nat → Int} (hk : k < 6) (pk : p ≤ k) (h : WB B N) (g : WS p N) : ∀ i, i < 36 → Fn k N i = N i := fun i hi => by
  obtain ⟨a, b, ha, hb, e⟩ : ∃ a b, a < 6 ∧ b < 6 ∧ i = 6 * a + b := ⟨i / 6, i % 6, by omega, by omega, by omega⟩
  subst e
  have e1 : (6 * a + b) / 6 = a := by omega
  have e2 : (6 * a + b) % 6 = b := by omega
  by_cases c : a = k
  · rw [c]; exact Fn_col hk hb h
  · unfold Fn
    rw [e1, e2, g.1 a k ha hk, g.2 k a hk ha (fun q => c q.symm) pk, if_pos (by decide)]
theorem Fn_cg {k : Nat} {N N' : Nat → Int} (hk : k < 6) (h : ∀ i, i < 36 → N i = N' i) : ∀ i, i < 36 → Fn k N i = Fn k N' i := fun i hi => by
  unfold Fn
  rw [h i hi, h (6 * (i / 6) + k) (by omega), h (6 * k + i % 6) (by omega)]
theorem WS_Ft {p : Nat} {N : Nat → Int} (h : WB 1440 N) (g : WS p N) : ∀ k, k ≤ 6 → WS p (Ft k N) := by
  intro k
  induction k with
  | zero => intro _; exact g
  | succ k ih => intro hk; exact WS_Fn (by omega) (WB_F6 h k (by omega)) (ih (by omega))
/-- going on behind the last PLACE changes nothing -/
theorem Ft_out {p : Nat} {N : Nat → Int} (h : WB 1440 N) (g : WS p N) : ∀ m k, p ≤ k → k + m ≤ 6 → ∀ i, i < 36 → Ft (k + m) N i = Ft k N i := by
  intro m
  induction m with
  | zero => intro k _ _ i _; rfl
  | succ m ih =>
    intro k pk km i hi
    show Fn (k + m) (Ft (k + m) N) i = Ft k N i
    rw [Fn_out (k := k + m) (p := p) (by omega) (by omega) (WB_F6 h (k + m) (by omega)) (WS_Ft h g (k + m) (by omega)) i hi]
    exact ih k pk (by omega) i hi
def nv (x : Int32) : Int := if x.toInt < 0 then -1 else x.toInt
/-- ways -/
def wt (a : sg) : Prop := (∀ x y, x < 6 → y < 6 → a.1 13 (6 * x + y) = a.1 13 (6 * y + x)) ∧ (∀ x, x < 6 → a.1 13 (7 * x) = 0) ∧ (∀ x y : Nat, x < 6 → y < 6 → x ≠ y → (a.1 12 1).toInt ≤ x → a.1 13 (6 * x + y) = -2) ∧ ∀ i, i < 36 → a.1 13 i = -2 ∨ (0 ≤ (a.1 13 i).toInt ∧ (a.1 13 i).toInt ≤ 1440)
end
section
/-! conditions of the reference: walks, walk, move, breaks, pick (wip/pe/symd.py) -/
theorem p_X12_walks_0 {S : sm_C} {d : Nat} {Φ : sm_Z → Prop} {I : sm_I} {L : sm_L} {R : sm_R} (h : sm_wp sm_P S d 210 1 [.ref 107, .int (0 : Int32)] [] (xLay, I, L, (kM R)) (0, 0) Φ) : sm_wp sm_P S d 210 0 [.ref 107] [] (xLay, I, L, (kM R)) (0, 0) Φ := sm_wp_step (h)
theorem p_X12_walks_1 {S : sm_C} {d : Nat} {Φ : sm_Z → Prop} {I : sm_I} {L : sm_L} {R : sm_R} {x1 : Int32} (h : (((36 : Int32) ≤ x1 → sm_wp sm_P S d 210 4 [.ref 107, .int (0 : Int32)] [] (xLay, I, L, (kM R)) (0, 0) Φ) ∧ (¬ (36 : Int32) ≤ x1 → ∀ n1 : Int32, n1 = (((36 : Int32) * (I 107 18)) + x1) → (vp_in n1 72) ∧ (vp_in x1 36) ∧ ∀ I2 : sm_I, I2 = (sm_up I 139 x1.toNatClampNeg (I 121 n1.toNatClampNeg)) → sm_wp sm_P S d 210 1 [.ref 107, .int (x1 + (1 : Int32))] [] (xLay, I2, L, (kM R)) (0, 0) Φ))) : sm_wp sm_P S d 210 1 [.ref 107, .int x1] [] (xLay, I, L, (kM R)) (0, 0) Φ := sm_wp_step (⟨fun q3 => ((h).1 q3), fun q3 => ⟨((((h).2 q3) _ rfl)).1, ⟨(((((h).2 q3) _ rfl)).2).1, ((((((h).2 q3) _ rfl)).2).2 _ rfl)⟩⟩⟩)
theorem p_X12_walks_4 {S : sm_C} {d : Nat} {Φ : sm_Z → Prop} {I : sm_I} {L : sm_L} {R : sm_R} {x1 : Int32} (h : (((6 : Int32) ≤ x1 → Φ (none, (xLay, I, L, (kM R)))) ∧ (¬ (6 : Int32) ≤ x1 → sm_wp sm_P S d 210 6 [.ref 107, .int x1, .int (0 : Int32)] [] (xLay, I, L, (kM R)) (0, 0) Φ))) : sm_wp sm_P S d 210 4 [.ref 107, .int x1] [] (xLay, I, L, (kM R)) (0, 0) Φ := sm_wp_step (⟨fun q1 => ((h).1 q1), fun q1 => ((h).2 q1)⟩)
theorem p_X12_walks_6 {S : sm_C} {d : Nat} {Φ : sm_Z → Prop} {I : sm_I} {L : sm_L} {R : sm_R} {x1 : Int32} {x2 : Int32} (h : (((36 : Int32) ≤ x2 → sm_wp sm_P S d 210 4 [.ref 107, .int (x1 + (1 : Int32))] [] (xLay, I, L, (kM R)) (0, 0) Φ) ∧ (¬ (36 : Int32) ≤ x2 → (¬ (6 : Int32) = 0) ∧ ∀ n1 : Int32, n1 = (((6 : Int32) * (x2 / (6 : Int32))) + x1) → (vp_in n1 36) ∧ (¬ (6 : Int32) = 0) ∧ ∀ n2 : Int32, n2 = (((6 : Int32) * x1) + (x2 - x2 / (6 : Int32) * (6 : Int32))) → (vp_in n2 36) ∧ (((I 139 n1.toNatClampNeg) = (-1 : Int32) → sm_wp sm_P S d 210 6 [.ref 107, .int x1, .int (x2 + (1 : Int32))] [] (xLay, I, L, (kM R)) (0, 0) Φ) ∧ (¬ (I 139 n1.toNatClampNeg) = (-1 : Int32) → (((I 139 n2.toNatClampNeg) = (-1 : Int32) → sm_wp sm_P S d 210 6 [.ref 107, .int x1, .int (x2 + (1 : Int32))] [] (xLay, I, L, (kM R)) (0, 0) Φ) ∧ (¬ (I 139 n2.toNatClampNeg) = (-1 : Int32) → (vp_in x2 36) ∧ (((I 139 x2.toNatClampNeg) = (-1 : Int32) → ∀ n3 : Int32, n3 = ((I 139 n1.toNatClampNeg) + (I 139 n2.toNatClampNeg)) → (vp_in x2 36) ∧ ∀ I4 : sm_I, I4 = (sm_up I 139 x2.toNatClampNeg n3) → sm_wp sm_P S d 210 6 [.ref 107, .int x1, .int (x2 + (1 : Int32))] [] (xLay, I4, L, (kM R)) (0, 0) Φ) ∧ (¬ (I 139 x2.toNatClampNeg) = (-1 : Int32) → (vp_in x2 36) ∧ (((I 139 x2.toNatClampNeg) ≤ ((I 139 n1.toNatClampNeg) + (I 139 n2.toNatClampNeg)) → sm_wp sm_P S d 210 6 [.ref 107, .int x1, .int (x2 + (1 : Int32))] [] (xLay, I, L, (kM R)) (0, 0) Φ) ∧ (¬ (I 139 x2.toNatClampNeg) ≤ ((I 139 n1.toNatClampNeg) + (I 139 n2.toNatClampNeg)) → ∀ n5 : Int32, n5 = ((I 139 n1.toNatClampNeg) + (I 139 n2.toNatClampNeg)) → (vp_in x2 36) ∧ ∀ I6 : sm_I, I6 = (sm_up I 139 x2.toNatClampNeg n5) → sm_wp sm_P S d 210 6 [.ref 107, .int x1, .int (x2 + (1 : Int32))] [] (xLay, I6, L, (kM R)) (0, 0) Φ))))))))))) : sm_wp sm_P S d 210 6 [.ref 107, .int x1, .int x2] [] (xLay, I, L, (kM R)) (0, 0) Φ := sm_wp_step (⟨fun q11 => ((h).1 q11), fun q11 => ⟨(((h).2 q11)).1, ⟨(((((h).2 q11)).2 _ rfl)).1, ⟨((((((h).2 q11)).2 _ rfl)).2).1, ⟨((((((((h).2 q11)).2 _ rfl)).2).2 _ rfl)).1, ⟨fun q10 => ((((((((((h).2 q11)).2 _ rfl)).2).2 _ rfl)).2).1 q10), fun q10 => ⟨fun q9 => ((((((((((((h).2 q11)).2 _ rfl)).2).2 _ rfl)).2).2 q10)).1 q9), fun q9 => ⟨(((((((((((((h).2 q11)).2 _ rfl)).2).2 _ rfl)).2).2 q10)).2 q9)).1, ⟨fun q8 => ⟨(((((((((((((((((h).2 q11)).2 _ rfl)).2).2 _ rfl)).2).2 q10)).2 q9)).2).1 q8) _ rfl)).1, ((((((((((((((((((h).2 q11)).2 _ rfl)).2).2 _ rfl)).2).2 q10)).2 q9)).2).1 q8) _ rfl)).2 _ rfl)⟩, fun q8 => ⟨((((((((((((((((h).2 q11)).2 _ rfl)).2).2 _ rfl)).2).2 q10)).2 q9)).2).2 q8)).1, ⟨fun q7 => ((((((((((((((((((h).2 q11)).2 _ rfl)).2).2 _ rfl)).2).2 q10)).2 q9)).2).2 q8)).2).1 q7), fun q7 => ⟨((((((((((((((((((((h).2 q11)).2 _ rfl)).2).2 _ rfl)).2).2 q10)).2 q9)).2).2 q8)).2).2 q7) _ rfl)).1, (((((((((((((((((((((h).2 q11)).2 _ rfl)).2).2 _ rfl)).2).2 q10)).2 q9)).2).2 q8)).2).2 q7) _ rfl)).2 _ rfl)⟩⟩⟩⟩⟩⟩⟩⟩⟩⟩⟩⟩)
theorem p_X12_pick_0 {S : sm_C} {d : Nat} {Φ : sm_Z → Prop} {I : sm_I} {L : sm_L} {R : sm_R} {x1 : Int32} {x2 : Int32} (h : sm_wp sm_P S d 151 0 [.ref 107, .int x1] [] (xLay, I, L, (kM R)) (0, 0) (fun z => ∃ (r3 : Int32) (I1 : sm_I) (L2 : sm_L), z = (some (.int r3), (xLay, I1, L2, (kM R))) ∧ ((r3 = (-1 : Int32) → Φ (some (.int (0 : Int32)), (xLay, I1, L2, (kM R)))) ∧ (¬ r3 = (-1 : Int32) → ((x2 = (-1 : Int32) → (vp_in r3 60) ∧ ∀ I4 : sm_I, I4 = (sm_up I1 160 r3.toNatClampNeg x2) → Φ (some (.int (1 : Int32)), (xLay, I4, L2, (kM R)))) ∧ (¬ x2 = (-1 : Int32) → sm_wp sm_P S d 114 0 [.ref 107, .int r3] [] (xLay, I1, L2, (kM R)) (0, 0) (fun z => ∃ (r7 : Int32) (I5 : sm_I) (L6 : sm_L), z = (some (.int r7), (xLay, I5, L6, (kM R))) ∧ sm_wp sm_P S d 141 0 [.int x2, .int (0 : Int32), .int (r7 - (1 : Int32))] [] (xLay, I5, L6, (kM R)) (0, 0) (fun z => ∃ (r10 : Int32) (I8 : sm_I) (L9 : sm_L), z = (some (.int r10), (xLay, I8, L9, (kM R))) ∧ ((r10 = 0 → Φ (some (.int (0 : Int32)), (xLay, I8, L9, (kM R)))) ∧ (¬ r10 = 0 → (vp_in r3 60) ∧ ∀ I11 : sm_I, I11 = (sm_up I8 160 r3.toNatClampNeg x2) → Φ (some (.int (1 : Int32)), (xLay, I11, L9, (kM R))))))))))))) : sm_wp sm_P S (d + 1) 172 0 [.ref 107, .int x1, .int x2] [] (xLay, I, L, (kM R)) (0, 0) Φ := sm_wp_step (sm_ci0 (h) (fun r3 I1 L2 q17 => ⟨fun q16 => ⟨Or.inl rfl, ((q17).1 q16)⟩, fun q16 => ⟨fun q15 => ⟨(((((q17).2 q16)).1 q15)).1, ⟨Or.inr rfl, ((((((q17).2 q16)).1 q15)).2 _ rfl)⟩⟩, fun q15 => sm_ci0 (((((q17).2 q16)).2 q15)) (fun r7 I5 L6 q14 => sm_ci0 (q14) (fun r10 I8 L9 q13 => ⟨fun q12 => ⟨Or.inl rfl, ((q13).1 q12)⟩, fun q12 => ⟨(((q13).2 q12)).1, ⟨Or.inr rfl, ((((q13).2 q12)).2 _ rfl)⟩⟩⟩))⟩⟩))
theorem p_X12_itemAt_0 {S : sm_C} {d : Nat} {Φ : sm_Z → Prop} {I : sm_I} {L : sm_L} {R : sm_R} {x1 : Int32} (h : sm_wp sm_P S d 149 0 [.ref 107, .int x1] [] (xLay, I, L, (kM R)) (0, 0) (fun z => ∃ (r3 : Int32) (I1 : sm_I) (L2 : sm_L), z = (some (.int r3), (xLay, I1, L2, (kM R))) ∧ ((r3 = 0 → sm_wp sm_P S d 141 0 [.int (x1 - (100 : Int32)), .int (0 : Int32), .int ((I1 107 46) - (1 : Int32))] [] (xLay, I1, L2, (kM R)) (0, 0) (fun z => ∃ (r6 : Int32) (I4 : sm_I) (L5 : sm_L), z = (some (.int r6), (xLay, I4, L5, (kM R))) ∧ ((r6 = 0 → Φ (some (.int (-1 : Int32)), (xLay, I4, L5, (kM R)))) ∧ (¬ r6 = 0 → Φ (some (.int (x1 - (90 : Int32))), (xLay, I4, L5, (kM R))))))) ∧ (¬ r3 = 0 → (vp_in x1 10) ∧ (((I1 137 x1.toNatClampNeg) = 0 → Φ (some (.int x1), (xLay, I1, L2, (kM R)))) ∧ (¬ (I1 137 x1.toNatClampNeg) = 0 → Φ (some (.int (-1 : Int32)), (xLay, I1, L2, (kM R))))))))) : sm_wp sm_P S (d + 1) 151 0 [.ref 107, .int x1] [] (xLay, I, L, (kM R)) (0, 0) Φ := sm_wp_step (sm_ci0 (h) (fun r3 I1 L2 q11 => ⟨fun q10 => sm_ci0 (((q11).1 q10)) (fun r6 I4 L5 q8 => ⟨fun q7 => ((q8).1 q7), fun q7 => ((q8).2 q7)⟩), fun q10 => ⟨(((q11).2 q10)).1, ⟨fun q9 => (((((q11).2 q10)).2).1 q9), fun q9 => (((((q11).2 q10)).2).2 q9)⟩⟩⟩))
theorem p_X12_choices_0 {S : sm_C} {d : Nat} {Φ : sm_Z → Prop} {I : sm_I} {L : sm_L} {R : sm_R} {x1 : Int32} (h : (((10 : Int32) ≤ x1 → (((60 : Int32) ≤ x1 → (vp_in (x1 - (60 : Int32)) 10) ∧ ∀ n1 : Int32, n1 = (I 152 (x1 - (60 : Int32)).toNatClampNeg) → ((n1 = (-1 : Int32) → Φ (some (.int (0 : Int32)), (xLay, I, L, (kM R)))) ∧ (¬ n1 = (-1 : Int32) → Φ (some (.int (2 : Int32)), (xLay, I, L, (kM R)))))) ∧ (¬ (60 : Int32) ≤ x1 → (vp_in (x1 - (10 : Int32)) 45) ∧ ∀ n3 : Int32, n3 = (I 142 (x1 - (10 : Int32)).toNatClampNeg) → ((n3 = (-1 : Int32) → Φ (some (.int (0 : Int32)), (xLay, I, L, (kM R)))) ∧ (¬ n3 = (-1 : Int32) → Φ (some (.int (2 : Int32)), (xLay, I, L, (kM R)))))))) ∧ (¬ (10 : Int32) ≤ x1 → ∀ n6 : Int32, n6 = (((10 : Int32) * (I 107 18)) + x1) → (vp_in n6 20) ∧ Φ (some (.int (I 128 n6.toNatClampNeg)), (xLay, I, L, (kM R)))))) : sm_wp sm_P S d 114 0 [.ref 107, .int x1] [] (xLay, I, L, (kM R)) (0, 0) Φ := sm_wp_step (⟨fun q7 => ⟨fun q5 => ⟨(((((h).1 q7)).1 q5)).1, ⟨fun q2 => ((((((((h).1 q7)).1 q5)).2 _ rfl)).1 q2), fun q2 => ((((((((h).1 q7)).1 q5)).2 _ rfl)).2 q2)⟩⟩, fun q5 => ⟨(((((h).1 q7)).2 q5)).1, ⟨fun q4 => ((((((((h).1 q7)).2 q5)).2 _ rfl)).1 q4), fun q4 => ((((((((h).1 q7)).2 q5)).2 _ rfl)).2 q4)⟩⟩⟩, fun q7 => ⟨((((h).2 q7) _ rfl)).1, ((((h).2 q7) _ rfl)).2⟩⟩)
end
section
/-! the reference's walks, exact -/
section
variable {S : sm_C} {d : Nat} {Φ : sm_Z → Prop} {I : sm_I} {L : sm_L} {R : sm_R}
theorem dv36 : ∀ i : Nat, i < 36 → ((Int32.ofNat i) / (6 : Int32)).toInt = ((i / 6 : Nat) : Int) ∧ ((Int32.ofNat i) - (Int32.ofNat i) / (6 : Int32) * (6 : Int32)).toInt = ((i % 6 : Nat) : Int) := by decide +kernel
theorem n1_1 {x : Int32} : x = -1 ↔ x.toInt = -1 := ⟨fun e => by rw [e]; decide, fun e => en_ofI (by rw [e]; decide)⟩
theorem yw_6 {I0 : sm_I} {T : Nat → Int} {k : Nat} (hk : k < 6) (hT : WB 100000 T) (h : ∀ (J : sm_I) (x1 : Int32), x1.toInt = k → (∀ i, i < 36 → (J 139 i).toInt = Fn k T i) → (∀ p j, p ≠ 139 → J p j = I0 p j) → sm_wp sm_P S d 210 4 [.ref 107, .int (x1 + (1 : Int32))] [] (xLay, J, L, kM R) (0, 0) Φ) : ∀ (m i : Nat) (I : sm_I) (x1 x2 : Int32), x1.toInt = k → x2.toInt = i → i + m = 36 → (∀ j, j < i → (I 139 j).toInt = Fn k T j) → (∀ j, i ≤ j → j < 36 → (I 139 j).toInt = T j) → (∀ p j, p ≠ 139 → I p j = I0 p j) → sm_wp sm_P S d 210 6 [.ref 107, .int x1, .int x2] [] (xLay, I, L, kM R) (0, 0) Φ := by
  have c36 : (36 : Int32).toInt = 36 := by decide
  intro m
  induction m with
  | zero =>
    intro i I x1 x2 h1 h2 hm g1 g2 o
    refine p_X12_walks_6 ⟨fun _ => h I x1 h1 (fun j hj => g1 j (by omega)) o, fun a => ?_⟩
    have a := kl_nle a
    omega
  | succ m ih =>
    intro i I x1 x2 h1 h2 hm g1 g2 o
    have s2 := ml_in1 (x := x2) (by omega)
    have n2x := tk_nat h2
    have ex : x2 = Int32.ofNat i := en_ofI (by rw [h2, Int32.toInt_ofNat_of_lt (by omega)])
    obtain ⟨d1, d2⟩ := dv36 i (by omega)
    rw [← ex] at d1 d2
    have vi : vp_in x2 36 := kl_in (by omega) (by omega)
    have rw_ : (I 139 (6 * (i / 6) + k)).toInt = T (6 * (i / 6) + k) := by
      rcases Nat.lt_or_ge (6 * (i / 6) + k) i with c | c
      · rw [g1 _ c, Fn_row hk hT]
      · exact g2 _ c (by omega)
    have cl_ : (I 139 (6 * k + i % 6)).toInt = T (6 * k + i % 6) := by
      rcases Nat.lt_or_ge (6 * k + i % 6) i with c | c
      · rw [g1 _ c, Fn_col hk (by omega) hT]
      · exact g2 _ c (by omega)
    have me_ : (I 139 i).toInt = T i := g2 i (Nat.le_refl _) (by omega)
    have b1 := hT.1 (6 * (i / 6) + k) (by omega)
    have b2 := hT.1 (6 * k + i % 6) (by omega)
    have b3 := hT.1 i (by omega)
    have same : Fn k T i = T i → sm_wp sm_P S d 210 6 [.ref 107, .int x1, .int (x2 + (1 : Int32))] [] (xLay, I, L, kM R) (0, 0) Φ := fun e => ih (i + 1) I x1 _ h1 (by omega) (by omega) (fun j hj => by
      rcases Nat.lt_or_ge j i with c | c
      · exact g1 j c
      · have : j = i := by omega
        subst this
        rw [e]; exact me_) (fun j hj hj2 => g2 j (by omega) hj2) o
    have upd : ∀ (v : Int32) (I' : sm_I), v.toInt = Fn k T i → I' = sm_up I 139 x2.toNatClampNeg v → sm_wp sm_P S d 210 6 [.ref 107, .int x1, .int (x2 + (1 : Int32))] [] (xLay, I', L, kM R) (0, 0) Φ := fun v I' e e' => by
      rw [n2x] at e'
      refine ih (i + 1) I' x1 _ h1 (by omega) (by omega) (fun j hj => ?_) (fun j hj hj2 => ?_) (fun p j hp => ?_)
      · by_cases c : j = i
        · rw [c, e', en_up_eq]; exact e
        · rw [e', en_up_ne _ _ _ _ (by omega)]; exact g1 j (by omega)
      · rw [e', en_up_ne _ _ _ _ (by omega)]; exact g2 j (by omega) hj2
      · rw [e', en_up_ne _ _ _ _ (by omega)]; exact o p j hp
    refine p_X12_walks_6 ⟨fun a => ?_, fun _ => ⟨by decide, fun n1 e1 => ?_⟩⟩
    · have a := kl_le.mp a
      omega
    have q0 : ((6 : Int32) * (x2 / (6 : Int32))).toInt = 6 * ((i / 6 : Nat) : Int) := ml_mu (by decide) d1 (by omega) (by omega)
    have q1 : n1.toInt = ((6 * (i / 6) + k : Nat) : Int) := by rw [e1, ml_ad q0 h1 (by omega) (by omega)]; omega
    refine ⟨kl_in (by omega) (by omega), by decide, fun n2 e2 => ?_⟩
    have q3 : ((6 : Int32) * x1).toInt = 6 * (k : Int) := ml_mu (by decide) h1 (by omega) (by omega)
    have q2 : n2.toInt = ((6 * k + i % 6 : Nat) : Int) := by rw [e2, ml_ad q3 d2 (by omega) (by omega)]; omega
    have m1 := tk_nat q1
    have m2 := tk_nat q2
    rw [m1, m2]
    have sum : (I 139 (6 * (i / 6) + k) + I 139 (6 * k + i % 6)).toInt = T (6 * (i / 6) + k) + T (6 * k + i % 6) := ml_ad rw_ cl_ (by omega) (by omega)
    refine ⟨kl_in (by omega) (by omega), fun c1 => ?_, fun c1 => ⟨fun c2 => ?_, fun c2 => ⟨vi, ?_⟩⟩⟩
    · rw [n1_1, rw_] at c1
      refine same ?_
      unfold Fn
      rw [if_pos (by omega)]
    · rw [n1_1, cl_] at c2
      refine same ?_
      unfold Fn
      split
      · rfl
      · rw [if_pos (by omega)]
    · rw [n1_1, rw_] at c1
      rw [n1_1, cl_] at c2
      rw [n2x]
      refine ⟨fun c3 n3 e3 => ⟨vi, fun I4 e4 => ?_⟩, fun c3 => ⟨vi, fun c4 => ?_, fun c4 n5 e5 => ⟨vi, fun I6 e6 => ?_⟩⟩⟩
      · rw [n1_1, me_] at c3
        refine upd n3 I4 ?_ (by rw [n2x]; exact e4)
        rw [e3, sum]
        unfold Fn
        rw [if_neg (by omega), if_neg (by omega), if_pos (by omega)]
      · rw [n1_1, me_] at c3
        have c4 := kl_le.mp c4
        rw [me_, sum] at c4
        refine same ?_
        unfold Fn
        rw [if_neg (by omega), if_neg (by omega), if_neg (by omega), if_neg (by omega)]
      · rw [n1_1, me_] at c3
        have c4 := kl_nle c4
        rw [me_, sum] at c4
        refine upd n5 I6 ?_ (by rw [n2x]; exact e6)
        rw [e5, sum]
        unfold Fn
        rw [if_neg (by omega), if_neg (by omega), if_neg (by omega), if_pos (by omega)]
theorem yw_4 {I0 : sm_I} {N : Nat → Int} (hN : WB 1440 N) (h : ∀ J : sm_I, (∀ i, i < 36 → (J 139 i).toInt = Ft 6 N i) → (∀ p j, p ≠ 139 → J p j = I0 p j) → Φ (none, (xLay, J, L, kM R))) : ∀ (m k : Nat) (I : sm_I) (x1 : Int32), x1.toInt = k → k + m = 6 → (∀ i, i < 36 → (I 139 i).toInt = Ft k N i) → (∀ p j, p ≠ 139 → I p j = I0 p j) → sm_wp sm_P S d 210 4 [.ref 107, .int x1] [] (xLay, I, L, kM R) (0, 0) Φ := by
  have c6 : (6 : Int32).toInt = 6 := by decide
  intro m
  induction m with
  | zero =>
    intro k I x1 h1 hm g o
    have e : k = 6 := by omega
    subst e
    refine p_X12_walks_4 ⟨fun _ => h I g o, fun a => ?_⟩
    have a := kl_nle a
    omega
  | succ m ih =>
    intro k I x1 h1 hm g o
    refine p_X12_walks_4 ⟨fun a => ?_, fun _ => yw_6 (I0 := I0) (T := Ft k N) (by omega) (WB_F6 hN k (by omega)) (fun J x1 h1 gJ oJ => ih (k + 1) J _ ?_ (by omega) gJ oJ) 36 0 I x1 0 h1 (by decide) (by decide) (fun j hj => absurd hj (Nat.not_lt_zero j)) (fun j _ hj => g j hj) o⟩
    · have a := kl_le.mp a
      omega
    · have s := ml_in1 (x := x1) (by omega)
      omega
theorem yw_1 {I0 : sm_I} {l : Nat} (hl : (I0 107 18).toInt = l) (l1 : l ≤ 1) (hN : WB 1440 (fun i => (I0 121 (36 * l + i)).toInt)) (h : ∀ J : sm_I, (∀ i, i < 36 → (J 139 i).toInt = Ft 6 (fun i => (I0 121 (36 * l + i)).toInt) i) → (∀ p j, p ≠ 139 → J p j = I0 p j) → Φ (none, (xLay, J, L, kM R))) : ∀ (m i : Nat) (I : sm_I) (x1 : Int32), x1.toInt = i → i + m = 36 → (∀ j, j < i → I 139 j = I0 121 (36 * l + j)) → (∀ p j, p ≠ 139 → I p j = I0 p j) → sm_wp sm_P S d 210 1 [.ref 107, .int x1] [] (xLay, I, L, kM R) (0, 0) Φ := by
  have c36 : (36 : Int32).toInt = 36 := by decide
  intro m
  induction m with
  | zero =>
    intro i I x1 h1 hm g o
    refine p_X12_walks_1 ⟨fun _ => yw_4 (I0 := I0) hN h 6 0 I 0 (by decide) (by decide) (fun j hj => by rw [g j (by omega)]; rfl) o, fun a => ?_⟩
    have a := kl_nle a
    omega
  | succ m ih =>
    intro i I x1 h1 hm g o
    have s1 := ml_in1 (x := x1) (by omega)
    have nx := tk_nat h1
    have e18 : (I 107 18).toInt = l := by rw [o 107 18 (by omega)]; exact hl
    have q1 : ((36 : Int32) * (I 107 18)).toInt = 36 * (l : Int) := ml_mu (by decide) e18 (by omega) (by omega)
    refine p_X12_walks_1 ⟨fun a => ?_, fun _ n1 e1 => ?_⟩
    · have a := kl_le.mp a
      omega
    have q2 : n1.toInt = ((36 * l + i : Nat) : Int) := by rw [e1, ml_ad q1 h1 (by omega) (by omega)]; omega
    have m1 := tk_nat q2
    refine ⟨kl_in (by omega) (by omega), kl_in (by omega) (by omega), fun I2 e2 => ?_⟩
    rw [nx, m1, o 121 _ (by omega)] at e2
    refine ih (i + 1) I2 _ (by omega) (by omega) (fun j hj => ?_) (fun p j hp => ?_)
    · by_cases c : j = i
      · rw [c, e2, en_up_eq]
      · rw [e2, en_up_ne _ _ _ _ (by omega)]; exact g j (by omega)
    · rw [e2, en_up_ne _ _ _ _ (by omega)]; exact o p j hp
theorem y_walks {l : Nat} (hl : (I 107 18).toInt = l) (l1 : l ≤ 1) (hN : WB 1440 (fun i => (I 121 (36 * l + i)).toInt)) (h : ∀ J : sm_I, (∀ i, i < 36 → (J 139 i).toInt = Ft 6 (fun i => (I 121 (36 * l + i)).toInt) i) → (∀ p j, p ≠ 139 → J p j = I p j) → Φ (none, (xLay, J, L, kM R))) : sm_wp sm_P S d 210 0 [.ref 107] [] (xLay, I, L, kM R) (0, 0) Φ := p_X12_walks_0 (yw_1 (I0 := I) hl l1 hN h 36 0 I 0 (by decide) (by decide) (fun j hj => absurd hj (Nat.not_lt_zero j)) (fun _ _ _ => rfl))
end
end
section
/-! MOVES: the pure list -/
def mvc (ps pl : Nat → Int32) (a b : Nat) : Bool := (!decide (ps a = -1) && decide (ps a = ps b)) && !decide (pl a = pl b)
def mrow (c : Nat → Nat → Bool) (a : Nat) : Nat → List (Nat × Nat)
  | 0 => []
  | b + 1 => mrow c a b ++ (if (decide (a < b) && c a b) = true then [(a, b)] else [])
def mall (c : Nat → Nat → Bool) (T : Nat) : Nat → List (Nat × Nat)
  | 0 => []
  | a + 1 => mall c T a ++ mrow c a T
section
variable {c : Nat → Nat → Bool} {a T : Nat}
theorem mrow_0 : ∀ b, b ≤ a + 1 → mrow c a b = [] := by
  intro b
  induction b with
  | zero => intro _; rfl
  | succ b ih =>
    intro h
    show mrow c a b ++ (if (decide (a < b) && c a b) = true then [(a, b)] else []) = []
    rw [ih (by omega), if_neg (by rw [decide_eq_false (by omega)]; simp)]
    rfl
theorem mrow_s {b : Nat} (h : a < b) : mrow c a (b + 1) = mrow c a b ++ (if c a b = true then [(a, b)] else []) := by
  show mrow c a b ++ (if (decide (a < b) && c a b) = true then [(a, b)] else []) = _
  rw [decide_eq_true h, Bool.true_and]
theorem mrow_len : ∀ b, (mrow c a b).length ≤ b - (a + 1) := by
  intro b
  induction b with
  | zero => exact Nat.zero_le _
  | succ b ih =>
    by_cases h : a < b
    · rw [mrow_s h, List.length_append]
      split
      · show _ + 1 ≤ _
        omega
      · show _ + 0 ≤ _
        omega
    · rw [mrow_0 (b + 1) (by omega)]
      exact Nat.zero_le _
theorem mall_len (hT : T ≤ 10) : ∀ a, a ≤ 10 → (((mall c T a).length : Nat) : Int) ≤ ml_S a := by
  intro a
  induction a with
  | zero => intro _; exact Int.le_refl _
  | succ a ih =>
    intro h
    have i := ih (by omega)
    have s := ml_S_st a (by omega)
    have r := mrow_len (c := c) (a := a) T
    show (((mall c T a ++ mrow c a T).length : Nat) : Int) ≤ ml_S (a + 1)
    rw [List.length_append, s.1]
    omega
theorem mv_45 {b : Nat} (hT : T ≤ 10) (h : a < b) (hb : b < T) : (mall c T a ++ mrow c a b).length < 45 := by
  have i := mall_len (c := c) hT a (by omega)
  have s := ml_S_st a (by omega)
  have r := mrow_len (c := c) (a := a) b
  rw [List.length_append]
  omega
theorem gD_l {l m : List (Nat × Nat)} {j : Nat} (h : j < l.length) : (l ++ m).getD j (0, 0) = l.getD j (0, 0) := by
  rw [List.getD_eq_getElem?_getD, List.getD_eq_getElem?_getD, List.getElem?_append_left h]
theorem gD_n {l : List (Nat × Nat)} {x : Nat × Nat} : (l ++ [x]).getD l.length (0, 0) = x := by
  rw [List.getD_eq_getElem?_getD, List.getElem?_append_right (Nat.le_refl _)]
  simp
theorem mrow_b : ∀ b j, j < (mrow c a b).length → ((mrow c a b).getD j (0, 0)).1 = a ∧ a < ((mrow c a b).getD j (0, 0)).2 ∧ ((mrow c a b).getD j (0, 0)).2 < b ∧ c a ((mrow c a b).getD j (0, 0)).2 = true := by
  intro b
  induction b with
  | zero => intro j hj; exact absurd hj (Nat.not_lt_zero j)
  | succ b ih =>
    intro j hj
    by_cases h : a < b
    · rw [mrow_s h] at hj ⊢
      by_cases q : c a b = true
      · rw [if_pos q] at hj ⊢
        rw [List.length_append] at hj
        have hj : j < (mrow c a b).length + 1 := hj
        by_cases e : j < (mrow c a b).length
        · rw [gD_l e]
          obtain ⟨i1, i2, i3, i4⟩ := ih j e
          exact ⟨i1, i2, by omega, i4⟩
        · have e : j = (mrow c a b).length := by omega
          rw [e, gD_n]
          exact ⟨rfl, h, Nat.lt_succ_self b, q⟩
      · rw [if_neg q, List.append_nil] at hj ⊢
        obtain ⟨i1, i2, i3, i4⟩ := ih j hj
        exact ⟨i1, i2, by omega, i4⟩
    · rw [mrow_0 (b + 1) (by omega)] at hj
      exact absurd hj (Nat.not_lt_zero j)
/-- each MOVE is of two TIMES, the lesser ahead -/
theorem mall_b : ∀ n j, j < (mall c T n).length → ((mall c T n).getD j (0, 0)).1 < n ∧ ((mall c T n).getD j (0, 0)).1 < ((mall c T n).getD j (0, 0)).2 ∧ ((mall c T n).getD j (0, 0)).2 < T ∧ c ((mall c T n).getD j (0, 0)).1 ((mall c T n).getD j (0, 0)).2 = true := by
  intro n
  induction n with
  | zero => intro j hj; exact absurd hj (Nat.not_lt_zero j)
  | succ n ih =>
    intro j hj
    have hj : j < (mall c T n ++ mrow c n T).length := hj
    show ((mall c T n ++ mrow c n T).getD j (0, 0)).1 < n + 1 ∧ ((mall c T n ++ mrow c n T).getD j (0, 0)).1 < ((mall c T n ++ mrow c n T).getD j (0, 0)).2 ∧ ((mall c T n ++ mrow c n T).getD j (0, 0)).2 < T ∧ c ((mall c T n ++ mrow c n T).getD j (0, 0)).1 ((mall c T n ++ mrow c n T).getD j (0, 0)).2 = true
    by_cases e : j < (mall c T n).length
    · rw [gD_l e]
      obtain ⟨i1, i2, i3, i4⟩ := ih j e
      exact ⟨by omega, i2, i3, i4⟩
    · rw [List.length_append] at hj
      obtain ⟨i1, i2, i3, i4⟩ := mrow_b (c := c) (a := n) T (j - (mall c T n).length) (by omega)
      have g : (mall c T n ++ mrow c n T).getD j (0, 0) = (mrow c n T).getD (j - (mall c T n).length) (0, 0) := by
        rw [List.getD_eq_getElem?_getD, List.getD_eq_getElem?_getD, List.getElem?_append_right (by omega)]
      rw [g, i1]
      exact ⟨Nat.lt_succ_self n, i2, i3, i4⟩
theorem mrow_cg {c' : Nat → Nat → Bool} : ∀ b, (∀ i, i < b → c a i = c' a i) → mrow c a b = mrow c' a b := by
  intro b
  induction b with
  | zero => intro _; rfl
  | succ b ih =>
    intro h
    show mrow c a b ++ (if (decide (a < b) && c a b) = true then [(a, b)] else []) = mrow c' a b ++ (if (decide (a < b) && c' a b) = true then [(a, b)] else [])
    rw [ih (fun i hi => h i (by omega)), h b (by omega)]
theorem mall_cg {c' : Nat → Nat → Bool} : ∀ n, n ≤ T → (∀ i j, i < T → j < T → c i j = c' i j) → mall c T n = mall c' T n := by
  intro n
  induction n with
  | zero => intro _ _; rfl
  | succ n ih =>
    intro hn h
    show mall c T n ++ mrow c n T = mall c' T n ++ mrow c' n T
    rw [ih (by omega) h, mrow_cg T (fun i hi => h n i (by omega) hi)]
end
end
section
/-! the reference's meets, exact -/
section
variable {S : sm_C} {d : Nat} {Φ : sm_Z → Prop} {L : sm_L} {R : sm_R}
/-- the rows of MOVES hold this list -/
def mvM (l : Nat) (I0 I : sm_I) (w : List (Nat × Nat)) : Prop := (I 107 46).toInt = ((w.length : Nat) : Int) ∧ (∀ j, j < w.length → I 140 j = Int32.ofNat (w.getD j (0, 0)).1 ∧ I 141 j = Int32.ofNat (w.getD j (0, 0)).2 ∧ I 142 j = I0 139 (6 * (I0 124 (10 * l + (w.getD j (0, 0)).1)).toNatClampNeg + (I0 124 (10 * l + (w.getD j (0, 0)).2)).toNatClampNeg)) ∧ ∀ p j, ¬ (p = 107 ∧ j = 46) → p ≠ 140 → p ≠ 141 → p ≠ 142 → I p j = I0 p j
def mcM (l : Nat) (I : sm_I) : Nat → Nat → Bool := mvc (fun a => I 123 (10 * l + a)) (fun a => I 124 (10 * l + a))
theorem ym_3 {I0 : sm_I} {l T a : Nat} (hl : (I0 107 18).toInt = l) (l1 : l ≤ 1) (hT : (I0 122 l).toInt = T) (T10 : T ≤ 10) (ha : a < T) (bp : ∀ i, i < T → I0 123 (10 * l + i) ≠ -1 → 0 ≤ (I0 124 (10 * l + i)).toInt ∧ (I0 124 (10 * l + i)).toInt ≤ 5) (h : ∀ (J : sm_I) (x1 : Int32), x1.toInt = a → mvM l I0 J (mall (mcM l I0) T (a + 1)) → sm_wp sm_P S d 161 1 [.ref 107, .int (x1 + (1 : Int32))] [] (xLay, J, L, kM R) (0, 0) Φ) : ∀ (m b : Nat) (I : sm_I) (x1 x2 : Int32), x1.toInt = a → x2.toInt = b → a < b → b + m = T → mvM l I0 I (mall (mcM l I0) T a ++ mrow (mcM l I0) a b) → sm_wp sm_P S d 161 3 [.ref 107, .int x1, .int x2] [] (xLay, I, L, kM R) (0, 0) Φ := by
  intro m
  induction m with
  | zero =>
    intro b I x1 x2 h1 h2 hab hm hI
    have e : b = T := by omega
    subst e
    have e18 : I 107 18 = I0 107 18 := hI.2.2 107 18 (by omega) (by decide) (by decide) (by decide)
    have e122 : I 122 l = I0 122 l := hI.2.2 122 l (by omega) (by decide) (by decide) (by decide)
    have nl : (I 107 18).toNatClampNeg = l := tk_nat (by rw [e18]; exact hl)
    refine u_X12_meets_3 ⟨kl_in (by rw [e18]; omega) (by rw [e18]; omega), fun _ => h I x1 h1 hI, fun q => ?_⟩
    have q := kl_nle q
    rw [nl, e122] at q
    omega
  | succ m ih =>
    intro b I x1 x2 h1 h2 hab hm hI
    have s2 := ml_in1 (x := x2) (by omega)
    obtain ⟨hc, hr, o⟩ := hI
    have e18 : I 107 18 = I0 107 18 := o 107 18 (by omega) (by decide) (by decide) (by decide)
    have e122 : I 122 l = I0 122 l := o 122 l (by omega) (by decide) (by decide) (by decide)
    have nl : (I 107 18).toNatClampNeg = l := tk_nat (by rw [e18]; exact hl)
    have hl' : (I 107 18).toInt = l := by rw [e18]; exact hl
    have len := mv_45 (c := mcM l I0) T10 hab (by omega : b < T)
    have q1 : ((10 : Int32) * (I 107 18)).toInt = 10 * (l : Int) := ml_mu (by decide) hl' (by omega) (by omega)
    have o3 : ∀ j, I 123 j = I0 123 j := fun j => o 123 j (by omega) (by decide) (by decide) (by decide)
    have o4 : ∀ j, I 124 j = I0 124 j := fun j => o 124 j (by omega) (by decide) (by decide) (by decide)
    have o9 : ∀ j, I 139 j = I0 139 j := fun j => o 139 j (by omega) (by decide) (by decide) (by decide)
    have skip : mcM l I0 a b = false → sm_wp sm_P S d 161 3 [.ref 107, .int x1, .int (x2 + (1 : Int32))] [] (xLay, I, L, kM R) (0, 0) Φ := fun q => by
      refine ih (b + 1) I x1 _ h1 (by omega) (by omega) (by omega) ?_
      rw [mrow_s hab, q, if_neg (by decide), List.append_nil]
      exact ⟨hc, hr, o⟩
    refine u_X12_meets_3 ⟨kl_in (by omega) (by omega), fun q => ?_, fun _ n1 e1 n2 e2 => ?_⟩
    · have q := kl_le.mp q
      rw [nl, e122] at q
      omega
    have p1 : n1.toInt = ((10 * l + a : Nat) : Int) := by rw [e1, ml_ad q1 h1 (by omega) (by omega)]; omega
    have p2 : n2.toInt = ((10 * l + b : Nat) : Int) := by rw [e2, ml_ad q1 h2 (by omega) (by omega)]; omega
    have v1 : vp_in n1 20 := kl_in (by omega) (by omega)
    have v2 : vp_in n2 20 := kl_in (by omega) (by omega)
    have m1 := tk_nat p1
    have m2 := tk_nat p2
    rw [m1, m2, o3, o3, o4, o4]
    refine ⟨v1, fun c1 => skip ?_, fun c1 => ⟨v1, v2, fun c2 => ⟨v1, v2, fun c3 => skip ?_, fun c3 => ?_⟩, fun c2 => skip ?_⟩⟩
    · unfold mcM mvc
      simp [c1]
    · unfold mcM mvc
      simp [c3]
    · have yes : mcM l I0 a b = true := by
        unfold mcM mvc
        simp only [decide_eq_false c1, decide_eq_true c2, decide_eq_false c3]
        rfl
      have ba := bp a ha c1
      have bb := bp b (by omega) (fun q => c1 (c2.trans q))
      have na := kl_nat ba.1
      have nb := kl_nat bb.1
      have vc : vp_in (I 107 46) 45 := kl_in (by omega) (by omega)
      have nc := tk_nat hc
      refine ⟨vc, fun I3 e3 => ?_⟩
      have g3 : I3 107 46 = I 107 46 := by rw [e3, en_up_ne _ _ _ _ (by omega)]
      rw [g3]
      refine ⟨vc, fun I4 e4 => ⟨v1, v2, fun n5 e5 => ?_⟩⟩
      have g4 : I4 107 46 = I 107 46 := by rw [e4, en_up_ne _ _ _ _ (by omega), g3]
      have k4 : ∀ p j, p ≠ 140 → p ≠ 141 → I4 p j = I p j := fun p j a b => by rw [e4, en_up_ne _ _ _ _ (by omega), e3, en_up_ne _ _ _ _ (by omega)]
      rw [k4 124 _ (by decide) (by decide), k4 124 _ (by decide) (by decide), o4, o4] at e5
      have q6 : ((6 : Int32) * (I0 124 (10 * l + a))).toInt = 6 * (I0 124 (10 * l + a)).toInt := ml_mu (by decide) rfl (by omega) (by omega)
      have q5 : n5.toInt = ((6 * (I0 124 (10 * l + a)).toNatClampNeg + (I0 124 (10 * l + b)).toNatClampNeg : Nat) : Int) := by rw [e5, ml_ad q6 rfl (by omega) (by omega)]; omega
      have m5 := tk_nat q5
      rw [g4]
      refine ⟨kl_in (by omega) (by omega), vc, fun I6 e6 I7 e7 => ?_⟩
      rw [m5, k4 139 _ (by decide) (by decide), o9] at e6
      have g6 : I6 107 46 = I 107 46 := by rw [e6, en_up_ne _ _ _ _ (by omega), g4]
      rw [g6] at e7
      rw [nc] at e3 e6
      rw [nc] at e4
      have k7 : ∀ p j, ¬ (p = 107 ∧ j = 46) → p ≠ 140 → p ≠ 141 → p ≠ 142 → I7 p j = I0 p j := fun p j a b c d => by
        rw [e7, en_up_ne _ _ _ _ a, e6, en_up_ne _ _ _ _ (by omega), k4 p j b c, o p j a b c d]
      have s1 := ml_in1 (x := I 107 46) (by omega)
      refine ih (b + 1) I7 x1 _ h1 (by omega) (by omega) (by omega) ⟨?_, fun j hj => ?_, k7⟩
      · rw [mrow_s hab, yes, if_pos rfl, ← List.append_assoc, List.length_append]
        rw [e7, en_up_eq, s1, hc]
        rfl
      · rw [mrow_s hab, yes, if_pos rfl, ← List.append_assoc] at hj ⊢
        rw [List.length_append] at hj
        have hj : j < (mall (mcM l I0) T a ++ mrow (mcM l I0) a b).length + 1 := hj
        by_cases e : j < (mall (mcM l I0) T a ++ mrow (mcM l I0) a b).length
        · rw [gD_l e]
          obtain ⟨r1, r2, r3⟩ := hr j e
          refine ⟨?_, ?_, ?_⟩
          · rw [e7, en_up_ne _ _ _ _ (by omega), e6, en_up_ne _ _ _ _ (by omega), e4, en_up_ne _ _ _ _ (by omega), e3, en_up_ne _ _ _ _ (by omega)]; exact r1
          · rw [e7, en_up_ne _ _ _ _ (by omega), e6, en_up_ne _ _ _ _ (by omega), e4, en_up_ne _ _ _ _ (by omega), e3, en_up_ne _ _ _ _ (by omega)]; exact r2
          · rw [e7, en_up_ne _ _ _ _ (by omega), e6, en_up_ne _ _ _ _ (by omega), e4, en_up_ne _ _ _ _ (by omega), e3, en_up_ne _ _ _ _ (by omega)]; exact r3
        · have e : j = (mall (mcM l I0) T a ++ mrow (mcM l I0) a b).length := by omega
          rw [e, gD_n]
          have ex1 : x1 = Int32.ofNat a := en_ofI (by rw [h1, Int32.toInt_ofNat_of_lt (by omega)])
          have ex2 : x2 = Int32.ofNat b := en_ofI (by rw [h2, Int32.toInt_ofNat_of_lt (by omega)])
          refine ⟨?_, ?_, ?_⟩
          · rw [e7, en_up_ne _ _ _ _ (by omega), e6, en_up_ne _ _ _ _ (by omega), e4, en_up_ne _ _ _ _ (by omega), e3, en_up_eq, ex1]
          · rw [e7, en_up_ne _ _ _ _ (by omega), e6, en_up_ne _ _ _ _ (by omega), e4, en_up_eq, ex2]
          · rw [e7, en_up_ne _ _ _ _ (by omega), e6, en_up_eq]
    · unfold mcM mvc
      simp [c2]
theorem ym_1 {I0 : sm_I} {l T : Nat} (hl : (I0 107 18).toInt = l) (l1 : l ≤ 1) (hT : (I0 122 l).toInt = T) (T10 : T ≤ 10) (bp : ∀ i, i < T → I0 123 (10 * l + i) ≠ -1 → 0 ≤ (I0 124 (10 * l + i)).toInt ∧ (I0 124 (10 * l + i)).toInt ≤ 5) (h : ∀ J : sm_I, mvM l I0 J (mall (mcM l I0) T T) → Φ (none, (xLay, J, L, kM R))) : ∀ (m a : Nat) (I : sm_I) (x1 : Int32), x1.toInt = a → a + m = T → mvM l I0 I (mall (mcM l I0) T a) → sm_wp sm_P S d 161 1 [.ref 107, .int x1] [] (xLay, I, L, kM R) (0, 0) Φ := by
  intro m
  induction m with
  | zero =>
    intro a I x1 h1 hm hI
    have e : a = T := by omega
    subst e
    have e18 : I 107 18 = I0 107 18 := hI.2.2 107 18 (by omega) (by decide) (by decide) (by decide)
    have e122 : I 122 l = I0 122 l := hI.2.2 122 l (by omega) (by decide) (by decide) (by decide)
    have nl : (I 107 18).toNatClampNeg = l := tk_nat (by rw [e18]; exact hl)
    refine u_X12_meets_1 ⟨kl_in (by rw [e18]; omega) (by rw [e18]; omega), fun _ => h I hI, fun q => ?_⟩
    have q := kl_nle q
    rw [nl, e122] at q
    omega
  | succ m ih =>
    intro a I x1 h1 hm hI
    have s1 := ml_in1 (x := x1) (by omega)
    have e18 : I 107 18 = I0 107 18 := hI.2.2 107 18 (by omega) (by decide) (by decide) (by decide)
    have e122 : I 122 l = I0 122 l := hI.2.2 122 l (by omega) (by decide) (by decide) (by decide)
    have nl : (I 107 18).toNatClampNeg = l := tk_nat (by rw [e18]; exact hl)
    refine u_X12_meets_1 ⟨kl_in (by rw [e18]; omega) (by rw [e18]; omega), fun q => ?_, fun _ => ym_3 (I0 := I0) (a := a) hl l1 hT T10 (by omega) bp (fun J x1 h1 hJ => ih (a + 1) J _ ?_ (by omega) hJ) (T - (a + 1)) (a + 1) I x1 _ h1 (by omega) (by omega) (by omega) (by rw [mrow_0 (a + 1) (Nat.le_refl _), List.append_nil]; exact hI)⟩
    · have q := kl_le.mp q
      rw [nl, e122] at q
      omega
    · have s := ml_in1 (x := x1) (by omega)
      omega
theorem y_meets {I : sm_I} {l T : Nat} (hl : (I 107 18).toInt = l) (l1 : l ≤ 1) (hT : (I 122 l).toInt = T) (T10 : T ≤ 10) (bp : ∀ i, i < T → I 123 (10 * l + i) ≠ -1 → 0 ≤ (I 124 (10 * l + i)).toInt ∧ (I 124 (10 * l + i)).toInt ≤ 5) (h : ∀ J : sm_I, mvM l I J (mall (mcM l I) T T) → Φ (none, (xLay, J, L, kM R))) : sm_wp sm_P S d 161 0 [.ref 107] [] (xLay, I, L, kM R) (0, 0) Φ := u_X12_meets_0 (ym_1 (I0 := I) hl l1 hT T10 bp h T 0 _ 0 (by decide) (by omega) ⟨by rw [en_up_eq]; rfl, fun j hj => absurd hj (Nat.not_lt_zero j), fun p j a _ _ _ => by rw [en_up_ne _ _ _ _ a]⟩)
end
end
section
/-! the reference's walks and meets behind a text, with what the invariant keeps -/
section
variable {S : sm_C} {d : Nat} {Φ : sm_Z → Prop} {I : sm_I} {L : sm_L} {R : sm_R}
/-- the live side is in order -/
def cdM (I : sm_I) : Prop := ∀ l : Nat, (I 107 18).toInt = l → l ≤ 1 ∧ WB 1440 (fun i => (I 121 (36 * l + i)).toInt) ∧ ∀ i : Nat, (i : Int) < (I 122 l).toInt → I 123 (10 * l + i) ≠ -1 → 0 ≤ (I 124 (10 * l + i)).toInt ∧ (I 124 (10 * l + i)).toInt ≤ 5
theorem cdM_cg {I J : sm_I} (h : ∀ p j, (118 ≤ p ∧ p ≤ 136) ∨ (p = 107 ∧ j = 18) → J p j = I p j) (k : cdM I) : cdM J := fun l hl => by
  rw [h 107 18 (by omega)] at hl
  obtain ⟨k1, k2, k3⟩ := k l hl
  refine ⟨k1, ?_, fun i hi hk => ?_⟩
  · have e : (fun i => (J 121 (36 * l + i)).toInt) = fun i => (I 121 (36 * l + i)).toInt := funext (fun i => by rw [h 121 _ (by omega)])
    rw [e]; exact k2
  · rw [h 122 l (by omega)] at hi
    rw [h 123 _ (by omega)] at hk
    rw [h 124 _ (by omega)]; exact k3 i hi hk
def mlst (l : Nat) (I : sm_I) : List (Nat × Nat) := mall (mcM l I) (I 122 l).toNatClampNeg (I 122 l).toNatClampNeg
def wkM (I0 J : sm_I) : Prop := ∀ l : Nat, (I0 107 18).toInt = l → ∀ i, i < 36 → (J 139 i).toInt = Ft 6 (fun i => (I0 121 (36 * l + i)).toInt) i
def mvsM (l : Nat) (I0 J : sm_I) : Prop := (J 107 46).toInt = (((mlst l I0).length : Nat) : Int) ∧ ∀ j, j < (mlst l I0).length → J 140 j = Int32.ofNat ((mlst l I0).getD j (0, 0)).1 ∧ J 141 j = Int32.ofNat ((mlst l I0).getD j (0, 0)).2 ∧ J 142 j = J 139 (6 * (I0 124 (10 * l + ((mlst l I0).getD j (0, 0)).1)).toNatClampNeg + (I0 124 (10 * l + ((mlst l I0).getD j (0, 0)).2)).toNatClampNeg)
theorem mlst_cg {l : Nat} {I J : sm_I} (h : ∀ p j, 118 ≤ p → p ≤ 136 → J p j = I p j) : mlst l J = mlst l I := by
  unfold mlst mcM
  have e3 : (fun a => J 123 (10 * l + a)) = fun a => I 123 (10 * l + a) := funext (fun a => h 123 _ (by decide) (by decide))
  have e4 : (fun a => J 124 (10 * l + a)) = fun a => I 124 (10 * l + a) := funext (fun a => h 124 _ (by decide) (by decide))
  rw [e3, e4, h 122 l (by decide) (by decide)]
theorem live_l (hm : en_mem ml_tb mlX (xLay, I, L, R)) : ∃ l : Nat, (I 107 18).toInt = l ∧ l ≤ 1 := by
  obtain ⟨b0, l1, ln, lc⟩ := ml_live hm
  have b0 : 0 ≤ (I 107 18).toInt := b0
  have l1 : (I 107 18).toInt ≤ 1 := l1
  exact ⟨(I 107 18).toInt.toNat, by omega, by omega⟩
theorem y_w1 (hm : en_mem ml_tb mlX (xLay, I, L, R)) (h : ∀ (J : sm_I) (L' : sm_L) (R' : sm_R), en_mem ml_tb mlX (xLay, J, L', R') → (∀ p j, p ≠ 139 → J p j = I p j) → (cdM I → wkM I J) → Φ (none, (xLay, J, L', kM R'))) : sm_wp sm_P S d 210 0 [.ref 107] [] (xLay, I, L, kM R) (0, 0) Φ := by
  have A := ml_cv (S := S) (d := d) (c := mlc_64) (vs := [.ref 107]) (C := fun I2 L2 R2 => en_mem ml_tb mlX (xLay, I2, L2, R2) ∧ en_fr mlc_64.2.2.2.2.1 (xLay, I, L, R) (xLay, I2, L2, R2)) mlh_64 (Nat.zero_le _) ⟨⟨rfl, rfl⟩, trivial⟩ hm ml_pf0 rfl (fun I2 L2 R2 m2 f2 => ⟨m2, f2⟩)
  have rn : ∀ {p j : Nat}, p ≠ 139 → en_wok mlc_64.2.2.2.2.1 p j = false := fun {p j} h => by
    cases c : en_wok mlc_64.2.2.2.2.1 p j with
    | false => rfl
    | true =>
      exfalso
      obtain ⟨q, g1, g2⟩ := List.any_eq_true.mp c
      have e : q.1 = p := Nat.eq_of_beq_eq_true (Bool.and_eq_true_iff.mp g2).1
      have e3 : q = (139, []) := List.mem_singleton.mp g1
      rw [e3] at e
      exact h e.symm
  by_cases c : cdM I
  · obtain ⟨l, hl, l1⟩ := live_l hm
    obtain ⟨k1, k2, -⟩ := c l hl
    have B : sm_wp sm_P S d 210 0 [.ref 107] [] (xLay, I, L, kM R) (0, 0) (fun z => ∀ i, i < 36 → (z.2.2.1 139 i).toInt = Ft 6 (fun i => (I 121 (36 * l + i)).toInt) i) := y_walks hl l1 k2 (fun J gJ _ => gJ)
    refine sm_wp_mono (sm_wp_and A B) (fun z hz => ?_)
    obtain ⟨⟨I2, L2, R2, ez, m2, f2⟩, g⟩ := hz
    subst ez
    refine h I2 L2 R2 m2 (fun p j hp => (f2.2 p j (rn hp)).1) (fun _ l' hl' => ?_)
    have : l' = l := by omega
    subst this
    exact g
  · refine sm_wp_mono A (fun z hz => ?_)
    obtain ⟨I2, L2, R2, ez, m2, f2⟩ := hz
    subst ez
    exact h I2 L2 R2 m2 (fun p j hp => (f2.2 p j (rn hp)).1) (fun q => absurd q c)
theorem y_w2 (hm : en_mem ml_tb mlX (xLay, I, L, R)) (h : ∀ J : sm_I, en_mem ml_tb mlX (xLay, J, L, R) → ml_mf I J → (cdM I → ∀ l : Nat, (I 107 18).toInt = l → mvsM l I J) → Φ (none, (xLay, J, L, kM R))) : sm_wp sm_P S d 161 0 [.ref 107] [] (xLay, I, L, kM R) (0, 0) Φ := by
  have A : sm_wp sm_P S d 161 0 [.ref 107] [] (xLay, I, L, kM R) (0, 0) (fun z => ∃ J : sm_I, z = (none, (xLay, J, L, kM R)) ∧ en_mem ml_tb mlX (xLay, J, L, R) ∧ ml_mf I J) := mx_meets hm (fun J m f => ⟨J, rfl, m, f⟩)
  by_cases c : cdM I
  · obtain ⟨l, hl, l1⟩ := live_l hm
    obtain ⟨k1, k2, k3⟩ := c l hl
    have b := (ml_cs l1 hm).2.2.1
    have n := kl_nat b.1
    have B : sm_wp sm_P S d 161 0 [.ref 107] [] (xLay, I, L, kM R) (0, 0) (fun z => mvM l I z.2.2.1 (mlst l I)) := y_meets (T := (I 122 l).toNatClampNeg) hl l1 (by omega) (by omega) (fun i hi => k3 i (by omega)) (fun J gJ => gJ)
    refine sm_wp_mono (sm_wp_and A B) (fun z hz => ?_)
    obtain ⟨⟨J, ez, m, f⟩, g⟩ := hz
    subst ez
    refine h J m f (fun _ l' hl' => ?_)
    have : l' = l := by omega
    subst this
    obtain ⟨g1, g2, g3⟩ := g
    refine ⟨g1, fun j hj => ?_⟩
    obtain ⟨r1, r2, r3⟩ := g2 j hj
    have o9 : J 139 = I 139 := funext (fun j => f 139 j (by omega))
    exact ⟨r1, r2, by rw [o9]; exact r3⟩
  · refine sm_wp_mono A (fun z hz => ?_)
    obtain ⟨J, ez, m, f⟩ := hz
    subst ez
    exact h J m f (fun q => absurd q c)
end
end
section
/-! the stream: what depends on the bytes of the text alone -/
theorem tk_run_cg {f : Int32 → Bool} {b b' : Nat → Int32} {n : Nat} (h : ∀ j, j < n → b j = b' j) : ∀ k p, tk_run f b n k p = tk_run f b' n k p := by
  intro k
  induction k with
  | zero => intro p; rfl
  | succ k ih =>
    intro p
    show (if p < n ∧ f (b p) = true then tk_run f b n k (p + 1) else p) = (if p < n ∧ f (b' p) = true then tk_run f b' n k (p + 1) else p)
    rw [ih]
    by_cases c : p < n
    · rw [h p c]
    · rw [if_neg (fun q => c q.1), if_neg (fun q => c q.1)]
theorem tk_end_cg {f : Int32 → Bool} {b b' : Nat → Int32} {n p : Nat} (h : ∀ j, j < n → b j = b' j) : tk_end f b n p = tk_end f b' n p := tk_run_cg h _ _
theorem tk_nx_cg {b b' : Nat → Int32} {n p : Nat} (h : ∀ j, j < n → b j = b' j) (hp : p < n) : tk_nx b n p = tk_nx b' n p := by
  unfold tk_nx
  rw [h p hp, tk_end_cg h, tk_end_cg h]
theorem tk_at_cg {b b' : Nat → Int32} {n : Nat} (h : ∀ j, j < n → b j = b' j) : ∀ i, tk_at b n i = tk_at b' n i := by
  intro i
  induction i with
  | zero => exact tk_end_cg h
  | succ i ih =>
    show (if tk_at b n i < n then tk_sk b n (tk_nx b n (tk_at b n i)) else n) = (if tk_at b' n i < n then tk_sk b' n (tk_nx b' n (tk_at b' n i)) else n)
    rw [ih]
    by_cases c : tk_at b' n i < n
    · rw [if_pos c, if_pos c, tk_nx_cg h c]
      exact tk_end_cg h
    · rw [if_neg c, if_neg c]
theorem tk_kd_cg {b b' : Nat → Int32} {n p : Nat} (h : ∀ j, j < n → b j = b' j) (hp : p < n) : tk_kd b n p = tk_kd b' n p := by
  have e1 : tk_end tk_le b n p ≤ n := tk_end_n2 (by omega)
  have cd : tk_cd tk_f8 b p (tk_end tk_le b n p - p) = tk_cd tk_f8 b' p (tk_end tk_le b n p - p) := tk_cd_cg _ (fun i hi => h _ (by omega))
  unfold tk_kd
  rw [cd, h p hp, tk_end_cg h, tk_end_cg h]
theorem tk_vl_cg {b b' : Nat → Int32} {n p : Nat} (h : ∀ j, j < n → b j = b' j) (hp : p < n) : tk_vl b n p = tk_vl b' n p := by
  have e1 : tk_end tk_le b n p ≤ n := tk_end_n2 (by omega)
  have e2 : tk_end tk_di b n p ≤ n := tk_end_n2 (by omega)
  have c1 : tk_cd tk_f8 b p (tk_end tk_le b n p - p) = tk_cd tk_f8 b' p (tk_end tk_le b n p - p) := tk_cd_cg _ (fun i hi => h _ (by omega))
  have c2 : tk_cd tk_f10 b p (tk_end tk_di b n p - p) = tk_cd tk_f10 b' p (tk_end tk_di b n p - p) := tk_cd_cg _ (fun i hi => h _ (by omega))
  unfold tk_vl
  rw [c1, c2, h p hp, tk_end_cg h, tk_end_cg h]
theorem tk_K_cg {b b' : Nat → Int32} {n : Nat} (h : ∀ j, j < n → b j = b' j) (i : Nat) : tk_K b n i = tk_K b' n i := by
  unfold tk_K
  rw [tk_at_cg h]
  by_cases c : tk_at b' n i < n
  · rw [if_pos c, if_pos c, tk_kd_cg h c]
  · rw [if_neg c, if_neg c]
theorem tk_at_s {b : Nat → Int32} {n i : Nat} (h : tk_at b n i < n) : tk_at b n i < tk_at b n (i + 1) := by
  show _ < (if tk_at b n i < n then tk_sk b n (tk_nx b n (tk_at b n i)) else n)
  rw [if_pos h]
  have a := (tk_nx_gt (b := b) h).1
  have c : tk_nx b n (tk_at b n i) ≤ tk_sk b n (tk_nx b n (tk_at b n i)) := tk_end_le
  omega
theorem TS_of {b : Nat → Int32} {n c : Nat} (c5 : c ≤ 501) (hr : ∀ i, i < c → tk_at b n i < n) (he : c ≤ 500 → tk_at b n c = n) : TS (tk_K b n) (tk_at b n) (fun i => tk_vl b n (tk_at b n i)) (fun i => mt_nm b n (tk_at b n i)) (fun i => mt_vl b n (tk_at b n i)) c := by
  have kd : ∀ i, i < c → tk_K b n i = tk_kd b n (tk_at b n i) := fun i hi => by unfold tk_K; rw [if_pos (hr i hi)]
  refine ⟨c5, fun i => ?_, fun q => tk_K_21.mpr (by rw [he q]; exact Nat.le_refl n), fun i hi q => ?_, fun i j hij hj => ?_, fun i hi q => ?_, fun i j hi hj qi qj => ?_⟩
  · unfold tk_K
    by_cases q : tk_at b n i < n
    · rw [if_pos q]
      have := tk_kd_r (b := b) (n := n) (p := tk_at b n i)
      omega
    · rw [if_neg q]; decide
  · have a := tk_K_21.mp q
    have d := hr i hi
    omega
  · have key : ∀ k, i < k → k ≤ c → tk_at b n i < tk_at b n k := by
      intro k
      induction k with
      | zero => intro q _; omega
      | succ k ih =>
        intro q1 q2
        have s := tk_at_s (b := b) (hr k (by omega))
        by_cases e : i = k
        · rw [e]; exact s
        · have := ih (by omega) (by omega)
          omega
    exact key j hij hj
  · rw [kd i hi] at q
    exact in_eq q
  · rw [kd i hi] at qi
    rw [kd j hj] at qj
    exact na_eq qi qj
/-! the reference reads a text -/
-- what is told, on a side of the reference
def TD (s : Nat) (a : sg) (I : sm_I) : Prop := rC s a I ∧ rT s a I ∧ rO s a I ∧ rW s a I ∧ rS s a I ∧ rQ s a I
def tcut (I : sm_I) : sm_I := fun p j => bif (Nat.ble 118 p && Nat.ble p 136) then I p j else 0
theorem TD_t {s : Nat} {a : sg} {I : sm_I} : TD s a I = TD s a (tcut I) := rfl
theorem TD_cg {s : Nat} {a : sg} {I J : sm_I} (h : ∀ p j, 118 ≤ p → p ≤ 136 → J p j = I p j) (k : TD s a I) : TD s a J := by
  have e : tcut J = tcut I := funext (fun p => funext (fun j => by
    unfold tcut
    cases c : (Nat.ble 118 p && Nat.ble p 136) with
    | false => rfl
    | true =>
      obtain ⟨c1, c2⟩ := Bool.and_eq_true_iff.mp c
      exact h p j (Nat.le_of_ble_eq_true c1) (Nat.le_of_ble_eq_true c2)))
  rw [TD_t] at k ⊢
  rw [e]; exact k
def kpt (v : Int32) (I0 J : sm_I) : Prop := J 107 17 = v ∧ J 107 18 = I0 107 18 ∧ ∀ p j, 118 ≤ p → p ≤ 136 → J p j = I0 p j
/-- nothing is DOUBTED, SET, PICKED, MORE; nothing is gone through -/
def hcM (J : sm_I) : Prop := (∀ j, j < 10 → J 137 j = 0 ∧ J 138 j = -1) ∧ (∀ j, j < 60 → J 160 j = -1) ∧ J 107 54 = 0 ∧ J 107 70 = 0 ∧ J 107 79 = 0
-- walks and moves of a side
def wmJ (s : Nat) (J : sm_I) : Prop := (∀ i, i < 36 → (J 139 i).toInt = Ft 6 (fun i => (J 121 (36 * s + i)).toInt) i) ∧ mvsM s J J
/-- what read answers, and the place that it keeps -/
def RDx (P : Nat → Nat) (R0 : Option (Int32 × Nat)) (M0 : Option (Int32 × Nat) × sg) (r : Int32) (J : sm_I) : Prop := (∀ f j, R0 = some (f, j) → r = f ∧ (J 107 17).toInt = P j) ∧ (R0 = none → (∀ f j, M0.1 = some (f, j) → r = f ∧ (J 107 17).toInt = P j) ∧ (M0.1 = none → r = 0 ∧ J 107 17 = -1 ∧ hcM J ∧ ∃ s : Nat, s ≤ 1 ∧ (J 107 18).toInt = s ∧ TD s M0.2 J ∧ (wt M0.2 → wmJ s J)))
section
variable {K : Nat → Int32} {P : Nat → Nat} {V W : Nat → Int64} {N : Nat → Int32} {c : Nat} {R0 : Option (Int32 × Nat)} {M0 : Option (Int32 × Nat) × sg}
variable {S : sm_C} {d : Nat} {Φ : sm_Z → Prop} {I : sm_I} {L : sm_L} {R : sm_R} {m : mo} {o : Option sg} {l s t : Nat} {g : gc}
-- a refused text leaves the live side as it is
def lvf (l : Nat) (I0 J : sm_I) : Prop := ∀ p j, (ml_hl l p j ∨ ml_hm l p j ∨ 137 ≤ p ∨ (p = 107 ∧ 46 ≤ j)) → J p j = I0 p j
def LVx (l : Nat) (I0 : sm_I) (r : Int32) (J : sm_I) : Prop := r ≠ 0 → (J 107 18).toInt = l ∧ lvf l I0 J
theorem lv_p {l p j : Nat} (h : ml_hl l p j ∨ ml_hm l p j ∨ 137 ≤ p ∨ (p = 107 ∧ 46 ≤ j)) : (118 ≤ p ∧ p ≤ 136) ∨ 137 ≤ p ∨ (p = 107 ∧ 46 ≤ j) := by unfold ml_hl ml_hm at h; omega
theorem lv_D {l : Nat} {I0 I J : sm_I} (hv : lvf l I0 I) (h : ml_pS (ml_Dl l) I J) : lvf l I0 J := fun p j q => by
  have q2 := lv_p q
  rw [h.1 p j (fun c => by
    unfold ml_Dl at c
    rcases c with c | c
    · omega
    · rcases q with q | q | q | q
      · exact c.2.2.1 q
      · exact c.2.2.2 q
      · omega
      · omega) (by omega)]
  exact hv p j q
theorem lv_up {l s : Nat} {I0 I : sm_I} {r s1 : Int32} (hI : ml_TI l s I) (hv : lvf l I0 I) : LVx l I0 r (sm_up I 107 17 s1) := fun _ => ⟨by rw [en_up_ne _ _ _ _ (by omega)]; exact hI.1, fun p j q => by
  have q2 := lv_p q
  rw [en_up_ne _ _ _ _ (by omega)]
  exact hv p j q⟩
theorem y_read29 {v : Int32} {I0 : sm_I} (hΦ : ∀ (J : sm_I) (L' : sm_L) (R' : sm_R), kpt v I0 J → hcM J → (cdM I0 → ∀ l : Nat, (I0 107 18).toInt = l → wmJ l J) → Φ (some (.int 0), (xLay, J, L', kM R'))) : ∀ (k : Nat) (I : sm_I) (x1 : Int32), en_mem ml_tb mlX (xLay, I, L, R) → kpt v I0 I → (∀ j, j < 10 → I 137 j = 0 ∧ I 138 j = -1) → (∀ j : Nat, (j : Int) < x1.toInt → I 160 j = -1) → 0 ≤ x1.toInt → x1.toInt ≤ 60 → 60 - x1.toInt < k → sm_wp sm_P S (d + 1) 182 29 [.ref 107, .int x1] [] (xLay, I, L, kM R) (0, 0) Φ := by
  intro k
  induction k with
  | zero => intro I x1 hm hz c1 c2 h0 h1 hM; omega
  | succ k ih =>
    intro I x1 hm hz c1 c2 h0 h1 hM
    refine u_X12_read_29 ⟨fun a => ?_, fun a => ?_⟩
    · have a := kl_le.mp a
      rw [(by decide : (60 : Int32).toInt = 60)] at a
      have m1 : en_mem ml_tb mlX (xLay, sm_up I 107 54 0, L, R) := ml_wf hm (by decide +kernel) (q := (0, 6)) (by decide +kernel) (by decide)
      refine y_w1 m1 (fun I2 L2 R2 m2 f2 w2 => ⟨I2, L2, R2, rfl, y_w2 m2 (fun I3 m3 f3 w3 => ⟨I3, L2, R2, rfl, u_X12_changes_0 (fun I4 e4 => ⟨I4, L2, R2, rfl, ?_⟩)⟩)⟩)
      have g : ∀ p j, p ≠ 139 → ¬ (p = 107 ∧ (j = 46 ∨ j = 54 ∨ j = 70 ∨ j = 79)) → ¬ (p = 140 ∨ p = 141 ∨ p = 142) → I4 p j = I p j := fun p j p1 p2 p3 => by
        rw [e4, en_up_ne _ _ _ _ (by omega), en_up_ne _ _ _ _ (by omega), f3 _ _ (by omega), f2 p j p1, en_up_ne _ _ _ _ (by omega)]
      have wm : cdM I0 → ∀ l : Nat, (I0 107 18).toInt = l → wmJ l I4 := fun cd l hl => by
        have o1 : ∀ p j, (118 ≤ p ∧ p ≤ 136) ∨ (p = 107 ∧ j = 18) → sm_up I 107 54 0 p j = I0 p j := fun p j q => by
          rw [en_up_ne _ _ _ _ (by omega)]
          rcases q with q | ⟨q1, q2⟩
          · exact hz.2.2 p j q.1 q.2
          · rw [q1, q2]; exact hz.2.1
        have o2 : ∀ p j, (118 ≤ p ∧ p ≤ 136) ∨ (p = 107 ∧ j = 18) → I2 p j = sm_up I 107 54 0 p j := fun p j q => f2 p j (by omega)
        have cd1 : cdM (sm_up I 107 54 0) := cdM_cg o1 cd
        have cd2 : cdM I2 := cdM_cg o2 cd1
        have h1 : (sm_up I 107 54 0 107 18).toInt = l := by rw [o1 107 18 (by omega)]; exact hl
        have h2 : (I2 107 18).toInt = l := by rw [o2 107 18 (by omega)]; exact h1
        have g9 : I4 139 = I2 139 := funext (fun j => by rw [e4, en_up_ne _ _ _ _ (by omega), en_up_ne _ _ _ _ (by omega), f3 _ _ (by omega)])
        have rows : ∀ p j, 118 ≤ p → p ≤ 136 → I4 p j = I2 p j := fun p j p1 p2 => by rw [e4, en_up_ne _ _ _ _ (by omega), en_up_ne _ _ _ _ (by omega), f3 _ _ (by omega)]
        obtain ⟨v1, v2⟩ := w3 cd2 l h2
        have el : mlst l I4 = mlst l I2 := mlst_cg rows
        refine ⟨fun i hi => ?_, ?_, fun j hj => ?_⟩
        · have w := w2 cd1 l h1 i hi
          have e : (fun i => (I4 121 (36 * l + i)).toInt) = fun i => (sm_up I 107 54 0 121 (36 * l + i)).toInt := funext (fun i => by rw [rows 121 _ (by decide) (by decide), o2 121 _ (by omega)])
          rw [e, g9]; exact w
        · rw [el, e4, en_up_ne _ _ _ _ (by omega), en_up_ne _ _ _ _ (by omega)]; exact v1
        · rw [el] at hj ⊢
          obtain ⟨r1, r2, r3⟩ := v2 j hj
          have c9 : I3 139 = I2 139 := funext (fun j => f3 139 j (by omega))
          rw [rows 124 _ (by decide) (by decide), rows 124 _ (by decide) (by decide), g9, ← c9]
          refine ⟨?_, ?_, ?_⟩
          · rw [e4, en_up_ne _ _ _ _ (by omega), en_up_ne _ _ _ _ (by omega)]; exact r1
          · rw [e4, en_up_ne _ _ _ _ (by omega), en_up_ne _ _ _ _ (by omega)]; exact r2
          · rw [e4, en_up_ne _ _ _ _ (by omega), en_up_ne _ _ _ _ (by omega)]; exact r3
      refine hΦ I4 L2 R2 ⟨?_, ?_, fun p j p1 p2 => ?_⟩ ⟨fun j hj => ⟨?_, ?_⟩, fun j hj => ?_, ?_, ?_, ?_⟩ wm
      · rw [g _ _ (by omega) (by omega) (by omega), hz.1]
      · rw [g _ _ (by omega) (by omega) (by omega), hz.2.1]
      · rw [g _ _ (by omega) (by omega) (by omega), hz.2.2 p j p1 p2]
      · rw [g _ _ (by omega) (by omega) (by omega)]; exact (c1 j hj).1
      · rw [g _ _ (by omega) (by omega) (by omega)]; exact (c1 j hj).2
      · rw [g _ _ (by omega) (by omega) (by omega)]; exact c2 j (by omega)
      · rw [e4, en_up_ne _ _ _ _ (by omega), en_up_ne _ _ _ _ (by omega), f3 _ _ (by omega), f2 107 54 (by decide), en_up_eq]
      · rw [e4, en_up_ne _ _ _ _ (by omega), en_up_eq]
      · rw [e4, en_up_eq]
    · have a := kl_nle a
      rw [(by decide : (60 : Int32).toInt = 60)] at a
      have s1 := ml_in1 (x := x1) (by omega)
      have nx := kl_nat h0
      refine ⟨kl_in h0 (by omega), fun I2 e2 => ih I2 _ ?_ ?_ (fun j hj => ?_) (fun j hj => ?_) (by omega) (by omega) (by omega)⟩
      · rw [e2]
        exact ml_we2 hm rfl (n := 60) (q := (-1, 3)) rfl (by decide)
      · exact ⟨by rw [e2, en_up_ne _ _ _ _ (by omega), hz.1], by rw [e2, en_up_ne _ _ _ _ (by omega), hz.2.1], fun p j p1 p2 => by rw [e2, en_up_ne _ _ _ _ (by omega), hz.2.2 p j p1 p2]⟩
      · rw [e2, en_up_ne _ _ _ _ (by omega), en_up_ne _ _ _ _ (by omega)]; exact c1 j hj
      · by_cases cj : j = x1.toNatClampNeg
        · rw [cj, e2, en_up_eq]
        · rw [e2, en_up_ne _ _ _ _ (by omega)]; exact c2 j (by omega)
theorem y_read26 {v : Int32} {I0 : sm_I} (hΦ : ∀ (J : sm_I) (L' : sm_L) (R' : sm_R), kpt v I0 J → hcM J → (cdM I0 → ∀ l : Nat, (I0 107 18).toInt = l → wmJ l J) → Φ (some (.int 0), (xLay, J, L', kM R'))) : ∀ (k : Nat) (I : sm_I) (x1 : Int32), en_mem ml_tb mlX (xLay, I, L, R) → kpt v I0 I → (∀ j : Nat, (j : Int) < x1.toInt → I 137 j = 0 ∧ I 138 j = -1) → 0 ≤ x1.toInt → x1.toInt ≤ 10 → 10 - x1.toInt < k → sm_wp sm_P S (d + 1) 182 26 [.ref 107, .int x1] [] (xLay, I, L, kM R) (0, 0) Φ := by
  intro k
  induction k with
  | zero => intro I x1 hm hz c1 h0 h1 hM; omega
  | succ k ih =>
    intro I x1 hm hz c1 h0 h1 hM
    refine u_X12_read_26 ⟨fun a => ?_, fun a => ?_⟩
    · have a := kl_le.mp a
      rw [(by decide : (10 : Int32).toInt = 10)] at a
      refine y_read29 hΦ 61 I 0 hm hz (fun j hj => c1 j (by omega)) (fun j hj => ?_) (by decide) (by decide) (by decide)
      rw [kl_0] at hj; omega
    have a := kl_nle a
    rw [(by decide : (10 : Int32).toInt = 10)] at a
    have s1 := ml_in1 (x := x1) (by omega)
    have nx := kl_nat h0
    refine ⟨kl_in h0 (by omega), fun I1 e1 => ⟨kl_in h0 (by omega), fun I2 e2 => ih I2 _ ?_ ?_ (fun j hj => ?_) (by omega) (by omega) (by omega)⟩⟩
    · rw [e2, e1]
      exact ml_we2 (ml_we2 hm rfl (n := 10) (q := (0, 1)) rfl (ml_boo 0)) rfl (n := 10) (q := (-1, 1440)) rfl (by decide)
    · exact ⟨by rw [e2, en_up_ne _ _ _ _ (by omega), e1, en_up_ne _ _ _ _ (by omega), hz.1], by rw [e2, en_up_ne _ _ _ _ (by omega), e1, en_up_ne _ _ _ _ (by omega), hz.2.1], fun p j p1 p2 => by rw [e2, en_up_ne _ _ _ _ (by omega), e1, en_up_ne _ _ _ _ (by omega), hz.2.2 p j p1 p2]⟩
    · by_cases cj : j = x1.toNatClampNeg
      · refine ⟨?_, ?_⟩
        · rw [cj, e2, en_up_ne _ _ _ _ (by omega), e1, en_up_eq]; rfl
        · rw [cj, e2, en_up_eq]
      · refine ⟨?_, ?_⟩
        · rw [e2, en_up_ne _ _ _ _ (by omega), e1, en_up_ne _ _ _ _ (by omega)]; exact (c1 j (by omega)).1
        · rw [e2, en_up_ne _ _ _ _ (by omega), e1, en_up_ne _ _ _ _ (by omega)]; exact (c1 j (by omega)).2
theorem y_read21 {s1 : Int32} (hls : ml_ls l s) (hT : ml_TI l s I) (b1 : -1 ≤ s1.toInt ∧ s1.toInt ≤ 2000) (hm : en_mem ml_tb mlX (xLay, I, L, R)) (hF : ¬ I 107 13 ≤ 0 → Φ (some (.int (I 107 13)), (xLay, sm_up I 107 17 s1, L, kM R))) (hW : I 107 13 ≤ 0 → ¬ I 107 15 ≤ 0 → Φ (some (.int (I 107 15)), (xLay, sm_up I 107 17 s1, L, kM R))) (hN : I 107 13 ≤ 0 → I 107 15 ≤ 0 → ∀ (J : sm_I) (L' : sm_L) (R' : sm_R), J 107 17 = s1 → J 107 18 = I 107 19 → (∀ p j, 118 ≤ p → p ≤ 136 → J p j = I p j) → hcM J → (I 107 15 = 0 → WB 1440 (fun i => (I 121 (36 * s + i)).toInt) → wmJ s J) → Φ (some (.int 0), (xLay, J, L', kM R'))) : sm_wp sm_P S (d + 1) 182 21 [.ref 107] [.int s1, .ref 107] (xLay, I, L, kM R) (0, 0) Φ := by
  obtain ⟨hl, hs⟩ := ml_l1 hls
  have m1 : en_mem ml_tb mlX (xLay, sm_up I 107 17 s1, L, R) := ml_wf hm (by decide +kernel) (q := (-1, 2000)) (by decide +kernel) b1
  have e13 : sm_up I 107 17 s1 107 13 = I 107 13 := en_up_ne _ _ _ _ (by omega)
  have e15 : sm_up I 107 17 s1 107 15 = I 107 15 := en_up_ne _ _ _ _ (by omega)
  have b15 : 0 ≤ (sm_up I 107 17 s1 107 15).toInt ∧ (sm_up I 107 17 s1 107 15).toInt ≤ 5 := m1.2.1 107 15 (0, 5) (by decide +kernel)
  refine u_X12_read_21 ?_
  rw [e13, e15]
  refine ⟨fun q13 => ⟨fun c => fun I1 e1 => ?_, fun c => hW q13 c⟩, fun q13 => hF q13⟩
  have c15 : I 107 15 = 0 := by
    have c := kl_le.mp c
    rw [kl_0] at c
    rw [e15] at b15
    exact en_ofI (by rw [kl_0]; omega)
  have e19 : sm_up I 107 17 s1 107 19 = I 107 19 := en_up_ne _ _ _ _ (by omega)
  rw [e19] at e1
  have o1 : ∀ p j, ¬ (p = 107 ∧ (j = 17 ∨ j = 18)) → I1 p j = I p j := fun p j hp => by rw [e1, en_up_ne _ _ _ _ (by omega), en_up_ne _ _ _ _ (by omega)]
  have g18 : I1 107 18 = I 107 19 := by rw [e1, en_up_eq]
  have mI : en_mem ml_tb mlX (xLay, I1, L, R) := by
    have X := hm.2.2.2.2
    have hX : mlX (xLay, I1, L, R) := by
      refine ⟨rfl, fun k hk => ?_, fun k hk => ?_, mlP_cg (fun j => o1 165 j (by omega)) X.2.2.2.1, mlN_cg (fun j => o1 116 j (by omega)) (fun j => o1 117 j (by omega)) X.2.2.2.2.1, X.2.2.2.2.2⟩
      · show (I1 148 k).toInt ≤ 54 ∨ 60 ≤ (I1 148 k).toInt
        rw [o1 148 k (by omega)]; exact X.2.1 k hk
      · have hk : (k : Int) = (I1 107 18).toInt := hk
        rw [g18, hT.2.1] at hk
        have hk : k = s := by omega
        subst hk
        exact mlV_cg (fun p hp j => o1 p j (by omega)) (hT.2.2.2 c15)
    rw [e1] at hX ⊢
    refine ml_wr m1 hX (fun q hq => ?_)
    have e : en_int ml_tb 107 18 = some (0, 1) := by decide +kernel
    rw [e] at hq
    rw [← Option.some.inj hq]
    show 0 ≤ (I 107 19).toInt ∧ (I 107 19).toInt ≤ 1
    have := hT.2.1
    omega
  have h1s : (I1 107 18).toInt = s := by rw [g18]; exact hT.2.1
  have cd : I 107 15 = 0 → WB 1440 (fun i => (I 121 (36 * s + i)).toInt) → cdM I1 := fun z w l' hl' => by
    have e : l' = s := by omega
    subst e
    refine ⟨hs, ?_, fun i hi hk => ?_⟩
    · have e : (fun i => (I1 121 (36 * l' + i)).toInt) = fun i => (I 121 (36 * l' + i)).toInt := funext (fun i => by rw [o1 121 _ (by omega)])
      rw [e]; exact w
    · rw [o1 122 _ (by omega)] at hi
      rw [o1 123 _ (by omega)] at hk
      have b5 : (I1 124 (10 * l' + i)).toInt ≤ 5 := by
        have tb := (ml_cs hs hm).2.2.1
        exact (ml_row mI (p := 124) (n := 20) (q := (-1, 5)) (fun _ => rfl) (10 * l' + i) (by omega)).2
      refine ⟨?_, b5⟩
      rw [o1 124 _ (by omega)]
      exact (hT.2.2.2 z).1 i hi (fun q => hk (en_ofI (by rw [q]; decide)))
  exact y_read26 (v := s1) (I0 := I1) (fun J L' R' q qh qw => hN q13 c J L' R' q.1 (by rw [q.2.1, g18]) (fun p j p1 p2 => by rw [q.2.2 p j p1 p2]; exact o1 p j (by omega)) qh (fun z w => qw (cd z w) s h1s)) 11 I1 0 mI ⟨by rw [e1, en_up_ne _ _ _ _ (by omega), en_up_eq], rfl, fun _ _ _ _ => rfl⟩ (fun j hj => by rw [kl_0] at hj; omega) (by decide) (by decide) (by decide)
theorem x_read13 {I0 : sm_I} (hT : TS K P V W N c) (hls : ml_ls l s) (hΦ : ∀ (r : Int32) (J : sm_I) (L' : sm_L) (R' : sm_R), RDx P R0 M0 r J → LVx l I0 r J → Φ (some (.int r), (xLay, J, L', kM R'))) : ∀ (f : Nat) (I : sm_I) (L : sm_L) (m : mo) (o : Option sg), ml_TI l s I → lvf l I0 I → en_mem ml_tb mlX (xLay, I, L, R) → PX K P V W N c R0 M0 m o I L → (m = none ∨ ∃ t g, m = some (t, 0, g) ∧ rG s g I ∧ (∀ a, o = some a → rL K V W s t a I L) ∧ 500 < t + f) → sm_wp sm_P S (d + 8) 182 13 [.ref 107] [] (xLay, I, L, kM R) (0, 0) Φ := by
  -- the grammar has failed
  have outF : ∀ (I : sm_I) (L : sm_L), ml_TI l s I → lvf l I0 I → en_mem ml_tb mlX (xLay, I, L, R) → PSm K P W N c R0 none I L → (((I 107 13) ≤ 0 → (((I 107 15) ≤ 0 → sm_wp sm_P S (d + 8) 182 21 [.ref 107] [.int (-1 : Int32), .ref 107] (xLay, I, L, (kM R)) (0, 0) Φ) ∧ (¬ (I 107 15) ≤ 0 → sm_wp sm_P S (d + 8) 182 21 [.ref 107] [.int (I 107 16), .ref 107] (xLay, I, L, (kM R)) (0, 0) Φ))) ∧ (¬ (I 107 13) ≤ 0 → sm_wp sm_P S (d + 8) 182 21 [.ref 107] [.int (I 107 14), .ref 107] (xLay, I, L, (kM R)) (0, 0) Φ)) := by
    intro I L hI hv hm hS
    have nz := PS_no hS
    have np : ¬ I 107 13 ≤ 0 := fun q => nz (PS_le0 hS q)
    have b14 : 0 ≤ (I 107 14).toInt ∧ (I 107 14).toInt ≤ 2000 := hm.2.1 107 14 (0, 2000) (by decide +kernel)
    obtain ⟨-, j, j1, j2⟩ := hS.2.2.2
    refine ⟨fun q => absurd q np, fun _ => y_read21 hls hI (by omega) hm (fun _ => hΦ _ _ L R ⟨fun f' j' q => ?_, fun q => ?_⟩ (lv_up hI hv)) (fun q => absurd q np) (fun q => absurd q np)⟩
    · rw [j1] at q
      have q := Option.some.inj q
      have q1 : I 107 13 = f' := congrArg Prod.fst q
      have q2 : j = j' := congrArg Prod.snd q
      exact ⟨q1, by rw [en_up_eq, ← q2]; exact j2⟩
    · rw [j1] at q; cases q
  -- the text's end
  have outE : ∀ (I : sm_I) (L : sm_L) (t : Nat) (g : gc) (o : Option sg), ml_TI l s I → lvf l I0 I → en_mem ml_tb mlX (xLay, I, L, R) → PX K P V W N c R0 M0 (some (t, 0, g)) o I L → (∀ a, o = some a → rL K V W s t a I L) → K t = 21 → (((I 107 13) ≤ 0 → (((I 107 15) ≤ 0 → sm_wp sm_P S (d + 8) 182 21 [.ref 107] [.int (-1 : Int32), .ref 107] (xLay, I, L, (kM R)) (0, 0) Φ) ∧ (¬ (I 107 15) ≤ 0 → sm_wp sm_P S (d + 8) 182 21 [.ref 107] [.int (I 107 16), .ref 107] (xLay, I, L, (kM R)) (0, 0) Φ))) ∧ (¬ (I 107 13) ≤ 0 → sm_wp sm_P S (d + 8) 182 21 [.ref 107] [.int (I 107 14), .ref 107] (xLay, I, L, (kM R)) (0, 0) Φ)) := by
    intro I L t g o hI hv hm hX hrl k21
    have z := PS_so hX.1
    have zl : I 107 13 ≤ 0 := by rw [z]; decide
    have t5 : t ≤ 500 := by have := hX.1.2.2.2.2.1; have := hX.1.2.2.1; omega
    have hs := SY_s t5 hX.1.2.2.2.2.2.2.1
    have ef : gf 0 (K t) t g = 0 := by
      rw [k21]; unfold gf
      rw [if_neg (fun q => q.elim (fun y => absurd y (by decide +kernel)) (fun y => absurd y.1 (by decide))), if_pos rfl]
    rw [ef, if_pos rfl, if_pos k21] at hs
    have b16 : 0 ≤ (I 107 16).toInt ∧ (I 107 16).toInt ≤ 2000 := hm.2.1 107 16 (0, 2000) (by decide +kernel)
    have pe : PEm K P V M0 (t, o.map (fun a => ((0 : Int32), a))) I := hX.2
    refine ⟨fun _ => ⟨fun w => ?_, fun w => ?_⟩, fun q => absurd zl q⟩
    · cases eo : o with
      | none =>
        rw [eo] at pe
        obtain ⟨p1, -⟩ := pe z
        have w := kl_le.mp w
        rw [kl_0] at w
        have p1 : 0 < (I 107 15).toInt := p1
        omega
      | some a =>
        rw [eo] at pe
        obtain ⟨p1, p2⟩ := pe z
        have p2 := ME_s t5 p2
        rw [if_pos k21] at p2
        refine y_read21 hls hI (by decide) hm (fun q => absurd zl q) (fun _ q => absurd w q) (fun _ _ J L' R' eJ e18 oJ oh ow => hΦ 0 J L' R' ⟨fun f' j' q => ?_, fun _ => ⟨fun f' j' q => ?_, fun _ => ⟨rfl, eJ, oh, s, (ml_l1 hls).2, by rw [e18]; exact hI.2.1, ?_, fun hw => ow ?_ ?_⟩⟩⟩ (fun q => absurd rfl q))
        · rw [← hs] at q; cases q
        · rw [← p2] at q; cases q
        · have w := hrl a eo
          rw [← p2]
          exact TD_cg oJ ⟨w.2.1, w.2.2.1, w.2.2.2.1, w.2.2.2.2.1, w.2.2.2.2.2.1, w.2.2.2.2.2.2.1⟩
        · have b15 : 0 ≤ (I 107 15).toInt ∧ (I 107 15).toInt ≤ 5 := hm.2.1 107 15 (0, 5) (by decide +kernel)
          have w := kl_le.mp w
          rw [kl_0] at w
          exact en_ofI (by rw [kl_0]; omega)
        · have rw_ := (hrl a eo).2.2.2.2.1
          rw [← p2] at hw
          refine ⟨fun i hi => ?_, fun x hx => ?_⟩
          · show -1 ≤ (I 121 (36 * s + i)).toInt ∧ (I 121 (36 * s + i)).toInt ≤ 1440
            rcases rw_ i hi with ⟨e1, e2⟩ | ⟨e1, e2⟩
            · rw [e1]; decide
            · rcases hw.2.2.2 i hi with c | c
              · rw [c] at e2
                rw [← e2] at e1
                exact absurd e1 (by decide)
              · rw [e2] at c
                omega
          · have z := hw.2.1 x hx
            rcases rw_ (7 * x) (by omega) with ⟨e1, e2⟩ | ⟨e1, e2⟩
            · rw [z] at e2
              exact absurd e2 (by decide)
            · show (I 121 (36 * s + 7 * x)).toInt = 0
              rw [← e2]
              exact (congrArg Int32.toInt z).trans (by decide)
    · cases eo : o with
      | none =>
        rw [eo] at pe
        obtain ⟨p1, j, p2, p3, p4⟩ := pe z
        refine y_read21 hls hI (by omega) hm (fun q => absurd zl q) (fun _ _ => hΦ _ _ L R ⟨fun f' j' q => ?_, fun _ => ⟨fun f' j' q => ?_, fun q => ?_⟩⟩ (lv_up hI hv)) (fun _ q => absurd q w)
        · rw [← hs] at q; cases q
        · rw [p3] at q
          have q := Option.some.inj q
          have q1 : I 107 15 = f' := congrArg Prod.fst q
          have q2 : j = j' := congrArg Prod.snd q
          exact ⟨q1, by rw [en_up_eq, ← q2]; exact p4⟩
        · rw [p3] at q; cases q
      | some a =>
        rw [eo] at pe
        obtain ⟨p1, -⟩ := pe z
        exact absurd (show I 107 15 ≤ 0 by rw [show I 107 15 = 0 from p1]; decide) w
  intro f
  induction f with
  | zero =>
    intro I L m o hI hv hm hX hq
    rcases hq with hq | ⟨t, g, em, h1, h2, h3⟩
    · subst hq
      exact u_X12_read_13 ⟨fun q => absurd q (PS_no hX.1), fun _ => outF I L hI hv hm hX.1⟩
    · exfalso
      have hS := hX.1
      rw [em] at hS
      have := hS.2.2.1
      have : (I 107 11).toInt = t := hS.2.2.2.2.1
      omega
  | succ f ih =>
    intro I L m o hI hv hm hX hq
    rcases hq with hq | ⟨t, g, em, h1, h2, h3⟩
    · subst hq
      exact u_X12_read_13 ⟨fun q => absurd q (PS_no hX.1), fun _ => outF I L hI hv hm hX.1⟩
    · subst em
      have z := PS_so hX.1
      refine u_X12_read_13 ⟨fun _ => x_is (i := 21) hT (by decide) rfl hX.1 (fun r _ hr => ⟨r, I, L, R, rfl, fun r0 => ?_, fun r1 => ?_⟩), fun q => absurd z q⟩
      · have n21 : K t ≠ 21 := fun q => absurd r0 (hr.mpr ⟨t, 0, g, rfl, q⟩)
        have A : sm_wp sm_P S (d + 7) 195 0 [.ref 107] [] (xLay, I, L, kM R) (0, 0) (fun z => ∃ (J : sm_I) (L' : sm_L), z = (none, (xLay, J, L', kM R)) ∧ ml_ok l s R I J L') := mx_tell hls hm hI (fun J L' q => ⟨J, L', rfl, q⟩)
        have B : sm_wp sm_P S (d + 7) 195 0 [.ref 107] [] (xLay, I, L, kM R) (0, 0) (fun z => ∃ (J : sm_I) (L' : sm_L), z = (none, (xLay, J, L', kM R)) ∧ TP K P V W N c R0 M0 s t J L') := x_tell hT hls hm hI hX h1 h2 n21 (fun J L' q => ⟨J, L', rfl, q⟩)
        refine sm_wp_mono (sm_wp_and A B) (fun zz hz => ?_)
        obtain ⟨⟨J, L', ez, mJ, pJ, TJ, -⟩, J2, L2, ez2, tp⟩ := hz
        have e1 := ez.symm.trans ez2
        have eJ : J = J2 := congrArg (fun q : sm_Z => q.2.2.1) e1
        have eL : L' = L2 := congrArg (fun q : sm_Z => q.2.2.2.1) e1
        subst eJ
        subst eL
        obtain ⟨m', o', XJ, rel⟩ := tp
        refine ⟨J, L', R, ez, ih J L' m' o' TJ (lv_D hv pJ) mJ XJ ?_⟩
        rcases rel with rel | ⟨t', g', em', w1, w2, w3⟩
        · exact Or.inl rel
        · exact Or.inr ⟨t', g', em', w2, w3, by omega⟩
      · obtain ⟨t', s', g', em', k21⟩ := hr.mp r1
        have e1 := (mo_i em').1
        subst e1
        exact outE I L t g o hI hv hm hX h2 k21
end
end
