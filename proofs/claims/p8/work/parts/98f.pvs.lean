/-! the reference's tell, exact: which one (wip/pe/mk98f.py) -/
section
variable {K : Nat → Int32} {P : Nat → Nat} {V W : Nat → Int64} {N : Nat → Int32} {c : Nat} {R0 : Option (Int32 × Nat)} {M0 : Option (Int32 × Nat) × sg}
variable {S : sm_C} {d : Nat} {Φ : sm_Z → Prop} {I : sm_I} {L : sm_L} {R : sm_R} {m : mo} {o : Option sg} {l s t : Nat} {g : gc}
theorem fw0_no : ∀ i, i < 22 → fw 0 (Int32.ofNat i) = -1 ∨ i = 0 ∨ i = 1 ∨ i = 2 ∨ i = 3 ∨ i = 6 ∨ i = 8 ∨ i = 10 ∨ i = 12 ∨ i = 21 := by decide +kernel
theorem x_tell (hT : TS K P V W N c) (hls : ml_ls l s) (hm : en_mem ml_tb mlX (xLay, I, L, R)) (hI : ml_TI l s I) (hX : PX K P V W N c R0 M0 (some (t, 0, g)) o I L) (hG : rG s g I) (hR : ∀ a, o = some a → rL K V W s t a I L) (n21 : K t ≠ 21) (h : ∀ (J : sm_I) (L' : sm_L), TP K P V W N c R0 M0 s t J L' → Φ (none, (xLay, J, L', kM R))) : sm_wp sm_P S (d + 7) 195 0 [.ref 107] [] (xLay, I, L, kM R) (0, 0) Φ := by
  obtain ⟨hl1, hs1⟩ := ml_l1 hls
  obtain ⟨sn, sv⟩ := ml_sn hls hI
  have bc := ml_cs hs1 hm
  have b34 := x_34 hs1 hm
  have b120 : 0 ≤ (I 120 s).toInt ∧ (I 120 s).toInt ≤ 12 := ml_row hm (p := 120) (n := 2) (q := (0, 12)) (fun _ => rfl) s (by omega)
  have z := PS_so hX.1
  have bt := hX.1.2.1
  have bt2 := hX.1.2.2.1
  have h11 : (I 107 11).toInt = t := hX.1.2.2.2.2.1
  have tc : t ≤ c := hX.1.2.2.2.2.2.1
  have t5 : t ≤ 500 := by omega
  have hSY : SY K (501 - t) t 0 g = R0 := hX.1.2.2.2.2.2.2.1
  have hs := SY_s t5 hSY
  have kr := hT.2.1 t
  have e110 := (hX.1.1.1 t tc t5).1
  obtain ⟨e, hE, -⟩ := PX_e hX
  -- the word is none that begins a tell
  have no : fw 0 (K t) = -1 → sm_wp sm_P S (d + 6) 123 0 [.ref 107, .int (1 : Int32)] [] (xLay, I, L, (kM R)) (0, 0) (fun z => ∃ (I65 : sm_I) (L66 : sm_L) (R67 : sm_R), z = (none, (xLay, I65, L66, (kM R67))) ∧ sm_wp sm_P S (d + 7) 195 30 [] [] (xLay, I65, L66, (kM R67)) (0, 0) Φ) := fun q => by
    refine x_fail (by decide) hX.1 hE (fun t' s' g' em => ?_) (fun J f _ p _ => ⟨J, L, R, rfl, u_X12_tell_30 (h J L ⟨none, none, PX_F p, Or.inl rfl⟩)⟩)
    obtain ⟨rfl, rfl, rfl⟩ := mo_i em
    have ef : gf 0 (K t) t g = 1 := by unfold gf; rw [if_pos (Or.inl q)]
    rw [ef, if_neg (by decide)] at hs
    exact hs.symm
  -- there are as many as there may be
  have full : ∀ k : Int32, K t = k → fw 0 k ≠ -1 → ¬ (k = 9 ∨ k = 13) → k.toInt < 15 → (sm_room.getD (gw k) 0).toInt < (g.tells (gw k) : Int) + 1 → ∀ t' s' g', (some (t, (0 : Int32), g) : mo) = some (t', s', g') → R0 = some (2, t') := fun k ek kf k9 k15 fu t' s' g' em => by
    obtain ⟨rfl, rfl, rfl⟩ := mo_i em
    have ef : gf 0 (K t) t g = 2 := by
      unfold gf
      rw [if_neg (by rw [ek]; exact fun y => y.elim (fun w => kf w) (fun w => k9 w.1)), if_neg n21]
      by_cases c5 : 500 ≤ t
      · rw [if_pos c5]
      · rw [if_neg c5, if_neg]
        rw [ek]
        unfold gc_ok
        rw [if_pos ⟨rfl, k15⟩]
        intro y
        have y := of_decide_eq_true y
        omega
    rw [ef, if_neg (by decide)] at hs
    exact hs.symm
  obtain ⟨G1, G2, G3, G4, G5, G6, G7⟩ := hG
  have kk : ∀ i, i < 22 → (kd_m.getD (K t).toNatClampNeg 0 = kd_m.getD i 0 ↔ K t = Int32.ofNat i) := fun i hi => kd_is kr.1 kr.2 hi
  have val : ∀ (n1 x : Int32), n1 = kd_m.getD (K t).toNatClampNeg 0 → n1.toInt = x.toInt → kd_m.getD (K t).toNatClampNeg 0 = x := fun n1 x en ex => by rw [← en]; exact en_ofI ex
  refine u_X12_tell_0 ⟨kl_in bt (by omega), fun n1 en => ?_⟩
  rw [tk_nat h11, e110] at en
  have dead : (∀ i, i < 22 → (i = 0 ∨ i = 1 ∨ i = 2 ∨ i = 3 ∨ i = 6 ∨ i = 8 ∨ i = 10 ∨ i = 12) → ¬ n1.toInt = (kd_m.getD i 0).toInt) → fw 0 (K t) = -1 := fun q => by
    obtain ⟨i, i1, i2⟩ := k_lt22 kr.1 kr.2
    rcases fw0_no i i1 with y | y
    · rw [i2]; exact y
    · exfalso
      have eq : n1 = kd_m.getD i 0 := by rw [en]; exact (kk i i1).mpr i2
      by_cases y21 : i = 21
      · rw [y21] at i2; exact n21 i2
      · exact q i i1 (by omega) (by rw [eq])
  rw [sn]
  have tl20 : n1.toInt = 20 → (vp_in (I 107 19) 2) ∧ (((I 118 s) = (4 : Int32) → sm_wp sm_P S (d + 6) 123 0 [.ref 107, .int (2 : Int32)] [] (xLay, I, L, (kM R)) (0, 0) (fun z => ∃ (I92 : sm_I) (L93 : sm_L) (R94 : sm_R), z = (none, (xLay, I92, L93, (kM R94))) ∧ sm_wp sm_P S (d + 7) 195 3 [.ref 107] [] (xLay, I92, L93, (kM R94)) (0, 0) Φ)) ∧ (¬ (I 118 s) = (4 : Int32) → sm_wp sm_P S (d + 7) 195 3 [.ref 107] [] (xLay, I, L, (kM R)) (0, 0) Φ)) := fun q => by
    have ek : K t = 0 := (kk 0 (by decide)).mp (val n1 20 en q)
    refine ⟨sv, fun fu => ?_, fun nf => ?_⟩
    · refine x_fail (by decide) hX.1 hE (full 0 ek (by decide +kernel) (by decide) (by decide) ?_) (fun J f _ p _ => ⟨J, L, R, rfl, u_X12_tell_3 ⟨fun y => absurd y (PS_no p), fun _ => u_X12_tell_30 (h J L ⟨none, none, PX_F p, Or.inl rfl⟩)⟩⟩)
      have y := congrArg Int32.toInt fu
      rw [show (4 : Int32).toInt = 4 from by decide] at y
      rw [show gw 0 = 0 from by decide, show (sm_room.getD 0 0).toInt = 4 from by decide]
      omega
    · have nf' : (I 118 s).toInt ≠ 4 := fun y => nf (en_ofI (by rw [y]; decide))
      exact u_X12_tell_3 ⟨fun _ => x_tellName0 (d := d + 2) hT hls hm hI hX ⟨G1, G2, G3, G4, G5, G6, G7⟩ hR ek (by omega) (fun J L' tp => ⟨J, L', R, rfl, u_X12_tell_30 (h J L' tp)⟩), fun y => absurd z y⟩
  have tl21 : n1.toInt = 21 → (vp_in (I 107 19) 2) ∧ (((I 119 s) = (6 : Int32) → sm_wp sm_P S (d + 6) 123 0 [.ref 107, .int (2 : Int32)] [] (xLay, I, L, (kM R)) (0, 0) (fun z => ∃ (I92 : sm_I) (L93 : sm_L) (R94 : sm_R), z = (none, (xLay, I92, L93, (kM R94))) ∧ sm_wp sm_P S (d + 7) 195 7 [.ref 107] [] (xLay, I92, L93, (kM R94)) (0, 0) Φ)) ∧ (¬ (I 119 s) = (6 : Int32) → sm_wp sm_P S (d + 7) 195 7 [.ref 107] [] (xLay, I, L, (kM R)) (0, 0) Φ)) := fun q => by
    have ek : K t = 1 := (kk 1 (by decide)).mp (val n1 21 en q)
    refine ⟨sv, fun fu => ?_, fun nf => ?_⟩
    · refine x_fail (by decide) hX.1 hE (full 1 ek (by decide +kernel) (by decide) (by decide) ?_) (fun J f _ p _ => ⟨J, L, R, rfl, u_X12_tell_7 ⟨fun y => absurd y (PS_no p), fun _ => u_X12_tell_30 (h J L ⟨none, none, PX_F p, Or.inl rfl⟩)⟩⟩)
      have y := congrArg Int32.toInt fu
      rw [show (6 : Int32).toInt = 6 from by decide] at y
      rw [show gw 1 = 1 from by decide, show (sm_room.getD 1 0).toInt = 6 from by decide]
      omega
    · have nf' : (I 119 s).toInt ≠ 6 := fun y => nf (en_ofI (by rw [y]; decide))
      exact u_X12_tell_7 ⟨fun _ => x_tellName1 (d := d + 2) hT hls hm hI hX ⟨G1, G2, G3, G4, G5, G6, G7⟩ hR ek (by omega) (fun J L' tp => ⟨J, L', R, rfl, u_X12_tell_30 (h J L' tp)⟩), fun y => absurd z y⟩
  have tl22 : n1.toInt = 22 → (vp_in (I 107 19) 2) ∧ (((I 120 s) = (12 : Int32) → sm_wp sm_P S (d + 6) 123 0 [.ref 107, .int (2 : Int32)] [] (xLay, I, L, (kM R)) (0, 0) (fun z => ∃ (I92 : sm_I) (L93 : sm_L) (R94 : sm_R), z = (none, (xLay, I92, L93, (kM R94))) ∧ sm_wp sm_P S (d + 7) 195 11 [.ref 107] [] (xLay, I92, L93, (kM R94)) (0, 0) Φ)) ∧ (¬ (I 120 s) = (12 : Int32) → sm_wp sm_P S (d + 7) 195 11 [.ref 107] [] (xLay, I, L, (kM R)) (0, 0) Φ)) := fun q => by
    have ek : K t = 2 := (kk 2 (by decide)).mp (val n1 22 en q)
    refine ⟨sv, fun fu => ?_, fun nf => ?_⟩
    · refine x_fail (by decide) hX.1 hE (full 2 ek (by decide +kernel) (by decide) (by decide) ?_) (fun J f _ p _ => ⟨J, L, R, rfl, u_X12_tell_11 ⟨fun y => absurd y (PS_no p), fun _ => u_X12_tell_30 (h J L ⟨none, none, PX_F p, Or.inl rfl⟩)⟩⟩)
      have y := congrArg Int32.toInt fu
      rw [show (12 : Int32).toInt = 12 from by decide] at y
      rw [show gw 2 = 2 from by decide, show (sm_room.getD 2 0).toInt = 12 from by decide]
      omega
    · have nf' : (I 120 s).toInt ≠ 12 := fun y => nf (en_ofI (by rw [y]; decide))
      exact u_X12_tell_11 ⟨fun _ => x_tellWay (d := d + 2) hT hls hm hI hX ⟨G1, G2, G3, G4, G5, G6, G7⟩ hR ek (by omega) (fun J L' tp => ⟨J, L', R, rfl, u_X12_tell_30 (h J L' tp)⟩), fun y => absurd z y⟩
  have tl23 : n1.toInt = 23 → (vp_in (I 107 19) 2) ∧ (((I 122 s) = (10 : Int32) → sm_wp sm_P S (d + 6) 123 0 [.ref 107, .int (2 : Int32)] [] (xLay, I, L, (kM R)) (0, 0) (fun z => ∃ (I92 : sm_I) (L93 : sm_L) (R94 : sm_R), z = (none, (xLay, I92, L93, (kM R94))) ∧ sm_wp sm_P S (d + 7) 195 15 [.ref 107] [] (xLay, I92, L93, (kM R94)) (0, 0) Φ)) ∧ (¬ (I 122 s) = (10 : Int32) → sm_wp sm_P S (d + 7) 195 15 [.ref 107] [] (xLay, I, L, (kM R)) (0, 0) Φ)) := fun q => by
    have ek : K t = 3 := (kk 3 (by decide)).mp (val n1 23 en q)
    refine ⟨sv, fun fu => ?_, fun nf => ?_⟩
    · refine x_fail (by decide) hX.1 hE (full 3 ek (by decide +kernel) (by decide) (by decide) ?_) (fun J f _ p _ => ⟨J, L, R, rfl, u_X12_tell_15 ⟨fun y => absurd y (PS_no p), fun _ => u_X12_tell_30 (h J L ⟨none, none, PX_F p, Or.inl rfl⟩)⟩⟩)
      have y := congrArg Int32.toInt fu
      rw [show (10 : Int32).toInt = 10 from by decide] at y
      rw [show gw 3 = 3 from by decide, show (sm_room.getD 3 0).toInt = 10 from by decide]
      omega
    · have nf' : (I 122 s).toInt ≠ 10 := fun y => nf (en_ofI (by rw [y]; decide))
      exact u_X12_tell_15 ⟨fun _ => x_tellTime (d := d + 2) hT hls hm hI hX ⟨G1, G2, G3, G4, G5, G6, G7⟩ hR ek (by omega) (fun J L' tp => ⟨J, L', R, rfl, u_X12_tell_30 (h J L' tp)⟩), fun y => absurd z y⟩
  have tl26 : n1.toInt = 26 → (vp_in (I 107 19) 2) ∧ (((I 125 s) = (10 : Int32) → sm_wp sm_P S (d + 6) 123 0 [.ref 107, .int (2 : Int32)] [] (xLay, I, L, (kM R)) (0, 0) (fun z => ∃ (I92 : sm_I) (L93 : sm_L) (R94 : sm_R), z = (none, (xLay, I92, L93, (kM R94))) ∧ sm_wp sm_P S (d + 7) 195 19 [.ref 107] [] (xLay, I92, L93, (kM R94)) (0, 0) Φ)) ∧ (¬ (I 125 s) = (10 : Int32) → sm_wp sm_P S (d + 7) 195 19 [.ref 107] [] (xLay, I, L, (kM R)) (0, 0) Φ)) := fun q => by
    have ek : K t = 6 := (kk 6 (by decide)).mp (val n1 26 en q)
    refine ⟨sv, fun fu => ?_, fun nf => ?_⟩
    · refine x_fail (by decide) hX.1 hE (full 6 ek (by decide +kernel) (by decide) (by decide) ?_) (fun J f _ p _ => ⟨J, L, R, rfl, u_X12_tell_19 ⟨fun y => absurd y (PS_no p), fun _ => u_X12_tell_30 (h J L ⟨none, none, PX_F p, Or.inl rfl⟩)⟩⟩)
      have y := congrArg Int32.toInt fu
      rw [show (10 : Int32).toInt = 10 from by decide] at y
      rw [show gw 6 = 6 from by decide, show (sm_room.getD 6 0).toInt = 10 from by decide]
      omega
    · have nf' : (I 125 s).toInt ≠ 10 := fun y => nf (en_ofI (by rw [y]; decide))
      exact u_X12_tell_19 ⟨fun _ => x_tellSay (d := d + 0) hT hls hm hI hX ⟨G1, G2, G3, G4, G5, G6, G7⟩ hR ek (by omega) (fun J L' tp => ⟨J, L', R, rfl, u_X12_tell_30 (h J L' tp)⟩), fun y => absurd z y⟩
  have tl27 : n1.toInt = 27 → (vp_in (I 107 19) 2) ∧ (((I 125 s) = (10 : Int32) → sm_wp sm_P S (d + 6) 123 0 [.ref 107, .int (2 : Int32)] [] (xLay, I, L, (kM R)) (0, 0) (fun z => ∃ (I92 : sm_I) (L93 : sm_L) (R94 : sm_R), z = (none, (xLay, I92, L93, (kM R94))) ∧ sm_wp sm_P S (d + 7) 195 19 [.ref 107] [] (xLay, I92, L93, (kM R94)) (0, 0) Φ)) ∧ (¬ (I 125 s) = (10 : Int32) → sm_wp sm_P S (d + 7) 195 19 [.ref 107] [] (xLay, I, L, (kM R)) (0, 0) Φ)) := fun q => by
    have ek : K t = 8 := (kk 8 (by decide)).mp (val n1 27 en q)
    refine ⟨sv, fun fu => ?_, fun nf => ?_⟩
    · refine x_fail (by decide) hX.1 hE (full 8 ek (by decide +kernel) (by decide) (by decide) ?_) (fun J f _ p _ => ⟨J, L, R, rfl, u_X12_tell_19 ⟨fun y => absurd y (PS_no p), fun _ => u_X12_tell_30 (h J L ⟨none, none, PX_F p, Or.inl rfl⟩)⟩⟩)
      have y := congrArg Int32.toInt fu
      rw [show (10 : Int32).toInt = 10 from by decide] at y
      rw [show gw 8 = 6 from by decide, show (sm_room.getD 6 0).toInt = 10 from by decide]
      omega
    · have nf' : (I 125 s).toInt ≠ 10 := fun y => nf (en_ofI (by rw [y]; decide))
      exact u_X12_tell_19 ⟨fun _ => x_tellSure (d := d + 0) hT hls hm hI hX ⟨G1, G2, G3, G4, G5, G6, G7⟩ hR ek (by omega) (fun J L' tp => ⟨J, L', R, rfl, u_X12_tell_30 (h J L' tp)⟩), fun y => absurd z y⟩
  have tl32 : n1.toInt = 32 → (vp_in (I 107 19) 2) ∧ (((I 134 s) = (4 : Int32) → sm_wp sm_P S (d + 6) 123 0 [.ref 107, .int (2 : Int32)] [] (xLay, I, L, (kM R)) (0, 0) (fun z => ∃ (I92 : sm_I) (L93 : sm_L) (R94 : sm_R), z = (none, (xLay, I92, L93, (kM R94))) ∧ sm_wp sm_P S (d + 7) 195 23 [.ref 107] [] (xLay, I92, L93, (kM R94)) (0, 0) Φ)) ∧ (¬ (I 134 s) = (4 : Int32) → sm_wp sm_P S (d + 7) 195 23 [.ref 107] [] (xLay, I, L, (kM R)) (0, 0) Φ)) := fun q => by
    have ek : K t = 10 := (kk 10 (by decide)).mp (val n1 32 en q)
    refine ⟨sv, fun fu => ?_, fun nf => ?_⟩
    · refine x_fail (by decide) hX.1 hE (full 10 ek (by decide +kernel) (by decide) (by decide) ?_) (fun J f _ p _ => ⟨J, L, R, rfl, u_X12_tell_23 ⟨fun y => absurd y (PS_no p), fun _ => u_X12_tell_30 (h J L ⟨none, none, PX_F p, Or.inl rfl⟩)⟩⟩)
      have y := congrArg Int32.toInt fu
      rw [show (4 : Int32).toInt = 4 from by decide] at y
      rw [show gw 10 = 10 from by decide, show (sm_room.getD 10 0).toInt = 4 from by decide]
      omega
    · have nf' : (I 134 s).toInt ≠ 4 := fun y => nf (en_ofI (by rw [y]; decide))
      exact u_X12_tell_23 ⟨fun _ => x_tellOpen (d := d + 2) hT hls hm hI hX ⟨G1, G2, G3, G4, G5, G6, G7⟩ hR ek (by omega) (fun J L' tp => ⟨J, L', R, rfl, u_X12_tell_30 (h J L' tp)⟩), fun y => absurd z y⟩
  have tl33 : n1.toInt = 33 → (vp_in (I 107 19) 2) ∧ (((I 136 s) = (5 : Int32) → sm_wp sm_P S (d + 6) 123 0 [.ref 107, .int (2 : Int32)] [] (xLay, I, L, (kM R)) (0, 0) (fun z => ∃ (I92 : sm_I) (L93 : sm_L) (R94 : sm_R), z = (none, (xLay, I92, L93, (kM R94))) ∧ sm_wp sm_P S (d + 7) 195 27 [.ref 107] [] (xLay, I92, L93, (kM R94)) (0, 0) Φ)) ∧ (¬ (I 136 s) = (5 : Int32) → sm_wp sm_P S (d + 7) 195 27 [.ref 107] [] (xLay, I, L, (kM R)) (0, 0) Φ)) := fun q => by
    have ek : K t = 12 := (kk 12 (by decide)).mp (val n1 33 en q)
    refine ⟨sv, fun fu => ?_, fun nf => ?_⟩
    · refine x_fail (by decide) hX.1 hE (full 12 ek (by decide +kernel) (by decide) (by decide) ?_) (fun J f _ p _ => ⟨J, L, R, rfl, u_X12_tell_27 ⟨fun y => absurd y (PS_no p), fun _ => u_X12_tell_30 (h J L ⟨none, none, PX_F p, Or.inl rfl⟩)⟩⟩)
      have y := congrArg Int32.toInt fu
      rw [show (5 : Int32).toInt = 5 from by decide] at y
      rw [show gw 12 = 12 from by decide, show (sm_room.getD 12 0).toInt = 5 from by decide]
      omega
    · have nf' : (I 136 s).toInt ≠ 5 := fun y => nf (en_ofI (by rw [y]; decide))
      exact u_X12_tell_27 ⟨fun _ => x_tellQuestion (d := d + 1) hT hls hm hI hX ⟨G1, G2, G3, G4, G5, G6, G7⟩ hR ek (by omega) (fun J L' tp => ⟨J, L', R, rfl, u_X12_tell_30 (h J L' tp)⟩), fun y => absurd z y⟩
  exact ⟨fun q20 => tl20 q20, fun q20 => ⟨fun q21 => tl21 q21, fun q21 => ⟨fun q22 => tl22 q22, fun q22 => ⟨fun q23 => tl23 q23, fun q23 => ⟨fun q24 => no (dead (fun i _ hi => by rw [q24]; rcases hi with rfl | rfl | rfl | rfl | rfl | rfl | rfl | rfl <;> decide)), fun q24 => ⟨fun q25 => no (dead (fun i _ hi => by rw [q25]; rcases hi with rfl | rfl | rfl | rfl | rfl | rfl | rfl | rfl <;> decide)), fun q25 => ⟨fun q26 => tl26 q26, fun q26 => ⟨fun q27 => tl27 q27, fun q27 => ⟨fun q28 => no (dead (fun i _ hi => by rw [q28]; rcases hi with rfl | rfl | rfl | rfl | rfl | rfl | rfl | rfl <;> decide)), fun q28 => ⟨fun q29 => no (dead (fun i _ hi => by rw [q29]; rcases hi with rfl | rfl | rfl | rfl | rfl | rfl | rfl | rfl <;> decide)), fun q29 => ⟨fun q30 => no (dead (fun i _ hi => by rw [q30]; rcases hi with rfl | rfl | rfl | rfl | rfl | rfl | rfl | rfl <;> decide)), fun q30 => ⟨fun q31 => no (dead (fun i _ hi => by rw [q31]; rcases hi with rfl | rfl | rfl | rfl | rfl | rfl | rfl | rfl <;> decide)), fun q31 => ⟨fun q32 => tl32 q32, fun q32 => ⟨fun q33 => tl33 q33, fun q33 => no (dead (fun i _ hi => by rcases hi with rfl | rfl | rfl | rfl | rfl | rfl | rfl | rfl <;> first | exact q20 | exact q21 | exact q22 | exact q23 | exact q26 | exact q27 | exact q32 | exact q33))⟩⟩⟩⟩⟩⟩⟩⟩⟩⟩⟩⟩⟩⟩
end
