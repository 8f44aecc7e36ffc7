/-! the class's GOING THROUGH all, exact; told = 49, going = 74 (wip/pe/mkg2.py) -/
section
variable {S : sm_C} {d : Nat} {Φ : sm_Z → Prop} {I : sm_I} {L : sm_L} {R : sm_R}
theorem g49_74_go {ys : List Nat} {n : Nat} {B0 : List tC} (ok : g49_74_ok ys I n) (bs : g49_74_st n B0 B0 I) (h : ∀ (J : sm_I) (L' : sm_L), g49_74_fin ys I L n B0 (GT n ys.length B0 (fun i c => kcv 49 74 I (g49_74_hd I) (ys.getD i 0) c) (fun j => kcd 49 I (ys.getD j 0)) false) J L' → Φ (none, (xLay, J, L', kG49_74 R))) : sm_wp sm_P S (d + 5) 225 0 [.ref 74, .ref 45, .int 0] [] (xLay, I, L, kG49_74 R) (0, 0) Φ := by
  have ok' := ok
  obtain ⟨B, kk, m55, ng, mono, iok⟩ := ok'
  refine pg49_74_X2_goThrough_0 (d := d + 4) (fun I1 e1 I2 e2 => ?_)
  have o2 : ∀ p j, ¬ (p = 74 ∧ (j = 6 ∨ j = 13 ∨ j = 14 ∨ j = 15)) → I2 p j = I p j := fun p j q => by rw [e2, en_up_ne _ _ _ _ (by omega), en_up_ne _ _ _ _ (by omega), e1, en_up_ne _ _ _ _ (by omega), en_up_ne _ _ _ _ (by omega)]
  have a13 : I2 74 13 = 0 := by rw [e2, en_up_ne _ _ _ _ (by omega), en_up_ne _ _ _ _ (by omega), e1, en_up_ne _ _ _ _ (by omega), en_up_eq]
  have a14 : I2 74 14 = 0 := by rw [e2, en_up_ne _ _ _ _ (by omega), en_up_ne _ _ _ _ (by omega), e1, en_up_eq]
  have a15 : I2 74 15 = 0 := by rw [e2, en_up_ne _ _ _ _ (by omega), en_up_eq]
  have a6 : I2 74 6 = 0 := by rw [e2, en_up_eq]
  have a12 : I2 74 12 = I 74 12 := o2 74 12 (by omega)
  have a11 : (I2 74 11).toInt = ys.length := by rw [o2 74 11 (by omega)]; exact kk.1
  have f2 : g49_74_gfr I I2 := fun p j a1 _ _ _ _ => o2 p j a1
  have lf : g49_74_lfr L L := fun _ _ _ => rfl
  have T2 : g49_74_T I2 n 0 = g49_74_T I n 0 := by
    funext a b
    unfold g49_74_T
    rw [o2 76 _ (by omega)]
  refine ⟨fun e => ?_, fun e => ⟨fun e0 => ?_, fun e0 => ⟨kl_in (by decide) (by decide), fun I3 e3 => ?_⟩⟩⟩
  · rw [a12] at e
    have zn : tno n B0 := by
      rcases bs with ⟨-, q⟩ | ⟨q, -⟩
      · exact q
      · rw [e] at q; exact absurd q (by decide)
    rw [GT_no zn] at h
    exact h I2 L ⟨⟨f2, lf⟩, ⟨by rw [a13]; rfl, by rw [a14]; rfl, by rw [a15]; rfl, a6⟩, ⟨fun i hi => absurd hi (Nat.not_lt_zero i), fun w hw => absurd hw (Nat.not_lt_zero w)⟩, fun q => absurd e q⟩
  all_goals
    rw [a12] at e
    have zt : ttop n B0 (g49_74_T I n 0) := by
      rcases bs with ⟨q, -⟩ | ⟨-, q⟩
      · exact absurd q e
      · exact q
    have z : fz n B0 (fun i c => kcv 49 74 I (g49_74_hd I) (ys.getD i 0) c) 0 (fun _ => 0) = true := fz_t (k := 0) zt
    unfold GT at h
    rw [if_pos z] at h
  · have m0 : ys.length = 0 := by rw [e0, kl_0] at a11; omega
    rw [if_pos m0] at h
    refine g49_74_nw (d := d + 3) (ys := ys) (f := fun _ => 0) (w := 0) ⟨a11, fun k hk => absurd hk (by omega)⟩ (by omega) (by rw [a14]; rfl) (by decide) (by rw [o2 74 10 (by omega)]; exact ng) (fun k hk => absurd hk (by omega)) mono (fun k hk => absurd hk (by omega)) (fun J L' fr fl wb q14 => ⟨J, L', rfl, ?_⟩)
    refine h J L' ⟨⟨fun p j a1 a2 a3 a4 a5 => (fr p j (by omega) (by omega)).trans (f2 p j a1 a2 a3 a4 a5), fun p j q => fl p j (by omega)⟩, ⟨by rw [fr 74 13 (by omega) (by omega), a13]; rfl, q14, by rw [fr 74 15 (by omega) (by omega), a15]; rfl, by rw [fr 74 6 (by omega) (by omega)]; exact a6⟩, ⟨fun i hi => absurd hi (Nat.not_lt_zero i), fun w hw => ?_⟩, fun _ => ?_⟩
    · have hw : w < 1 := hw
      have : w = 0 := by omega
      subst this
      exact wb
    · exact ttop_eq (fun u v _ _ => by unfold g49_74_T; rw [fr 76 _ (by omega) (by omega), o2 76 _ (by omega)]) zt
  · have m1 : 1 ≤ ys.length := by
      rcases Nat.eq_zero_or_pos ys.length with q | q
      · exfalso
        refine e0 (en_ofI ?_)
        rw [a11, q]; decide
      · exact q
    rw [if_neg (show ¬ ys.length = 0 by omega)] at h
    have z0 : (0 : Int32).toNatClampNeg = 0 := by decide
    rw [z0] at e3
    have o3 : ∀ p j, ¬ (p = 81 ∧ j = 0) → I3 p j = I2 p j := fun p j q => by rw [e3, en_up_ne _ _ _ _ q]
    refine g49_74_gt (d := d) ok m1 h 2001 0 (fun _ => 0) 0 0 (fun _ => (0, 0, false)) (fun _ _ => 0) I3 L 0 0 0 ⟨⟨fun p j a1 a2 a3 a4 a5 => (o3 p j (by omega)).trans (f2 p j a1 a2 a3 a4 a5), lf⟩, ⟨by rw [o3 74 13 (by omega), a13]; rfl, by rw [o3 74 14 (by omega), a14]; rfl, by rw [o3 74 15 (by omega)]; exact a15, by rw [o3 74 6 (by omega)]; exact a6⟩, fun j hj => ?_, fun j hj => absurd hj (Nat.not_lt_zero j), fun j hj => ?_, ⟨fun i hi => absurd hi (Nat.not_lt_zero i), fun w hw => absurd hw (Nat.not_lt_zero w)⟩, Nat.zero_le _, Nat.le_refl _⟩ (by omega) (by decide) (by decide) (by omega) rfl rn_s0
    · have : j = 0 := by omega
      rw [this, e3, en_up_eq]
      exact ⟨by decide, Nat.zero_le _⟩
    · have : j = 0 := by omega
      rw [this]
      exact ttop_eq (fun u v _ _ => by unfold g49_74_T; rw [o3 76 _ (by omega), o2 76 _ (by omega)]) zt
/-- what isGoneThrough writes -/
def g49_74_ifr (I J : sm_I) : Prop := ∀ p q, ¬ (p = 0 ∧ q = 12) → ¬ (p = 74 ∧ (q = 6 ∨ q = 7 ∨ q = 8 ∨ (10 ≤ q ∧ q ≤ 15))) → ¬ (p = 75 ∧ (q = 4 ∨ q = 5)) → ¬ (76 ≤ p ∧ p ≤ 81) → ¬ (p = 46 ∨ p = 47) → J p q = I p q
/-- the levels, as isGoneThrough leaves them -/
def g49_74_l0 (n : Nat) (J : sm_I) : Prop := g49_74_B J n ∧ (∀ a, a < n → J 77 a = Int32.ofNat a ∧ J 78 a = 0 ∧ J 79 a = 0) ∧ (J 74 6 = 0 ∧ J 74 7 = 0 ∧ J 74 8 = 0 ∧ J 74 10 = 0) ∧ ((J 74 12 = 0 ∧ tno n (kbaC 49 (kst J) id)) ∨ (J 74 12 = 1 ∧ ttop n (kbaC 49 (kst J) id) (g49_74_T J n 0)))
theorem g49_74_id {n : Nat} {J : sm_I} (h : ∀ a, a < n → J 77 a = Int32.ofNat a ∧ J 78 a = 0 ∧ J 79 a = 0) (n12 : n ≤ 12) : ∀ c : tC, c.1 < n → c.2.1 < n → g49_74_hd J c = c := fun c h1 h2 => by
  unfold g49_74_hd
  by_cases e : c.1 = c.2.1
  · rw [if_pos e]
  · rw [if_neg e, (h _ h1).1, (h _ h2).1, (h _ h1).2.2, (h _ h2).2.1, kl_0, tk_nat (Int32.toInt_ofNat_of_lt (by omega)), tk_nat (Int32.toInt_ofNat_of_lt (by omega))]
    show (c.1, c.2.1, c.2.2 - 0 + 0) = c
    rw [show c.2.2 - 0 + 0 = c.2.2 by omega]
theorem g49_74_ig (w : kW 49 I) (soft : I 74 1 = 0) (go : I 0 12 ≠ 0 → I 74 15 = if (KF 49 I).2.2.2.2.1 = true then 1 else 0) (h1 : I 0 12 ≠ 0 → Φ (some (.int (if (KF 49 I).2.2.2.2.1 = true then 0 else 1)), (xLay, I, L, kF49_74 R))) (h2 : I 0 12 = 0 → ∀ (J : sm_I) (L' : sm_L), g49_74_ifr I J → g49_74_lfr L L' → J 0 12 = 1 → kall 49 (kys 49 I) (KF 49 I) J L' → g49_74_l0 ((I 49 2).toNatClampNeg + 1) J → Φ (some (.int (if (KF 49 I).2.2.2.2.1 = true then 0 else 1)), (xLay, J, L', kG49_74 R))) : sm_wp sm_P S (d + 6) 56 0 [.ref 0] [] (xLay, I, L, kF49_74 R) (0, 0) Φ := by
  obtain ⟨w1, w2, w3, w4, w5, w6, w7⟩ := w
  have w1 : 0 ≤ (I 49 2).toInt ∧ (I 49 2).toInt ≤ 10 := w1
  have w2 : 0 ≤ (I 49 3).toInt ∧ (I 49 3).toInt ≤ 10 := w2
  have w3 : 0 ≤ (I 49 5).toInt ∧ (I 49 5).toInt ≤ 45 := w3
  have nt := kl_nat w1.1
  have ns := kl_nat w2.1
  have nm := kl_nat w3.1
  have nM := kl_nat w4.1
  refine pg49_74_X11_isGoneThrough_0 (d := d + 5) ⟨fun e0 => pg49_74_X10_allBitsF_0 ⟨_, I, L, rfl, fun n5 e5 => ?_⟩, fun e0 => ?_⟩
  · have e5 : n5 = kdb 49 I := e5
    rw [e5]
    refine g49_74_begin (d := d + 1) (n := (I 49 2).toNatClampNeg + 1) (s := (I 49 3).toNatClampNeg) (m := (I 49 5).toNatClampNeg) (M := (I 37 1).toNatClampNeg) soft nM.symm (by omega) w5 (by omega) (by omega) (by omega) (fun k hk => w6 k hk) ns.symm (by omega) nm.symm (by omega) (fun J6 fr6 z6 k6 B6 st6 bs6 => ⟨J6, L, rfl, ?_⟩)
    have k6 : kyM 74 J6 (kys 49 I) := k6
    have len : (kys 49 I).length ≤ 55 := by
      have := kitL_len (set := kdb 49 I) (s := (I 49 3).toNatClampNeg) (m := (I 49 5).toNatClampNeg)
      show (kitL (kdb 49 I) (I 49 3).toNatClampNeg (I 49 5).toNatClampNeg).length ≤ 55
      omega
    have inx : ∀ k, k < (kys 49 I).length → (kys 49 I).getD k 0 < (I 49 3).toNatClampNeg ∨ (100 ≤ (kys 49 I).getD k 0 ∧ (kys 49 I).getD k 0 < 100 + (I 49 5).toNatClampNeg) := fun k hk => kitL_in hk
    have t6 : ktf 49 (kst I) J6 := fun p j q => by
      unfold kst
      by_cases c : p = 74 ∧ (j = 7 ∨ j = 8)
      · rw [if_pos c]
        rcases c with ⟨rfl, rfl | rfl⟩
        · exact z6.2.1
        · exact z6.2.2.1
      · rw [if_neg c]; exact fr6 p j (by omega) (by omega) (by omega)
    have hdi := g49_74_id st6 (by omega)
    have iok6 : ∀ k, k < (kys 49 I).length → kiok 49 74 J6 ((I 49 2).toNatClampNeg + 1) ((kys 49 I).getD k 0) := fun k hk => k_iok t6 (w7 _ (inx k hk))
    have eB : kbaC 49 J6 (g49_74_hd J6) = kbaC 49 (kst I) id := by
      rw [← k_kba t6 id]
      have e1 : (J6 37 1).toNatClampNeg = (I 37 1).toNatClampNeg := by rw [fr6 37 1 (by omega) (by omega) (by omega)]
      have e2 : (J6 49 2).toNatClampNeg = (I 49 2).toNatClampNeg := by rw [fr6 49 2 (by omega) (by omega) (by omega)]
      show kmoL J6 (g49_74_hd J6) (J6 37 1).toNatClampNeg ++ kopL 49 J6 (g49_74_hd J6) (J6 49 2).toNatClampNeg = kmoL J6 id (J6 37 1).toNatClampNeg ++ kopL 49 J6 id (J6 49 2).toNatClampNeg
      have w5' : ∀ k, k < (I 37 1).toNatClampNeg → kmok J6 ((I 49 2).toNatClampNeg + 1) k := fun k hk => by
        have a := w5 k hk
        unfold kmok at a ⊢
        rw [fr6 41 k (by omega) (by omega) (by omega), fr6 42 k (by omega) (by omega) (by omega), fr6 43 k (by omega) (by omega) (by omega), fr6 44 k (by omega) (by omega) (by omega)]; exact a
      have w6' : ∀ k, k < (I 49 2).toNatClampNeg → kopk 49 J6 ((I 49 2).toNatClampNeg + 1) k := fun k hk => by
        have a := w6 k hk
        unfold kopk at a ⊢
        rw [fr6 (49 + 6) k (by omega) (by omega) (by omega), fr6 (49 + 7) k (by omega) (by omega) (by omega), fr6 (49 + 8) k (by omega) (by omega) (by omega)]; exact a
      rw [e1, e2, kmoL_id hdi _ w5', kopL_id hdi _ (by omega) w6']
    rw [eB] at bs6
    have eG : GT ((I 49 2).toNatClampNeg + 1) (kys 49 I).length (kbaC 49 (kst I) id) (fun i c => kcv 49 74 J6 (g49_74_hd J6) ((kys 49 I).getD i 0) c) (fun j => kcd 49 J6 ((kys 49 I).getD j 0)) false = KF 49 I := GT_cg (fun c => Iff.rfl) (fun k _ => k_kcd t6 _) (fun j hj c x => by rw [kcv_id hdi (iok6 j hj), k_kcv t6])
    refine g49_74_go (d := d) (ys := kys 49 I) ⟨B6, k6, len, z6.2.2.2, fun i j hij hj => kitL_mono (by omega) hij hj, iok6⟩ bs6 (fun J9 L9 fin9 => ⟨J9, L9, rfl, ?_⟩)
    rw [eG] at fin9
    obtain ⟨⟨f9, l9⟩, ⟨q13, q14, q15, q6⟩, kb9, T9⟩ := fin9
    have oU : ∀ p j, ¬ (p = 0 ∧ j = 12) → (sm_up J9 0 12 (1 : Int32)) p j = J9 p j := fun p j q => en_up_ne _ _ _ _ q
    have o9 : ∀ p j, ¬ (p = 0 ∧ j = 12) → ¬ (p = 74 ∧ (j = 6 ∨ j = 13 ∨ j = 14 ∨ j = 15)) → p ≠ 76 → p ≠ 81 → p ≠ 46 → p ≠ 47 → (sm_up J9 0 12 (1 : Int32)) p j = J6 p j := fun p j a0 a1 a2 a3 a4 a5 => (oU p j a0).trans (f9 p j a1 a2 a3 a4 a5)
    have fin : Φ (some (.int (if (KF 49 I).2.2.2.2.1 = true then 0 else 1)), (xLay, sm_up J9 0 12 (1 : Int32), L9, kG49_74 R)) := by
      refine h2 e0 _ L9 (fun p q a0 a1 a2 a3 a4 => ?_) l9 (en_up_eq _ _ _ _) ⟨⟨?_, fun k hk => ?_⟩, ⟨?_, ?_, ?_⟩, ⟨fun i hi h1 => ?_, fun w hw => ?_⟩⟩ ⟨?_, fun a ha => ?_, ⟨?_, ?_, ?_, ?_⟩, ?_⟩
      · rw [o9 p q a0 (by omega) (by omega) (by omega) (by omega) (by omega)]
        exact fr6 p q (by omega) (by omega) (by omega)
      · show (sm_up J9 0 12 (1 : Int32) 74 11).toInt = _
        rw [o9 74 11 (by omega) (by omega) (by omega) (by omega) (by omega) (by omega)]; exact k6.1
      · show sm_up J9 0 12 (1 : Int32) 80 k = _
        rw [o9 80 k (by omega) (by omega) (by omega) (by omega) (by omega) (by omega)]; exact k6.2 k hk
      · rw [oU 74 13 (by omega)]; exact q13
      · rw [oU 74 14 (by omega)]; exact q14
      · rw [oU 74 15 (by omega)]; exact q15
      · rw [oU 46 i (by omega)]; exact kb9.1 i hi h1
      · rw [oU 47 w (by omega)]; exact kb9.2 w hw
      · obtain ⟨b1, b2, b3, b4, b5⟩ := B6
        exact ⟨by rw [o9 75 4 (by omega) (by omega) (by omega) (by omega) (by omega) (by omega)]; exact b1, b2, b3, by rw [o9 75 5 (by omega) (by omega) (by omega) (by omega) (by omega) (by omega)]; exact b4, fun i hi => by rw [o9 77 i (by omega) (by omega) (by omega) (by omega) (by omega) (by omega), o9 78 i (by omega) (by omega) (by omega) (by omega) (by omega) (by omega), o9 79 i (by omega) (by omega) (by omega) (by omega) (by omega) (by omega)]; exact b5 i hi⟩
      · rw [o9 77 a (by omega) (by omega) (by omega) (by omega) (by omega) (by omega), o9 78 a (by omega) (by omega) (by omega) (by omega) (by omega) (by omega), o9 79 a (by omega) (by omega) (by omega) (by omega) (by omega) (by omega)]; exact st6 a ha
      · rw [oU 74 6 (by omega)]; exact q6
      · rw [o9 74 7 (by omega) (by omega) (by omega) (by omega) (by omega) (by omega)]; exact z6.2.1
      · rw [o9 74 8 (by omega) (by omega) (by omega) (by omega) (by omega) (by omega)]; exact z6.2.2.1
      · rw [o9 74 10 (by omega) (by omega) (by omega) (by omega) (by omega) (by omega)]; exact z6.2.2.2
      · have eb : kbaC 49 (kst (sm_up J9 0 12 (1 : Int32))) id = kbaC 49 (kst I) id := k_kba (kst_t (by decide) (fun p j q => by
          rw [o9 p j (by omega) (by omega) (by omega) (by omega) (by omega) (by omega)]
          exact fr6 p j (by omega) (by omega) (by omega))) id
        rw [eb, o9 74 12 (by omega) (by omega) (by omega) (by omega) (by omega) (by omega)]
        rcases bs6 with s | ⟨s1, s2⟩
        · exact Or.inl s
        · refine Or.inr ⟨s1, ttop_eq (fun u v _ _ => ?_) (T9 (by rw [s1]; decide))⟩
          unfold g49_74_T
          rw [oU 76 _ (by omega)]
    have e15 : (sm_up J9 0 12 (1 : Int32)) 74 15 = if (KF 49 I).2.2.2.2.1 = true then 1 else 0 := (oU 74 15 (by omega)).trans q15
    rw [e15]
    by_cases c : (KF 49 I).2.2.2.2.1 = true
    · rw [if_pos c] at fin ⊢
      exact ⟨fun q => absurd q (by decide), fun _ => fin⟩
    · rw [if_neg c] at fin ⊢
      exact ⟨fun _ => fin, fun q => absurd rfl q⟩
  · rw [go e0]
    have fin := h1 e0
    by_cases c : (KF 49 I).2.2.2.2.1 = true
    · rw [if_pos c] at fin ⊢
      exact ⟨fun q => absurd q (by decide), fun _ => fin⟩
    · rw [if_neg c] at fin ⊢
      exact ⟨fun _ => fin, fun q => absurd rfl q⟩
end
