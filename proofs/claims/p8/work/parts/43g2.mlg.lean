/-! searches: the loop -/
theorem mx_search3 {S : sm_C} {d : Nat} {Φ : sm_Z → Prop} {w0 : sm_W} {x1 : Int32} (hd : 4 ≤ d) (hx1 : 0 ≤ x1.toInt ∧ x1.toInt ≤ 1) (hΦ : ∀ (r : Int32) (I : sm_I) (L : sm_L) (R : sm_R), 0 ≤ r.toInt → r.toInt ≤ 1000 → en_mem ml_tb mlX (xLay, I, L, R) → en_fr ml_SV w0 (xLay, I, L, R) → Φ (some (.int r), (xLay, I, L, kM R))) : ∀ (m : Nat) (I : sm_I) (L : sm_L) (R : sm_R) (x2 x3 : Int32), en_mem ml_tb mlX (xLay, I, L, R) → en_fr ml_SV w0 (xLay, I, L, R) → -1 ≤ x3.toInt → x3.toInt < (I 107 59).toInt → 0 ≤ x2.toInt → x2.toInt ≤ (I 107 63).toInt → (I 107 63).toInt ≤ 1000 → ml_nc I x3.toInt → 2 * (1000 - (I 107 63).toInt) + x3.toInt + 1 < m → sm_wp sm_P S (d + 1) 186 3 [.ref 107, .int x1, .int x2, .int x3] [] (xLay, I, L, kM R) (0, 0) Φ := by
  intro m
  induction m with
  | zero =>
    intro I L R x2 x3 hm hf k0 k1 f0 f1 t1 hn hM
    omega
  | succ m ih =>
    intro I L R x2 x3 hm hf k0 k1 f0 f1 t1 hn hM
    have bi : 0 ≤ (I 107 59).toInt ∧ (I 107 59).toInt ≤ 70 := hm.2.1 107 59 (0, 70) (by decide +kernel)
    have bt : 0 ≤ (I 107 63).toInt ∧ (I 107 63).toInt ≤ 1001 := hm.2.1 107 63 (0, 1001) (by decide +kernel)
    refine u_X12_searches_3 ⟨fun a => hΦ x2 I L R f0 (by omega) hm hf, fun a => ?_⟩
    have k2 := kl_nlt0 a
    have nk := kl_nat k2
    have v : vp_in x3 70 := kl_in k2 (by omega)
    have bo : 0 ≤ (I 148 x3.toNatClampNeg).toInt ∧ (I 148 x3.toNatClampNeg).toInt ≤ 69 := ml_row hm (p := 148) (n := 70) (q := (0, 69)) (fun _ => rfl) _ (by omega)
    have gap : (I 148 x3.toNatClampNeg).toInt ≤ 54 ∨ 60 ≤ (I 148 x3.toNatClampNeg).toInt := hm.2.2.2.2.2.1 _ (by omega)
    have bn : 0 ≤ (I 150 x3.toNatClampNeg).toInt ∧ (I 150 x3.toNatClampNeg).toInt ≤ 4 := ml_row hm (p := 150) (n := 70) (q := (0, 4)) (fun _ => rfl) _ (by omega)
    have hk := hn x3.toNatClampNeg (by omega)
    obtain ⟨ch, hch⟩ : ∃ ch, ch = ml_ch I (I 148 x3.toNatClampNeg) := ⟨_, rfl⟩
    rw [← hch] at hk
    refine ⟨v, v, mx_choices hm bo.1 bo.2 gap (fun c0 c4 => ⟨_, I, L, R, rfl, fun e => ?_, fun e => ⟨v, v, fun n4 e4 => ⟨v, fun I5 e5 I6 e6 => ?_⟩⟩⟩)⟩
    · rw [← hch] at c0 c4 e
      obtain ⟨y, hy, sd⟩ : ∃ y, y = x3 + (-1 : Int32) ∧ y.toInt = x3.toInt - 1 := ⟨_, rfl, ml_de1 (by omega)⟩
      rw [← hy]
      exact ih I L R x2 y hm hf (by omega) (by omega) f0 f1 t1 (fun j hj => hn j (by omega)) (by omega)
    rw [← hch] at c0 c4 e
    have sk := ml_in1 (x := x3) (by omega)
    have lt : (I 150 x3.toNatClampNeg).toInt < ch.toInt := by
      have : (I 150 x3.toNatClampNeg).toInt ≠ ch.toInt := fun q => e (en_ofI q)
      omega
    obtain ⟨m6, f6, g6, o6, q6⟩ := ml_try (W := ml_SV) (fun _ => rfl) (by decide +kernel) hm hf hn k2 (by omega) t1 (by rw [← hch]; exact lt) (by rw [← hch]; exact c4) e4 e5 e6
    have s6 : (I 107 63 + 1).toInt = (I 107 63).toInt + 1 := ml_in1 (by omega)
    refine ⟨fun g => ?_, fun g I31 e31 => ?_⟩
    · have g := kl_le.mp g
      rw [g6, (by decide : (1000 : Int32).toInt = 1000)] at g
      have tail : ∀ (J : sm_I) (Lj : sm_L) (Rj : sm_R) (r : Int32), en_mem ml_tb mlX (xLay, J, Lj, Rj) → en_fr ml_SV w0 (xLay, J, Lj, Rj) → (∀ p j, p ≠ 143 → p ≠ 150 → p ≠ 154 → p ≠ 155 → p ≠ 156 → ¬ (p = 107 ∧ (j = 63 ∨ j = 52)) → J p j = I p j) → (∀ j, J 150 j = I6 150 j) → J 107 63 = I6 107 63 → ((r = 0 → sm_wp sm_P S (d + 1) 186 3 [.ref 107, .int x1, .int x2, .int x3] [] (xLay, J, Lj, (kM Rj)) (0, 0) Φ) ∧ (¬ r = 0 → (vp_in x3 70) ∧ ∀ I14 : sm_I, I14 = (sm_up J 149 x3.toNatClampNeg (I 150 x3.toNatClampNeg)) → (((I14 107 59) ≤ (x3 + (1 : Int32)) → ((x1 = 0 → Φ (some (.int (1 : Int32)), (xLay, I14, Lj, (kM Rj)))) ∧ (¬ x1 = 0 → sm_wp sm_P S (d + 1) 186 17 [.ref 107, .int x1, .int x2, .int x3, .int (0 : Int32)] [] (xLay, I14, Lj, (kM Rj)) (0, 0) Φ))) ∧ (¬ (I14 107 59) ≤ (x3 + (1 : Int32)) → (vp_in (x3 + (1 : Int32)) 70) ∧ ∀ I16 : sm_I, I16 = (sm_up I14 150 (x3 + (1 : Int32)).toNatClampNeg (0 : Int32)) → sm_wp sm_P S (d + 1) 186 3 [.ref 107, .int x1, .int x2, .int (x3 + (1 : Int32))] [] (xLay, I16, Lj, (kM Rj)) (0, 0) Φ)))) := by
        intro J Lj Rj r hmJ hfJ oJ cJ tJ
        have itJ : J 107 59 = I 107 59 := oJ 107 59 (by decide) (by decide) (by decide) (by decide) (by decide) (by omega)
        have ncJ : ∀ J' : sm_I, (∀ p j, p ≠ 149 → p ≠ 150 → p ≠ 153 → J' p j = J p j) → ∀ k : Int, (∀ j : Nat, (j : Int) ≤ k → (J' 150 j).toInt ≤ (ml_ch I (I 148 j)).toInt) → ml_nc J' k := by
          intro J' oJ' k hk'
          refine ml_nc_cg (I := I) (fun j => ?_) (fun j => ?_) (fun j => ?_) ?_ (fun j => ?_) hk'
          · rw [oJ' _ _ (by decide) (by decide) (by decide), oJ _ _ (by decide) (by decide) (by decide) (by decide) (by decide) (by omega)]
          · rw [oJ' _ _ (by decide) (by decide) (by decide), oJ _ _ (by decide) (by decide) (by decide) (by decide) (by decide) (by omega)]
          · rw [oJ' _ _ (by decide) (by decide) (by decide), oJ _ _ (by decide) (by decide) (by decide) (by decide) (by decide) (by omega)]
          · rw [oJ' _ _ (by decide) (by decide) (by decide), oJ _ _ (by decide) (by decide) (by decide) (by decide) (by decide) (by omega)]
          · rw [oJ' _ _ (by decide) (by decide) (by decide), oJ _ _ (by decide) (by decide) (by decide) (by decide) (by decide) (by omega)]
        refine ⟨fun _ => ?_, fun _ => ⟨v, fun I14 e14 => ?_⟩⟩
        · exact ih J Lj Rj x2 x3 hmJ hfJ k0 (by rw [itJ]; omega) f0 (by rw [tJ, g6]; omega) (by rw [tJ, g6]; omega) (ncJ J (fun _ _ _ _ _ => rfl) _ (fun j hj => by rw [cJ]; exact q6 j hj)) (by rw [tJ, g6]; omega)
        · have m14 : en_mem ml_tb mlX (xLay, I14, Lj, Rj) := by
            rw [e14]
            exact ml_we2 hmJ rfl (n := 70) (q := (0, 3)) rfl (by show 0 ≤ _ ∧ _ ≤ (3 : Int); omega)
          have f14 : en_fr ml_SV w0 (xLay, I14, Lj, Rj) := by rw [e14]; exact ml_fr hfJ rfl
          have o14 : ∀ p j, p ≠ 149 → I14 p j = J p j := fun p j h => by rw [e14, en_up_ne _ _ _ _ (fun c => h c.1)]
          refine ⟨fun q => ⟨fun _ => hΦ _ _ _ _ (by decide) (by decide) m14 f14, fun _ => ?_⟩, fun q => ?_⟩
          · refine mx_search17 f0 (by omega) I14 (fun J' mJ' fJ' oJ' => ?_) 70 I14 0 m14 f14 (fun _ _ _ => rfl) (by decide) (by rw [kl_0, o14 _ _ (by decide), itJ]; omega)
            have t' : J' 107 63 = I 107 63 + 1 := by rw [oJ' _ _ (by decide), o14 _ _ (by decide), tJ, g6]
            have i' : J' 107 59 = I 107 59 := by rw [oJ' _ _ (by decide), o14 _ _ (by decide), itJ]
            have s2 := ml_in1 (x := x2) (by omega)
            refine ih J' Lj Rj _ x3 mJ' fJ' k0 (by rw [i']; omega) (by omega) (by rw [t']; omega) (by rw [t']; omega) (ncJ J' (fun p j h1 h2 h3 => by rw [oJ' _ _ h3, o14 _ _ h1]) _ (fun j hj => by rw [oJ' _ _ (by decide), o14 _ _ (by decide), cJ]; exact q6 j hj)) (by rw [t']; omega)
          · have q := kl_nle q
            rw [o14 _ _ (by decide), itJ] at q
            refine ⟨kl_in (by omega) (by omega), fun I16 e16 => ?_⟩
            have nk1 := kl_nat (i := x3 + 1) (by omega)
            have o16 : ∀ p j, p ≠ 150 → I16 p j = I14 p j := fun p j h => by rw [e16, en_up_ne _ _ _ _ (fun c => h c.1)]
            have m16 : en_mem ml_tb mlX (xLay, I16, Lj, Rj) := by
              rw [e16]
              exact ml_we2 m14 rfl (n := 70) (q := (0, 4)) rfl (by decide)
            have f16 : en_fr ml_SV w0 (xLay, I16, Lj, Rj) := by rw [e16]; exact ml_fr f14 rfl
            have t' : I16 107 63 = I 107 63 + 1 := by rw [o16 _ _ (by decide), o14 _ _ (by decide), tJ, g6]
            have i' : I16 107 59 = I 107 59 := by rw [o16 _ _ (by decide), o14 _ _ (by decide), itJ]
            refine ih I16 Lj Rj x2 _ m16 f16 (by omega) (by rw [i']; omega) f0 (by rw [t']; omega) (by rw [t']; omega) (ncJ I16 (fun p j h1 h2 h3 => by rw [o16 _ _ h2, o14 _ _ h1]) _ (fun j hj => ?_)) (by rw [t']; omega)
            rw [e16]
            by_cases c : j = (x3 + 1).toNatClampNeg
            · have mi : en_mem ml_tb mlX (xLay, I, L, R) := hm
              have bo' : 0 ≤ (I 148 j).toInt ∧ (I 148 j).toInt ≤ 69 := ml_row hm (p := 148) (n := 70) (q := (0, 69)) (fun _ => rfl) _ (by omega)
              rw [c, en_up_eq, kl_0, ← c]
              exact ml_ch0 hm bo'.1 bo'.2 (hm.2.2.2.2.2.1 _ (by omega))
            · rw [en_up_ne _ _ _ _ (fun q => c q.2), o14 _ _ (by decide), cJ]; exact q6 j (by omega)
      refine ml_cv (c := mlc_8) mlh_8 (Nat.zero_le _) ⟨⟨rfl, rfl⟩, ⟨rfl, k2, (by omega : x3.toInt ≤ 69)⟩, ⟨rfl, (by omega : 1 ≤ (x3 + 1).toInt), (by omega : (x3 + 1).toInt ≤ 70)⟩, trivial⟩ m6 ml_pf0 rfl (fun I7 L7 R7 m7 f7 I10 e10 => ?_)
      obtain ⟨m10, f10, o10⟩ := ml_cop ml_s143 (by decide +kernel) m7 f6 f7 (by omega : 0 ≤ (x3 + 1).toInt) (by omega) e10
      have i10 : I10 148 x3.toNatClampNeg = I 148 x3.toNatClampNeg := by rw [o10 _ _ (by decide) (by omega), o6 _ _ (by decide) (by omega)]
      refine ⟨v, ?_⟩
      rw [i10]
      refine ml_chooses hd m10 bo.1 bo.2 gap bn.1 (by omega) (fun r I11 L11 R11 r0 r1 m11 f11 => ?_)
      have f11' : en_fr ml_SV w0 (xLay, I11, L11, R11) := ml_frt f10 f11 ml_s143
      have o11 : ∀ p j, p ≠ 143 → I11 p j = I10 p j := fun p j h1 => ml_g f11 (ml_143 h1)
      refine ⟨fun _ => ?_, fun _ => ⟨v, ?_⟩⟩
      · exact tail I11 L11 R11 r m11 f11' (fun p j h1 h2 h3 h4 h5 h6 => by rw [o11 _ _ h1, o10 _ _ h1 (fun c => h6 ⟨c.1, Or.inr c.2⟩), o6 _ _ h2 (fun c => h6 ⟨c.1, Or.inl c.2⟩)]) (fun j => by rw [o11 _ _ (by decide), o10 _ _ (by decide) (by omega)]) (by rw [o11 _ _ (by decide), o10 _ _ (by decide) (by omega)])
      · have i11 : I11 148 x3.toNatClampNeg = I 148 x3.toNatClampNeg := by rw [o11 _ _ (by decide), i10]
        have t11 : I11 107 63 = I 107 63 + 1 := by rw [o11 _ _ (by decide), o10 _ _ (by decide) (by omega), g6]
        rw [i11]
        refine ml_cv (c := mlc_15) mlh_15 (Nat.zero_le _) ⟨⟨rfl, rfl⟩, ⟨rfl, bo.1, bo.2⟩, ⟨rfl, bn.1, (by omega : _ ≤ (3 : Int))⟩, ⟨rfl, r0, r1⟩, trivial⟩ m11 ?_ rfl (fun I19 L19 R19 m19 f19 => ?_)
        · intro e he
          have he : e ∈ [((107 : Nat), (63 : Nat), (1 : Int), (1000 : Int))] := he
          rw [List.mem_singleton.mp he]
          show (1 : Int) ≤ (I11 107 63).toInt ∧ (I11 107 63).toInt ≤ 1000
          rw [t11]; omega
        · have o19 : ∀ p j, p ≠ 154 → p ≠ 155 → p ≠ 156 → I19 p j = I11 p j := fun p j h1 h2 h3 => ml_g f19 (ml_154 h1 h2 h3)
          exact tail I19 L19 R19 r m19 (ml_frt f11' f19 ml_s154) (fun p j h1 h2 h3 h4 h5 h6 => by rw [o19 _ _ h3 h4 h5, o11 _ _ h1, o10 _ _ h1 (fun c => h6 ⟨c.1, Or.inr c.2⟩), o6 _ _ h2 (fun c => h6 ⟨c.1, Or.inl c.2⟩)]) (fun j => by rw [o19 _ _ (by decide) (by decide) (by decide), o11 _ _ (by decide), o10 _ _ (by decide) (by omega)]) (by rw [o19 _ _ (by decide) (by decide) (by decide), o11 _ _ (by decide), o10 _ _ (by decide) (by omega)])
    · have m31 : en_mem ml_tb mlX (xLay, I31, L, R) := by
        rw [e31]
        exact ml_wf m6 (by decide +kernel) (q := (0, 1)) (by decide +kernel) (by decide)
      exact hΦ x2 I31 L R f0 (by omega) m31 (by rw [e31]; exact ml_fr f6 (by decide +kernel))
