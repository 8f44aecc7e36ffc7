section
/-! THE LAW: pairs out of what was gone through: tried (wip/pe/mkp2.py) -/
section
variable {S : sm_C} {I : sm_I} {L : sm_L} {R : sm_R} {r : Int32}
theorem it_at (hI : lw_I I L R) {qt qi l : Nat} (hrf : rfE qt qi l I R) : (kys qt I).length = (rxs I l).length ∧ ∀ k, k < (rxs I l).length → (kys qt I).getD k 0 = cdm ((rxs I l).getD k 0) := by
  obtain ⟨-, mm, -, hd, q, qi', l', hrf', htd⟩ := hI
  have e : q = qt := Option.some.inj (hrf'.2.2.1.symm.trans hrf.2.2.1)
  have e2 : l' = l := by have := hrf'.2.2.2.2; have := hrf.2.2.2.2; omega
  subst e
  subst e2
  have c := q_cnt (by have := hrf.1; omega) htd
  exact items_eq hd.1 c.2.2.2.1 htd.2.2.1 (ml_cs hrf.2.1 mm).2.2.2.1
theorem rx_it {I0 : sm_I} {R0 : sm_R} (o : ∀ p j, 107 ≤ p → I p j = I0 p j ∧ R p j = R0 p j) (l : Nat) : rxs I l = rxs I0 l := rxs_cg (fun p j q => (o p j (by omega)).1)
end
end
section
/-! THE LAW: pairs out of what was gone through: count (wip/pe/mkp3.py) -/
theorem kFG12_l : ∀ t, t ∈ kF12_74l → kG12_74l.find? (fun s => Nat.beq s.1 t.1 && Nat.beq s.2.1 t.2.1) = some t := by decide +kernel
theorem kFG12 (R : sm_R) : kF12_74 (kG12_74 R) = kG12_74 R := by
  funext x j
  unfold kF12_74
  split
  · next t ht =>
    have mem := List.mem_of_find?_eq_some ht
    have pr := List.find?_some ht
    obtain ⟨p1, p2⟩ := Bool.and_eq_true_iff.mp pr
    have e1 : t.1 = x := Nat.eq_of_beq_eq_true p1
    have e2 : t.2.1 = j := Nat.eq_of_beq_eq_true p2
    rw [← e1, ← e2]
    unfold kG12_74
    rw [kFG12_l t mem]
  · rfl
theorem kFG49_l : ∀ t, t ∈ kF49_74l → kG49_74l.find? (fun s => Nat.beq s.1 t.1 && Nat.beq s.2.1 t.2.1) = some t := by decide +kernel
theorem kFG49 (R : sm_R) : kF49_74 (kG49_74 R) = kG49_74 R := by
  funext x j
  unfold kF49_74
  split
  · next t ht =>
    have mem := List.mem_of_find?_eq_some ht
    have pr := List.find?_some ht
    obtain ⟨p1, p2⟩ := Bool.and_eq_true_iff.mp pr
    have e1 : t.1 = x := Nat.eq_of_beq_eq_true p1
    have e2 : t.2.1 = j := Nat.eq_of_beq_eq_true p2
    rw [← e1, ← e2]
    unfold kG49_74
    rw [kFG49_l t mem]
  · rfl
section
variable {S : sm_C} {I : sm_I} {L : sm_L} {R : sm_R} {r : Int32}
def XF (I : sm_I) (R : sm_R) (J : sm_I) (R' : sm_R) : Prop := R' 0 9 = R 0 9 ∧ R' 2 6 = R 2 6 ∧ ∀ p j, lkC p j → J p j = I p j
theorem LJ_f {I0 : sm_I} {R0 : sm_R} {L0 : sm_L} (hJ : lw_J I0 L0 R0) (o : ∀ p j, 107 ≤ p → I p j = I0 p j ∧ R p j = R0 p j) (x : XF I0 R0 I R) {I2 : sm_I} {R2 : sm_R} (g : ∀ p j, lkM p j → I2 p j = I p j) (f : ∀ p j, p < 107 → I2 p j = I p j ∧ R2 p j = R p j) : LJ I2 R2 := by
  obtain ⟨x1, x2, x3⟩ := x
  refine LJ_cg (I := I0) (R := R0) (fun p j q => ?_) ((f 0 9 (by omega)).2.trans x1) ((f 2 6 (by omega)).2.trans x2) hJ.1.2.2
  rcases q with q | q
  · rw [(f p j (by unfold lkC at q; omega)).1]; exact x3 p j q
  · rw [g p j q]; exact (o p j (by unfold lkM at q; omega)).1
theorem inS_at {d q : Nat} {Φ : sm_Z → Prop} (hq : q = 12 ∨ q = 49) (eP : kP q R = R) {x : Int32} (h0 : ¬ (0 ≤ x.toInt ∧ x.toInt < (I q 3).toInt) → Φ (some (.int 0), (xLay, I, L, R))) (h1 : 0 ≤ x.toInt → x.toInt < (I q 3).toInt → Φ (some (.int 1), (xLay, I, L, R))) : sm_wp sm_P S d 62 0 [.ref 0, .int x] [] (xLay, I, L, R) (0, 0) Φ := by
  rw [← eP] at h0 h1 ⊢
  exact kp_inS hq h0 h1
end
end
section
/-! THE LAW: levelOf of the class, with its levels (wip/pe/mkl2.py) -/
theorem igm12 {S : sm_C} {d : Nat} {I : sm_I} {L : sm_L} {R : sm_R} {Φ : sm_Z → Prop} (hI : lw_J I L R) (hq : R 0 9 = some 12) (h : ∀ (J : sm_I) (L' : sm_L), XG 12 I R J L' (kG12_74 R) → J 0 12 ≠ 0 → en_mem kl_tb2 klY (xLay, J, L', kG12_74 R) → Φ (some (.int (if (KF 12 I).2.2.2.2.1 = true then 0 else 1)), (xLay, J, L', kG12_74 R))) : sm_wp sm_P S (d + 6) 56 0 [.ref 0] [] (xLay, I, L, kF12_74 R) (0, 0) Φ := by
  have m := hI.1.1
  obtain ⟨q, hq', g1, g2, g3⟩ := hI.2.1
  have e : q = 12 := Option.some.inj (g1.symm.trans hq)
  subst e
  have eF : kF12_74 R = R := kF12_74_eq (w := (xLay, I, L, R)) m g1
  have A := klk_205 (Sc := S) (d + 6) (show 6 ≤ d + 6 by omega) [.ref 0] (xLay, I, L, R) ⟨⟨rfl, rfl⟩, trivial⟩ (ky_up m hI.2.1) ml_pf0
  have B := ig12_J (S := S) (d := d) (L := L) (Φ := fun z => ∃ (J : sm_I) (L' : sm_L), z = (some (.int (if (KF 12 I).2.2.2.2.1 = true then 0 else 1)), (xLay, J, L', kG12_74 R)) ∧ XG 12 I R J L' (kG12_74 R)) hI hq (fun J L' x => ⟨J, L', rfl, x⟩)
  have C := ig_12_74 (Sc := S) (d := d) (Φ := fun z => z.2.2.1 0 12 ≠ 0) m g1 g2 g3 (fun J L' R' _ _ _ _ _ _ a7 => by
    rcases a7 with ⟨b1, b2, -, -⟩ | ⟨-, -, -, b4, -, -⟩
    · subst b2; exact b1
    · show J 0 12 ≠ 0
      rw [b4]; decide)
  rw [eF] at B ⊢
  refine sm_wp_mono (sm_wp_and (sm_wp_and A B) C) (fun z q => ?_)
  obtain ⟨⟨⟨-, q2, -⟩, J, L', ez, x⟩, c⟩ := q
  subst ez
  exact h J L' x c q2
theorem igm49 {S : sm_C} {d : Nat} {I : sm_I} {L : sm_L} {R : sm_R} {Φ : sm_Z → Prop} (hI : lw_J I L R) (hq : R 0 9 = some 49) (h : ∀ (J : sm_I) (L' : sm_L), XG 49 I R J L' (kG49_74 R) → J 0 12 ≠ 0 → en_mem kl_tb2 klY (xLay, J, L', kG49_74 R) → Φ (some (.int (if (KF 49 I).2.2.2.2.1 = true then 0 else 1)), (xLay, J, L', kG49_74 R))) : sm_wp sm_P S (d + 6) 56 0 [.ref 0] [] (xLay, I, L, kF49_74 R) (0, 0) Φ := by
  have m := hI.1.1
  obtain ⟨q, hq', g1, g2, g3⟩ := hI.2.1
  have e : q = 49 := Option.some.inj (g1.symm.trans hq)
  subst e
  have eF : kF49_74 R = R := kF49_74_eq (w := (xLay, I, L, R)) m g1
  have A := klk_205 (Sc := S) (d + 6) (show 6 ≤ d + 6 by omega) [.ref 0] (xLay, I, L, R) ⟨⟨rfl, rfl⟩, trivial⟩ (ky_up m hI.2.1) ml_pf0
  have B := ig49_J (S := S) (d := d) (L := L) (Φ := fun z => ∃ (J : sm_I) (L' : sm_L), z = (some (.int (if (KF 49 I).2.2.2.2.1 = true then 0 else 1)), (xLay, J, L', kG49_74 R)) ∧ XG 49 I R J L' (kG49_74 R)) hI hq (fun J L' x => ⟨J, L', rfl, x⟩)
  have C := ig_49_74 (Sc := S) (d := d) (Φ := fun z => z.2.2.1 0 12 ≠ 0) m g1 g2 g3 (fun J L' R' _ _ _ _ _ _ a7 => by
    rcases a7 with ⟨b1, b2, -, -⟩ | ⟨-, -, -, b4, -, -⟩
    · subst b2; exact b1
    · show J 0 12 ≠ 0
      rw [b4]; decide)
  rw [eF] at B ⊢
  refine sm_wp_mono (sm_wp_and (sm_wp_and A B) C) (fun z q => ?_)
  obtain ⟨⟨⟨-, q2, -⟩, J, L', ez, x⟩, c⟩ := q
  subst ez
  exact h J L' x c q2
end
section
/-! THE LAW: choices of a WAY: helps (wip/pe/mkp5.py) -/
theorem sL_at (set : Int32) : ∀ s k, k < s → isb set k = true → ∃ i, i < (sL set s).length ∧ (sL set s).getD i 0 = k := by
  intro s
  induction s with
  | zero => intro k h; exact absurd h (Nat.not_lt_zero k)
  | succ s ih =>
    intro k hk hb
    have e : sL set (s + 1) = sL set s ++ (if isb set s = true then [s] else []) := rfl
    rw [e]
    by_cases c : k = s
    · subst c
      rw [if_pos hb]
      exact ⟨(sL set k).length, by rw [List.length_append]; exact Nat.lt_succ_self _, nG_n⟩
    · obtain ⟨i, h1, h2⟩ := ih k (by omega) hb
      exact ⟨i, by rw [List.length_append]; omega, by rw [nG_l h1]; exact h2⟩
theorem slm_mono {set : Int32} {s m b : Nat} (sb : s ≤ b) {i j : Nat} (hij : i < j) (hj : j < (sL set s ++ mL b m).length) : (sL set s ++ mL b m).getD i 0 < (sL set s ++ mL b m).getD j 0 := by
  have hl : (sL set s ++ mL b m).length = (sL set s).length + m := by rw [List.length_append, mL_len]
  rw [hl] at hj
  have up : ∀ k, (sL set s).length ≤ k → k < (sL set s).length + m → (sL set s ++ mL b m).getD k 0 = b + (k - (sL set s).length) := fun k h1 h2 => by
    obtain ⟨t, rfl⟩ : ∃ t, k = (sL set s).length + t := ⟨k - (sL set s).length, by omega⟩
    rw [nG_r, mL_at b m t (by omega), Nat.add_sub_cancel_left]
  by_cases c : j < (sL set s).length
  · rw [nG_l (by omega), nG_l c]
    exact sL_mono set s i j hij c
  · rw [up j (by omega) hj]
    by_cases c2 : i < (sL set s).length
    · rw [nG_l c2]
      have : (sL set s).getD i 0 = (sL set s)[i] := by rw [List.getD_eq_getElem?_getD, List.getElem?_eq_getElem c2]; rfl
      have := sL_in set s _ (List.getElem_mem c2)
      omega
    · rw [up i (by omega) (by omega)]
      omega
theorem itL_un {set : Int32} {s m e a k : Nat} (s10 : s ≤ 10) (m45 : m ≤ 45) (hk : k < (itL set s m 0).length) (ha : (itL set s m 0).getD k 0 = a) : k < (itL set s m e).length ∧ (itL set s m e).getD k 0 = a ∧ (∀ j, j < (itL set s m e).length → (itL set s m e).getD j 0 = a → j = k) ∧ k < 55 ∧ (itL set s m e).length ≤ 55 + e ∧ ∀ j, j < (itL set s m e).length → (itL set s m e).getD j 0 < 60 + e := by
  have x := itL_in hk
  have e0 : itL set s m 0 = sL set s ++ mL 10 m := List.append_nil _
  have ee : itL set s m e = (sL set s ++ mL 10 m) ++ mL 60 e := rfl
  have len : (sL set s ++ mL 10 m).length ≤ s + m := by
    rw [List.length_append, mL_len]
    have := sL_len set s
    omega
  rw [ha] at x
  rw [e0] at hk ha
  rw [ee]
  have ll : ((sL set s ++ mL 10 m) ++ mL 60 e).length = (sL set s ++ mL 10 m).length + e := by rw [List.length_append, mL_len]
  have lo : ∀ j, j < (sL set s ++ mL 10 m).length → (sL set s ++ mL 10 m).getD j 0 < 55 := fun j hj => by
    have y := itL_in (set := set) (s := s) (m := m) (k := j) (by rw [e0]; exact hj)
    rw [e0] at y
    omega
  have hi : ∀ t, t < e → ((sL set s ++ mL 10 m) ++ mL 60 e).getD ((sL set s ++ mL 10 m).length + t) 0 = 60 + t := fun t ht => by rw [nG_r, mL_at 60 e t ht]
  refine ⟨by rw [ll]; omega, by rw [nG_l hk]; exact ha, fun j hj h => ?_, by omega, by rw [ll]; omega, fun j hj => ?_⟩
  · rw [ll] at hj
    by_cases c : j < (sL set s ++ mL 10 m).length
    · rw [nG_l c] at h
      rcases Nat.lt_trichotomy j k with q | q | q
      · have := slm_mono (set := set) (m := m) (b := 10) s10 q hk
        omega
      · exact q
      · have := slm_mono (set := set) (m := m) (b := 10) s10 q c
        omega
    · obtain ⟨t, rfl⟩ : ∃ t, j = (sL set s ++ mL 10 m).length + t := ⟨j - (sL set s ++ mL 10 m).length, by omega⟩
      rw [hi t (by omega)] at h
      omega
  · rw [ll] at hj
    by_cases c : j < (sL set s ++ mL 10 m).length
    · rw [nG_l c]
      have := lo j c
      omega
    · obtain ⟨t, rfl⟩ : ∃ t, j = (sL set s ++ mL 10 m).length + t := ⟨j - (sL set s ++ mL 10 m).length, by omega⟩
      rw [hi t (by omega)]
      omega
theorem rxs_say {I : sm_I} {l k : Nat} (b : 0 ≤ (I 125 l).toInt ∧ (I 125 l).toInt ≤ 10) (hk : (k : Int) < (I 125 l).toInt) (h : I 137 k = 0) : ∃ i, i < (rxs I l).length ∧ (rxs I l).getD i 0 = k := by
  have nb := kl_nat b.1
  have kn : k < (I 125 l).toNatClampNeg := by omega
  obtain ⟨i, h1, h2⟩ := sL_at (rdb I (I 125 l).toNatClampNeg) (I 125 l).toNatClampNeg k kn (by
    rw [isb_t _ (by omega)]
    unfold rdb
    rw [sb_bit _ (by omega) k (by omega), if_pos h]
    simp [kn])
  refine ⟨i, ?_, ?_⟩
  · unfold rxs itL
    rw [List.length_append, List.length_append]
    omega
  · unfold rxs itL
    rw [nG_l (by rw [List.length_append]; omega), nG_l h1]
    exact h2
/-- what a call with a WAY answers where there is no such WAY -/
def cGo (x : Int32) (F : ss) : Prop := 0 ≤ x.toInt ∧ F.2.2.2.2.1 = false ∧ x.toInt < F.2.2.2.1
abbrev dbt (I : sm_I) (y : Int32) : Prop := ¬ (((I 37 0) >>> (y &&& 31)) &&& (1 : Int32)) = 0
theorem dbt_iff {I : sm_I} (hd : hdE I) {y : Int32} {k : Nat} (hk : k < 10) (hy : y.toInt = k) : dbt I y ↔ ¬ I 137 k = 0 := by
  have t := sb_test (I 37 0) y k hk hy
  have b := hd.1 k hk
  constructor
  · intro h c
    refine h (t.mpr ?_)
    rw [b, c]; rfl
  · intro h c
    have := t.mp c
    rw [b, decide_eq_false h] at this
    exact absurd this (by decide)
def wyA (qt : Nat) (I : sm_I) (x y r : Int32) : Prop := ∀ k, k < (kys qt I).length → y = Int32.ofNat ((kys qt I).getD k 0) → r = Int32.ofNat ((KF qt I).2.2.2.2.2.2 x.toNatClampNeg k)
theorem pq12_X11_isDoubted_0 {S : sm_C} {d : Nat} {Φ : sm_Z → Prop} {I : sm_I} {L : sm_L} {R : sm_R} {x1 : Int32} (h : (((((I 37 0) >>> (x1 &&& 31)) &&& (1 : Int32)) = 0 → Φ (some (.int (0 : Int32)), (xLay, I, L, (kF12_74 R)))) ∧ (¬ (((I 37 0) >>> (x1 &&& 31)) &&& (1 : Int32)) = 0 → Φ (some (.int (1 : Int32)), (xLay, I, L, (kF12_74 R)))))) : sm_wp sm_P S d 55 0 [.ref 0, .int x1] [] (xLay, I, L, (kF12_74 R)) (0, 0) Φ := sm_wp_step (⟨fun q1 => ⟨Or.inl rfl, ((h).1 q1)⟩, fun q1 => ⟨Or.inr rfl, ((h).2 q1)⟩⟩)
theorem chK12 {S : sm_C} {d : Nat} {Φ : sm_Z → Prop} {I J : sm_I} {L' : sm_L} {R R' : sm_R} {x y : Int32} (hk : kW 12 I) (xg : XG 12 I R J L' R') (eG : kG12_74 R' = R') (c : cGo x (KF 12 I)) (h : ∀ r : Int32, wyA 12 I x y r → Φ (some (.int r), (xLay, J, L', R'))) : sm_wp sm_P S d 216 0 [.ref 45, .int x, .int y] [] (xLay, J, L', R') (0, 0) Φ := by
  have w := GT_wf (n := (I 12 2).toNatClampNeg + 1) (m := (kys 12 I).length) (B := kbaC 12 (kst I) id) (cc := fun i c => kcv 12 74 (kst I) id ((kys 12 I).getD i 0) c) (nc := fun j => kcd 12 (kst I) ((kys 12 I).getD j 0)) (tf := false)
  have f1 : (KF 12 I).2.2.2.1 ≤ 1000 := w.2.2.2.2.1.1
  obtain ⟨x0, -, xf⟩ := c
  have n := kl_nat x0
  have wv : ∀ k, k < (kys 12 I).length → (KF 12 I).2.2.2.2.2.2 x.toNatClampNeg k < kcd 12 (kst I) ((kys 12 I).getD k 0) := (w.2.2.1 x.toNatClampNeg (show x.toNatClampNeg < (KF 12 I).2.2.2.1 by omega)).1
  have bk : wbk (J 47 x.toNatClampNeg) (L' 48 x.toNatClampNeg) (gyw (kys 12 I) ((KF 12 I).2.2.2.2.2.2 x.toNatClampNeg) (kys 12 I).length) := xg.2.2.2.2.2.2 _ (by omega)
  have s10 : (I 12 3).toNatClampNeg ≤ 10 := by
    have := kl_nat hk.2.1.1
    have := hk.2.1.2
    omega
  have gy : ∀ k, k < (kys 12 I).length → gyw (kys 12 I) ((KF 12 I).2.2.2.2.2.2 x.toNatClampNeg) (kys 12 I).length ((kys 12 I).getD k 0) = (KF 12 I).2.2.2.2.2.2 x.toNatClampNeg k := fun k hk' => gyw_at _ hk' (fun j a b => by
    have : (kys 12 I).getD k 0 < (kys 12 I).getD j 0 := kitL_mono s10 a b
    omega)
  have h1000 : (1000 : Int32).toInt = 1000 := by decide
  have h100 : (100 : Int32).toInt = 100 := by decide
  rw [← eG] at h ⊢
  refine pg12_74_X1_choiceOf_0 ⟨fun q => ?_, fun _ => ⟨fun _ => ⟨fun a => ⟨kl_in x0 (by omega), h _ (fun k hk' e => ?_)⟩, fun a => ⟨kl_in x0 (by omega), h _ (fun k hk' e => ?_)⟩⟩, fun q => absurd (Int32.lt_iff_toInt_lt.mpr (by rw [h1000]; omega)) q⟩⟩
  · have := Int32.lt_iff_toInt_lt.mp q
    rw [kl_0] at this
    omega
  · have yin : (kys 12 I).getD k 0 < (I 12 3).toNatClampNeg ∨ (100 ≤ (kys 12 I).getD k 0 ∧ (kys 12 I).getD k 0 < 100 + (I 12 5).toNatClampNeg) := kitL_in hk'
    have v := wv k hk'
    have g := gy k hk'
    have a' := kl_le.mp a
    rcases g12_74_c4 (hk.2.2.2.2.2.2 _ yin) with ⟨b1, b2⟩ | ⟨b1, b2, b3⟩
    · rw [e, Int32.toInt_ofNat_of_lt (by omega), h100] at a'
      omega
    · obtain ⟨t, ht⟩ : ∃ t, (kys 12 I).getD k 0 = 100 + t := ⟨(kys 12 I).getD k 0 - 100, by omega⟩
      rw [ht] at g
      rw [e, ht, ← g]
      exact wbk_dm bk (by omega) (by rw [g]; omega)
  · have yin : (kys 12 I).getD k 0 < (I 12 3).toNatClampNeg ∨ (100 ≤ (kys 12 I).getD k 0 ∧ (kys 12 I).getD k 0 < 100 + (I 12 5).toNatClampNeg) := kitL_in hk'
    have v := wv k hk'
    have g := gy k hk'
    rcases g12_74_c4 (hk.2.2.2.2.2.2 _ yin) with ⟨b1, b2⟩ | ⟨b1, b2, b3⟩
    · rw [e, ← g]
      exact wbk_ds bk b1 (by rw [g]; omega)
    · exact absurd (kl_le.mpr (by rw [e, Int32.toInt_ofNat_of_lt (by omega), h100]; omega)) a
theorem pq49_X11_isDoubted_0 {S : sm_C} {d : Nat} {Φ : sm_Z → Prop} {I : sm_I} {L : sm_L} {R : sm_R} {x1 : Int32} (h : (((((I 37 0) >>> (x1 &&& 31)) &&& (1 : Int32)) = 0 → Φ (some (.int (0 : Int32)), (xLay, I, L, (kF49_74 R)))) ∧ (¬ (((I 37 0) >>> (x1 &&& 31)) &&& (1 : Int32)) = 0 → Φ (some (.int (1 : Int32)), (xLay, I, L, (kF49_74 R)))))) : sm_wp sm_P S d 55 0 [.ref 0, .int x1] [] (xLay, I, L, (kF49_74 R)) (0, 0) Φ := sm_wp_step (⟨fun q1 => ⟨Or.inl rfl, ((h).1 q1)⟩, fun q1 => ⟨Or.inr rfl, ((h).2 q1)⟩⟩)
theorem chK49 {S : sm_C} {d : Nat} {Φ : sm_Z → Prop} {I J : sm_I} {L' : sm_L} {R R' : sm_R} {x y : Int32} (hk : kW 49 I) (xg : XG 49 I R J L' R') (eG : kG49_74 R' = R') (c : cGo x (KF 49 I)) (h : ∀ r : Int32, wyA 49 I x y r → Φ (some (.int r), (xLay, J, L', R'))) : sm_wp sm_P S d 216 0 [.ref 45, .int x, .int y] [] (xLay, J, L', R') (0, 0) Φ := by
  have w := GT_wf (n := (I 49 2).toNatClampNeg + 1) (m := (kys 49 I).length) (B := kbaC 49 (kst I) id) (cc := fun i c => kcv 49 74 (kst I) id ((kys 49 I).getD i 0) c) (nc := fun j => kcd 49 (kst I) ((kys 49 I).getD j 0)) (tf := false)
  have f1 : (KF 49 I).2.2.2.1 ≤ 1000 := w.2.2.2.2.1.1
  obtain ⟨x0, -, xf⟩ := c
  have n := kl_nat x0
  have wv : ∀ k, k < (kys 49 I).length → (KF 49 I).2.2.2.2.2.2 x.toNatClampNeg k < kcd 49 (kst I) ((kys 49 I).getD k 0) := (w.2.2.1 x.toNatClampNeg (show x.toNatClampNeg < (KF 49 I).2.2.2.1 by omega)).1
  have bk : wbk (J 47 x.toNatClampNeg) (L' 48 x.toNatClampNeg) (gyw (kys 49 I) ((KF 49 I).2.2.2.2.2.2 x.toNatClampNeg) (kys 49 I).length) := xg.2.2.2.2.2.2 _ (by omega)
  have s10 : (I 49 3).toNatClampNeg ≤ 10 := by
    have := kl_nat hk.2.1.1
    have := hk.2.1.2
    omega
  have gy : ∀ k, k < (kys 49 I).length → gyw (kys 49 I) ((KF 49 I).2.2.2.2.2.2 x.toNatClampNeg) (kys 49 I).length ((kys 49 I).getD k 0) = (KF 49 I).2.2.2.2.2.2 x.toNatClampNeg k := fun k hk' => gyw_at _ hk' (fun j a b => by
    have : (kys 49 I).getD k 0 < (kys 49 I).getD j 0 := kitL_mono s10 a b
    omega)
  have h1000 : (1000 : Int32).toInt = 1000 := by decide
  have h100 : (100 : Int32).toInt = 100 := by decide
  rw [← eG] at h ⊢
  refine pg49_74_X1_choiceOf_0 ⟨fun q => ?_, fun _ => ⟨fun _ => ⟨fun a => ⟨kl_in x0 (by omega), h _ (fun k hk' e => ?_)⟩, fun a => ⟨kl_in x0 (by omega), h _ (fun k hk' e => ?_)⟩⟩, fun q => absurd (Int32.lt_iff_toInt_lt.mpr (by rw [h1000]; omega)) q⟩⟩
  · have := Int32.lt_iff_toInt_lt.mp q
    rw [kl_0] at this
    omega
  · have yin : (kys 49 I).getD k 0 < (I 49 3).toNatClampNeg ∨ (100 ≤ (kys 49 I).getD k 0 ∧ (kys 49 I).getD k 0 < 100 + (I 49 5).toNatClampNeg) := kitL_in hk'
    have v := wv k hk'
    have g := gy k hk'
    have a' := kl_le.mp a
    rcases g49_74_c4 (hk.2.2.2.2.2.2 _ yin) with ⟨b1, b2⟩ | ⟨b1, b2, b3⟩
    · rw [e, Int32.toInt_ofNat_of_lt (by omega), h100] at a'
      omega
    · obtain ⟨t, ht⟩ : ∃ t, (kys 49 I).getD k 0 = 100 + t := ⟨(kys 49 I).getD k 0 - 100, by omega⟩
      rw [ht] at g
      rw [e, ht, ← g]
      exact wbk_dm bk (by omega) (by rw [g]; omega)
  · have yin : (kys 49 I).getD k 0 < (I 49 3).toNatClampNeg ∨ (100 ≤ (kys 49 I).getD k 0 ∧ (kys 49 I).getD k 0 < 100 + (I 49 5).toNatClampNeg) := kitL_in hk'
    have v := wv k hk'
    have g := gy k hk'
    rcases g49_74_c4 (hk.2.2.2.2.2.2 _ yin) with ⟨b1, b2⟩ | ⟨b1, b2, b3⟩
    · rw [e, ← g]
      exact wbk_ds bk b1 (by rw [g]; omega)
    · exact absurd (kl_le.mpr (by rw [e, Int32.toInt_ofNat_of_lt (by omega), h100]; omega)) a
section
variable {S : sm_C} {I : sm_I} {L : sm_L} {R : sm_R} {r : Int32}
/-- the reference's scan for an ITEM -/
theorem rx_chO {d : Nat} {Φ : sm_Z → Prop} {J : sm_I} {xs : List Nat} {x y : Int32} {w k a : Nat} (hL : lM J xs) (len : xs.length ≤ 70) (ub : ∀ j, j < xs.length → xs.getD j 0 < 200) (hk : k < xs.length) (k55 : k < 55) (ha : xs.getD k 0 = a) (un : ∀ j, j < xs.length → xs.getD j 0 = a → j = k) (hx : x.toInt = w) (w1 : w < 1000) (hy : y.toInt = a) (h : Φ (some (.int (J 153 (55 * w + k))), (xLay, J, L, kM R))) : sm_wp sm_P S d 113 0 [.ref 107, .int x, .int y] [] (xLay, J, L, kM R) (0, 0) Φ := by
  have c55 : (55 : Int32).toInt = 55 := by decide
  have m1 : ((55 : Int32) * x).toInt = 55 * (w : Int) := ml_mu c55 hx (by omega) (by omega)
  have lp : ∀ (n j : Nat) (x3 x4 : Int32), x4.toInt = j → j + n = xs.length → (k < j → x3 = J 153 (55 * w + k)) → sm_wp sm_P S d 113 1 [.ref 107, .int x, .int y, .int x3, .int x4] [] (xLay, J, L, kM R) (0, 0) Φ := by
    intro n
    induction n with
    | zero =>
      intro j x3 x4 h4 hj h3
      refine pj_X12_choiceOf_1 ⟨fun _ => ?_, fun c => ?_⟩
      · rw [h3 (by omega)]; exact h
      · have c := kl_nle c
        rw [hL.1] at c
        omega
    | succ n ih =>
      intro j x3 x4 h4 hj h3
      have n4 := tk_nat h4
      have s1 := ml_in1 (x := x4) (by omega)
      have u := ub j (by omega)
      refine pj_X12_choiceOf_1 ⟨fun c => ?_, fun _ => ⟨kl_in (by omega) (by omega), fun c => ?_, fun c => ?_⟩⟩
      · have c := kl_le.mp c
        rw [hL.1] at c
        omega
      · rw [n4, hL.2 j (by omega)] at c
        have cc := congrArg Int32.toInt c
        rw [Int32.toInt_ofNat_of_lt (by omega), hy] at cc
        have jk := un j (by omega) (by omega)
        have t : ((55 : Int32) * x + x4).toInt = ((55 * w + j : Nat) : Int) := (ml_ad m1 h4 (by omega) (by omega)).trans (by omega)
        refine ⟨kl_in (by omega) (by omega), fun n1 e1 => ih (j + 1) _ _ (by omega) (by omega) (fun _ => ?_)⟩
        rw [e1, tk_nat t, jk]
      · have jk : j ≠ k := fun q => c (by
          rw [n4, hL.2 j (by omega), q, ha]
          exact en_ofI (by rw [hy, Int32.toInt_ofNat_of_lt (by rw [q, ha] at u; omega)]))
        exact ih (j + 1) _ _ (by omega) (by omega) (fun q => h3 (by omega))
  exact pj_X12_choiceOf_0 (lp xs.length 0 _ _ (by decide) (by omega) (fun q => absurd q (Nat.not_lt_zero _)))
theorem rx_Jm {d : Nat} {Φ : sm_Z → Prop} {I0 : sm_I} {L0 : sm_L} {R0 : sm_R} (hJ : lw_J I0 L0 R0) (mk : en_mem kl_tb2 klY (xLay, I, L, R)) (o : ∀ p j, 107 ≤ p → I p j = I0 p j ∧ R p j = R0 p j) {qt qi l : Nat} (hrf : rfE qt qi l I0 R0) (h : ∀ J, gofr I J → gor (rxs I l) (KF qt I0) J → en_mem ml_tb mlX (xLay, J, L, R) → Φ (none, (xLay, J, L, kM R))) : sm_wp sm_P S (d + 8) 135 0 [.ref 107] [] (xLay, I, L, kM R) (0, 0) Φ := by
  have mm : en_mem ml_tb mlX (xLay, I, L, R) := lw_mk (lw_pk (ky_dn mk)) hJ.1.2.1 o
  have e : kM R = R := ml_R mm
  rw [e] at h ⊢
  refine sm_wp_mono (sm_wp_and (mlh_17 (Sc := S) (d + 8) (show 8 ≤ d + 8 by omega) [.ref 107] (xLay, I, L, R) ⟨⟨rfl, rfl⟩, trivial⟩ mm ml_pf0) (rx_J (X := XwaysK) (d := d + 2) (Φ := fun z => ∃ J, z = (none, (xLay, J, L, R)) ∧ gofr I J ∧ gor (rxs I l) (KF qt I0) J) hJ mk o hrf (fun J f k => ⟨J, rfl, f, k⟩))) (fun z q => ?_)
  obtain ⟨⟨-, q2, -⟩, J, ez, f, k⟩ := q
  subst ez
  exact h J f k q2
/-- the reference's list again, and its scan there -/
theorem rx_ls {d : Nat} {Φ : sm_Z → Prop} {J : sm_I} {l : Nat} (fr : ∀ p j, (p = 107 ∧ (j = 18 ∨ j = 46 ∨ j = 54)) ∨ ((118 ≤ p ∧ p ≤ 142) ∧ p ≠ 138) ∨ (144 ≤ p ∧ p ≤ 147) → J p j = I p j) (hl : (I 107 18).toInt = l) (l1 : l ≤ 1) (b : 0 ≤ (I 125 l).toInt ∧ (I 125 l).toInt ≤ 10) (b46 : 0 ≤ (I 107 46).toInt ∧ (I 107 46).toInt ≤ 45) (b67 : 0 ≤ (J 107 67).toInt ∧ (J 107 67).toInt ≤ 10) (h : ∀ J2, chl J J2 → (∀ (d : Nat) (x y : Int32) (w k a : Nat) (Ψ : sm_Z → Prop), k < (rxs I l).length → (rxs I l).getD k 0 = a → x.toInt = w → w < 1000 → y.toInt = a → Ψ (some (.int (J2 153 (55 * w + k))), (xLay, J2, L, kM R)) → sm_wp sm_P S d 113 0 [.ref 107, .int x, .int y] [] (xLay, J2, L, kM R) (0, 0) Ψ) → Φ (none, (xLay, J2, L, kM R))) : sm_wp sm_P S d 208 0 [.ref 107] [] (xLay, J, L, kM R) (0, 0) (fun z => ∃ (r : Int32) (I7 : sm_I) (L8 : sm_L), z = (some (.int r), (xLay, I7, L8, (kM R))) ∧ sm_wp sm_P S d 160 0 [.ref 107, .int r] [] (xLay, I7, L8, (kM R)) (0, 0) Φ) := by
  have nb := kl_nat b.1
  have nm := kl_nat b46.1
  have ne := kl_nat b67.1
  have e137 : J 137 = I 137 := funext (fun j => fr 137 j (by omega))
  have hl' : (J 107 18).toInt = l := by rw [fr 107 18 (by omega)]; exact hl
  have hs : (J 125 l).toInt = (I 125 l).toNatClampNeg := by rw [fr 125 l (by omega)]; exact nb.symm
  refine rx_undoubted (s := (I 125 l).toNatClampNeg) hl' l1 hs (by omega) ⟨_, J, L, rfl, ?_⟩
  rw [e137]
  refine rx_lists (l := l) (s := (I 125 l).toNatClampNeg) (m := (I 107 46).toNatClampNeg) (e := (J 107 67).toNatClampNeg) hl' l1 hs (by omega) (by rw [fr 107 46 (by omega)]; exact nm.symm) (by omega) ne.symm (by omega) (fun J2 c2 m2 => h J2 c2 (fun d x y w k a Ψ hk ha hx w1 hy hh => ?_))
  obtain ⟨u1, u2, u3, u4, u5, u6⟩ := itL_un (set := rdb I (I 125 l).toNatClampNeg) (e := (J 107 67).toNatClampNeg) (show (I 125 l).toNatClampNeg ≤ 10 by omega) (show (I 107 46).toNatClampNeg ≤ 45 by omega) hk ha
  exact rx_chO m2 (by show (itL (rdb I (I 125 l).toNatClampNeg) _ _ _).length ≤ 70; omega) (fun j hj => by have := u6 j hj; show (itL (rdb I (I 125 l).toNatClampNeg) _ _ _).getD j 0 < 200; omega) u1 u4 u2 u3 hx w1 hy hh
end
end
section
/-! THE LAW: pairs out of what was gone through: choice (wip/pe/mkp5.py) -/
section
variable {S : sm_C} {I : sm_I} {L : sm_L} {R : sm_R} {r : Int32}
end
end
section
/-! THE LAW: pairs out of what was gone through: goes (wip/pe/mkp5.py) -/
section
variable {S : sm_C} {I : sm_I} {L : sm_L} {R : sm_R} {r : Int32}
end
end
section
/-! THE LAW: pairs out of what was gone through: forced (wip/pe/mkp5.py) -/
/-- what every WAY has, or -2 -/
def frc (f : Nat → Int32) : Nat → Nat → Int32 → Int32
  | 0, _, o => o
  | m + 1, w, o => if 0 < w ∧ f w ≠ o then -2 else frc f m (w + 1) (f w)
noncomputable def wyF (qt : Nat) (I : sm_I) (k w : Nat) : Int32 := Int32.ofNat ((KF qt I).2.2.2.2.2.2 w k)
def XforcedK (y : Int32) (I : sm_I) (_ : sm_L) (R : sm_R) (r : Int32) (I1 : sm_I) (_ : sm_L) (R1 : sm_R) : Prop := ∃ qt, R 0 9 = some qt ∧ XF I R I1 R1 ∧ (¬ (0 ≤ y.toInt ∧ y.toInt < (I qt 3).toInt) → r = -1) ∧ (0 ≤ y.toInt → y.toInt < (I qt 3).toInt → (dbt I y → r = -1) ∧ (¬ dbt I y → ((KF qt I).2.2.2.2.1 = true → r = -3) ∧ ((KF qt I).2.2.2.2.1 = false → ∀ k, k < (kys qt I).length → y = Int32.ofNat ((kys qt I).getD k 0) → r = frc (wyF qt I k) (KF qt I).2.2.2.1 0 (-2))))
section
variable {S : sm_C} {I : sm_I} {L : sm_L} {R : sm_R} {r : Int32}
theorem frK12 {d : Nat} {Φ : sm_Z → Prop} {J : sm_I} {L' : sm_L} {R' : sm_R} {y : Int32} (hk : kW 12 I) (xg : XG 12 I R J L' R') (eG : kG12_74 R' = R') (eF' : kF12_74 R' = R') (s : (KF 12 I).2.2.2.2.1 = false) : ∀ (n w : Nat) (x2 x3 : Int32) (O : Nat → Int32), x3.toInt = w → w + n = (KF 12 I).2.2.2.1 → (∀ k, k < (kys 12 I).length → y = Int32.ofNat ((kys 12 I).getD k 0) → x2 = O k) → (∀ r : Int32, (∀ k, k < (kys 12 I).length → y = Int32.ofNat ((kys 12 I).getD k 0) → r = frc (wyF 12 I k) n w (O k)) → Φ (some (.int r), (xLay, J, L', kF12_74 R'))) → sm_wp sm_P S (d + 1) 45 6 [.ref 0, .int y, .int x2, .int x3] [] (xLay, J, L', kF12_74 R') (0, 0) Φ := by
  have f1 : (KF 12 I).2.2.2.1 ≤ 1000 := GT_wf.2.2.2.2.1.1
  have a14 := xg.2.2.2.2.1.2.1
  intro n
  induction n with
  | zero =>
    intro w x2 x3 O h3 hw hO h
    refine ph12_X11_forced_6 ⟨fun _ => h x2 hO, fun c => ?_⟩
    have c := kl_nle c
    rw [a14] at c
    omega
  | succ n ih =>
    intro w x2 x3 O h3 hw hO h
    have s1 := ml_in1 (x := x3) (by omega)
    refine ph12_X11_forced_6 ⟨fun c => ?_, fun _ => ?_⟩
    · have c := kl_le.mp c
      rw [a14] at c
      omega
    · rw [eF']
      refine chK12 hk xg eG ⟨by omega, s, by omega⟩ (fun r hr => ⟨r, J, L', R', by rw [eF'], fun c => ?_, fun c => ⟨fun c2 => ?_, fun c2 => ?_⟩⟩)
      · have c := kl_le.mp c
        rw [kl_0] at c
        have w0 : w = 0 := by omega
        refine ih (w + 1) r _ (fun k => wyF 12 I k w) (by omega) (by omega) (fun k k1 k2 => ?_) (fun r2 h2 => h r2 (fun k k1 k2 => ?_))
        · have := hr k k1 k2
          rw [tk_nat h3] at this
          exact this
        · show r2 = if 0 < w ∧ wyF 12 I k w ≠ O k then -2 else frc (wyF 12 I k) n (w + 1) (wyF 12 I k w)
          rw [if_neg (by omega)]
          exact h2 k k1 k2
      · refine ih (w + 1) r _ (fun k => wyF 12 I k w) (by omega) (by omega) (fun k k1 k2 => ?_) (fun r2 h2 => h r2 (fun k k1 k2 => ?_))
        · have := hr k k1 k2
          rw [tk_nat h3] at this
          exact this
        · show r2 = if 0 < w ∧ wyF 12 I k w ≠ O k then -2 else frc (wyF 12 I k) n (w + 1) (wyF 12 I k w)
          have q := hr k k1 k2
          rw [tk_nat h3] at q
          rw [if_neg (fun z => z.2 (q.symm.trans (c2.trans (hO k k1 k2))))]
          exact h2 k k1 k2
      · have c := kl_nle c
        rw [kl_0] at c
        refine h _ (fun k k1 k2 => ?_)
        show (-2 : Int32) = if 0 < w ∧ wyF 12 I k w ≠ O k then -2 else frc (wyF 12 I k) n (w + 1) (wyF 12 I k w)
        have q := hr k k1 k2
        rw [tk_nat h3] at q
        rw [if_pos ⟨by omega, fun z => c2 (q.trans (z.trans (hO k k1 k2).symm))⟩]
theorem frK49 {d : Nat} {Φ : sm_Z → Prop} {J : sm_I} {L' : sm_L} {R' : sm_R} {y : Int32} (hk : kW 49 I) (xg : XG 49 I R J L' R') (eG : kG49_74 R' = R') (eF' : kF49_74 R' = R') (s : (KF 49 I).2.2.2.2.1 = false) : ∀ (n w : Nat) (x2 x3 : Int32) (O : Nat → Int32), x3.toInt = w → w + n = (KF 49 I).2.2.2.1 → (∀ k, k < (kys 49 I).length → y = Int32.ofNat ((kys 49 I).getD k 0) → x2 = O k) → (∀ r : Int32, (∀ k, k < (kys 49 I).length → y = Int32.ofNat ((kys 49 I).getD k 0) → r = frc (wyF 49 I k) n w (O k)) → Φ (some (.int r), (xLay, J, L', kF49_74 R'))) → sm_wp sm_P S (d + 1) 45 6 [.ref 0, .int y, .int x2, .int x3] [] (xLay, J, L', kF49_74 R') (0, 0) Φ := by
  have f1 : (KF 49 I).2.2.2.1 ≤ 1000 := GT_wf.2.2.2.2.1.1
  have a14 := xg.2.2.2.2.1.2.1
  intro n
  induction n with
  | zero =>
    intro w x2 x3 O h3 hw hO h
    refine ph49_X11_forced_6 ⟨fun _ => h x2 hO, fun c => ?_⟩
    have c := kl_nle c
    rw [a14] at c
    omega
  | succ n ih =>
    intro w x2 x3 O h3 hw hO h
    have s1 := ml_in1 (x := x3) (by omega)
    refine ph49_X11_forced_6 ⟨fun c => ?_, fun _ => ?_⟩
    · have c := kl_le.mp c
      rw [a14] at c
      omega
    · rw [eF']
      refine chK49 hk xg eG ⟨by omega, s, by omega⟩ (fun r hr => ⟨r, J, L', R', by rw [eF'], fun c => ?_, fun c => ⟨fun c2 => ?_, fun c2 => ?_⟩⟩)
      · have c := kl_le.mp c
        rw [kl_0] at c
        have w0 : w = 0 := by omega
        refine ih (w + 1) r _ (fun k => wyF 49 I k w) (by omega) (by omega) (fun k k1 k2 => ?_) (fun r2 h2 => h r2 (fun k k1 k2 => ?_))
        · have := hr k k1 k2
          rw [tk_nat h3] at this
          exact this
        · show r2 = if 0 < w ∧ wyF 49 I k w ≠ O k then -2 else frc (wyF 49 I k) n (w + 1) (wyF 49 I k w)
          rw [if_neg (by omega)]
          exact h2 k k1 k2
      · refine ih (w + 1) r _ (fun k => wyF 49 I k w) (by omega) (by omega) (fun k k1 k2 => ?_) (fun r2 h2 => h r2 (fun k k1 k2 => ?_))
        · have := hr k k1 k2
          rw [tk_nat h3] at this
          exact this
        · show r2 = if 0 < w ∧ wyF 49 I k w ≠ O k then -2 else frc (wyF 49 I k) n (w + 1) (wyF 49 I k w)
          have q := hr k k1 k2
          rw [tk_nat h3] at q
          rw [if_neg (fun z => z.2 (q.symm.trans (c2.trans (hO k k1 k2))))]
          exact h2 k k1 k2
      · have c := kl_nle c
        rw [kl_0] at c
        refine h _ (fun k k1 k2 => ?_)
        show (-2 : Int32) = if 0 < w ∧ wyF 49 I k w ≠ O k then -2 else frc (wyF 49 I k) n (w + 1) (wyF 49 I k w)
        have q := hr k k1 k2
        rw [tk_nat h3] at q
        rw [if_pos ⟨by omega, fun z => c2 (q.trans (z.trans (hO k k1 k2).symm))⟩]
theorem bk_forced {y : Int32} (hI : lw_J I L R) : sm_wp sm_P S (58 + 1) 45 0 [.ref 0, .int y] [] (xLay, I, L, R) (0, 0) (fun z => ∃ (r : Int32) (I2 : sm_I) (L2 : sm_L) (R2 : sm_R), z = (some (.int r), (xLay, I2, L2, R2)) ∧ XforcedK y I L R r I2 L2 R2) := by
  have m := hI.1.1
  obtain ⟨qt, hq, g1, hk, -⟩ := hI.2.1
  have eP : kP qt R = R := kP_eq (w := (xLay, I, L, R)) m g1
  rcases hq with e | e <;> subst e
  · have eF : kF12_74 R = R := kF12_74_eq (w := (xLay, I, L, R)) m g1
    have xf : XF I R I (kF12_74 R) := ⟨by rw [eF], by rw [eF], fun _ _ _ => rfl⟩
    have g := ph12_X11_forced_0 (S := S) (d := 52 + 6) (I := I) (L := L) (R := R) (x1 := y) (Φ := fun z => ∃ (r : Int32) (I2 : sm_I) (L2 : sm_L) (R2 : sm_R), z = (some (.int r), (xLay, I2, L2, R2)) ∧ XforcedK y I L R r I2 L2 R2) (inS_at (Or.inl rfl) (by rw [eF]; exact eP) (fun n => ⟨_, I, L, R, rfl, fun _ => ⟨_, I, L, _, rfl, 12, g1, xf, fun _ => rfl, fun a b => absurd ⟨a, b⟩ n⟩, fun n => absurd rfl n⟩) (fun a b => ⟨_, I, L, R, rfl, fun n => absurd n (by decide), fun _ => pq12_X11_isDoubted_0 ⟨fun z => ⟨_, I, L, R, rfl, fun _ => igm12 hI g1 (fun J L' xg c12 mj => ⟨_, J, L', kG12_74 R, by rw [kFG12], fun u => ⟨_, J, L', _, rfl, 12, g1, by rw [kFG12]; exact ⟨xg.1, xg.2.1, xg.2.2.1⟩, fun n => absurd ⟨a, b⟩ n, fun _ _ => ⟨fun q => absurd z q, fun _ => ⟨fun _ => rfl, fun q => ?_⟩⟩⟩, fun u => ?_⟩), fun n => absurd rfl n⟩, fun z => ⟨_, I, L, R, rfl, fun n => absurd n (by decide), fun _ => ⟨_, I, L, _, rfl, 12, g1, xf, fun n => absurd ⟨a, b⟩ n, fun _ _ => ⟨fun _ => rfl, fun q => absurd z q⟩⟩⟩⟩⟩))
    · rw [eF] at g
      exact g
    · rw [if_neg (by rw [q]; decide)] at u
      exact absurd u (by decide)
    · have s : (KF 12 I).2.2.2.2.1 = false := by
        cases v : (KF 12 I).2.2.2.2.1 with
        | true => rw [if_pos v] at u; exact absurd rfl u
        | false => rfl
      have eG : kG12_74 (kG12_74 R) = kG12_74 R := kG12_74_eq (w := (xLay, J, L', kG12_74 R)) (ky_dn mj) rfl rfl
      refine frK12 (S := S) (d := 52 + 6) hk xg eG (kFG12 R) s (KF 12 I).2.2.2.1 0 (-2) 0 (fun _ => -2) (by decide) (by omega) (fun _ _ _ => rfl) (fun r hr => ⟨r, J, L', _, rfl, 12, g1, ?_, fun n => absurd ⟨a, b⟩ n, fun _ _ => ⟨fun q => absurd z q, fun _ => ⟨fun q => ?_, fun _ => hr⟩⟩⟩)
      · rw [kFG12]; exact ⟨xg.1, xg.2.1, xg.2.2.1⟩
      · rw [s] at q; exact absurd q (by decide)
  · have eF : kF49_74 R = R := kF49_74_eq (w := (xLay, I, L, R)) m g1
    have xf : XF I R I (kF49_74 R) := ⟨by rw [eF], by rw [eF], fun _ _ _ => rfl⟩
    have g := ph49_X11_forced_0 (S := S) (d := 52 + 6) (I := I) (L := L) (R := R) (x1 := y) (Φ := fun z => ∃ (r : Int32) (I2 : sm_I) (L2 : sm_L) (R2 : sm_R), z = (some (.int r), (xLay, I2, L2, R2)) ∧ XforcedK y I L R r I2 L2 R2) (inS_at (Or.inr rfl) (by rw [eF]; exact eP) (fun n => ⟨_, I, L, R, rfl, fun _ => ⟨_, I, L, _, rfl, 49, g1, xf, fun _ => rfl, fun a b => absurd ⟨a, b⟩ n⟩, fun n => absurd rfl n⟩) (fun a b => ⟨_, I, L, R, rfl, fun n => absurd n (by decide), fun _ => pq49_X11_isDoubted_0 ⟨fun z => ⟨_, I, L, R, rfl, fun _ => igm49 hI g1 (fun J L' xg c12 mj => ⟨_, J, L', kG49_74 R, by rw [kFG49], fun u => ⟨_, J, L', _, rfl, 49, g1, by rw [kFG49]; exact ⟨xg.1, xg.2.1, xg.2.2.1⟩, fun n => absurd ⟨a, b⟩ n, fun _ _ => ⟨fun q => absurd z q, fun _ => ⟨fun _ => rfl, fun q => ?_⟩⟩⟩, fun u => ?_⟩), fun n => absurd rfl n⟩, fun z => ⟨_, I, L, R, rfl, fun n => absurd n (by decide), fun _ => ⟨_, I, L, _, rfl, 49, g1, xf, fun n => absurd ⟨a, b⟩ n, fun _ _ => ⟨fun _ => rfl, fun q => absurd z q⟩⟩⟩⟩⟩))
    · rw [eF] at g
      exact g
    · rw [if_neg (by rw [q]; decide)] at u
      exact absurd u (by decide)
    · have s : (KF 49 I).2.2.2.2.1 = false := by
        cases v : (KF 49 I).2.2.2.2.1 with
        | true => rw [if_pos v] at u; exact absurd rfl u
        | false => rfl
      have eG : kG49_74 (kG49_74 R) = kG49_74 R := kG49_74_eq (w := (xLay, J, L', kG49_74 R)) (ky_dn mj) rfl rfl
      refine frK49 (S := S) (d := 52 + 6) hk xg eG (kFG49 R) s (KF 49 I).2.2.2.1 0 (-2) 0 (fun _ => -2) (by decide) (by omega) (fun _ _ _ => rfl) (fun r hr => ⟨r, J, L', _, rfl, 49, g1, ?_, fun n => absurd ⟨a, b⟩ n, fun _ _ => ⟨fun q => absurd z q, fun _ => ⟨fun q => ?_, fun _ => hr⟩⟩⟩)
      · rw [kFG49]; exact ⟨xg.1, xg.2.1, xg.2.2.1⟩
      · rw [s] at q; exact absurd q (by decide)
theorem frM {d : Nat} {Φ : sm_Z → Prop} {qt : Nat} {I0 J2 : sm_I} {y : Int32} {k a l : Nat} (hf : (J2 107 73).toInt = (KF qt I0).2.2.2.1) (f1 : (KF qt I0).2.2.2.1 ≤ 1000) (ws : ∀ w, w < (KF qt I0).2.2.2.1 → J2 153 (55 * w + k) = Int32.ofNat ((KF qt I0).2.2.2.2.2.2 w k)) (hk : k < (rxs I l).length) (ha : (rxs I l).getD k 0 = a) (hy : y.toInt = a) (sc : ∀ (d : Nat) (x y : Int32) (w k a : Nat) (Ψ : sm_Z → Prop), k < (rxs I l).length → (rxs I l).getD k 0 = a → x.toInt = w → w < 1000 → y.toInt = a → Ψ (some (.int (J2 153 (55 * w + k))), (xLay, J2, L, kM R)) → sm_wp sm_P S d 113 0 [.ref 107, .int x, .int y] [] (xLay, J2, L, kM R) (0, 0) Ψ) : ∀ (n w : Nat) (x2 x3 : Int32), x3.toInt = w → w + n = (KF qt I0).2.2.2.1 → Φ (some (.int (frc (wyF qt I0 k) n w x2)), (xLay, J2, L, kM R)) → sm_wp sm_P S (d + 1) 127 6 [.ref 107, .int y, .int x2, .int x3] [] (xLay, J2, L, kM R) (0, 0) Φ := by
  intro n
  induction n with
  | zero =>
    intro w x2 x3 h3 hw h
    refine pj_X12_forced_6 ⟨fun _ => h, fun c => ?_⟩
    have c := kl_nle c
    rw [hf] at c
    omega
  | succ n ih =>
    intro w x2 x3 h3 hw h
    have s1 := ml_in1 (x := x3) (by omega)
    have h : Φ (some (.int (if 0 < w ∧ wyF qt I0 k w ≠ x2 then -2 else frc (wyF qt I0 k) n (w + 1) (wyF qt I0 k w))), (xLay, J2, L, kM R)) := h
    refine pj_X12_forced_6 ⟨fun c => ?_, fun _ => sc _ _ _ w k a _ hk ha h3 (by omega) hy ?_⟩
    · have c := kl_le.mp c
      rw [hf] at c
      omega
    · rw [ws w (by omega)]
      refine ⟨_, J2, L, rfl, fun c => ?_, fun c => ⟨fun c2 => ?_, fun c2 => ?_⟩⟩
      · have c := kl_le.mp c
        rw [kl_0] at c
        rw [if_neg (by omega)] at h
        exact ih (w + 1) _ _ (by omega) (by omega) h
      · rw [if_neg (fun z => z.2 c2)] at h
        exact ih (w + 1) _ _ (by omega) (by omega) h
      · have c := kl_nle c
        rw [kl_0] at c
        rw [if_pos ⟨by omega, c2⟩] at h
        exact h
theorem bm_forced {y : Int32} (hI : MJ (XforcedK y) r I L R) : sm_wp sm_P S (58 + 1) 127 0 [.ref 107, .int y] [] (xLay, I, L, R) (0, 0) (fun z => ∃ (r' : Int32) (I2 : sm_I) (L2 : sm_L) (R2 : sm_R), z = (some (.int r'), (xLay, I2, L2, R2)) ∧ r = r' ∧ ((∀ p j, p < 107 → I2 p j = I p j ∧ R2 p j = R p j) → LJ I2 R2)) := by
  obtain ⟨I0, L0, R0, hJ, mk, o, q, e09, xf, X0, X1⟩ := hI
  have mm : en_mem ml_tb mlX (xLay, I, L, R) := lw_mk (lw_pk (ky_dn mk)) hJ.1.2.1 o
  have e : kM R = R := ml_R mm
  obtain ⟨-, n0, tp, hd, qt, qi, l, hrf, htd⟩ := hJ.1
  have eq : q = qt := Option.some.inj (e09.symm.trans hrf.2.2.1)
  subst eq
  have hq : q = 12 ∨ q = 49 := by have := hrf.1; omega
  obtain ⟨c0, c1, c2, c3, c4, -⟩ := q_cnt hq htd
  have c5 : I0 q 5 = I0 107 46 := htd.2.2.1
  have hl : (I 107 18).toInt = l := by rw [(o 107 18 (by omega)).1]; exact hrf.2.2.2.2
  have l1 := hrf.2.1
  have hb := (ml_cs l1 mm).2.2.2.1
  have b46 : 0 ≤ (I 107 46).toInt ∧ (I 107 46).toInt ≤ 45 := mm.2.1 107 46 (0, 45) (by decide +kernel)
  have e3 : (I0 q 3).toInt = (I 125 l).toInt := by rw [c3, (o 125 l (by omega)).1]
  have e5 : (I0 q 5).toInt = (I 107 46).toInt := by rw [c5, (o 107 46 (by omega)).1]
  have hb0 : 0 ≤ (I0 125 l).toInt ∧ (I0 125 l).toInt ≤ 10 := by rw [← (o 125 l (by omega)).1]; exact hb
  have b460 : 0 ≤ (I0 107 46).toInt ∧ (I0 107 46).toInt ≤ 45 := by rw [← (o 107 46 (by omega)).1]; exact b46
  obtain ⟨il, ia⟩ := it_at hJ.1 hrf
  have xi : rxs I l = rxs I0 l := rx_it o l
  have f1 : (KF q I0).2.2.2.1 ≤ 1000 := GT_wf.2.2.2.2.1.1
  have lj : ∀ {I2 : sm_I} {R2 : sm_R}, (∀ p j, lkM p j → I2 p j = I p j) → (∀ p j, p < 107 → I2 p j = I p j ∧ R2 p j = R p j) → LJ I2 R2 := fun g f => LJ_f hJ o xf g f
  have st : ∀ p j, lkM p j → I p j = I p j := fun _ _ _ => rfl
  have g := pj_X12_forced_0 (S := S) (d := 50 + 8) (I := I) (L := L) (R := R) (x1 := y) (Φ := fun z => ∃ (r' : Int32) (I2 : sm_I) (L2 : sm_L) (R2 : sm_R), z = (some (.int r'), (xLay, I2, L2, R2)) ∧ r = r' ∧ ((∀ p j, p < 107 → I2 p j = I p j ∧ R2 p j = R p j) → LJ I2 R2)) (yp_inS (d := 49 + 8) hl l1 hb (fun n => ⟨_, I, L, rfl, fun _ => ⟨_, I, L, _, rfl, X0 (fun w => n ⟨w.1, by omega⟩), lj st⟩, fun n => absurd rfl n⟩) (fun a b => ⟨_, I, L, rfl, fun n => absurd n (by decide), fun _ => ⟨kl_in a (by omega), fun dz => rx_Jm hJ mk o hrf (fun J f k mj => ⟨J, L, rfl, fun t I7 e7 => ?_, fun t => ⟨_, J, L, _, rfl, ?_, lj (gofr_lk f)⟩⟩), fun dz => ⟨_, I, L, _, rfl, ?_, lj st⟩⟩⟩))
  · rw [e] at g
    exact g
  · have n := kl_nat a
    have e137 : I 137 y.toNatClampNeg = I0 137 y.toNatClampNeg := (o 137 _ (by omega)).1
    rw [e137] at dz
    have nd : ¬ dbt I0 y := fun q => (dbt_iff hd (show y.toNatClampNeg < 10 by omega) (by omega)).mp q dz
    have s : (KF q I0).2.2.2.2.1 = false := by
      cases v : (KF q I0).2.2.2.2.1 with
      | false => rfl
      | true => rw [k.1, if_pos v] at t; exact absurd t (by decide)
    have o7 : ∀ p j, ¬ (p = 107 ∧ j = 67) → I7 p j = J p j := fun p j q => by rw [e7, en_up_ne _ _ _ _ (by omega)]
    have f7 : gofr I I7 := fun p j q => (o7 p j (by omega)).trans (f p j q)
    obtain ⟨i, i1, i2⟩ := rxs_say (I := I0) (l := l) (k := y.toNatClampNeg) hb0 (by rw [← (o 125 l (by omega)).1]; omega) dz
    have w := ((X1 a (by omega)).2 nd).2 s i (by omega) (by
      rw [ia i i1, i2]
      unfold cdm
      rw [if_pos (by omega)]
      exact en_ofI (by rw [Int32.toInt_ofNat_of_lt (by omega)]; omega))
    refine rx_ls (I := I) (l := l) (fun p j q => f7 p j (by omega)) hl l1 hb b46 (by rw [e7, en_up_eq]; decide) (fun J2 c2 sc => ⟨J2, L, rfl, frM (l := l) (k := i) (a := y.toNatClampNeg) (qt := q) (I0 := I0) (by rw [c2 107 73 (by omega) (by omega), o7 107 73 (by omega)]; exact k.2.2.1) f1 (fun w hw => by rw [c2 153 _ (by omega) (by omega), o7 153 _ (by omega)]; exact k.2.2.2.2 w i hw (by rw [xi]; exact i1)) (by rw [xi]; exact i1) (by rw [xi]; exact i2) n.symm sc _ 0 _ _ (by decide) (Nat.zero_add _) ⟨_, J2, L, _, rfl, w, lj (fun p j q => (c2 p j (by unfold lkM at q; omega) (by unfold lkM at q; omega)).trans (gofr_lk f7 p j q))⟩⟩)
  · have n := kl_nat a
    have e137 : I 137 y.toNatClampNeg = I0 137 y.toNatClampNeg := (o 137 _ (by omega)).1
    rw [e137] at dz
    have nd : ¬ dbt I0 y := fun q => (dbt_iff hd (show y.toNatClampNeg < 10 by omega) (by omega)).mp q dz
    refine ((X1 a (by omega)).2 nd).1 ?_
    cases v : (KF q I0).2.2.2.2.1 with
    | true => rfl
    | false => rw [k.1, if_neg (by rw [v]; decide)] at t; exact absurd rfl t
  · have n := kl_nat a
    have e137 : I 137 y.toNatClampNeg = I0 137 y.toNatClampNeg := (o 137 _ (by omega)).1
    rw [e137] at dz
    exact (X1 a (by omega)).1 ((dbt_iff hd (show y.toNatClampNeg < 10 by omega) (by omega)).mpr dz)
end
end
section
/-! THE LAW: at the start nothing is gone through -/
theorem lw_s1 {I : sm_I} {L : sm_L} {R : sm_R} (h : lw_I I L R) (z : sz (xLay, I, L, R)) : lw_J I L R := by
  have iz : ∀ {x : Int32}, x.toInt = 0 → x = 0 := fun e => en_ofI (by rw [e]; decide)
  have r : ∀ p n v, (p, n, v) ∈ sz_rows → ∀ j, j < n → (I p j).toInt = v := fun p n v h j hj => z.1 (p, n, v) h j hj
  have f : ∀ p j v, (p, j, v) ∈ sz_flds → (I p j).toInt = v := fun p j v h => z.2.1 (p, j, v) h
  refine ⟨h, GG_of h (fun qt qi l hrf => ⟨Or.inl (iz (f 0 12 0 (by decide))), Or.inl (iz (f 107 70 0 (by decide))), fun s c i h1 _ _ => ?_, fun k hk => ?_, fun q hq => ?_, fun k hk => ?_⟩)⟩
  · rw [r 125 2 0 (by decide) l (by have := hrf.2.1; omega)] at h1; omega
  · rw [r 134 2 0 (by decide) l (by have := hrf.2.1; omega)] at hk; omega
  · rw [r 136 2 0 (by decide) l (by have := hrf.2.1; omega)] at hq; omega
  · rw [f 107 54 0 (by decide)] at hk; omega
theorem klw_211 {Sc : sm_C} : ∀ (d : Nat), klc_211.2.2.2.2.2 ≤ d → ∀ (vs : List Value) (w : sm_W), en_pvs klc_211.2.1 vs → en_mem kl_tb klX w → sm_wp sm_P Sc d klc_211.1 0 vs [] w (0, 0) (fun z => z.2.2.2.1 = w.2.2.1) := by
  intro d hd vs w hv hm
  obtain ⟨lay, I, L, R⟩ := w
  obtain ⟨vs1, rfl, hv1⟩ := kl_vr (q := 0) rfl hv
  obtain ⟨x1, vs2, rfl, b1, hv2⟩ := kl_vi hv1
  obtain rfl := kl_v0 hv2
  obtain rfl : lay = xLay := hm.2.2.2.2.1
  show sm_wp sm_P Sc d 30 0 _ [] (xLay, I, L, R) (0, 0) _
  exact k0_back_0 ⟨fun _ => rfl, fun _ => ⟨fun _ _ _ => rfl, fun _ => rfl⟩⟩
theorem klk_211 {Sc : sm_C} : en_hold kl_tb2 klY sm_P Sc klc_211 := by
  intro d hd vs w hv hm hp
  have m := ky_dn hm
  have A := klh_211 (Sc := Sc) d hd vs w hv m hp
  have B := klw_211 (Sc := Sc) d hd vs w hv m
  refine sm_wp_mono (sm_wp_and A B) (fun z q => ?_)
  obtain ⟨⟨q1, q2, q3⟩, q4⟩ := q
  have nw : ∀ a b, ¬ (a = 0 ∧ b ≠ 9 ∧ b ≠ 12) → en_wok klc_211.2.2.2.2.1 a b = false := fun a b c => by
    by_cases e : a = 0
    · subst e
      rcases (by omega : b = 9 ∨ b = 12) with e | e <;> subst e <;> decide
    · cases u : en_wok klc_211.2.2.2.2.1 a b with
      | false => rfl
      | true =>
        obtain ⟨q, g1, g2⟩ := List.any_eq_true.mp u
        have g3 : q = (0, [10]) := List.mem_singleton.mp g1
        subst g3
        exact absurd (Nat.eq_of_beq_eq_true (Bool.and_eq_true_iff.mp g2).1).symm e
  exact ⟨q1, ky_up q2 (GK_cg (fun a b k => (q3.2 a b (nw a b (by omega))).1) (fun j => by rw [q4]) (q3.2 0 9 (nw 0 9 (by decide))).2 (q3.2 74 4 (nw 74 4 (by decide))).2 (ky_gk hm)), q3⟩
end
