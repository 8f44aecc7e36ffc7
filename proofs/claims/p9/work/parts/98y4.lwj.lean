/-! THE LAW with what was gone through: its invariant, calls by contract, pairs that leave it -/
def GG (I : sm_I) (L : sm_L) (R : sm_R) : Prop := GK I L R ∧ GM I ∧ ∃ l, (I 107 18).toInt = (l : Nat) ∧ TW l I
def lw_J (I : sm_I) (L : sm_L) (R : sm_R) : Prop := lw_I I L R ∧ GG I L R
theorem TW_cg {l : Nat} {I J : sm_I} (h : ∀ p j, (p = 107 ∧ j = 54) ∨ ((118 ≤ p ∧ p ≤ 136)) ∨ (144 ≤ p ∧ p ≤ 147) → J p j = I p j) (k : TW l I) : TW l J := by
  obtain ⟨k1, k2, k3, k4⟩ := k
  have sk : ∀ n p, sspk I n p → sspk J n p := fun n p k => by
    unfold sspk at k ⊢
    rw [h 130 p (by omega), h 131 p (by omega), h 132 p (by omega), h 133 p (by omega)]; exact k
  unfold TW
  rw [h 122 l (by omega), h 125 l (by omega), h 134 l (by omega), h 136 l (by omega), h 107 54 (by omega)]
  refine ⟨fun s c i a1 a2 a3 => ?_, fun k a => sk _ _ (k2 k a), fun q a => sk _ _ (k3 q a), fun k a => ?_⟩
  · rw [h 128 _ (by omega)] at a2
    rw [h 129 _ (by omega)] at a3
    exact sk _ _ (k1 s c i a1 a2 a3)
  · have b := k4 k a
    unfold mook at b ⊢
    rw [h 144 k (by omega), h 145 k (by omega), h 146 k (by omega), h 147 k (by omega)]; exact b
section
variable {I : sm_I} {L : sm_L} {R : sm_R}
/-- all of it out of what the law knows anyway -/
theorem GG_of (hI : lw_I I L R) (h : ∀ qt qi l : Nat, rfE qt qi l I R → GC qt I L R ∧ GR l I ∧ TW l I) : GG I L R := by
  obtain ⟨m0, mm, -, hd, qt, qi, l, hrf, htd⟩ := hI
  obtain ⟨g1, g2, g3⟩ := h qt qi l hrf
  have hq : qt = 12 ∨ qt = 49 := by have := hrf.1; omega
  have l1 := hrf.2.1
  refine ⟨⟨qt, hq, hrf.2.2.1, kW_of hq l1 mm htd hd g3, g1⟩, ⟨l, rwf_of l1 hrf.2.2.2.2 mm htd.2 g3 (fun i hi q hq' => ?_), g2⟩, l, hrf.2.2.2.2, g3⟩
  exact (((rwE_of hq l1 mm htd).1 i hi).2 q hq').2.1
/-- its parts, by the names that the law uses -/
theorem GG_at (hI : lw_J I L R) {qt qi l : Nat} (hrf : rfE qt qi l I R) : GC qt I L R ∧ GR l I ∧ TW l I ∧ kW qt I ∧ rwf I l := by
  obtain ⟨-, ⟨q, -, g2, g3, g4⟩, ⟨l', g5, g6⟩, l'', g7, g8⟩ := hI
  have e : q = qt := Option.some.inj (g2.symm.trans hrf.2.2.1)
  have hl := hrf.2.2.2.2
  have e2 : l' = l := by have := g5.1.1; omega
  have e3 : l'' = l := by omega
  subst e
  subst e2
  subst e3
  exact ⟨g4, g6, g8, g3, g5⟩
end
/-- a call of the class by contract alone -/
theorem lw_kJ {S : sm_C} {c : en_Ct} {vs : List Value} {I : sm_I} {L : sm_L} {R : sm_R} {lo hi : Int} {C : Int32 → sm_I → sm_L → sm_R → Prop} (h : en_hold kl_tb2 klY sm_P S c) (hc : lw_ck c = true) (hr : c.2.2.2.1 = (0, lo, hi)) (hv : en_pvs c.2.1 vs) (hI : lw_J I L R) (k : ∀ (r : Int32) (I' : sm_I) (L' : sm_L) (R' : sm_R), lw_J I' L' R' → C r I' L' R') : sm_wp sm_P S 59 c.1 0 vs [] (xLay, I, L, R) (0, 0) (fun z => ∃ (r : Int32) (I2 : sm_I) (L2 : sm_L) (R2 : sm_R), z = (some (.int r), (xLay, I2, L2, R2)) ∧ C r I2 L2 R2) := by
  obtain ⟨h1, h2⟩ := Bool.and_eq_true_iff.mp hc
  obtain ⟨h1, h5⟩ := Bool.and_eq_true_iff.mp h1
  obtain ⟨h3, h4⟩ := Bool.and_eq_true_iff.mp h1
  obtain ⟨h6, h7⟩ := Bool.and_eq_true_iff.mp h2
  obtain ⟨h6, h8⟩ := Bool.and_eq_true_iff.mp h6
  obtain ⟨h8, h9⟩ := Bool.and_eq_true_iff.mp h8
  obtain ⟨h7, h10⟩ := Bool.and_eq_true_iff.mp h7
  have hp : c.2.2.1 = [] := List.isEmpty_iff.mp h4
  obtain ⟨hI0, g1, g2, l, g3, g4⟩ := hI
  refine sm_wp_mono (h 59 (Nat.le_of_ble_eq_true h3) vs _ hv (ky_up hI0.1 g1) (by rw [hp]; exact ml_pf0)) (fun z q => ?_)
  obtain ⟨o, lay, I2, L2, R2⟩ := z
  obtain ⟨q1, q2, q3⟩ := q
  have d2 := ky_dn q2
  obtain rfl : lay = xLay := d2.2.2.2.2.1
  rw [hr] at q1
  obtain ⟨r, er⟩ := lw_pr q1
  have er : o = some (.int r) := er
  subst er
  have up : ∀ p j, 107 ≤ p → I2 p j = I p j ∧ R2 p j = R p j := fun p j hp => q3.2 p j (lw_lo h5 hp)
  refine ⟨r, I2, L2, R2, rfl, k r I2 L2 R2 ⟨⟨d2, lw_mk (lw_pk d2) hI0.2.1 up, LJ_cg (fun p j hp => ?_) (q3.2 0 9 (by simpa using h7)).2 (q3.2 2 6 (by simpa using h10)).2 hI0.2.2⟩, ky_gk q2, GM_cg (fun p j q => (up p j (by omega)).1) g2, l, by rw [(up 107 18 (by omega)).1]; exact g3, TW_cg (fun p j q => (up p j (by omega)).1) g4⟩⟩
  rcases hp with (⟨e, e2 | e2⟩ | hp) | hp
  · rw [e, e2]; exact (q3.2 0 10 (by simpa using h8)).1
  · rw [e, e2]; exact (q3.2 0 11 (by simpa using h9)).1
  · exact (q3.2 p j (lw_nr h6 (lw_rc_of hp))).1
  · exact (q3.2 p j (lw_lo h5 (by unfold lkM at hp; omega))).1
theorem lw_mJ {S : sm_C} {c : en_Ct} {vs : List Value} {I : sm_I} {L : sm_L} {R : sm_R} {lo hi : Int} {C : Int32 → sm_I → sm_L → sm_R → Prop} (h : en_hold ml_tb2 (mlY (L 48)) sm_P S c) (hc : lw_cm c = true) (hr : c.2.2.2.1 = (0, lo, hi)) (hv : en_pvs c.2.1 vs) (hI : lw_J I L R) (k : ∀ (r : Int32) (I' : sm_I) (L' : sm_L) (R' : sm_R), lw_J I' L' R' → C r I' L' R') : sm_wp sm_P S 59 c.1 0 vs [] (xLay, I, L, R) (0, 0) (fun z => ∃ (r : Int32) (I2 : sm_I) (L2 : sm_L) (R2 : sm_R), z = (some (.int r), (xLay, I2, L2, R2)) ∧ C r I2 L2 R2) := by
  obtain ⟨h1, h2⟩ := Bool.and_eq_true_iff.mp hc
  obtain ⟨h1, h5⟩ := Bool.and_eq_true_iff.mp h1
  obtain ⟨h3, h4⟩ := Bool.and_eq_true_iff.mp h1
  obtain ⟨h6, h7⟩ := Bool.and_eq_true_iff.mp h2
  obtain ⟨h7, h9⟩ := Bool.and_eq_true_iff.mp h7
  obtain ⟨h7, h8⟩ := Bool.and_eq_true_iff.mp h7
  obtain ⟨h9, h10⟩ := Bool.and_eq_true_iff.mp h9
  obtain ⟨h11, h10⟩ := Bool.and_eq_true_iff.mp h10
  have hp : c.2.2.1 = [] := List.isEmpty_iff.mp h4
  obtain ⟨hI0, g1, g2, l, g3, g4⟩ := hI
  refine sm_wp_mono (h 59 (Nat.le_of_ble_eq_true h3) vs _ hv (my_up hI0.2.1 g2 (fun _ => rfl)) (by rw [hp]; exact ml_pf0)) (fun z q => ?_)
  obtain ⟨o, lay, I2, L2, R2⟩ := z
  obtain ⟨q1, q2, q3⟩ := q
  have d2 := my_dn q2
  obtain rfl : lay = xLay := d2.2.2.2.2.1
  rw [hr] at q1
  obtain ⟨r, er⟩ := lw_pr q1
  have er : o = some (.int r) := er
  subst er
  have lo_ : ∀ p j, p < 107 → I2 p j = I p j ∧ R2 p j = R p j := fun p j hp => q3.2 p j (lw_hi h5 hp)
  have e18 : I2 107 18 = I 107 18 := (q3.2 107 18 (by simpa using h9)).1
  have e54 : I2 107 54 = I 107 54 := (q3.2 107 54 (by simpa using h10)).1
  refine ⟨r, I2, L2, R2, rfl, k r I2 L2 R2 ⟨⟨lw_kk (lw_pm d2) hI0.1 lo_, d2, LJ_cg (fun p j hp => ?_) (lo_ 0 9 (by decide)).2 (lo_ 2 6 (by decide)).2 hI0.2.2⟩, GK_cg (fun p j q => (lo_ p j (by omega)).1) (fun j => my_48 q2 j) (lo_ 0 9 (by decide)).2 (lo_ 74 4 (by decide)).2 g1, my_gm q2, l, by rw [e18]; exact g3, TW_cg (fun p j q => ?_) g4⟩⟩
  · rcases hp with hp | ⟨e, e2 | e2 | e2 | e2 | e2⟩ | hp
    · exact (q3.2 p j (lw_hi h5 (by unfold lkC at hp; omega))).1
    · rw [e, e2]; exact (q3.2 107 2 (by simpa using h7)).1
    · rw [e, e2]; exact (q3.2 107 17 (by simpa using h8)).1
    · rw [e, e2]; exact e18
    · rw [e, e2]; exact (q3.2 107 46 (by simpa using h11)).1
    · rw [e, e2]; exact e54
    · exact (q3.2 p j (lw_nr h6 (lw_rm_of hp))).1
  · rcases q with ⟨e, e2⟩ | q
    · rw [e, e2]; exact e54
    · exact (q3.2 p j (lw_nr h6 (lw_rm_of (by omega)))).1
/-- between the class's call and the reference's -/
def MJ (X : sm_I → sm_L → sm_R → Int32 → sm_I → sm_L → sm_R → Prop) (r : Int32) (I1 : sm_I) (L1 : sm_L) (R1 : sm_R) : Prop := ∃ (I : sm_I) (L : sm_L) (R : sm_R), lw_J I L R ∧ en_mem kl_tb2 klY (xLay, I1, L1, R1) ∧ (∀ p j, 107 ≤ p → I1 p j = I p j ∧ R1 p j = R p j) ∧ X I L R r I1 L1 R1
theorem MJ_dn {X : sm_I → sm_L → sm_R → Int32 → sm_I → sm_L → sm_R → Prop} {r : Int32} {I1 : sm_I} {L1 : sm_L} {R1 : sm_R} (h : MJ X r I1 L1 R1) : MD X r I1 L1 R1 := by
  obtain ⟨I, L, R, h1, h2, h3, h4⟩ := h
  exact ⟨I, L, R, h1.1, ky_dn h2, h3, h4⟩
theorem lw_xkJ {S : sm_C} {c : en_Ct} {vs : List Value} {I : sm_I} {L : sm_L} {R : sm_R} {lo hi : Int} {C : Int32 → sm_I → sm_L → sm_R → Prop} {X : sm_I → sm_L → sm_R → Int32 → sm_I → sm_L → sm_R → Prop} (h : en_hold kl_tb2 klY sm_P S c) (hc : lw_cK c = true) (hr : c.2.2.2.1 = (0, lo, hi)) (hv : en_pvs c.2.1 vs) (hI : lw_J I L R) (B : sm_wp sm_P S 59 c.1 0 vs [] (xLay, I, L, R) (0, 0) (fun z => ∃ (r : Int32) (I2 : sm_I) (L2 : sm_L) (R2 : sm_R), z = (some (.int r), (xLay, I2, L2, R2)) ∧ X I L R r I2 L2 R2)) (k : ∀ (r : Int32) (I' : sm_I) (L' : sm_L) (R' : sm_R), MJ X r I' L' R' → C r I' L' R') : sm_wp sm_P S 59 c.1 0 vs [] (xLay, I, L, R) (0, 0) (fun z => ∃ (r : Int32) (I2 : sm_I) (L2 : sm_L) (R2 : sm_R), z = (some (.int r), (xLay, I2, L2, R2)) ∧ C r I2 L2 R2) := by
  obtain ⟨h1, h5⟩ := Bool.and_eq_true_iff.mp hc
  obtain ⟨h3, h4⟩ := Bool.and_eq_true_iff.mp h1
  have hp : c.2.2.1 = [] := List.isEmpty_iff.mp h4
  refine sm_wp_mono (sm_wp_and (h 59 (Nat.le_of_ble_eq_true h3) vs _ hv (ky_up hI.1.1 hI.2.1) (by rw [hp]; exact ml_pf0)) B) (fun z q => ?_)
  obtain ⟨⟨-, q2, q3⟩, r, I2, L2, R2, ez, x⟩ := q
  subst ez
  exact ⟨r, I2, L2, R2, rfl, k r I2 L2 R2 ⟨I, L, R, hI, q2, fun p j hp => q3.2 p j (lw_lo h5 hp), x⟩⟩
/-- the reference's call behind it -/
theorem lw_xmJ {S : sm_C} {c : en_Ct} {vs : List Value} {I : sm_I} {L : sm_L} {R : sm_R} {r : Int32} {lo hi : Int} {C : Int32 → sm_I → sm_L → sm_R → Prop} {X : sm_I → sm_L → sm_R → Int32 → sm_I → sm_L → sm_R → Prop} (h : en_hold ml_tb2 (mlY (L 48)) sm_P S c) (hc : lw_cM c = true) (hr : c.2.2.2.1 = (0, lo, hi)) (hv : en_pvs c.2.1 vs) (hI : MJ X r I L R) (B : sm_wp sm_P S 59 c.1 0 vs [] (xLay, I, L, R) (0, 0) (fun z => ∃ (r' : Int32) (I2 : sm_I) (L2 : sm_L) (R2 : sm_R), z = (some (.int r'), (xLay, I2, L2, R2)) ∧ r = r' ∧ ((∀ p j, p < 107 → I2 p j = I p j ∧ R2 p j = R p j) → LJ I2 R2))) (t : (en_wok c.2.2.2.2.1 107 18 || (en_wok c.2.2.2.2.1 107 54 || c.2.2.2.2.1.any (fun q => lw_rm q.1 && !(Nat.beq q.1 108 || (Nat.beq q.1 138 || Nat.beq q.1 160))))) = false) (k : ∀ (r' : Int32) (I' : sm_I) (L' : sm_L) (R' : sm_R), r = r' → lw_J I' L' R' → C r' I' L' R') : sm_wp sm_P S 59 c.1 0 vs [] (xLay, I, L, R) (0, 0) (fun z => ∃ (r : Int32) (I2 : sm_I) (L2 : sm_L) (R2 : sm_R), z = (some (.int r), (xLay, I2, L2, R2)) ∧ C r I2 L2 R2) := by
  obtain ⟨h1, h5⟩ := Bool.and_eq_true_iff.mp hc
  obtain ⟨h3, h4⟩ := Bool.and_eq_true_iff.mp h1
  have hp : c.2.2.1 = [] := List.isEmpty_iff.mp h4
  obtain ⟨t1, t2⟩ := Bool.or_eq_false_iff.mp t
  obtain ⟨t2, t3⟩ := Bool.or_eq_false_iff.mp t2
  obtain ⟨I0, L0, R0, ⟨hI0, g1, g2, l, g3, g4⟩, mk, o, -⟩ := hI
  have md := ky_dn mk
  have mm : en_mem ml_tb mlX (xLay, I, L, R) := lw_mk (lw_pk md) hI0.2.1 o
  have g2' : GM I := GM_cg (fun p j q => (o p j (by omega)).1) g2
  refine sm_wp_mono (sm_wp_and (h 59 (Nat.le_of_ble_eq_true h3) vs _ hv (my_up mm g2' (fun _ => rfl)) (by rw [hp]; exact ml_pf0)) B) (fun z q => ?_)
  obtain ⟨⟨-, q2, q3⟩, r', I2, L2, R2, ez, er, x⟩ := q
  subst ez
  have f : ∀ p j, p < 107 → I2 p j = I p j ∧ R2 p j = R p j := fun p j hp => q3.2 p j (lw_hi h5 hp)
  have d2 := my_dn q2
  have row : ∀ p j, lw_rm p = true → p ≠ 108 → p ≠ 138 → p ≠ 160 → I2 p j = I p j := fun p j hp n1 n2 n3 => by
    refine (q3.2 p j ?_).1
    cases c0 : en_wok c.2.2.2.2.1 p j with
    | false => rfl
    | true =>
      obtain ⟨q, g1, g2⟩ := List.any_eq_true.mp c0
      have e : q.1 = p := Nat.eq_of_beq_eq_true (Bool.and_eq_true_iff.mp g2).1
      have l0 : c.2.2.2.2.1.any (fun q => lw_rm q.1 && !(Nat.beq q.1 108 || (Nat.beq q.1 138 || Nat.beq q.1 160))) = true := List.any_eq_true.mpr ⟨q, g1, by
        have b : ∀ n, p ≠ n → Nat.beq p n = false := fun n hn => by
          cases u : Nat.beq p n with
          | false => rfl
          | true => exact absurd (Nat.eq_of_beq_eq_true u) hn
        rw [e, hp, b _ n1, b _ n2, b _ n3]; rfl⟩
      rw [t3] at l0
      cases l0
  have tw : TW l I2 := by
    refine TW_cg (fun p j q => ?_) (TW_cg (J := I) (fun p j q => (o p j (by omega)).1) g4)
    rcases q with ⟨e, e2⟩ | q
    · rw [e, e2]; exact (q3.2 107 54 t2).1
    · exact row p j (lw_rm_of (by omega)) (by omega) (by omega) (by omega)
  exact ⟨r', I2, L2, R2, rfl, k r' I2 L2 R2 er ⟨⟨lw_kk (lw_pm d2) md f, d2, x f⟩, GK_cg (fun p j q => (f p j (by omega)).1) (fun j => my_48 q2 j) (f 0 9 (by decide)).2 (f 74 4 (by decide)).2 (ky_gk mk), my_gm q2, l, (congrArg Int32.toInt (((q3.2 107 18 t1).1 : I2 107 18 = I 107 18).trans (o 107 18 (by omega)).1)).trans g3, tw⟩⟩
/-! doubt, more, fewer, read -/
def MS (X : sm_I → sm_L → sm_R → Int32 → sm_I → sm_L → sm_R → Prop) (r : Int32) (I1 : sm_I) (L1 : sm_L) (R1 : sm_R) : Prop := ∃ (I : sm_I) (L : sm_L) (R : sm_R), lw_J I L R ∧ en_mem kl_tb klX (xLay, I1, L1, R1) ∧ (∀ p j, 107 ≤ p → I1 p j = I p j ∧ R1 p j = R p j) ∧ (∀ j, L1 48 j = L 48 j) ∧ R1 74 4 = R 74 4 ∧ X I L R r I1 L1 R1
theorem MS_dn {X : sm_I → sm_L → sm_R → Int32 → sm_I → sm_L → sm_R → Prop} {r : Int32} {I1 : sm_I} {L1 : sm_L} {R1 : sm_R} (h : MS X r I1 L1 R1) : MD X r I1 L1 R1 := by
  obtain ⟨I, L, R, h1, h2, h3, -, -, h4⟩ := h
  exact ⟨I, L, R, h1.1, h2, h3, h4⟩
theorem lw_xkS {S : sm_C} {c : en_Ct} {vs : List Value} {I : sm_I} {L : sm_L} {R : sm_R} {lo hi : Int} {C : Int32 → sm_I → sm_L → sm_R → Prop} {X : sm_I → sm_L → sm_R → Int32 → sm_I → sm_L → sm_R → Prop} (h : en_hold kl_tb3 (klZ (L 48)) sm_P S c) (hc : lw_cK c = true) (hr : c.2.2.2.1 = (0, lo, hi)) (hv : en_pvs c.2.1 vs) (hI : lw_J I L R) (B : sm_wp sm_P S 59 c.1 0 vs [] (xLay, I, L, R) (0, 0) (fun z => ∃ (r : Int32) (I2 : sm_I) (L2 : sm_L) (R2 : sm_R), z = (some (.int r), (xLay, I2, L2, R2)) ∧ X I L R r I2 L2 R2)) (k : ∀ (r : Int32) (I' : sm_I) (L' : sm_L) (R' : sm_R), MS X r I' L' R' → C r I' L' R') (hw : en_wok c.2.2.2.2.1 74 4 = false := by decide +kernel) : sm_wp sm_P S 59 c.1 0 vs [] (xLay, I, L, R) (0, 0) (fun z => ∃ (r : Int32) (I2 : sm_I) (L2 : sm_L) (R2 : sm_R), z = (some (.int r), (xLay, I2, L2, R2)) ∧ C r I2 L2 R2) := by
  obtain ⟨h1, h5⟩ := Bool.and_eq_true_iff.mp hc
  obtain ⟨h3, h4⟩ := Bool.and_eq_true_iff.mp h1
  have hp : c.2.2.1 = [] := List.isEmpty_iff.mp h4
  have m := hI.1.1
  refine sm_wp_mono (sm_wp_and (h 59 (Nat.le_of_ble_eq_true h3) vs _ hv ⟨m.1, m.2.1, m.2.2.1, m.2.2.2.1, m.2.2.2.2, fun _ => rfl⟩ (by rw [hp]; exact ml_pf0)) B) (fun z q => ?_)
  obtain ⟨⟨-, q2, q3⟩, r, I2, L2, R2, ez, x⟩ := q
  subst ez
  exact ⟨r, I2, L2, R2, rfl, k r I2 L2 R2 ⟨I, L, R, hI, ⟨q2.1, q2.2.1, q2.2.2.1, q2.2.2.2.1, q2.2.2.2.2.1⟩, fun p j hp => q3.2 p j (lw_lo h5 hp), q2.2.2.2.2.2, (q3.2 74 4 hw).2, x⟩⟩
/-- what such a pair does: nothing, or it makes stale what was gone through -/
def ZE (I0 I2 : sm_I) : Prop := (∀ p j, I2 p j = I0 p j) ∨ (I2 0 12 = 0 ∧ I2 107 70 = 0 ∧ I2 107 18 = I0 107 18 ∧ ∀ l, (I0 107 18).toInt = (l : Nat) → l ≤ 1 → TW l I0 → TW l I2)
theorem lw_xmS {S : sm_C} {c : en_Ct} {vs : List Value} {I : sm_I} {L : sm_L} {R : sm_R} {r : Int32} {lo hi : Int} {C : Int32 → sm_I → sm_L → sm_R → Prop} {X : sm_I → sm_L → sm_R → Int32 → sm_I → sm_L → sm_R → Prop} (h : en_hold ml_tb3 (mlW (L 48)) sm_P S c) (hc : lw_cM c = true) (hr : c.2.2.2.1 = (0, lo, hi)) (hv : en_pvs c.2.1 vs) (hI : MS X r I L R) (B : ∀ (I0 : sm_I) (L0 : sm_L) (R0 : sm_R), lw_I I0 L0 R0 → en_mem kl_tb klX (xLay, I, L, R) → (∀ p j, 107 ≤ p → I p j = I0 p j ∧ R p j = R0 p j) → X I0 L0 R0 r I L R → sm_wp sm_P S 59 c.1 0 vs [] (xLay, I, L, R) (0, 0) (fun z => ∃ (r' : Int32) (I2 : sm_I) (L2 : sm_L) (R2 : sm_R), z = (some (.int r'), (xLay, I2, L2, R2)) ∧ r = r' ∧ (R 0 9 = R0 0 9 ∧ R 74 4 = R0 74 4) ∧ ZE I0 I2 ∧ ((∀ p j, p < 107 → I2 p j = I p j ∧ R2 p j = R p j) → LJ I2 R2))) (k : ∀ (r' : Int32) (I' : sm_I) (L' : sm_L) (R' : sm_R), r = r' → lw_J I' L' R' → C r' I' L' R') : sm_wp sm_P S 59 c.1 0 vs [] (xLay, I, L, R) (0, 0) (fun z => ∃ (r : Int32) (I2 : sm_I) (L2 : sm_L) (R2 : sm_R), z = (some (.int r), (xLay, I2, L2, R2)) ∧ C r I2 L2 R2) := by
  obtain ⟨h1, h5⟩ := Bool.and_eq_true_iff.mp hc
  obtain ⟨h3, h4⟩ := Bool.and_eq_true_iff.mp h1
  have hp : c.2.2.1 = [] := List.isEmpty_iff.mp h4
  obtain ⟨I0, L0, R0, hJ, mk, o, z48, -, X⟩ := hI
  have mm : en_mem ml_tb mlX (xLay, I, L, R) := lw_mk (lw_pk mk) hJ.1.2.1 o
  refine sm_wp_mono (sm_wp_and (h 59 (Nat.le_of_ble_eq_true h3) vs _ hv ⟨mm.1, mm.2.1, mm.2.2.1, mm.2.2.2.1, mlX_W mm.2.2.2.2 (fun _ => rfl)⟩ (by rw [hp]; exact ml_pf0)) (B I0 L0 R0 hJ.1 mk o X)) (fun z q => ?_)
  obtain ⟨⟨-, q2, q3⟩, r', I2, L2, R2, ez, er, er0, ze, x⟩ := q
  subst ez
  have f : ∀ p j, p < 107 → I2 p j = I p j ∧ R2 p j = R p j := fun p j hp => q3.2 p j (lw_hi h5 hp)
  have d2 : en_mem ml_tb mlX (xLay, I2, L2, R2) := ⟨q2.1, q2.2.1, q2.2.2.1, q2.2.2.2.1, mlW_X q2.2.2.2.2⟩
  have e48 : ∀ j, L2 48 j = L0 48 j := fun j => (q2.2.2.2.2.2.2.2.2.2.2 j).trans (z48 j)
  have lI : lw_I I2 L2 R2 := ⟨lw_kk (lw_pm d2) mk f, d2, x f⟩
  refine ⟨r', I2, L2, R2, rfl, k r' I2 L2 R2 er ⟨lI, ?_⟩⟩
  rcases ze with ze | ⟨z1, z2, z3, z4⟩
  · obtain ⟨g1, g2, l, g3, g4⟩ := hJ.2
    exact ⟨GK_cg (fun p j _ => ze p j) e48 ((f 0 9 (by decide)).2.trans er0.1) ((f 74 4 (by decide)).2.trans er0.2) g1, GM_cg (fun p j _ => ze p j) g2, l, by rw [ze]; exact g3, TW_cg (fun p j _ => ze p j) g4⟩
  · refine GG_of lI (fun qt qi l hrf => ⟨Or.inl z1, Or.inl z2, ?_⟩)
    obtain ⟨-, -, l', g3, g4⟩ := hJ.2
    have hl := hrf.2.2.2.2
    rw [z3] at hl
    have e : l' = l := by omega
    subst e
    exact z4 l' hl hrf.2.1 g4
