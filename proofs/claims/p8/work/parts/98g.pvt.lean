/-! the stream: what depends on the bytes of the text alone -/
theorem tk_run_cg {f : Int32 → Bool} {b b' : Nat → Int32} {n : Nat} (h : ∀ j, j < n → b j = b' j) : ∀ k p, tk_run f b n k p = tk_run f b' n k p := by
  intro k
  induction k with
  | zero => intro p; rfl
  | succ k ih =>
    intro p
    show (if p < n ∧ f (b p) = true then tk_run f b n k (p + 1) else p) = (if p < n ∧ f (b' p) = true then tk_run f b' n k (p + 1) else p)
    rw [ih]
    by_cases c : p < n
    · rw [h p c]
    · rw [if_neg (fun q => c q.1), if_neg (fun q => c q.1)]
theorem tk_end_cg {f : Int32 → Bool} {b b' : Nat → Int32} {n p : Nat} (h : ∀ j, j < n → b j = b' j) : tk_end f b n p = tk_end f b' n p := tk_run_cg h _ _
theorem tk_nx_cg {b b' : Nat → Int32} {n p : Nat} (h : ∀ j, j < n → b j = b' j) (hp : p < n) : tk_nx b n p = tk_nx b' n p := by
  unfold tk_nx
  rw [h p hp, tk_end_cg h, tk_end_cg h]
theorem tk_at_cg {b b' : Nat → Int32} {n : Nat} (h : ∀ j, j < n → b j = b' j) : ∀ i, tk_at b n i = tk_at b' n i := by
  intro i
  induction i with
  | zero => exact tk_end_cg h
  | succ i ih =>
    show (if tk_at b n i < n then tk_sk b n (tk_nx b n (tk_at b n i)) else n) = (if tk_at b' n i < n then tk_sk b' n (tk_nx b' n (tk_at b' n i)) else n)
    rw [ih]
    by_cases c : tk_at b' n i < n
    · rw [if_pos c, if_pos c, tk_nx_cg h c]
      exact tk_end_cg h
    · rw [if_neg c, if_neg c]
theorem tk_kd_cg {b b' : Nat → Int32} {n p : Nat} (h : ∀ j, j < n → b j = b' j) (hp : p < n) : tk_kd b n p = tk_kd b' n p := by
  have e1 : tk_end tk_le b n p ≤ n := tk_end_n2 (by omega)
  have cd : tk_cd tk_f8 b p (tk_end tk_le b n p - p) = tk_cd tk_f8 b' p (tk_end tk_le b n p - p) := tk_cd_cg _ (fun i hi => h _ (by omega))
  unfold tk_kd
  rw [cd, h p hp, tk_end_cg h, tk_end_cg h]
theorem tk_vl_cg {b b' : Nat → Int32} {n p : Nat} (h : ∀ j, j < n → b j = b' j) (hp : p < n) : tk_vl b n p = tk_vl b' n p := by
  have e1 : tk_end tk_le b n p ≤ n := tk_end_n2 (by omega)
  have e2 : tk_end tk_di b n p ≤ n := tk_end_n2 (by omega)
  have c1 : tk_cd tk_f8 b p (tk_end tk_le b n p - p) = tk_cd tk_f8 b' p (tk_end tk_le b n p - p) := tk_cd_cg _ (fun i hi => h _ (by omega))
  have c2 : tk_cd tk_f10 b p (tk_end tk_di b n p - p) = tk_cd tk_f10 b' p (tk_end tk_di b n p - p) := tk_cd_cg _ (fun i hi => h _ (by omega))
  unfold tk_vl
  rw [c1, c2, h p hp, tk_end_cg h, tk_end_cg h]
theorem tk_K_cg {b b' : Nat → Int32} {n : Nat} (h : ∀ j, j < n → b j = b' j) (i : Nat) : tk_K b n i = tk_K b' n i := by
  unfold tk_K
  rw [tk_at_cg h]
  by_cases c : tk_at b' n i < n
  · rw [if_pos c, if_pos c, tk_kd_cg h c]
  · rw [if_neg c, if_neg c]
theorem tk_at_s {b : Nat → Int32} {n i : Nat} (h : tk_at b n i < n) : tk_at b n i < tk_at b n (i + 1) := by
  show _ < (if tk_at b n i < n then tk_sk b n (tk_nx b n (tk_at b n i)) else n)
  rw [if_pos h]
  have a := (tk_nx_gt (b := b) h).1
  have c : tk_nx b n (tk_at b n i) ≤ tk_sk b n (tk_nx b n (tk_at b n i)) := tk_end_le
  omega
theorem TS_of {b : Nat → Int32} {n c : Nat} (c5 : c ≤ 501) (hr : ∀ i, i < c → tk_at b n i < n) (he : c ≤ 500 → tk_at b n c = n) : TS (tk_K b n) (tk_at b n) (fun i => tk_vl b n (tk_at b n i)) (fun i => mt_nm b n (tk_at b n i)) (fun i => mt_vl b n (tk_at b n i)) c := by
  have kd : ∀ i, i < c → tk_K b n i = tk_kd b n (tk_at b n i) := fun i hi => by unfold tk_K; rw [if_pos (hr i hi)]
  refine ⟨c5, fun i => ?_, fun q => tk_K_21.mpr (by rw [he q]; exact Nat.le_refl n), fun i hi q => ?_, fun i j hij hj => ?_, fun i hi q => ?_, fun i j hi hj qi qj => ?_⟩
  · unfold tk_K
    by_cases q : tk_at b n i < n
    · rw [if_pos q]
      have := tk_kd_r (b := b) (n := n) (p := tk_at b n i)
      omega
    · rw [if_neg q]; decide
  · have a := tk_K_21.mp q
    have d := hr i hi
    omega
  · have key : ∀ k, i < k → k ≤ c → tk_at b n i < tk_at b n k := by
      intro k
      induction k with
      | zero => intro q _; omega
      | succ k ih =>
        intro q1 q2
        have s := tk_at_s (b := b) (hr k (by omega))
        by_cases e : i = k
        · rw [e]; exact s
        · have := ih (by omega) (by omega)
          omega
    exact key j hij hj
  · rw [kd i hi] at q
    exact in_eq q
  · rw [kd i hi] at qi
    rw [kd j hj] at qj
    exact na_eq qi qj
/-! the reference reads a text -/
-- what is told, on a side of the reference
def TD (s : Nat) (a : sg) (I : sm_I) : Prop := rC s a I ∧ rT s a I ∧ rO s a I ∧ rW s a I ∧ rS s a I ∧ rQ s a I
def tcut (I : sm_I) : sm_I := fun p j => bif (Nat.ble 118 p && Nat.ble p 136) then I p j else 0
theorem TD_t {s : Nat} {a : sg} {I : sm_I} : TD s a I = TD s a (tcut I) := rfl
theorem TD_cg {s : Nat} {a : sg} {I J : sm_I} (h : ∀ p j, 118 ≤ p → p ≤ 136 → J p j = I p j) (k : TD s a I) : TD s a J := by
  have e : tcut J = tcut I := funext (fun p => funext (fun j => by
    unfold tcut
    cases c : (Nat.ble 118 p && Nat.ble p 136) with
    | false => rfl
    | true =>
      obtain ⟨c1, c2⟩ := Bool.and_eq_true_iff.mp c
      exact h p j (Nat.le_of_ble_eq_true c1) (Nat.le_of_ble_eq_true c2)))
  rw [TD_t] at k ⊢
  rw [e]; exact k
def kpt (v : Int32) (I0 J : sm_I) : Prop := J 107 17 = v ∧ J 107 18 = I0 107 18 ∧ ∀ p j, 118 ≤ p → p ≤ 136 → J p j = I0 p j
/-- nothing is DOUBTED, SET, PICKED, MORE; nothing is gone through -/
def hcM (J : sm_I) : Prop := (∀ j, j < 10 → J 137 j = 0 ∧ J 138 j = -1) ∧ (∀ j, j < 60 → J 160 j = -1) ∧ J 107 54 = 0 ∧ J 107 70 = 0 ∧ J 107 79 = 0
-- walks and moves of a side
def wmJ (s : Nat) (J : sm_I) : Prop := (∀ i, i < 36 → (J 139 i).toInt = Ft 6 (fun i => (J 121 (36 * s + i)).toInt) i) ∧ mvsM s J J
/-- what read answers, and the place that it keeps -/
def RDx (P : Nat → Nat) (R0 : Option (Int32 × Nat)) (M0 : Option (Int32 × Nat) × sg) (r : Int32) (J : sm_I) : Prop := (∀ f j, R0 = some (f, j) → r = f ∧ (J 107 17).toInt = P j) ∧ (R0 = none → (∀ f j, M0.1 = some (f, j) → r = f ∧ (J 107 17).toInt = P j) ∧ (M0.1 = none → r = 0 ∧ J 107 17 = -1 ∧ hcM J ∧ ∃ s : Nat, s ≤ 1 ∧ (J 107 18).toInt = s ∧ TD s M0.2 J ∧ (wt M0.2 → wmJ s J)))
section
variable {K : Nat → Int32} {P : Nat → Nat} {V W : Nat → Int64} {N : Nat → Int32} {c : Nat} {R0 : Option (Int32 × Nat)} {M0 : Option (Int32 × Nat) × sg}
variable {S : sm_C} {d : Nat} {Φ : sm_Z → Prop} {I : sm_I} {L : sm_L} {R : sm_R} {m : mo} {o : Option sg} {l s t : Nat} {g : gc}
-- a refused text leaves the live side as it is
def lvf (l : Nat) (I0 J : sm_I) : Prop := ∀ p j, (ml_hl l p j ∨ ml_hm l p j ∨ 137 ≤ p ∨ (p = 107 ∧ 46 ≤ j)) → J p j = I0 p j
def LVx (l : Nat) (I0 : sm_I) (r : Int32) (J : sm_I) : Prop := r ≠ 0 → (J 107 18).toInt = l ∧ lvf l I0 J
theorem lv_p {l p j : Nat} (h : ml_hl l p j ∨ ml_hm l p j ∨ 137 ≤ p ∨ (p = 107 ∧ 46 ≤ j)) : (118 ≤ p ∧ p ≤ 136) ∨ 137 ≤ p ∨ (p = 107 ∧ 46 ≤ j) := by unfold ml_hl ml_hm at h; omega
theorem lv_D {l : Nat} {I0 I J : sm_I} (hv : lvf l I0 I) (h : ml_pS (ml_Dl l) I J) : lvf l I0 J := fun p j q => by
  have q2 := lv_p q
  rw [h.1 p j (fun c => by
    unfold ml_Dl at c
    rcases c with c | c
    · omega
    · rcases q with q | q | q | q
      · exact c.2.2.1 q
      · exact c.2.2.2 q
      · omega
      · omega) (by omega)]
  exact hv p j q
theorem lv_up {l s : Nat} {I0 I : sm_I} {r s1 : Int32} (hI : ml_TI l s I) (hv : lvf l I0 I) : LVx l I0 r (sm_up I 107 17 s1) := fun _ => ⟨by rw [en_up_ne _ _ _ _ (by omega)]; exact hI.1, fun p j q => by
  have q2 := lv_p q
  rw [en_up_ne _ _ _ _ (by omega)]
  exact hv p j q⟩
theorem rd_w {W : en_W} {p j : Nat} (h : W.all (fun q => Nat.blt q.1 118 || Nat.blt 136 q.1) = true) (p1 : 118 ≤ p) (p2 : p ≤ 136) : en_wok W p j = false := by
  cases c : en_wok W p j with
  | false => rfl
  | true =>
    exfalso
    obtain ⟨q, g1, g2⟩ := List.any_eq_true.mp c
    have e : q.1 = p := Nat.eq_of_beq_eq_true (Bool.and_eq_true_iff.mp g2).1
    have l := List.all_eq_true.mp h q g1
    rw [e] at l
    rcases Bool.or_eq_true_iff.mp l with l | l
    · have l : p < 118 := Nat.le_of_ble_eq_true l
      omega
    · have l : 136 < p := Nat.le_of_ble_eq_true l
      omega
theorem y_read29 {v : Int32} {I0 : sm_I} (hΦ : ∀ (J : sm_I) (L' : sm_L) (R' : sm_R), kpt v I0 J → hcM J → (cdM I0 → ∀ l : Nat, (I0 107 18).toInt = l → wmJ l J) → Φ (some (.int 0), (xLay, J, L', kM R'))) : ∀ (k : Nat) (I : sm_I) (x1 : Int32), en_mem ml_tb mlX (xLay, I, L, R) → kpt v I0 I → (∀ j, j < 10 → I 137 j = 0 ∧ I 138 j = -1) → (∀ j : Nat, (j : Int) < x1.toInt → I 160 j = -1) → 0 ≤ x1.toInt → x1.toInt ≤ 60 → 60 - x1.toInt < k → sm_wp sm_P S (d + 1) 182 29 [.ref 107, .int x1] [] (xLay, I, L, kM R) (0, 0) Φ := by
  intro k
  induction k with
  | zero => intro I x1 hm hz c1 c2 h0 h1 hM; omega
  | succ k ih =>
    intro I x1 hm hz c1 c2 h0 h1 hM
    refine u_X12_read_29 ⟨fun a => ?_, fun a => ?_⟩
    · have a := kl_le.mp a
      rw [(by decide : (60 : Int32).toInt = 60)] at a
      have m1 : en_mem ml_tb mlX (xLay, sm_up I 107 54 0, L, R) := ml_wf hm (by decide +kernel) (q := (0, 6)) (by decide +kernel) (by decide)
      refine y_w1 m1 (fun I2 L2 R2 m2 f2 w2 => ⟨I2, L2, R2, rfl, y_w2 m2 (fun I3 m3 f3 w3 => ⟨I3, L2, R2, rfl, u_X12_changes_0 (fun I4 e4 => ⟨I4, L2, R2, rfl, ?_⟩)⟩)⟩)
      have g : ∀ p j, p ≠ 139 → ¬ (p = 107 ∧ (j = 46 ∨ j = 54 ∨ j = 70 ∨ j = 79)) → ¬ (p = 140 ∨ p = 141 ∨ p = 142) → I4 p j = I p j := fun p j p1 p2 p3 => by
        rw [e4, en_up_ne _ _ _ _ (by omega), en_up_ne _ _ _ _ (by omega), f3 _ _ (by omega), f2 p j p1, en_up_ne _ _ _ _ (by omega)]
      have wm : cdM I0 → ∀ l : Nat, (I0 107 18).toInt = l → wmJ l I4 := fun cd l hl => by
        have o1 : ∀ p j, (118 ≤ p ∧ p ≤ 136) ∨ (p = 107 ∧ j = 18) → sm_up I 107 54 0 p j = I0 p j := fun p j q => by
          rw [en_up_ne _ _ _ _ (by omega)]
          rcases q with q | ⟨q1, q2⟩
          · exact hz.2.2 p j q.1 q.2
          · rw [q1, q2]; exact hz.2.1
        have o2 : ∀ p j, (118 ≤ p ∧ p ≤ 136) ∨ (p = 107 ∧ j = 18) → I2 p j = sm_up I 107 54 0 p j := fun p j q => f2 p j (by omega)
        have cd1 : cdM (sm_up I 107 54 0) := cdM_cg o1 cd
        have cd2 : cdM I2 := cdM_cg o2 cd1
        have h1 : (sm_up I 107 54 0 107 18).toInt = l := by rw [o1 107 18 (by omega)]; exact hl
        have h2 : (I2 107 18).toInt = l := by rw [o2 107 18 (by omega)]; exact h1
        have g9 : I4 139 = I2 139 := funext (fun j => by rw [e4, en_up_ne _ _ _ _ (by omega), en_up_ne _ _ _ _ (by omega), f3 _ _ (by omega)])
        have rows : ∀ p j, 118 ≤ p → p ≤ 136 → I4 p j = I2 p j := fun p j p1 p2 => by rw [e4, en_up_ne _ _ _ _ (by omega), en_up_ne _ _ _ _ (by omega), f3 _ _ (by omega)]
        obtain ⟨v1, v2⟩ := w3 cd2 l h2
        have el : mlst l I4 = mlst l I2 := mlst_cg rows
        refine ⟨fun i hi => ?_, ?_, fun j hj => ?_⟩
        · have w := w2 cd1 l h1 i hi
          have e : (fun i => (I4 121 (36 * l + i)).toInt) = fun i => (sm_up I 107 54 0 121 (36 * l + i)).toInt := funext (fun i => by rw [rows 121 _ (by decide) (by decide), o2 121 _ (by omega)])
          rw [e, g9]; exact w
        · rw [el, e4, en_up_ne _ _ _ _ (by omega), en_up_ne _ _ _ _ (by omega)]; exact v1
        · rw [el] at hj ⊢
          obtain ⟨r1, r2, r3⟩ := v2 j hj
          have c9 : I3 139 = I2 139 := funext (fun j => f3 139 j (by omega))
          rw [rows 124 _ (by decide) (by decide), rows 124 _ (by decide) (by decide), g9, ← c9]
          refine ⟨?_, ?_, ?_⟩
          · rw [e4, en_up_ne _ _ _ _ (by omega), en_up_ne _ _ _ _ (by omega)]; exact r1
          · rw [e4, en_up_ne _ _ _ _ (by omega), en_up_ne _ _ _ _ (by omega)]; exact r2
          · rw [e4, en_up_ne _ _ _ _ (by omega), en_up_ne _ _ _ _ (by omega)]; exact r3
      refine hΦ I4 L2 R2 ⟨?_, ?_, fun p j p1 p2 => ?_⟩ ⟨fun j hj => ⟨?_, ?_⟩, fun j hj => ?_, ?_, ?_, ?_⟩ wm
      · rw [g _ _ (by omega) (by omega) (by omega), hz.1]
      · rw [g _ _ (by omega) (by omega) (by omega), hz.2.1]
      · rw [g _ _ (by omega) (by omega) (by omega), hz.2.2 p j p1 p2]
      · rw [g _ _ (by omega) (by omega) (by omega)]; exact (c1 j hj).1
      · rw [g _ _ (by omega) (by omega) (by omega)]; exact (c1 j hj).2
      · rw [g _ _ (by omega) (by omega) (by omega)]; exact c2 j (by omega)
      · rw [e4, en_up_ne _ _ _ _ (by omega), en_up_ne _ _ _ _ (by omega), f3 _ _ (by omega), f2 107 54 (by decide), en_up_eq]
      · rw [e4, en_up_ne _ _ _ _ (by omega), en_up_eq]
      · rw [e4, en_up_eq]
    · have a := kl_nle a
      rw [(by decide : (60 : Int32).toInt = 60)] at a
      have s1 := ml_in1 (x := x1) (by omega)
      have nx := kl_nat h0
      refine ⟨kl_in h0 (by omega), fun I2 e2 => ih I2 _ ?_ ?_ (fun j hj => ?_) (fun j hj => ?_) (by omega) (by omega) (by omega)⟩
      · rw [e2]
        exact ml_we2 hm rfl (n := 60) (q := (-1, 3)) rfl (by decide)
      · exact ⟨by rw [e2, en_up_ne _ _ _ _ (by omega), hz.1], by rw [e2, en_up_ne _ _ _ _ (by omega), hz.2.1], fun p j p1 p2 => by rw [e2, en_up_ne _ _ _ _ (by omega), hz.2.2 p j p1 p2]⟩
      · rw [e2, en_up_ne _ _ _ _ (by omega), en_up_ne _ _ _ _ (by omega)]; exact c1 j hj
      · by_cases cj : j = x1.toNatClampNeg
        · rw [cj, e2, en_up_eq]
        · rw [e2, en_up_ne _ _ _ _ (by omega)]; exact c2 j (by omega)
theorem y_read26 {v : Int32} {I0 : sm_I} (hΦ : ∀ (J : sm_I) (L' : sm_L) (R' : sm_R), kpt v I0 J → hcM J → (cdM I0 → ∀ l : Nat, (I0 107 18).toInt = l → wmJ l J) → Φ (some (.int 0), (xLay, J, L', kM R'))) : ∀ (k : Nat) (I : sm_I) (x1 : Int32), en_mem ml_tb mlX (xLay, I, L, R) → kpt v I0 I → (∀ j : Nat, (j : Int) < x1.toInt → I 137 j = 0 ∧ I 138 j = -1) → 0 ≤ x1.toInt → x1.toInt ≤ 10 → 10 - x1.toInt < k → sm_wp sm_P S (d + 1) 182 26 [.ref 107, .int x1] [] (xLay, I, L, kM R) (0, 0) Φ := by
  intro k
  induction k with
  | zero => intro I x1 hm hz c1 h0 h1 hM; omega
  | succ k ih =>
    intro I x1 hm hz c1 h0 h1 hM
    refine u_X12_read_26 ⟨fun a => ?_, fun a => ?_⟩
    · have a := kl_le.mp a
      rw [(by decide : (10 : Int32).toInt = 10)] at a
      refine y_read29 hΦ 61 I 0 hm hz (fun j hj => c1 j (by omega)) (fun j hj => ?_) (by decide) (by decide) (by decide)
      rw [kl_0] at hj; omega
    have a := kl_nle a
    rw [(by decide : (10 : Int32).toInt = 10)] at a
    have s1 := ml_in1 (x := x1) (by omega)
    have nx := kl_nat h0
    refine ⟨kl_in h0 (by omega), fun I1 e1 => ⟨kl_in h0 (by omega), fun I2 e2 => ih I2 _ ?_ ?_ (fun j hj => ?_) (by omega) (by omega) (by omega)⟩⟩
    · rw [e2, e1]
      exact ml_we2 (ml_we2 hm rfl (n := 10) (q := (0, 1)) rfl (ml_boo 0)) rfl (n := 10) (q := (-1, 1440)) rfl (by decide)
    · exact ⟨by rw [e2, en_up_ne _ _ _ _ (by omega), e1, en_up_ne _ _ _ _ (by omega), hz.1], by rw [e2, en_up_ne _ _ _ _ (by omega), e1, en_up_ne _ _ _ _ (by omega), hz.2.1], fun p j p1 p2 => by rw [e2, en_up_ne _ _ _ _ (by omega), e1, en_up_ne _ _ _ _ (by omega), hz.2.2 p j p1 p2]⟩
    · by_cases cj : j = x1.toNatClampNeg
      · refine ⟨?_, ?_⟩
        · rw [cj, e2, en_up_ne _ _ _ _ (by omega), e1, en_up_eq]; rfl
        · rw [cj, e2, en_up_eq]
      · refine ⟨?_, ?_⟩
        · rw [e2, en_up_ne _ _ _ _ (by omega), e1, en_up_ne _ _ _ _ (by omega)]; exact (c1 j (by omega)).1
        · rw [e2, en_up_ne _ _ _ _ (by omega), e1, en_up_ne _ _ _ _ (by omega)]; exact (c1 j (by omega)).2
theorem y_read21 {s1 : Int32} (hls : ml_ls l s) (hT : ml_TI l s I) (b1 : -1 ≤ s1.toInt ∧ s1.toInt ≤ 2000) (hm : en_mem ml_tb mlX (xLay, I, L, R)) (hF : ¬ I 107 13 ≤ 0 → Φ (some (.int (I 107 13)), (xLay, sm_up I 107 17 s1, L, kM R))) (hW : I 107 13 ≤ 0 → ¬ I 107 15 ≤ 0 → Φ (some (.int (I 107 15)), (xLay, sm_up I 107 17 s1, L, kM R))) (hN : I 107 13 ≤ 0 → I 107 15 ≤ 0 → ∀ (J : sm_I) (L' : sm_L) (R' : sm_R), J 107 17 = s1 → J 107 18 = I 107 19 → (∀ p j, 118 ≤ p → p ≤ 136 → J p j = I p j) → hcM J → (I 107 15 = 0 → WB 1440 (fun i => (I 121 (36 * s + i)).toInt) → wmJ s J) → Φ (some (.int 0), (xLay, J, L', kM R'))) : sm_wp sm_P S (d + 1) 182 21 [.ref 107] [.int s1, .ref 107] (xLay, I, L, kM R) (0, 0) Φ := by
  obtain ⟨hl, hs⟩ := ml_l1 hls
  have m1 : en_mem ml_tb mlX (xLay, sm_up I 107 17 s1, L, R) := ml_wf hm (by decide +kernel) (q := (-1, 2000)) (by decide +kernel) b1
  have e13 : sm_up I 107 17 s1 107 13 = I 107 13 := en_up_ne _ _ _ _ (by omega)
  have e15 : sm_up I 107 17 s1 107 15 = I 107 15 := en_up_ne _ _ _ _ (by omega)
  have b15 : 0 ≤ (sm_up I 107 17 s1 107 15).toInt ∧ (sm_up I 107 17 s1 107 15).toInt ≤ 5 := m1.2.1 107 15 (0, 5) (by decide +kernel)
  refine u_X12_read_21 ?_
  rw [e13, e15]
  refine ⟨fun q13 => ⟨fun c => fun I1 e1 => ?_, fun c => hW q13 c⟩, fun q13 => hF q13⟩
  have c15 : I 107 15 = 0 := by
    have c := kl_le.mp c
    rw [kl_0] at c
    rw [e15] at b15
    exact en_ofI (by rw [kl_0]; omega)
  have e19 : sm_up I 107 17 s1 107 19 = I 107 19 := en_up_ne _ _ _ _ (by omega)
  rw [e19] at e1
  have o1 : ∀ p j, ¬ (p = 107 ∧ (j = 17 ∨ j = 18)) → I1 p j = I p j := fun p j hp => by rw [e1, en_up_ne _ _ _ _ (by omega), en_up_ne _ _ _ _ (by omega)]
  have g18 : I1 107 18 = I 107 19 := by rw [e1, en_up_eq]
  have mI : en_mem ml_tb mlX (xLay, I1, L, R) := by
    have X := hm.2.2.2.2
    have hX : mlX (xLay, I1, L, R) := by
      refine ⟨rfl, fun k hk => ?_, fun k hk => ?_, mlP_cg (fun j => o1 165 j (by omega)) X.2.2.2.1, mlN_cg (fun j => o1 116 j (by omega)) (fun j => o1 117 j (by omega)) X.2.2.2.2.1, X.2.2.2.2.2⟩
      · show (I1 148 k).toInt ≤ 54 ∨ 60 ≤ (I1 148 k).toInt
        rw [o1 148 k (by omega)]; exact X.2.1 k hk
      · have hk : (k : Int) = (I1 107 18).toInt := hk
        rw [g18, hT.2.1] at hk
        have hk : k = s := by omega
        subst hk
        exact mlV_cg (fun p hp j => o1 p j (by omega)) (hT.2.2.2 c15)
    rw [e1] at hX ⊢
    refine ml_wr m1 hX (fun q hq => ?_)
    have e : en_int ml_tb 107 18 = some (0, 1) := by decide +kernel
    rw [e] at hq
    rw [← Option.some.inj hq]
    show 0 ≤ (I 107 19).toInt ∧ (I 107 19).toInt ≤ 1
    have := hT.2.1
    omega
  have h1s : (I1 107 18).toInt = s := by rw [g18]; exact hT.2.1
  have cd : I 107 15 = 0 → WB 1440 (fun i => (I 121 (36 * s + i)).toInt) → cdM I1 := fun z w l' hl' => by
    have e : l' = s := by omega
    subst e
    refine ⟨hs, ?_, fun i hi hk => ?_⟩
    · have e : (fun i => (I1 121 (36 * l' + i)).toInt) = fun i => (I 121 (36 * l' + i)).toInt := funext (fun i => by rw [o1 121 _ (by omega)])
      rw [e]; exact w
    · rw [o1 122 _ (by omega)] at hi
      rw [o1 123 _ (by omega)] at hk
      have b5 : (I1 124 (10 * l' + i)).toInt ≤ 5 := by
        have tb := (ml_cs hs hm).2.2.1
        exact (ml_row mI (p := 124) (n := 20) (q := (-1, 5)) (fun _ => rfl) (10 * l' + i) (by omega)).2
      refine ⟨?_, b5⟩
      rw [o1 124 _ (by omega)]
      exact (hT.2.2.2 z).1 i hi (fun q => hk (en_ofI (by rw [q]; decide)))
  exact y_read26 (v := s1) (I0 := I1) (fun J L' R' q qh qw => hN q13 c J L' R' q.1 (by rw [q.2.1, g18]) (fun p j p1 p2 => by rw [q.2.2 p j p1 p2]; exact o1 p j (by omega)) qh (fun z w => qw (cd z w) s h1s)) 11 I1 0 mI ⟨by rw [e1, en_up_ne _ _ _ _ (by omega), en_up_eq], rfl, fun _ _ _ _ => rfl⟩ (fun j hj => by rw [kl_0] at hj; omega) (by decide) (by decide) (by decide)
theorem x_read13 {I0 : sm_I} (hT : TS K P V W N c) (hls : ml_ls l s) (hΦ : ∀ (r : Int32) (J : sm_I) (L' : sm_L) (R' : sm_R), RDx P R0 M0 r J → LVx l I0 r J → Φ (some (.int r), (xLay, J, L', kM R'))) : ∀ (f : Nat) (I : sm_I) (L : sm_L) (m : mo) (o : Option sg), ml_TI l s I → lvf l I0 I → en_mem ml_tb mlX (xLay, I, L, R) → PX K P V W N c R0 M0 m o I L → (m = none ∨ ∃ t g, m = some (t, 0, g) ∧ rG s g I ∧ (∀ a, o = some a → rL K V W s t a I L) ∧ 500 < t + f) → sm_wp sm_P S (d + 8) 182 13 [.ref 107] [] (xLay, I, L, kM R) (0, 0) Φ := by
  -- the grammar has failed
  have outF : ∀ (I : sm_I) (L : sm_L), ml_TI l s I → lvf l I0 I → en_mem ml_tb mlX (xLay, I, L, R) → PSm K P W N c R0 none I L → (((I 107 13) ≤ 0 → (((I 107 15) ≤ 0 → sm_wp sm_P S (d + 8) 182 21 [.ref 107] [.int (-1 : Int32), .ref 107] (xLay, I, L, (kM R)) (0, 0) Φ) ∧ (¬ (I 107 15) ≤ 0 → sm_wp sm_P S (d + 8) 182 21 [.ref 107] [.int (I 107 16), .ref 107] (xLay, I, L, (kM R)) (0, 0) Φ))) ∧ (¬ (I 107 13) ≤ 0 → sm_wp sm_P S (d + 8) 182 21 [.ref 107] [.int (I 107 14), .ref 107] (xLay, I, L, (kM R)) (0, 0) Φ)) := by
    intro I L hI hv hm hS
    have nz := PS_no hS
    have np : ¬ I 107 13 ≤ 0 := fun q => nz (PS_le0 hS q)
    have b14 : 0 ≤ (I 107 14).toInt ∧ (I 107 14).toInt ≤ 2000 := hm.2.1 107 14 (0, 2000) (by decide +kernel)
    obtain ⟨-, j, j1, j2⟩ := hS.2.2.2
    refine ⟨fun q => absurd q np, fun _ => y_read21 hls hI (by omega) hm (fun _ => hΦ _ _ L R ⟨fun f' j' q => ?_, fun q => ?_⟩ (lv_up hI hv)) (fun q => absurd q np) (fun q => absurd q np)⟩
    · rw [j1] at q
      have q := Option.some.inj q
      have q1 : I 107 13 = f' := congrArg Prod.fst q
      have q2 : j = j' := congrArg Prod.snd q
      exact ⟨q1, by rw [en_up_eq, ← q2]; exact j2⟩
    · rw [j1] at q; cases q
  -- the text's end
  have outE : ∀ (I : sm_I) (L : sm_L) (t : Nat) (g : gc) (o : Option sg), ml_TI l s I → lvf l I0 I → en_mem ml_tb mlX (xLay, I, L, R) → PX K P V W N c R0 M0 (some (t, 0, g)) o I L → (∀ a, o = some a → rL K V W s t a I L) → K t = 21 → (((I 107 13) ≤ 0 → (((I 107 15) ≤ 0 → sm_wp sm_P S (d + 8) 182 21 [.ref 107] [.int (-1 : Int32), .ref 107] (xLay, I, L, (kM R)) (0, 0) Φ) ∧ (¬ (I 107 15) ≤ 0 → sm_wp sm_P S (d + 8) 182 21 [.ref 107] [.int (I 107 16), .ref 107] (xLay, I, L, (kM R)) (0, 0) Φ))) ∧ (¬ (I 107 13) ≤ 0 → sm_wp sm_P S (d + 8) 182 21 [.ref 107] [.int (I 107 14), .ref 107] (xLay, I, L, (kM R)) (0, 0) Φ)) := by
    intro I L t g o hI hv hm hX hrl k21
    have z := PS_so hX.1
    have zl : I 107 13 ≤ 0 := by rw [z]; decide
    have t5 : t ≤ 500 := by have := hX.1.2.2.2.2.1; have := hX.1.2.2.1; omega
    have hs := SY_s t5 hX.1.2.2.2.2.2.2.1
    have ef : gf 0 (K t) t g = 0 := by
      rw [k21]; unfold gf
      rw [if_neg (fun q => q.elim (fun y => absurd y (by decide +kernel)) (fun y => absurd y.1 (by decide))), if_pos rfl]
    rw [ef, if_pos rfl, if_pos k21] at hs
    have b16 : 0 ≤ (I 107 16).toInt ∧ (I 107 16).toInt ≤ 2000 := hm.2.1 107 16 (0, 2000) (by decide +kernel)
    have pe : PEm K P V M0 (t, o.map (fun a => ((0 : Int32), a))) I := hX.2
    refine ⟨fun _ => ⟨fun w => ?_, fun w => ?_⟩, fun q => absurd zl q⟩
    · cases eo : o with
      | none =>
        rw [eo] at pe
        obtain ⟨p1, -⟩ := pe z
        have w := kl_le.mp w
        rw [kl_0] at w
        have p1 : 0 < (I 107 15).toInt := p1
        omega
      | some a =>
        rw [eo] at pe
        obtain ⟨p1, p2⟩ := pe z
        have p2 := ME_s t5 p2
        rw [if_pos k21] at p2
        refine y_read21 hls hI (by decide) hm (fun q => absurd zl q) (fun _ q => absurd w q) (fun _ _ J L' R' eJ e18 oJ oh ow => hΦ 0 J L' R' ⟨fun f' j' q => ?_, fun _ => ⟨fun f' j' q => ?_, fun _ => ⟨rfl, eJ, oh, s, (ml_l1 hls).2, by rw [e18]; exact hI.2.1, ?_, fun hw => ow ?_ ?_⟩⟩⟩ (fun q => absurd rfl q))
        · rw [← hs] at q; cases q
        · rw [← p2] at q; cases q
        · have w := hrl a eo
          rw [← p2]
          exact TD_cg oJ ⟨w.2.1, w.2.2.1, w.2.2.2.1, w.2.2.2.2.1, w.2.2.2.2.2.1, w.2.2.2.2.2.2.1⟩
        · have b15 : 0 ≤ (I 107 15).toInt ∧ (I 107 15).toInt ≤ 5 := hm.2.1 107 15 (0, 5) (by decide +kernel)
          have w := kl_le.mp w
          rw [kl_0] at w
          exact en_ofI (by rw [kl_0]; omega)
        · have rw_ := (hrl a eo).2.2.2.2.1
          rw [← p2] at hw
          refine ⟨fun i hi => ?_, fun x hx => ?_⟩
          · show -1 ≤ (I 121 (36 * s + i)).toInt ∧ (I 121 (36 * s + i)).toInt ≤ 1440
            rcases rw_ i hi with ⟨e1, e2⟩ | ⟨e1, e2⟩
            · rw [e1]; decide
            · rcases hw.2.2.2 i hi with c | c
              · rw [c] at e2
                rw [← e2] at e1
                exact absurd e1 (by decide)
              · rw [e2] at c
                omega
          · have z := hw.2.1 x hx
            rcases rw_ (7 * x) (by omega) with ⟨e1, e2⟩ | ⟨e1, e2⟩
            · rw [z] at e2
              exact absurd e2 (by decide)
            · show (I 121 (36 * s + 7 * x)).toInt = 0
              rw [← e2]
              exact (congrArg Int32.toInt z).trans (by decide)
    · cases eo : o with
      | none =>
        rw [eo] at pe
        obtain ⟨p1, j, p2, p3, p4⟩ := pe z
        refine y_read21 hls hI (by omega) hm (fun q => absurd zl q) (fun _ _ => hΦ _ _ L R ⟨fun f' j' q => ?_, fun _ => ⟨fun f' j' q => ?_, fun q => ?_⟩⟩ (lv_up hI hv)) (fun _ q => absurd q w)
        · rw [← hs] at q; cases q
        · rw [p3] at q
          have q := Option.some.inj q
          have q1 : I 107 15 = f' := congrArg Prod.fst q
          have q2 : j = j' := congrArg Prod.snd q
          exact ⟨q1, by rw [en_up_eq, ← q2]; exact p4⟩
        · rw [p3] at q; cases q
      | some a =>
        rw [eo] at pe
        obtain ⟨p1, -⟩ := pe z
        exact absurd (show I 107 15 ≤ 0 by rw [show I 107 15 = 0 from p1]; decide) w
  intro f
  induction f with
  | zero =>
    intro I L m o hI hv hm hX hq
    rcases hq with hq | ⟨t, g, em, h1, h2, h3⟩
    · subst hq
      exact u_X12_read_13 ⟨fun q => absurd q (PS_no hX.1), fun _ => outF I L hI hv hm hX.1⟩
    · exfalso
      have hS := hX.1
      rw [em] at hS
      have := hS.2.2.1
      have : (I 107 11).toInt = t := hS.2.2.2.2.1
      omega
  | succ f ih =>
    intro I L m o hI hv hm hX hq
    rcases hq with hq | ⟨t, g, em, h1, h2, h3⟩
    · subst hq
      exact u_X12_read_13 ⟨fun q => absurd q (PS_no hX.1), fun _ => outF I L hI hv hm hX.1⟩
    · subst em
      have z := PS_so hX.1
      refine u_X12_read_13 ⟨fun _ => x_is (i := 21) hT (by decide) rfl hX.1 (fun r _ hr => ⟨r, I, L, R, rfl, fun r0 => ?_, fun r1 => ?_⟩), fun q => absurd z q⟩
      · have n21 : K t ≠ 21 := fun q => absurd r0 (hr.mpr ⟨t, 0, g, rfl, q⟩)
        have A : sm_wp sm_P S (d + 7) 195 0 [.ref 107] [] (xLay, I, L, kM R) (0, 0) (fun z => ∃ (J : sm_I) (L' : sm_L), z = (none, (xLay, J, L', kM R)) ∧ ml_ok l s R I J L') := mx_tell hls hm hI (fun J L' q => ⟨J, L', rfl, q⟩)
        have B : sm_wp sm_P S (d + 7) 195 0 [.ref 107] [] (xLay, I, L, kM R) (0, 0) (fun z => ∃ (J : sm_I) (L' : sm_L), z = (none, (xLay, J, L', kM R)) ∧ TP K P V W N c R0 M0 s t J L') := x_tell hT hls hm hI hX h1 h2 n21 (fun J L' q => ⟨J, L', rfl, q⟩)
        refine sm_wp_mono (sm_wp_and A B) (fun zz hz => ?_)
        obtain ⟨⟨J, L', ez, mJ, pJ, TJ, -⟩, J2, L2, ez2, tp⟩ := hz
        have e1 := ez.symm.trans ez2
        have eJ : J = J2 := congrArg (fun q : sm_Z => q.2.2.1) e1
        have eL : L' = L2 := congrArg (fun q : sm_Z => q.2.2.2.1) e1
        subst eJ
        subst eL
        obtain ⟨m', o', XJ, rel⟩ := tp
        refine ⟨J, L', R, ez, ih J L' m' o' TJ (lv_D hv pJ) mJ XJ ?_⟩
        rcases rel with rel | ⟨t', g', em', w1, w2, w3⟩
        · exact Or.inl rel
        · exact Or.inr ⟨t', g', em', w2, w3, by omega⟩
      · obtain ⟨t', s', g', em', k21⟩ := hr.mp r1
        have e1 := (mo_i em').1
        subst e1
        exact outE I L t g o hI hv hm hX h2 k21
end
