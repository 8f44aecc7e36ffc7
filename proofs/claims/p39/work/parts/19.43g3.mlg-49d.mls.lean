section
/-! searches: its contract -/
theorem mlh_16 {Sc : sm_C} : en_hold ml_tb mlX sm_P Sc mlc_16 := by
  intro d hd vs w hv hm _
  obtain ⟨vs1, rfl, hv1⟩ := kl_vr (q := 107) rfl hv
  obtain ⟨x1, vs2, rfl, b1, hv2⟩ := kl_vi hv1
  obtain rfl := kl_v0 hv2
  have hd : 7 ≤ d := hd
  obtain ⟨d, rfl⟩ : ∃ d', d = d' + 1 := ⟨d - 1, by omega⟩
  refine ml_top hm (fun I L R hw hm => ?_)
  have fin : ∀ (r : Int32) (I2 : sm_I) (L2 : sm_L) (R2 : sm_R), 0 ≤ r.toInt → r.toInt ≤ 1000 → en_mem ml_tb mlX (xLay, I2, L2, R2) → en_fr ml_SV (xLay, I, L, R) (xLay, I2, L2, R2) → ∃ (o : Option Value) (I3 : sm_I) (L3 : sm_L) (R3 : sm_R), ((some (.int r) : Option Value), ((xLay, I2, L2, kM R2) : sm_W)) = (o, (xLay, I3, L3, kM R3)) ∧ en_pr mlc_16.2.2.2.1 o ∧ en_mem ml_tb mlX (xLay, I3, L3, R3) ∧ en_fr mlc_16.2.2.2.2.1 (xLay, I, L, R) (xLay, I3, L3, R3) := fun r I2 L2 R2 a b m f => ⟨_, I2, L2, R2, rfl, Or.inl ⟨rfl, a, b⟩, m, f⟩
  refine u_X12_searches_0 (fun I1 e1 => ?_)
  have m1 : en_mem ml_tb mlX (xLay, I1, L, R) := by
    rw [e1]
    exact ml_wf (ml_wf hm (by decide +kernel) (q := (0, 1001)) (by decide +kernel) (by decide)) (by decide +kernel) (q := (0, 1)) (by decide +kernel) (by decide)
  have f1 : en_fr ml_SV (xLay, I, L, R) (xLay, I1, L, R) := by rw [e1]; exact ml_fr (ml_fr en_fr_rf (by decide +kernel)) (by decide +kernel)
  refine ⟨fun _ => fin _ _ _ _ (by decide) (by decide) m1 f1, fun a => ⟨kl_in (by decide) (by decide), fun I2 e2 => ?_⟩⟩
  have bi : 0 ≤ (I1 107 59).toInt ∧ (I1 107 59).toInt ≤ 70 := m1.2.1 107 59 (0, 70) (by decide +kernel)
  have a1 : (I1 107 59).toInt ≠ 0 := fun c => a (en_ofI (by rw [c]; decide))
  have m2 : en_mem ml_tb mlX (xLay, I2, L, R) := by
    rw [e2]
    exact ml_we2 m1 rfl (n := 70) (q := (0, 4)) rfl (by decide)
  have o2 : ∀ p j, p ≠ 150 → I2 p j = I1 p j := fun p j h => by rw [e2, en_up_ne _ _ _ _ (fun c => h c.1)]
  have t2 : I2 107 63 = 0 := by rw [o2 _ _ (by decide), e1, en_up_ne _ _ _ _ (by omega), en_up_eq]
  have i2 : I2 107 59 = I1 107 59 := o2 _ _ (by decide)
  refine mx_search3 (by omega) b1 fin 2002 I2 L R 0 0 m2 (by rw [e2]; exact ml_fr f1 rfl) (by decide) (by rw [i2, kl_0]; omega) (by decide) (by rw [t2]; decide) (by rw [t2]; decide) (fun j hj => ?_) (by rw [t2, kl_0]; omega)
  have hj0 : j = 0 := by rw [kl_0] at hj; omega
  have z : I2 150 j = 0 := by rw [hj0, e2]; exact en_up_eq _ _ _ _
  have bo : 0 ≤ (I2 148 j).toInt ∧ (I2 148 j).toInt ≤ 69 := ml_row m2 (p := 148) (n := 70) (q := (0, 69)) (fun _ => rfl) _ (by omega)
  rw [z, kl_0]
  exact ml_ch0 m2 bo.1 bo.2 (m2.2.2.2.2.2.1 _ (by omega))
end
section
/-! methods checked by the engine -/
def mlc_17 : en_Ct := (135, [(2, 107, 0)], [], (9, 0, 0), [(107, [51, 52, 53, 59, 63, 64, 67, 68, 70, 71, 72, 73, 74]), (143, []), (148, []), (149, []), (150, []), (153, []), (154, []), (155, []), (156, [])], 8)
def mlu_17 : List en_Cu := []
/-! X12_goesAll -/
theorem mlh_17 {Sc : sm_C} : en_hold ml_tb mlX sm_P Sc mlc_17 := en_chk_ok mlX_ok (T := [mlc_5, mlc_9, mlc_16, mlc_10]) (cuts := mlu_17) (List.forall_mem_cons.mpr ⟨mlh_5, List.forall_mem_cons.mpr ⟨mlh_9, List.forall_mem_cons.mpr ⟨mlh_16, List.forall_mem_cons.mpr ⟨mlh_10, fun _ h => absurd h List.not_mem_nil⟩⟩⟩⟩) (by decide +kernel)
def mlc_21 : en_Ct := (138, [(2, 107, 0), (0, -2147483648, 2147483647)], [], (0, 0, 1), [(107, [51, 52, 53, 59, 63, 64]), (143, []), (148, []), (149, []), (150, []), (153, []), (154, []), (155, []), (156, [])], 8)
def mlu_21 : List en_Cu := []
/-! X12_hasWay -/
def mlc_27 : en_Ct := (112, [(2, 107, 0), (0, -2147483648, 2147483647), (0, -2147483648, 2147483647)], [], (0, -3, 3), [(107, [51, 52, 53, 59, 63, 64, 67, 68, 70, 71, 72, 73, 74]), (143, []), (148, []), (149, []), (150, []), (153, []), (154, []), (155, []), (156, [])], 10)
def mlu_27 : List en_Cu := []
/-! X12_choice -/
def mlc_29 : en_Ct := (118, [(2, 107, 0), (0, -2147483648, 2147483647)], [], (0, -1, 2000), [(107, [51, 52, 53, 59, 63, 64, 67, 68, 70, 71, 72, 73, 74]), (143, []), (148, []), (149, []), (150, []), (153, []), (154, []), (155, []), (156, [])], 9)
def mlu_29 : List en_Cu := []
/-! X12_count -/
def mlc_40 : en_Ct := (127, [(2, 107, 0), (0, -2147483648, 2147483647)], [], (0, -3, 3), [(107, [51, 52, 53, 59, 63, 64, 67, 68, 70, 71, 72, 73, 74]), (143, []), (148, []), (149, []), (150, []), (153, []), (154, []), (155, []), (156, [])], 9)
def mlu_40 : List en_Cu := [(6, [(2, 107, 0), (0, 0, 9), (0, -2, 3), (0, 0, 1000)], [], [], 2001, [0, 0, 0, -2])]
/-! X12_forced -/
def mlc_46 : en_Ct := (134, [(2, 107, 0), (0, -2147483648, 2147483647), (0, -2147483648, 2147483647)], [], (0, -3, 3), [(107, [51, 52, 53, 59, 63, 64, 67, 68, 70, 71, 72, 73, 74]), (143, []), (148, []), (149, []), (150, []), (153, []), (154, []), (155, []), (156, [])], 10)
def mlu_46 : List en_Cu := []
/-! X12_goes -/
def mlc_73 : en_Ct := (206, [(2, 107, 0), (0, -2147483648, 2147483647), (0, -2147483648, 2147483647)], [], (0, -128, 240), [(107, [51, 52, 53, 59, 63, 64, 67, 68, 70, 71, 72, 73, 74]), (143, []), (148, []), (149, []), (150, []), (153, []), (154, []), (155, []), (156, [])], 9)
def mlu_73 : List en_Cu := []
/-! X12_tried -/
def mlc_75 : en_Ct := (211, [(2, 107, 0)], [], (0, -3, 1000), [(107, [51, 52, 53, 59, 63, 64, 67, 68, 70, 71, 72, 73, 74]), (143, []), (148, []), (149, []), (150, []), (153, []), (154, []), (155, []), (156, [])], 9)
def mlu_75 : List en_Cu := []
/-! X12_ways -/
end
section
/-! oneMore, lays, gives -/
theorem ml_lv {w : sm_W} (hm : en_mem ml_tb mlX w) : mlV w.2.1 (w.2.1 107 18).toNatClampNeg := hm.2.2.2.2.2.2.1 _ (ml_live hm).2.2.1
theorem ml_half {x y : Int32} (h0 : 0 ≤ x.toInt) (h1 : x.toInt < y.toInt) (h2 : y.toInt ≤ 1441) : ((x + y) / (2 : Int32)).toInt = (x.toInt + y.toInt) / 2 := by
  have c2 : (2 : Int32).toInt = 2 := by decide
  have s : (x + y).toInt = x.toInt + y.toInt := ml_ad rfl rfl (by omega) (by omega)
  rw [Int32.toInt_div, s, c2, Int.tdiv_eq_ediv_of_nonneg (by omega)]
  exact en_bmod (by omega) (by omega) (Or.inl rfl)
end
section
/-! sets: as many QUARRELS as sets seen -/
theorem ml_and {x y : Int32} {m : Int} (h0 : 0 ≤ x.toInt) (h1 : x.toInt ≤ m) : 0 ≤ (x &&& y).toInt ∧ (x &&& y).toInt ≤ m := by
  have r := en_crange (x := x)
  have hb := en_bits h0
  have : (x &&& y).toBitVec.toNat ≤ x.toBitVec.toNat := by
    rw [Int32.toBitVec_and, BitVec.toNat_and]; exact Nat.and_le_left
  have h5 := en_bits2 this (by omega)
  omega
theorem ml_and' {x y : Int32} {m : Int} (h0 : 0 ≤ y.toInt) (h1 : y.toInt ≤ m) : 0 ≤ (x &&& y).toInt ∧ (x &&& y).toInt ≤ m := by
  have r := en_crange (x := y)
  have hb := en_bits h0
  have : (x &&& y).toBitVec.toNat ≤ y.toBitVec.toNat := by
    rw [Int32.toBitVec_and, BitVec.toNat_and]; exact Nat.and_le_right
  have h5 := en_bits2 this (by omega)
  omega
theorem ml_or {x y : Int32} (h1 : 0 ≤ x.toInt ∧ x.toInt ≤ 1023) (h2 : 0 ≤ y.toInt ∧ y.toInt ≤ 1023) : 0 ≤ (x ||| y).toInt ∧ (x ||| y).toInt ≤ 1023 := by
  have b1 := en_bits (x := x) h1.1
  have b2 := en_bits (x := y) h2.1
  have : (x ||| y).toBitVec.toNat < 2 ^ 10 := by
    rw [Int32.toBitVec_or, BitVec.toNat_or]
    exact Nat.or_lt_two_pow (by show _ < 1024; omega) (by show _ < 1024; omega)
  exact en_bits2 (m := 1023) (Nat.le_of_lt_succ this) (by decide)
theorem ml_shl9 : ∀ k : Nat, k ≤ 9 → 0 ≤ ((1 : Int32) <<< (Int32.ofNat k &&& 31)).toInt ∧ ((1 : Int32) <<< (Int32.ofNat k &&& 31)).toInt ≤ 1023 := by decide
theorem ml_ofN {y : Int32} (h : 0 ≤ y.toInt) : y = Int32.ofNat y.toNatClampNeg := by
  have n := kl_nat h
  have r := en_crange (x := y)
  refine en_ofI ?_
  rw [Int32.toInt_ofNat_of_lt (by omega)]
  exact n.symm
theorem ml_shl {y : Int32} (h0 : 0 ≤ y.toInt) (h1 : y.toInt ≤ 9) : 0 ≤ ((1 : Int32) <<< (y &&& 31)).toInt ∧ ((1 : Int32) <<< (y &&& 31)).toInt ≤ 1023 := by
  have n := kl_nat h0
  rw [ml_ofN h0]
  exact ml_shl9 _ (by omega)
def ml_bt (x : Int32) : Nat → Int32 → Int32 → Int32
  | 0, a, _ => a
  | m + 1, a, k => ml_bt x m (a + ((x >>> (k &&& 31)) &&& 1)) (k + 1)
theorem ml_bt_le (x : Int32) : ∀ (m : Nat) (a k : Int32), 0 ≤ a.toInt → a.toInt + m ≤ 1000 → 0 ≤ (ml_bt x m a k).toInt ∧ (ml_bt x m a k).toInt ≤ a.toInt + m
  | 0, a, k, h0, h1 => ⟨h0, by show a.toInt ≤ a.toInt + 0; omega⟩
  | m + 1, a, k, h0, h1 => by
    have b := ml_and' (x := x >>> (k &&& 31)) (y := 1) (m := 1) (by decide) (by decide)
    have s : (a + ((x >>> (k &&& 31)) &&& 1)).toInt = a.toInt + ((x >>> (k &&& 31)) &&& 1).toInt := ml_ad rfl rfl (by omega) (by omega)
    have r := ml_bt_le x m (a + ((x >>> (k &&& 31)) &&& 1)) (k + 1) (by omega) (by omega)
    show 0 ≤ (ml_bt x m (a + ((x >>> (k &&& 31)) &&& 1)) (k + 1)).toInt ∧ (ml_bt x m (a + ((x >>> (k &&& 31)) &&& 1)) (k + 1)).toInt ≤ _
    omega
theorem mx_bits1 {S : sm_C} {d : Nat} {Φ : sm_Z → Prop} {I : sm_I} {L : sm_L} {R : sm_R} {x0 : Int32} : ∀ (m : Nat) (x1 x2 : Int32), 0 ≤ x2.toInt → x2.toInt + m = 10 → Φ (some (.int (ml_bt x0 m x1 x2)), (xLay, I, L, kM R)) → sm_wp sm_P S d 105 1 [.int x0, .int x1, .int x2] [] (xLay, I, L, kM R) (0, 0) Φ := by
  have c10 : (10 : Int32).toInt = 10 := by decide
  intro m
  induction m with
  | zero =>
    intro x1 x2 h0 h1 h
    refine v_X12_bits_1 ⟨fun _ => h, fun a => ?_⟩
    have := kl_nle a
    omega
  | succ m ih =>
    intro x1 x2 h0 h1 h
    have s := ml_in1 (x := x2) (by omega)
    refine v_X12_bits_1 ⟨fun a => ?_, fun a n1 e1 => ?_⟩
    · have := kl_le.mp a
      omega
    · rw [e1]
      exact ih _ _ (by omega) (by omega) h
theorem mx_bits {S : sm_C} {d : Nat} {Φ : sm_Z → Prop} {I : sm_I} {L : sm_L} {R : sm_R} {x0 : Int32} (h : Φ (some (.int (ml_bt x0 10 0 0)), (xLay, I, L, kM R))) : sm_wp sm_P S d 105 0 [.int x0] [] (xLay, I, L, kM R) (0, 0) Φ := v_X12_bits_0 (mx_bits1 10 0 0 (by decide) (by decide) h)
def ml_f (i : Nat) : Int := (ml_bt (Int32.ofInt i) 10 0 0).toInt
def ml_C (n : Int) (s : Nat) : Nat := (List.range 1024).countP (fun i => decide (ml_f i < n ∨ (ml_f i = n ∧ i < s)))
theorem ml_cnt {p q : Nat → Bool} (h : ∀ a, p a = true → q a = true) {a : Nat} (ha : q a = true) (hn : p a = false) : ∀ l : List Nat, a ∈ l → l.countP p + 1 ≤ l.countP q
  | [], hl => absurd hl List.not_mem_nil
  | b :: l, hl => by
    have m : l.countP p ≤ l.countP q := List.countP_mono_left (fun x _ => h x)
    rw [List.countP_cons, List.countP_cons]
    by_cases e : a = b
    · subst e
      rw [ha, hn]; simp; omega
    · have hl : a ∈ l := by
        rcases List.mem_cons.mp hl with e2 | e2
        · exact absurd e2 e
        · exact e2
      have r := ml_cnt h ha hn l hl
      cases pb : p b with
      | true => rw [h b pb]; simp; omega
      | false => cases q b <;> simp <;> omega
theorem ml_C_le (n : Int) (s : Nat) : ml_C n s ≤ 1024 := by
  unfold ml_C
  have := List.countP_le_length (p := fun i => decide (ml_f i < n ∨ (ml_f i = n ∧ i < s))) (l := List.range 1024)
  rw [List.length_range] at this
  exact this
theorem ml_C_st {n : Int} {s : Nat} (hs : s < 1024) (h : ml_f s = n) : ml_C n s + 1 ≤ ml_C n (s + 1) := by
  unfold ml_C
  refine ml_cnt (a := s) (fun a ha => ?_) ?_ ?_ _ (List.mem_range.mpr hs)
  · have := of_decide_eq_true ha
    exact decide_eq_true (by omega)
  · exact decide_eq_true (by omega)
  · exact decide_eq_false (by omega)
theorem ml_C_mo (n : Int) (s : Nat) : ml_C n s ≤ ml_C n (s + 1) := by
  unfold ml_C
  refine List.countP_mono_left (fun a _ ha => ?_)
  have := of_decide_eq_true ha
  exact decide_eq_true (by omega)
theorem ml_C_nx (n : Int) (s : Nat) : ml_C n s ≤ ml_C (n + 1) 0 := by
  unfold ml_C
  refine List.countP_mono_left (fun a _ ha => ?_)
  have := of_decide_eq_true ha
  exact decide_eq_true (by omega)
theorem ml_f_eq {x : Int32} (h : 0 ≤ x.toInt) : ml_f x.toNatClampNeg = (ml_bt x 10 0 0).toInt := by
  unfold ml_f
  rw [kl_nat h, Int32.ofInt_toInt]
/-- how many are kept -/
def ml_Q (I : sm_I) (c : Nat) : Prop := (I 107 82).toInt ≤ c ∧ (I 107 84).toInt ≤ c
theorem ml_boo (r : Int32) : 0 ≤ (vp_nar .boolean r).toInt ∧ (vp_nar .boolean r).toInt ≤ 1 := by
  have b := ml_and' (x := r) (y := 1) (m := 1) (by decide) (by decide)
  exact b
end
section
/-! methods checked by the engine -/
def mlc_19 : en_Ct := (109, [(2, 107, 0), (0, -2147483648, 2147483647), (0, -2147483648, 2147483647)], [], (0, -2147483648, 2147483647), [(107, [51, 52, 53, 59, 63, 64, 67, 68, 69, 70, 71, 72, 73, 74, 79, 80, 82, 84, 87, 90, 91, 92, 96]), (143, []), (148, []), (149, []), (150, []), (151, []), (152, []), (153, []), (154, []), (155, []), (156, []), (157, []), (158, []), (159, []), (161, []), (162, []), (163, []), (164, [])], 9)
def mlu_19 : List en_Cu := [(6, [(2, 107, 0), (0, 0, 9), (0, 0, 1440), (0, -2147483648, 2147483647), (0, 0, 1000)], [], [], 2001, [0, 0, 0, 0, -2])]
/-! X12_can -/
def mlc_25 : en_Ct := (111, [(2, 107, 0)], [], (0, -3, 1023), [(107, [51, 52, 53, 59, 63, 64, 67, 68, 69, 70, 71, 72, 73, 74, 79, 80, 82, 84, 87, 90, 91, 92, 96]), (143, []), (148, []), (149, []), (150, []), (151, []), (152, []), (153, []), (154, []), (155, []), (156, []), (157, []), (158, []), (159, []), (161, []), (162, []), (163, []), (164, [])], 10)
def mlu_25 : List en_Cu := [(3, [(2, 107, 0), (0, -2, 1023), (0, 0, 1024)], [], [], 2049, [0, 0, -2])]
/-! X12_cheapest -/
def mlc_28 : en_Ct := (117, [(2, 107, 0), (0, -2147483648, 2147483647), (0, -2147483648, 2147483647), (0, -2147483648, 2147483647), (0, -2147483648, 2147483647)], [], (0, -3, 1), [(107, [51, 52, 53, 59, 63, 64, 67, 68, 69, 70, 71, 72, 73, 74, 79, 80, 82, 84, 87, 90, 91, 92, 96]), (143, []), (148, []), (149, []), (150, []), (151, []), (152, []), (153, []), (154, []), (155, []), (156, []), (157, []), (158, []), (159, []), (161, []), (162, []), (163, []), (164, [])], 8)
def mlu_28 : List en_Cu := []
/-! X12_could -/
def mlc_32 : en_Ct := (122, [(2, 107, 0), (0, -2147483648, 2147483647), (0, 0, 1)], [], (0, -2147483648, 2147483647), [(107, [51, 52, 53, 59, 63, 64, 67, 68, 69, 70, 71, 72, 73, 74, 79, 80, 82, 84, 87, 90, 91, 92, 96]), (143, []), (148, []), (149, []), (150, []), (151, []), (152, []), (153, []), (154, []), (155, []), (156, []), (157, []), (158, []), (159, []), (161, []), (162, []), (163, []), (164, [])], 9)
def mlu_32 : List en_Cu := [(5, [(2, 107, 0), (0, 0, 9), (0, 0, 1), (0, -2147483648, 2147483647), (0, 0, 1000)], [], [], 2001, [0, 0, 0, 0, -2])]
/-! X12_ends -/
def mlc_41 : en_Ct := (128, [(2, 107, 0), (0, -2147483648, 2147483647), (0, -2147483648, 2147483647), (0, -2147483648, 2147483647), (0, 0, 1)], [], (0, -2147483648, 2147483647), [(107, [51, 52, 53, 59, 63, 64, 67, 68, 69, 70, 71, 72, 73, 74, 79, 80, 82, 84, 87, 90, 91, 92, 96]), (143, []), (148, []), (149, []), (150, []), (151, []), (152, []), (153, []), (154, []), (155, []), (156, []), (157, []), (158, []), (159, []), (161, []), (162, []), (163, []), (164, [])], 10)
def mlu_41 : List en_Cu := []
/-! X12_gap -/
def mlc_43 : en_Ct := (130, [(2, 107, 0)], [], (0, -2147483648, 2147483647), [(107, [51, 52, 53, 59, 63, 64, 67, 68, 69, 70, 71, 72, 73, 74, 79, 80, 82, 84, 87, 90, 91, 92, 96]), (143, []), (148, []), (149, []), (150, []), (151, []), (152, []), (153, []), (154, []), (155, []), (156, []), (157, []), (158, []), (159, []), (161, []), (162, []), (163, []), (164, [])], 11)
def mlu_43 : List en_Cu := []
/-! X12_give -/
def mlc_44 : en_Ct := (132, [(2, 107, 0), (0, -2147483648, 2147483647)], [], (0, -3, 1023), [(107, [51, 52, 53, 59, 63, 64, 67, 68, 69, 70, 71, 72, 73, 74, 79, 80, 82, 84, 87, 90, 91, 92, 96]), (143, []), (148, []), (149, []), (150, []), (151, []), (152, []), (153, []), (154, []), (155, []), (156, []), (157, []), (158, []), (159, []), (161, []), (162, []), (163, []), (164, [])], 10)
def mlu_44 : List en_Cu := []
/-! X12_givingUp -/
def mlc_45 : en_Ct := (133, [(2, 107, 0)], [], (0, -3, 1024), [(107, [51, 52, 53, 59, 63, 64, 67, 68, 69, 70, 71, 72, 73, 74, 79, 80, 82, 84, 87, 90, 91, 92, 96]), (143, []), (148, []), (149, []), (150, []), (151, []), (152, []), (153, []), (154, []), (155, []), (156, []), (157, []), (158, []), (159, []), (161, []), (162, []), (163, []), (164, [])], 10)
def mlu_45 : List en_Cu := []
/-! X12_givingUps -/
def mlc_47 : en_Ct := (137, [(2, 107, 0), (0, -2147483648, 2147483647), (0, -2147483648, 2147483647)], [], (0, -2147483648, 2147483647), [(107, [51, 52, 53, 59, 63, 64, 67, 68, 69, 70, 71, 72, 73, 74, 79, 80, 82, 84, 87, 90, 91, 92, 96]), (143, []), (148, []), (149, []), (150, []), (151, []), (152, []), (153, []), (154, []), (155, []), (156, []), (157, []), (158, []), (159, []), (161, []), (162, []), (163, []), (164, [])], 10)
def mlu_47 : List en_Cu := []
/-! X12_hand -/
def mlc_48 : en_Ct := (140, [(2, 107, 0), (0, -2147483648, 2147483647), (0, -2147483648, 2147483647), (0, 0, 1)], [], (0, -2147483648, 2147483647), [(107, [51, 52, 53, 59, 63, 64, 67, 68, 69, 70, 71, 72, 73, 74, 79, 80, 82, 84, 87, 90, 91, 92, 96]), (143, []), (148, []), (149, []), (150, []), (151, []), (152, []), (153, []), (154, []), (155, []), (156, []), (157, []), (158, []), (159, []), (161, []), (162, []), (163, []), (164, [])], 10)
def mlu_48 : List en_Cu := []
/-! X12_hour -/
def mlc_49 : en_Ct := (152, [(2, 107, 0)], [], (0, -3, 999), [(107, [51, 52, 53, 59, 63, 64, 67, 68, 69, 70, 71, 72, 73, 74, 79, 80, 82, 84, 87, 90, 91, 92, 96]), (143, []), (148, []), (149, []), (150, []), (151, []), (152, []), (153, []), (154, []), (155, []), (156, []), (157, []), (158, []), (159, []), (161, []), (162, []), (163, []), (164, [])], 9)
def mlu_49 : List en_Cu := [(3, [(2, 107, 0), (0, 0, 1000)], [], [], 2001, [0, -2])]
/-! X12_keep -/
def mlc_50 : en_Ct := (153, [(2, 107, 0), (0, -2147483648, 2147483647)], [], (0, -3, 1), [(107, [51, 52, 53, 59, 63, 64, 67, 68, 69, 70, 71, 72, 73, 74, 79, 80, 82, 84, 87, 90, 91, 92, 96]), (143, []), (148, []), (149, []), (150, []), (151, []), (152, []), (153, []), (154, []), (155, []), (156, []), (157, []), (158, []), (159, []), (161, []), (162, []), (163, []), (164, [])], 10)
def mlu_50 : List en_Cu := []
/-! X12_kept -/
def mlc_51 : en_Ct := (157, [(2, 107, 0), (0, 0, 999)], [], (0, 0, 1), [(107, [51, 52, 53, 59, 63, 64, 67, 68, 69, 70, 71, 72, 73, 74, 79, 80, 82, 84, 87, 90, 91, 92, 96]), (143, []), (148, []), (149, []), (150, []), (151, []), (152, []), (153, []), (154, []), (155, []), (156, []), (157, []), (158, []), (159, []), (161, []), (162, []), (163, []), (164, [])], 8)
def mlu_51 : List en_Cu := [(3, [(2, 107, 0), (0, 0, 10)], [], [], 21, [0, -2])]
/-! X12_laysSet -/
def mlc_52 : en_Ct := (159, [(2, 107, 0), (0, -2147483648, 2147483647), (0, -2147483648, 2147483647)], [], (0, -2147483648, 2147483647), [(107, [51, 52, 53, 59, 63, 64, 67, 68, 69, 70, 71, 72, 73, 74, 79, 80, 82, 84, 87, 90, 91, 92, 96]), (143, []), (148, []), (149, []), (150, []), (151, []), (152, []), (153, []), (154, []), (155, []), (156, []), (157, []), (158, []), (159, []), (161, []), (162, []), (163, []), (164, [])], 8)
def mlu_52 : List en_Cu := [(1, [(2, 107, 0), (0, -2147483648, 2147483647), (0, -2147483648, 2147483647), (0, -2147483648, 2147483647), (0, 0, 1000)], [], [], 2001, [0, 0, 0, 0, -2])]
/-! X12_leftOf -/
def mlc_53 : en_Ct := (158, [(2, 107, 0), (0, -2147483648, 2147483647), (0, -2147483648, 2147483647)], [], (0, -2147483648, 2147483647), [(107, [51, 52, 53, 59, 63, 64, 67, 68, 69, 70, 71, 72, 73, 74, 79, 80, 82, 84, 87, 90, 91, 92, 96]), (143, []), (148, []), (149, []), (150, []), (151, []), (152, []), (153, []), (154, []), (155, []), (156, []), (157, []), (158, []), (159, []), (161, []), (162, []), (163, []), (164, [])], 9)
def mlu_53 : List en_Cu := []
/-! X12_left -/
def mlc_56 : en_Ct := (167, [(2, 107, 0)], [], (0, -3, 4), [(107, [51, 52, 53, 59, 63, 64, 67, 68, 69, 70, 71, 72, 73, 74, 79, 80, 82, 84, 87, 90, 91, 92, 96]), (143, []), (148, []), (149, []), (150, []), (151, []), (152, []), (153, []), (154, []), (155, []), (156, []), (157, []), (158, []), (159, []), (161, []), (162, []), (163, []), (164, [])], 9)
def mlu_56 : List en_Cu := [(5, [(2, 107, 0), (0, -1, 4), (0, -2147483648, 2147483647), (0, 0, 5)], [], [], 11, [0, 0, 0, -2])]
/-! X12_next -/
def mlc_61 : en_Ct := (178, [(2, 107, 0)], [], (0, -2147483648, 2147483647), [(107, [51, 52, 53, 59, 63, 64, 67, 68, 69, 70, 71, 72, 73, 74, 79, 80, 82, 84, 87, 90, 91, 92, 96]), (143, []), (148, []), (149, []), (150, []), (151, []), (152, []), (153, []), (154, []), (155, []), (156, []), (157, []), (158, []), (159, []), (161, []), (162, []), (163, []), (164, [])], 11)
def mlu_61 : List en_Cu := []
/-! X12_price -/
def mlc_62 : en_Ct := (180, [(2, 107, 0), (0, -2147483648, 2147483647)], [], (0, -3, 1023), [(107, [51, 52, 53, 59, 63, 64, 67, 68, 69, 70, 71, 72, 73, 74, 79, 80, 82, 84, 87, 90, 91, 92, 96]), (143, []), (148, []), (149, []), (150, []), (151, []), (152, []), (153, []), (154, []), (155, []), (156, []), (157, []), (158, []), (159, []), (161, []), (162, []), (163, []), (164, [])], 10)
def mlu_62 : List en_Cu := []
/-! X12_quarrel -/
def mlc_63 : en_Ct := (181, [(2, 107, 0)], [], (0, -3, 1024), [(107, [51, 52, 53, 59, 63, 64, 67, 68, 69, 70, 71, 72, 73, 74, 79, 80, 82, 84, 87, 90, 91, 92, 96]), (143, []), (148, []), (149, []), (150, []), (151, []), (152, []), (153, []), (154, []), (155, []), (156, []), (157, []), (158, []), (159, []), (161, []), (162, []), (163, []), (164, [])], 10)
def mlu_63 : List en_Cu := []
/-! X12_quarrels -/
def mlc_71 : en_Ct := (189, [(2, 107, 0)], [], (0, -2147483648, 2147483647), [(107, [51, 52, 53, 59, 63, 64, 67, 68, 69, 70, 71, 72, 73, 74, 79, 80, 82, 84, 87, 90, 91, 92, 96]), (143, []), (148, []), (149, []), (150, []), (151, []), (152, []), (153, []), (154, []), (155, []), (156, []), (157, []), (158, []), (159, []), (161, []), (162, []), (163, []), (164, [])], 9)
def mlu_71 : List en_Cu := [(3, [(2, 107, 0), (0, -2147483648, 2147483647), (0, 0, 1000)], [], [], 2001, [0, 0, -2])]
/-! X12_setWays -/
def mlc_72 : en_Ct := (192, [(2, 107, 0), (0, -2147483648, 2147483647), (0, -2147483648, 2147483647), (0, 0, 1)], [], (0, -2147483648, 2147483647), [(107, [51, 52, 53, 59, 63, 64, 67, 68, 69, 70, 71, 72, 73, 74, 79, 80, 82, 84, 87, 90, 91, 92, 96]), (143, []), (148, []), (149, []), (150, []), (151, []), (152, []), (153, []), (154, []), (155, []), (156, []), (157, []), (158, []), (159, []), (161, []), (162, []), (163, []), (164, [])], 10)
def mlu_72 : List en_Cu := []
/-! X12_slack -/
def mlc_76 : en_Ct := (93, [(2, 107, 0), (0, -2147483648, 2147483647)], [], (0, -2147483648, 2147483647), [(107, [51, 52, 53, 59, 63, 64, 67, 68, 69, 70, 71, 72, 73, 74, 79, 80, 82, 84, 87, 90, 91, 92, 96]), (143, []), (148, []), (149, []), (150, []), (151, []), (152, []), (153, []), (154, []), (155, []), (156, []), (157, []), (158, []), (159, []), (161, []), (162, []), (163, []), (164, [])], 11)
def mlu_76 : List en_Cu := []
/-! X12_alone -/
def mlc_77 : en_Ct := (96, [(2, 107, 0), (0, -2147483648, 2147483647), (0, 0, 1)], [], (0, -2147483648, 2147483647), [(107, [51, 52, 53, 59, 63, 64, 67, 68, 69, 70, 71, 72, 73, 74, 79, 80, 82, 84, 87, 90, 91, 92, 96]), (143, []), (148, []), (149, []), (150, []), (151, []), (152, []), (153, []), (154, []), (155, []), (156, []), (157, []), (158, []), (159, []), (161, []), (162, []), (163, []), (164, [])], 9)
def mlu_77 : List en_Cu := []
/-! X12_ask -/
end
section
/-! meetsAll, been -/
end
section
/-! drawn -/
theorem ml_m1 {x : Int32} (h : ¬ x = (-1 : Int32)) : x.toInt ≠ -1 := fun c => h (en_ofI (by rw [c]; decide))
theorem mx_gapNow {S : sm_C} {d : Nat} {Φ : sm_Z → Prop} {I : sm_I} {L : sm_L} {R : sm_R} {x : Int32} (h0 : 0 ≤ x.toInt) (h1 : x.toInt ≤ 12) (h : ∀ r : Int32, Φ (some (.int r), (xLay, I, L, kM R))) : sm_wp sm_P S d 129 0 [.ref 107, .int x, .int (0 : Int32), .int (0 : Int32)] [] (xLay, I, L, kM R) (0, 0) Φ := by
  have c13 : (13 : Int32).toInt = 13 := by decide
  have c169 : (169 : Int32).toInt = 169 := by decide
  refine u_X12_gapNow_0 ⟨fun _ n1 e1 => ⟨?_, h _⟩, fun a => absurd rfl a⟩
  have s1 : ((13 : Int32) * x).toInt = 13 * x.toInt := ml_mu c13 rfl (by omega) (by omega)
  have s2 : ((169 : Int32) + (13 : Int32) * x).toInt = 169 + 13 * x.toInt := ml_ad c169 s1 (by omega) (by omega)
  have s3 : n1.toInt = 169 + 13 * x.toInt + 0 := by rw [e1]; exact ml_ad s2 kl_0 (by omega) (by omega)
  exact kl_in (by omega) (by omega)
/-- a TIME of the one asked for, or none -/
def ml_dk (I : sm_I) (x : Int32) : Prop := x.toInt = -1 ∨ (0 ≤ x.toInt ∧ x.toInt ≤ 9 ∧ ∀ n : Int32, n.toInt = 10 * (I 107 18).toInt + x.toInt → 0 ≤ (I 124 n.toNatClampNeg).toInt)
end
section
/-! plans -/
def ml_pk (k p : Int) : Prop := (k = 0 ∧ p = 1) ∨ (k = 1 ∧ p = 3) ∨ (k = 2 ∧ p = 9) ∨ (k = 3 ∧ p = 27) ∨ (k = 4 ∧ p = 81) ∨ (k = 5 ∧ p = 243)
theorem ml_pw {I : sm_I} (hP : mlP I) {x : Int32} (h0 : 0 ≤ x.toInt) (h1 : x.toInt ≤ 5) : ml_pk x.toInt (I 165 x.toNatClampNeg).toInt := by
  obtain ⟨p0, p1, p2, p3, p4, p5⟩ := hP
  have n := kl_nat h0
  unfold ml_pk
  rcases (by omega : x.toNatClampNeg = 0 ∨ x.toNatClampNeg = 1 ∨ x.toNatClampNeg = 2 ∨ x.toNatClampNeg = 3 ∨ x.toNatClampNeg = 4 ∨ x.toNatClampNeg = 5) with e | e | e | e | e | e
  · rw [e, p0]; have : (1 : Int32).toInt = 1 := by decide
    omega
  · rw [e, p1]; have : (3 : Int32).toInt = 3 := by decide
    omega
  · rw [e, p2]; have : (9 : Int32).toInt = 9 := by decide
    omega
  · rw [e, p3]; have : (27 : Int32).toInt = 27 := by decide
    omega
  · rw [e, p4]; have : (81 : Int32).toInt = 81 := by decide
    omega
  · rw [e, p5]; have : (243 : Int32).toInt = 243 := by decide
    omega
theorem ml_dig {s k p K N : Int} (h0 : 0 ≤ s) (h1 : s < N) (hp : ml_pk k p) (hN : ml_pk K N) (hk : k < K) (hd : s / p = 3 * (s / p / 3)) : s + 2 * p < N := by
  rcases hp with ⟨a, b⟩ | ⟨a, b⟩ | ⟨a, b⟩ | ⟨a, b⟩ | ⟨a, b⟩ | ⟨a, b⟩ <;> subst a <;> subst b <;> rcases hN with ⟨a, b⟩ | ⟨a, b⟩ | ⟨a, b⟩ | ⟨a, b⟩ | ⟨a, b⟩ | ⟨a, b⟩ <;> subst a <;> subst b <;> omega
theorem ml_dv {x y : Int32} (h0 : 0 ≤ x.toInt) (h1 : 1 ≤ y.toInt) : (x / y).toInt = x.toInt / y.toInt := by
  have r := en_crange (x := x)
  have q : x.toInt / y.toInt ≤ x.toInt := Int.ediv_le_self _ h0
  have q0 : 0 ≤ x.toInt / y.toInt := Int.ediv_nonneg h0 (by omega)
  rw [Int32.toInt_div, Int.tdiv_eq_ediv_of_nonneg h0]
  exact en_bmod (by omega) (by omega) (Or.inl rfl)
theorem ml_rem3 {x : Int32} (h0 : 0 ≤ x.toInt) (h1 : x.toInt ≤ 1000) (h : x - x / (3 : Int32) * (3 : Int32) = 0) : x.toInt = 3 * (x.toInt / 3) := by
  have c3 : (3 : Int32).toInt = 3 := by decide
  have e1 : (x / (3 : Int32)).toInt = x.toInt / 3 := by rw [ml_dv h0 (by rw [c3]; decide), c3]
  have e2 : (x / (3 : Int32) * (3 : Int32)).toInt = x.toInt / 3 * 3 := ml_mu e1 c3 (by omega) (by omega)
  have e3 : (x - x / (3 : Int32) * (3 : Int32)).toInt = x.toInt - x.toInt / 3 * 3 := by
    rw [Int32.toInt_sub, e2]; exact en_bmod (by omega) (by omega) (Or.inl rfl)
  rw [h, kl_0] at e3
  omega
end
section
/-! methods checked by the engine -/
def mlc_38 : en_Ct := (176, [(2, 107, 0), (0, -2147483648, 2147483647), (0, 0, 1)], [], (0, -2147483648, 100), [(107, [51, 52, 53, 59, 63, 64, 67, 68, 69, 70, 71, 72, 73, 74, 79, 80, 82, 84, 87, 90, 91, 92, 96]), (143, []), (148, []), (149, []), (150, []), (151, []), (152, []), (153, []), (154, []), (155, []), (156, []), (157, []), (158, []), (159, []), (161, []), (162, []), (163, []), (164, [])], 10)
def mlu_38 : List en_Cu := []
/-! X12_planOf -/
def mlc_39 : en_Ct := (126, [(2, 107, 0), (0, -2147483648, 2147483647)], [], (0, -2147483648, 100), [(107, [51, 52, 53, 59, 63, 64, 67, 68, 69, 70, 71, 72, 73, 74, 79, 80, 82, 84, 87, 90, 91, 92, 96]), (143, []), (148, []), (149, []), (150, []), (151, []), (152, []), (153, []), (154, []), (155, []), (156, []), (157, []), (158, []), (159, []), (161, []), (162, []), (163, []), (164, [])], 11)
def mlu_39 : List en_Cu := []
/-! X12_first -/
def mlc_60 : en_Ct := (175, [(2, 107, 0), (0, -2147483648, 2147483647)], [], (0, -2147483648, 100), [(107, [51, 52, 53, 59, 63, 64, 67, 68, 69, 70, 71, 72, 73, 74, 79, 80, 82, 84, 87, 90, 91, 92, 96]), (143, []), (148, []), (149, []), (150, []), (151, []), (152, []), (153, []), (154, []), (155, []), (156, []), (157, []), (158, []), (159, []), (161, []), (162, []), (163, []), (164, [])], 11)
def mlu_60 : List en_Cu := []
/-! X12_plan -/
end
section
/-! the reference's parser: what reads on -/
def ml_pS (D : Nat → Nat → Prop) (I J : sm_I) : Prop := (∀ p j, ¬ D p j → ¬ (p = 107 ∧ (j = 11 ∨ j = 13 ∨ j = 14 ∨ j = 15 ∨ j = 16)) → J p j = I p j) ∧ (¬ I 107 15 = 0 → ¬ J 107 15 = 0) ∧ (¬ I 107 13 = 0 → ¬ J 107 13 = 0) ∧ (I 107 11).toInt ≤ (J 107 11).toInt
def ml_no (_ _ : Nat) : Prop := False
theorem ml_pS_rf {D : Nat → Nat → Prop} {I : sm_I} : ml_pS D I I := ⟨fun _ _ _ _ => rfl, id, id, Int.le_refl _⟩
theorem ml_pS_tr {D : Nat → Nat → Prop} {I J K : sm_I} (h : ml_pS D I J) (g : ml_pS D J K) : ml_pS D I K := ⟨fun p j a b => (g.1 p j a b).trans (h.1 p j a b), fun a => g.2.1 (h.2.1 a), fun a => g.2.2.1 (h.2.2.1 a), Int.le_trans h.2.2.2 g.2.2.2⟩
theorem ml_pS_mo {D D' : Nat → Nat → Prop} {I J : sm_I} (h : ml_pS D I J) (m : ∀ p j, D p j → D' p j) : ml_pS D' I J := ⟨fun p j a b => h.1 p j (fun c => a (m p j c)) b, h.2⟩
theorem ml_pS_no {D : Nat → Nat → Prop} {I J : sm_I} (h : ml_pS ml_no I J) : ml_pS D I J := ml_pS_mo h (fun _ _ c => c.elim)
theorem ml_pS_g {I J : sm_I} (h : ml_pS ml_no I J) {p j : Nat} (hp : ¬ (p = 107 ∧ (j = 11 ∨ j = 13 ∨ j = 14 ∨ j = 15 ∨ j = 16))) : J p j = I p j := h.1 p j id hp
theorem ml_pS_up {D : Nat → Nat → Prop} {I : sm_I} {p j : Nat} {x : Int32} (hD : D p j) (h11 : ¬ (p = 107 ∧ (j = 11 ∨ j = 13 ∨ j = 15))) : ml_pS D I (sm_up I p j x) := by
  refine ⟨fun a b h _ => en_up_ne _ _ _ _ (fun c => h (by rw [c.1, c.2]; exact hD)), ?_, ?_, ?_⟩
  · rw [en_up_ne _ _ _ _ (by omega)]; exact id
  · rw [en_up_ne _ _ _ _ (by omega)]; exact id
  · rw [en_up_ne _ _ _ _ (by omega)]; exact Int.le_refl _
theorem ml_t {w : sm_W} (hm : en_mem ml_tb mlX w) : 0 ≤ (w.2.1 107 11).toInt ∧ (w.2.1 107 11).toInt ≤ 500 := hm.2.1 107 11 (0, 500) (by decide +kernel)
theorem ml_vt {I : sm_I} {L : sm_L} {R : sm_R} (hm : en_mem ml_tb mlX (xLay, I, L, R)) : vp_in (I 107 11) 503 := by
  have b : 0 ≤ (I 107 11).toInt ∧ (I 107 11).toInt ≤ 500 := ml_t hm
  exact kl_in b.1 (by omega)
theorem ml_ft {I : sm_I} {L : sm_L} {R : sm_R} (hm : en_mem ml_tb mlX (xLay, I, L, R)) : 0 ≤ (I 107 13).toInt ∧ (I 107 13).toInt ≤ 5 := hm.2.1 107 13 (0, 5) (by decide +kernel)
theorem ml_f0 {I : sm_I} {L : sm_L} {R : sm_R} (hm : en_mem ml_tb mlX (xLay, I, L, R)) (h : I 107 13 ≤ 0) : I 107 13 = 0 := by
  have b := ml_ft hm
  have h := kl_le.mp h
  rw [kl_0] at h
  exact en_ofI (by rw [kl_0]; omega)
theorem mx_is {S : sm_C} {d : Nat} {Φ : sm_Z → Prop} {I : sm_I} {L : sm_L} {R : sm_R} {x : Int32} (hm : en_mem ml_tb mlX (xLay, I, L, R)) (h : ∀ r : Int32, (r = 0 ∨ r = 1) → (¬ r = 0 → I 107 13 = 0) → Φ (some (.int r), (xLay, I, L, kM R))) : sm_wp sm_P S d 143 0 [.ref 107, .int x] [] (xLay, I, L, kM R) (0, 0) Φ := u_X12_is_0 ⟨fun a => ⟨ml_vt hm, fun _ => h 1 (Or.inr rfl) (fun _ => a), fun _ => h 0 (Or.inl rfl) (fun c => absurd rfl c)⟩, fun _ => h 0 (Or.inl rfl) (fun c => absurd rfl c)⟩
theorem mx_fail {S : sm_C} {d : Nat} {Φ : sm_Z → Prop} {I : sm_I} {L : sm_L} {R : sm_R} {x : Int32} (h1 : 1 ≤ x.toInt) (h5 : x.toInt ≤ 5) (hm : en_mem ml_tb mlX (xLay, I, L, R)) (h : ∀ J : sm_I, en_mem ml_tb mlX (xLay, J, L, R) → ml_pS ml_no I J → ¬ J 107 13 = 0 → Φ (none, (xLay, J, L, kM R))) : sm_wp sm_P S d 123 0 [.ref 107, .int x] [] (xLay, I, L, kM R) (0, 0) Φ := by
  have bt : 0 ≤ (I 107 11).toInt ∧ (I 107 11).toInt ≤ 500 := ml_t hm
  have nt := kl_nat bt.1
  have g11 : (sm_up I 107 13 x) 107 11 = I 107 11 := en_up_ne _ _ _ _ (by omega)
  have m1 : en_mem ml_tb mlX (xLay, sm_up I 107 13 x, L, R) := ml_wf hm (by decide +kernel) (q := (0, 5)) (by decide +kernel) (by show 0 ≤ _ ∧ _ ≤ (5 : Int); omega)
  refine u_X12_fail_0 ⟨fun a => ⟨by rw [g11]; exact ml_vt hm, fun n1 e1 I2 e2 => ?_⟩, fun a => h I hm ml_pS_rf (fun c => a (by rw [c]; decide))⟩
  rw [g11] at e1
  have bn : 0 ≤ n1.toInt ∧ n1.toInt ≤ 2000 := by rw [e1]; exact ml_row m1 (p := 111) (n := 503) (q := (0, 2000)) (fun _ => rfl) _ (by omega)
  have g13 : I2 107 13 = x := by rw [e2, en_up_ne _ _ _ _ (by omega), en_up_eq]
  have n13 : ¬ I2 107 13 = 0 := fun c => by rw [g13] at c; rw [c, kl_0] at h1; omega
  refine h I2 ?_ ⟨fun p j _ hp => ?_, fun c => ?_, fun _ => n13, ?_⟩ n13
  · rw [e2]
    exact ml_wf m1 (by decide +kernel) (q := (0, 2000)) (by decide +kernel) bn
  · rw [e2, en_up_ne _ _ _ _ (by omega), en_up_ne _ _ _ _ (by omega)]
  · rw [e2, en_up_ne _ _ _ _ (by omega), en_up_ne _ _ _ _ (by omega)]; exact c
  · rw [e2, en_up_ne _ _ _ _ (by omega), g11]; exact Int.le_refl _
theorem mx_wrong {S : sm_C} {d : Nat} {Φ : sm_Z → Prop} {I : sm_I} {L : sm_L} {R : sm_R} {x1 x2 : Int32} (h1 : 1 ≤ x1.toInt) (h5 : x1.toInt ≤ 5) (k0 : 0 ≤ x2.toInt) (k1 : x2.toInt ≤ 502) (hm : en_mem ml_tb mlX (xLay, I, L, R)) (h : ∀ J : sm_I, en_mem ml_tb mlX (xLay, J, L, R) → ml_pS ml_no I J → (I 107 13 = 0 → ¬ J 107 15 = 0) → Φ (none, (xLay, J, L, kM R))) : sm_wp sm_P S d 213 0 [.ref 107, .int x1, .int x2] [] (xLay, I, L, kM R) (0, 0) Φ := by
  have n2 := kl_nat k0
  have bp : 0 ≤ (I 111 x2.toNatClampNeg).toInt ∧ (I 111 x2.toNatClampNeg).toInt ≤ 2000 := ml_row hm (p := 111) (n := 503) (q := (0, 2000)) (fun _ => rfl) _ (by omega)
  have wr : ∀ J : sm_I, J = sm_up (sm_up I 107 15 x1) 107 16 (I 111 x2.toNatClampNeg) → Φ (none, (xLay, J, L, kM R)) := by
    intro J e
    have g15 : J 107 15 = x1 := by rw [e, en_up_ne _ _ _ _ (by omega), en_up_eq]
    have n15 : ¬ J 107 15 = 0 := fun c => by rw [g15] at c; rw [c, kl_0] at h1; omega
    refine h J ?_ ⟨fun p j _ hp => ?_, fun _ => n15, fun c => ?_, ?_⟩ (fun _ => n15)
    · rw [e]
      exact ml_wf (ml_wf hm (by decide +kernel) (q := (0, 5)) (by decide +kernel) (by show 0 ≤ _ ∧ _ ≤ (5 : Int); omega)) (by decide +kernel) (q := (0, 2000)) (by decide +kernel) bp
    · rw [e, en_up_ne _ _ _ _ (by omega), en_up_ne _ _ _ _ (by omega)]
    · rw [e, en_up_ne _ _ _ _ (by omega), en_up_ne _ _ _ _ (by omega)]; exact c
    · rw [e, en_up_ne _ _ _ _ (by omega), en_up_ne _ _ _ _ (by omega)]; exact Int.le_refl _
  refine u_X12_wrong_0 ⟨kl_in k0 (by omega), fun a => h I hm ml_pS_rf (fun c => ?_), fun _ => ⟨fun _ => wr, fun a => ⟨fun _ => h I hm ml_pS_rf (fun _ => a), fun _ => ⟨fun _ => ⟨fun _ => wr, fun _ => h I hm ml_pS_rf (fun _ => a)⟩, fun _ => wr⟩⟩⟩⟩
  rw [c] at a
  exact absurd a (by decide)
theorem mx_goesOn {S : sm_C} {d : Nat} {Φ : sm_Z → Prop} {I : sm_I} {L : sm_L} {R : sm_R} (hm : en_mem ml_tb mlX (xLay, I, L, R)) (h : ∀ J : sm_I, en_mem ml_tb mlX (xLay, J, L, R) → ml_pS ml_no I J → (¬ J 107 13 = 0 ∨ (I 107 11).toInt + 1 ≤ (J 107 11).toInt) → Φ (none, (xLay, J, L, kM R))) : sm_wp sm_P S (d + 1) 136 0 [.ref 107] [] (xLay, I, L, kM R) (0, 0) Φ := by
  have bt : 0 ≤ (I 107 11).toInt ∧ (I 107 11).toInt ≤ 500 := ml_t hm
  refine u_X12_goesOn_0 ⟨fun _ => mx_fail (by decide) (by decide) hm (fun J mJ pJ fJ => ⟨J, L, R, rfl, h J mJ pJ (Or.inl fJ)⟩), fun a I1 e1 => ?_⟩
  have a' : (I 107 11).toInt ≠ 500 := fun c => a (en_ofI (by rw [c]; decide))
  have s := ml_in1 (x := I 107 11) (by omega)
  have g : (I1 107 11).toInt = (I 107 11).toInt + 1 := by rw [e1, en_up_eq]; exact s
  refine h I1 ?_ ⟨fun p j _ hp => ?_, fun c => ?_, fun c => ?_, by omega⟩ (Or.inr (by omega))
  · rw [e1]
    exact ml_wf hm (by decide +kernel) (q := (0, 500)) (by decide +kernel) (by show 0 ≤ _ ∧ _ ≤ (500 : Int); omega)
  · rw [e1, en_up_ne _ _ _ _ (by omega)]
  · rw [e1, en_up_ne _ _ _ _ (by omega)]; exact c
  · rw [e1, en_up_ne _ _ _ _ (by omega)]; exact c
theorem mx_must {S : sm_C} {d : Nat} {Φ : sm_Z → Prop} {I : sm_I} {L : sm_L} {R : sm_R} {x : Int32} (hm : en_mem ml_tb mlX (xLay, I, L, R)) (h : ∀ J : sm_I, en_mem ml_tb mlX (xLay, J, L, R) → ml_pS ml_no I J → Φ (none, (xLay, J, L, kM R))) : sm_wp sm_P S (d + 2) 165 0 [.ref 107, .int x] [] (xLay, I, L, kM R) (0, 0) Φ := u_X12_must_0 (mx_is hm (fun r _ _ => ⟨r, I, L, R, rfl, fun _ => mx_fail (by decide) (by decide) hm (fun J mJ pJ _ => ⟨J, L, R, rfl, h J mJ pJ⟩), fun _ => mx_goesOn hm (fun J mJ pJ _ => ⟨J, L, R, rfl, h J mJ pJ⟩)⟩))
theorem ml_nm {I : sm_I} {L : sm_L} {R : sm_R} (hm : en_mem ml_tb mlX (xLay, I, L, R)) : 0 ≤ (I 107 20).toInt ∧ (I 107 20).toInt ≤ 50 := hm.2.1 107 20 (0, 50) (by decide +kernel)
theorem mx_named1 {S : sm_C} {d : Nat} {Φ : sm_Z → Prop} {L : sm_L} {R : sm_R} {x1 : Int32} (k0 : 0 ≤ x1.toInt) (k1 : x1.toInt ≤ 500) (I0 : sm_I) (h : ∀ J : sm_I, en_mem ml_tb mlX (xLay, J, L, R) → ml_pS ml_no I0 J → Φ (some (.int x1), (xLay, J, L, kM R))) : ∀ (m : Nat) (I : sm_I) (x2 : Int32), en_mem ml_tb mlX (xLay, I, L, R) → ml_pS ml_no I0 I → 0 ≤ x2.toInt → (I 107 20).toInt - x2.toInt ≤ m → sm_wp sm_P S (d + 2) 166 1 [.ref 107, .int x1, .int x2] [] (xLay, I, L, kM R) (0, 0) Φ := by
  intro m
  induction m with
  | zero =>
    intro I x2 hm hp h0 hM
    refine u_X12_named_1 ⟨fun _ => h I hm hp, fun a => ?_⟩
    have := kl_nle a
    omega
  | succ m ih =>
    intro I x2 hm hp h0 hM
    have bn := ml_nm hm
    refine u_X12_named_1 ⟨fun _ => h I hm hp, fun a => ⟨fun _ => ?_, fun _ => h I hm hp⟩⟩
    have a := kl_nle a
    have s := ml_in1 (x := x2) (by omega)
    refine ⟨kl_in h0 (by omega), kl_in k0 (by omega), fun _ => ?_, fun _ => ih I _ hm hp (by omega) (by omega)⟩
    refine mx_wrong (by decide) (by decide) k0 (by omega) hm (fun J mJ pJ _ => ⟨J, L, R, rfl, ih J _ mJ (ml_pS_tr hp pJ) (by omega) ?_⟩)
    rw [ml_pS_g pJ (by omega)]
    omega
theorem mx_named {S : sm_C} {d : Nat} {Φ : sm_Z → Prop} {I : sm_I} {L : sm_L} {R : sm_R} (hm : en_mem ml_tb mlX (xLay, I, L, R)) (h : ∀ (r : Int32) (J : sm_I), 0 ≤ r.toInt → r.toInt ≤ 500 → en_mem ml_tb mlX (xLay, J, L, R) → ml_pS ml_no I J → Φ (some (.int r), (xLay, J, L, kM R))) : sm_wp sm_P S (d + 3) 166 0 [.ref 107] [] (xLay, I, L, kM R) (0, 0) Φ := by
  have bt : 0 ≤ (I 107 11).toInt ∧ (I 107 11).toInt ≤ 500 := ml_t hm
  refine u_X12_named_0 (mx_must hm (fun J mJ pJ => ⟨J, L, R, rfl, ?_⟩))
  have bn := ml_nm mJ
  exact mx_named1 bt.1 bt.2 I (fun K mK pK => h _ K bt.1 bt.2 mK pK) 50 J 0 mJ pJ (by decide) (by rw [kl_0]; omega)
theorem mx_known3 {S : sm_C} {d : Nat} {Φ : sm_Z → Prop} {I : sm_I} {L : sm_L} {R : sm_R} {x1 x2 : Int32} (k0 : 0 ≤ x2.toInt) (k1 : x2.toInt ≤ 500) (hm : en_mem ml_tb mlX (xLay, I, L, R)) (hf : I 107 13 = 0) (h : ∀ (r : Int32) (J : sm_I), en_mem ml_tb mlX (xLay, J, L, R) → ml_pS ml_no I J → -1 ≤ r.toInt → r.toInt ≤ 9 → (x1.toInt = 0 → r.toInt ≤ 3) → (x1.toInt = 1 → r.toInt ≤ 5) → (r.toInt = -1 → ¬ J 107 15 = 0) → Φ (some (.int r), (xLay, J, L, kM R))) : ∀ (m : Nat) (x3 x4 : Int32), -1 ≤ x3.toInt → x3.toInt ≤ 9 → (x1.toInt = 0 → x3.toInt ≤ 3) → (x1.toInt = 1 → x3.toInt ≤ 5) → 0 ≤ x4.toInt → (I 107 20).toInt - x4.toInt ≤ m → sm_wp sm_P S (d + 1) 154 3 [.ref 107, .int x1, .int x2, .int x3, .int x4] [] (xLay, I, L, kM R) (0, 0) Φ := by
  have bn := ml_nm hm
  have done : ∀ x3 : Int32, -1 ≤ x3.toInt → x3.toInt ≤ 9 → (x1.toInt = 0 → x3.toInt ≤ 3) → (x1.toInt = 1 → x3.toInt ≤ 5) → ((x3 = (-1 : Int32) → sm_wp sm_P S d 213 0 [.ref 107, .int (4 : Int32), .int x2] [] (xLay, I, L, (kM R)) (0, 0) (fun z => ∃ (I1 : sm_I) (L2 : sm_L) (R3 : sm_R), z = (none, (xLay, I1, L2, (kM R3))) ∧ Φ (some (.int x3), (xLay, I1, L2, (kM R3))))) ∧ (¬ x3 = (-1 : Int32) → Φ (some (.int x3), (xLay, I, L, (kM R))))) := fun x3 a1 a2 a3 a4 => ⟨fun _ => mx_wrong (by decide) (by decide) k0 (by omega) hm (fun J mJ pJ wJ => ⟨J, L, R, rfl, h x3 J mJ pJ a1 a2 a3 a4 (fun _ => wJ hf)⟩), fun c => h x3 I hm ml_pS_rf a1 a2 a3 a4 (fun q => absurd q (ml_m1 c))⟩
  intro m
  induction m with
  | zero =>
    intro x3 x4 a1 a2 a3 a4 h0 hM
    refine u_X12_known_3 ⟨fun _ => done x3 a1 a2 a3 a4, fun a => ?_⟩
    have := kl_nle a
    omega
  | succ m ih =>
    intro x3 x4 a1 a2 a3 a4 h0 hM
    refine u_X12_known_3 ⟨fun _ => done x3 a1 a2 a3 a4, fun a => ?_⟩
    have a := kl_nle a
    have s := ml_in1 (x := x4) (by omega)
    have n4 := kl_nat h0
    have v : vp_in x4 50 := kl_in h0 (by omega)
    have same : sm_wp sm_P S (d + 1) 154 3 [.ref 107, .int x1, .int x2, .int x3, .int (x4 + 1)] [] (xLay, I, L, kM R) (0, 0) Φ := ih x3 _ a1 a2 a3 a4 (by omega) (by omega)
    refine ⟨fun _ => ⟨v, kl_in k0 (by omega), fun _ => ⟨v, fun e => ⟨v, ?_⟩, fun _ => same⟩, fun _ => same⟩, fun _ => same⟩
    have bw : 0 ≤ (I 117 x4.toNatClampNeg).toInt ∧ (I 117 x4.toNatClampNeg).toInt ≤ 9 := ml_row hm (p := 117) (n := 50) (q := (0, 9)) (fun _ => rfl) _ (by omega)
    have N := hm.2.2.2.2.2.2.2.2.1 x4.toNatClampNeg (by omega)
    have N : ((I 116 x4.toNatClampNeg).toInt = 0 → (I 117 x4.toNatClampNeg).toInt ≤ 3) ∧ ((I 116 x4.toNatClampNeg).toInt = 1 → (I 117 x4.toNatClampNeg).toInt ≤ 5) := N
    rw [e] at N
    exact ih _ _ (by omega) bw.2 N.1 N.2 (by omega) (by omega)
theorem mx_known {S : sm_C} {d : Nat} {Φ : sm_Z → Prop} {I : sm_I} {L : sm_L} {R : sm_R} {x1 : Int32} (hm : en_mem ml_tb mlX (xLay, I, L, R)) (h : ∀ (r : Int32) (J : sm_I), en_mem ml_tb mlX (xLay, J, L, R) → ml_pS ml_no I J → -1 ≤ r.toInt → r.toInt ≤ 9 → (x1.toInt = 0 → r.toInt ≤ 3) → (x1.toInt = 1 → r.toInt ≤ 5) → (r.toInt = -1 → ¬ J 107 15 = 0) → Φ (some (.int r), (xLay, J, L, kM R))) : sm_wp sm_P S (d + 3) 154 0 [.ref 107, .int x1] [] (xLay, I, L, kM R) (0, 0) Φ := by
  have bt : 0 ≤ (I 107 11).toInt ∧ (I 107 11).toInt ≤ 500 := ml_t hm
  have z : (0 : Int32).toInt = 0 := kl_0
  refine u_X12_known_0 (mx_must hm (fun J mJ pJ => ⟨J, L, R, rfl, fun a => ?_, fun _ => h _ J mJ pJ (by decide) (by decide) (fun _ => by decide) (fun _ => by decide) (fun c => absurd c (by decide))⟩))
  have bn := ml_nm mJ
  exact mx_known3 bt.1 bt.2 mJ (ml_f0 mJ a) (fun r K mK pK b1 b2 b3 b4 b5 => h r K mK (ml_pS_tr pJ pK) b1 b2 b3 b4 b5) 50 _ 0 (by decide) (by decide) (fun _ => by decide) (fun _ => by decide) (by decide) (by rw [kl_0]; omega)
theorem mx_number7 {S : sm_C} {d : Nat} {Φ : sm_Z → Prop} {I : sm_I} {L : sm_L} {R : sm_R} {x2 : Int32} (hm : en_mem ml_tb mlX (xLay, I, L, R)) (h : ∀ (r : Int32) (J : sm_I), en_mem ml_tb mlX (xLay, J, L, R) → ml_pS ml_no I J → Φ (some (.int r), (xLay, J, L, kM R))) : sm_wp sm_P S (d + 3) 169 7 [.ref 107, .int x2] [] (xLay, I, L, kM R) (0, 0) Φ := by
  have bt : 0 ≤ (I 107 11).toInt ∧ (I 107 11).toInt ≤ 500 := ml_t hm
  have go : ∀ s0 : Int32, sm_wp sm_P S (d + 3) 169 10 [.ref 107, .int x2, .int (I 107 11)] [.int s0] (xLay, I, L, kM R) (0, 0) Φ := fun s0 => u_X12_number_10 (mx_must hm (fun J mJ pJ => ⟨J, L, R, rfl, fun _ => ⟨fun _ => u_X12_number_13 (h _ J mJ pJ), fun _ => mx_wrong (by decide) (by decide) bt.1 (by omega) mJ (fun K mK pK _ => ⟨K, L, R, rfl, u_X12_number_13 (h _ K mK (ml_pS_tr pJ pK))⟩)⟩, fun _ => u_X12_number_13 (h _ J mJ pJ)⟩))
  exact u_X12_number_7 (mx_is hm (fun r _ _ => ⟨r, I, L, R, rfl, fun _ => go _, fun _ => ⟨ml_vt hm, go _⟩⟩))
theorem mx_number {S : sm_C} {d : Nat} {Φ : sm_Z → Prop} {I : sm_I} {L : sm_L} {R : sm_R} {x1 : Int32} (hm : en_mem ml_tb mlX (xLay, I, L, R)) (h : ∀ (r : Int32) (J : sm_I), en_mem ml_tb mlX (xLay, J, L, R) → ml_pS ml_no I J → Φ (some (.int r), (xLay, J, L, kM R))) : sm_wp sm_P S (d + 3) 169 0 [.ref 107, .int x1] [] (xLay, I, L, kM R) (0, 0) Φ := by
  have g : ∀ {x2 : Int32}, sm_wp sm_P S (d + 3) 169 7 [.ref 107, .int x2] [] (xLay, I, L, kM R) (0, 0) Φ := mx_number7 hm h
  have gJ : ∀ {x2 : Int32} (J : sm_I), en_mem ml_tb mlX (xLay, J, L, R) → ml_pS ml_no I J → sm_wp sm_P S (d + 3) 169 7 [.ref 107, .int x2] [] (xLay, J, L, kM R) (0, 0) Φ := fun J mJ pJ => mx_number7 mJ (fun r K mK pK => h r K mK (ml_pS_tr pJ pK))
  refine u_X12_number_0 ⟨fun _ => ⟨fun _ => g, fun _ => mx_is hm (fun r _ _ => ⟨r, I, L, R, rfl, fun _ => g, fun _ => mx_goesOn hm (fun J mJ pJ _ => ⟨J, L, R, rfl, gJ J mJ pJ⟩)⟩)⟩, fun _ => mx_is hm (fun r _ _ => ⟨r, I, L, R, rfl, fun _ => ⟨fun _ => g, fun _ => mx_is hm (fun r _ _ => ⟨r, I, L, R, rfl, fun _ => g, fun _ => mx_goesOn hm (fun J mJ pJ _ => ⟨J, L, R, rfl, gJ J mJ pJ⟩)⟩)⟩, fun _ => ⟨fun _ => g, fun _ => mx_is hm (fun r _ _ => ⟨r, I, L, R, rfl, fun _ => g, fun _ => mx_goesOn hm (fun J mJ pJ _ => ⟨J, L, R, rfl, gJ J mJ pJ⟩)⟩)⟩⟩)⟩
/-- a name is known from now on -/
def ml_kn (n : Nat) (p j : Nat) : Prop := (p = 107 ∧ j = 20) ∨ ((p = 116 ∨ p = 117) ∧ j = n)
theorem mx_knows {S : sm_C} {d : Nat} {Φ : sm_Z → Prop} {I : sm_I} {L : sm_L} {R : sm_R} {x1 x2 x3 : Int32} (k0 : 0 ≤ x1.toInt) (k1 : x1.toInt ≤ 500) (b2 : 0 ≤ x2.toInt ∧ x2.toInt ≤ 4) (b3 : 0 ≤ x3.toInt ∧ x3.toInt ≤ 9) (c0 : x2.toInt = 0 → x3.toInt ≤ 3) (c1 : x2.toInt = 1 → x3.toInt ≤ 5) (hn : (I 107 20).toInt ≤ 49) (hm : en_mem ml_tb mlX (xLay, I, L, R)) (h : ∀ (J : sm_I) (L' : sm_L), en_mem ml_tb mlX (xLay, J, L', R) → ml_pS (ml_kn (I 107 20).toNatClampNeg) I J → (J 107 20).toInt = (I 107 20).toInt + 1 → Φ (none, (xLay, J, L', kM R))) : sm_wp sm_P S d 155 0 [.ref 107, .int x1, .int x2, .int x3] [] (xLay, I, L, kM R) (0, 0) Φ := by
  have bn := ml_nm hm
  have nn := kl_nat bn.1
  have v : vp_in (I 107 20) 50 := kl_in bn.1 (by omega)
  refine u_X12_knows_0 ⟨kl_in k0 (by omega), v, fun L1 eL => ⟨v, fun I2 e2 => ?_⟩⟩
  have g2 : I2 107 20 = I 107 20 := by rw [e2, en_up_ne _ _ _ _ (by omega)]
  refine ⟨by rw [g2]; exact v, fun I3 e3 I4 e4 => ?_⟩
  rw [g2] at e3
  have g3 : I3 107 20 = I 107 20 := by rw [e3, en_up_ne _ _ _ _ (by omega), g2]
  rw [g3] at e4
  have s := ml_in1 (x := I 107 20) (by omega)
  have o3 : ∀ p j, ¬ ((p = 116 ∨ p = 117) ∧ j = (I 107 20).toNatClampNeg) → I3 p j = I p j := fun p j hp => by rw [e3, en_up_ne _ _ _ _ (by omega), e2, en_up_ne _ _ _ _ (by omega)]
  have e116 : I3 116 (I 107 20).toNatClampNeg = x2 := by rw [e3, en_up_ne _ _ _ _ (by omega), e2, en_up_eq]
  have e117 : I3 117 (I 107 20).toNatClampNeg = x3 := by rw [e3, en_up_eq]
  have m3 : en_mem ml_tb mlX (xLay, I3, L, R) := by
    refine ⟨hm.1, fun a b q hq => ?_, hm.2.2.1, hm.2.2.2.1, ?_⟩
    · show q.1 ≤ (I3 a b).toInt ∧ (I3 a b).toInt ≤ q.2
      by_cases c : (a = 116 ∨ a = 117) ∧ b = (I 107 20).toNatClampNeg
      · obtain ⟨c1 | c1, c2⟩ := c
        · subst c1; subst c2
          have e : en_int ml_tb 116 (I 107 20).toNatClampNeg = bif Nat.blt (I 107 20).toNatClampNeg 50 then some (0, 4) else none := rfl
          rw [e, show Nat.blt (I 107 20).toNatClampNeg 50 = true from Nat.ble_eq_true_of_le (by omega)] at hq
          rw [← Option.some.inj hq, e116]; exact b2
        · subst c1; subst c2
          have e : en_int ml_tb 117 (I 107 20).toNatClampNeg = bif Nat.blt (I 107 20).toNatClampNeg 50 then some (0, 9) else none := rfl
          rw [e, show Nat.blt (I 107 20).toNatClampNeg 50 = true from Nat.ble_eq_true_of_le (by omega)] at hq
          rw [← Option.some.inj hq, e117]; exact b3
      · rw [o3 a b c]; exact hm.2.1 a b q hq
    · have X := hm.2.2.2.2
      refine ⟨rfl, fun j hj => ?_, fun l hl => mlV_cg (I := I) (fun p hp j => o3 p j (by omega)) (X.2.2.1 l ?_), mlP_cg (fun j => o3 165 j (by omega)) X.2.2.2.1, fun j hj => ?_, X.2.2.2.2.2⟩
      · show (I3 148 j).toInt ≤ 54 ∨ 60 ≤ (I3 148 j).toInt
        rw [o3 148 j (by omega)]; exact X.2.1 j hj
      · have hl : (l : Int) = (I3 107 18).toInt := hl
        rw [o3 107 18 (by omega)] at hl; exact hl
      · show ((I3 116 j).toInt = 0 → (I3 117 j).toInt ≤ 3) ∧ ((I3 116 j).toInt = 1 → (I3 117 j).toInt ≤ 5)
        by_cases c : j = (I 107 20).toNatClampNeg
        · subst c; rw [e116, e117]; exact ⟨c0, c1⟩
        · rw [o3 116 j (by omega), o3 117 j (by omega)]; exact X.2.2.2.2.1 j hj
  have m4 : en_mem ml_tb mlX (xLay, I4, L, R) := by
    rw [e4]
    exact ml_wf m3 (by decide +kernel) (q := (0, 50)) (by decide +kernel) (by show 0 ≤ _ ∧ _ ≤ (50 : Int); omega)
  have m4' : en_mem ml_tb mlX (xLay, I4, L1, R) := ⟨m4.1, m4.2.1, m4.2.2.1, m4.2.2.2.1, m4.2.2.2.2.1, m4.2.2.2.2.2.1, m4.2.2.2.2.2.2.1, m4.2.2.2.2.2.2.2.1, m4.2.2.2.2.2.2.2.2.1, pk_cg (L := L) (L' := L1) (fun j => by rw [eL]; exact en_up_ne _ _ _ _ (by omega)) m4.2.2.2.2.2.2.2.2.2⟩
  refine h I4 L1 m4' ⟨fun p j hp _ => ?_, ?_, ?_, ?_⟩ (by rw [e4, en_up_eq]; exact s)
  · unfold ml_kn at hp
    rw [e4, en_up_ne _ _ _ _ (by omega), o3 p j (by omega)]
  · rw [e4, en_up_ne _ _ _ _ (by omega), o3 107 15 (by omega)]; exact id
  · rw [e4, en_up_ne _ _ _ _ (by omega), o3 107 13 (by omega)]; exact id
  · rw [e4, en_up_ne _ _ _ _ (by omega), o3 107 11 (by omega)]; exact Int.le_refl _
end
section
/-! what is told: the half of the live side stays -/
def ml_hl (l p j : Nat) : Prop := ((p = 122 ∨ p = 125) ∧ j = l) ∨ ((p = 123 ∨ p = 124 ∨ p = 128) ∧ 10 * l ≤ j ∧ j < 10 * l + 10) ∨ (p = 129 ∧ 40 * l ≤ j ∧ j < 40 * l + 40) ∨ (p = 130 ∧ 120 * l ≤ j ∧ j < 120 * l + 120)
/-- the rest of what is told, on side l -/
def ml_hm (l p j : Nat) : Prop := ((p = 118 ∨ p = 119 ∨ p = 120 ∨ p = 134 ∨ p = 136) ∧ j = l) ∨ (p = 121 ∧ 36 * l ≤ j ∧ j < 36 * l + 36) ∨ ((p = 126 ∨ p = 127 ∨ p = 135) ∧ 10 * l ≤ j ∧ j < 10 * l + 10) ∨ ((p = 131 ∨ p = 132 ∨ p = 133) ∧ 120 * l ≤ j ∧ j < 120 * l + 120) ∨ ((p = 130 ∨ p = 131 ∨ p = 132 ∨ p = 133) ∧ ((240 + 4 * l ≤ j ∧ j < 244 + 4 * l) ∨ (248 + 6 * l ≤ j ∧ j < 254 + 6 * l)))
def ml_Dl (l p j : Nat) : Prop := (p = 107 ∧ j = 20) ∨ (116 ≤ p ∧ p ≤ 136 ∧ ¬ ml_hl l p j ∧ ¬ ml_hm l p j)
theorem mlV_dom {I J : sm_I} {l : Nat} (h122 : J 122 l = I 122 l) (h125 : J 125 l = I 125 l) (h123 : ∀ i : Nat, (i : Int) < (I 122 l).toInt → J 123 (10 * l + i) = I 123 (10 * l + i) ∧ J 124 (10 * l + i) = I 124 (10 * l + i)) (h128 : ∀ s : Nat, (s : Int) < (I 125 l).toInt → J 128 (10 * l + s) = I 128 (10 * l + s)) (h129 : ∀ s c : Nat, (s : Int) < (I 125 l).toInt → (c : Int) < (I 128 (10 * l + s)).toInt → J 129 (4 * (10 * l + s) + c) = I 129 (4 * (10 * l + s) + c)) (h130 : ∀ s c i : Nat, (s : Int) < (I 125 l).toInt → (c : Int) < (I 128 (10 * l + s)).toInt → (i : Int) < (I 129 (4 * (10 * l + s) + c)).toInt → J 130 (3 * (4 * (10 * l + s) + c) + i) = I 130 (3 * (4 * (10 * l + s) + c) + i)) (hV : mlV I l) : mlV J l := by
  refine ⟨fun i a b => ?_, fun s c i a b e => ?_⟩
  · rw [h122] at a
    rw [(h123 i a).1] at b
    rw [(h123 i a).2]
    exact hV.1 i a b
  · rw [h125] at a
    rw [h128 s a] at b
    rw [h129 s c a b] at e
    rw [h130 s c i a b e]
    exact hV.2 s c i a b e
theorem mlV_hl {I J : sm_I} {L : sm_L} {R : sm_R} {l : Nat} (hl : l ≤ 1) (hm : en_mem ml_tb mlX (xLay, I, L, R)) (h : ∀ p j, ml_hl l p j → J p j = I p j) (hV : mlV I l) : mlV J l := by
  have b122 : 0 ≤ (I 122 l).toInt ∧ (I 122 l).toInt ≤ 10 := ml_row hm (p := 122) (n := 2) (q := (0, 10)) (fun _ => rfl) _ (by omega)
  have b125 : 0 ≤ (I 125 l).toInt ∧ (I 125 l).toInt ≤ 10 := ml_row hm (p := 125) (n := 2) (q := (0, 10)) (fun _ => rfl) _ (by omega)
  have b128 : ∀ s : Nat, (s : Int) < (I 125 l).toInt → 0 ≤ (I 128 (10 * l + s)).toInt ∧ (I 128 (10 * l + s)).toInt ≤ 4 := fun s hs => ml_row hm (p := 128) (n := 20) (q := (0, 4)) (fun _ => rfl) _ (by omega)
  have b129 : ∀ s c : Nat, (s : Int) < (I 125 l).toInt → (c : Int) < (I 128 (10 * l + s)).toInt → 0 ≤ (I 129 (4 * (10 * l + s) + c)).toInt ∧ (I 129 (4 * (10 * l + s) + c)).toInt ≤ 3 := fun s c hs hc => ml_row hm (p := 129) (n := 80) (q := (0, 3)) (fun _ => rfl) _ (by have := b128 s hs; omega)
  refine mlV_dom (h 122 l (Or.inl ⟨Or.inl rfl, rfl⟩)) (h 125 l (Or.inl ⟨Or.inr rfl, rfl⟩)) (fun i hi => ⟨h 123 _ (Or.inr (Or.inl ⟨Or.inl rfl, by omega⟩)), h 124 _ (Or.inr (Or.inl ⟨Or.inr (Or.inl rfl), by omega⟩))⟩) (fun s hs => h 128 _ (Or.inr (Or.inl ⟨Or.inr (Or.inr rfl), by omega⟩))) (fun s c hs hc => h 129 _ (Or.inr (Or.inr (Or.inl ⟨rfl, by have := b128 s hs; omega⟩)))) (fun s c i hs hc hi => h 130 _ (Or.inr (Or.inr (Or.inr ⟨rfl, by have := b128 s hs; have := b129 s c hs hc; omega⟩)))) hV
theorem ml_wt {I : sm_I} {L : sm_L} {R : sm_R} {l p j : Nat} {x : Int32} (hl : l ≤ 1) (hv : (I 107 18).toInt = l) (hD : 116 ≤ p ∧ p ≤ 136 ∧ ¬ ml_hl l p j) (hp : p ≠ 116 ∧ p ≠ 117) (hm : en_mem ml_tb mlX (xLay, I, L, R)) (hq : ∀ q, en_int ml_tb p j = some q → q.1 ≤ x.toInt ∧ x.toInt ≤ q.2) : en_mem ml_tb mlX (xLay, sm_up I p j x, L, R) := by
  refine ml_wr hm ?_ hq
  have X := hm.2.2.2.2
  refine ⟨rfl, fun k hk => ?_, fun k hk => ?_, mlP_cg (fun k => en_up_ne _ _ _ _ (by omega)) X.2.2.2.1, mlN_cg (fun k => en_up_ne _ _ _ _ (by omega)) (fun k => en_up_ne _ _ _ _ (by omega)) X.2.2.2.2.1, X.2.2.2.2.2⟩
  · show ((sm_up I p j x) 148 k).toInt ≤ 54 ∨ 60 ≤ ((sm_up I p j x) 148 k).toInt
    rw [en_up_ne _ _ _ _ (by omega)]; exact X.2.1 k hk
  · have hk : (k : Int) = ((sm_up I p j x) 107 18).toInt := hk
    rw [en_up_ne _ _ _ _ (by omega), hv] at hk
    have hk : k = l := by omega
    subst hk
    exact mlV_hl hl hm (fun a b hab => en_up_ne _ _ _ _ (fun c => hD.2.2 (by rw [← c.1, ← c.2]; exact hab))) (X.2.2.1 k hv.symm)
theorem ml_rq {p j n : Nat} {x : Int32} {q : Int × Int} (e : en_int ml_tb p j = bif Nat.blt j n then some q else none) (hx : q.1 ≤ x.toInt ∧ x.toInt ≤ q.2) : ∀ r, en_int ml_tb p j = some r → r.1 ≤ x.toInt ∧ x.toInt ≤ r.2 := by
  intro r hr
  rw [e] at hr
  cases c : Nat.blt j n with
  | true => rw [c] at hr; rw [← Option.some.inj hr]; exact hx
  | false => rw [c] at hr; cases hr
def ml_sum (I : sm_I) (s : Nat) : Int := (I 118 s).toInt + (I 119 s).toInt + (I 122 s).toInt + (I 125 s).toInt + (I 136 s).toInt
/-- what is told so far of side s, while l is live -/
def ml_TI (l s : Nat) (I : sm_I) : Prop := (I 107 18).toInt = l ∧ (I 107 19).toInt = s ∧ (I 107 20).toInt ≤ ml_sum I s ∧ (I 107 15 = 0 → mlV I s)
def ml_ls (l s : Nat) : Prop := (l = 0 ∧ s = 1) ∨ (l = 1 ∧ s = 0)
/-- what neither counts names nor tells hours or spans of sayings -/
def ml_D0 (l p j : Nat) : Prop := (p = 120 ∨ p = 121 ∨ p = 126 ∨ p = 127 ∨ p = 131 ∨ p = 132 ∨ p = 133 ∨ p = 134 ∨ p = 135 ∨ (p = 130 ∧ 240 ≤ j)) ∧ ¬ ml_hm l p j
theorem ml_TI_0 {l s : Nat} {I J : sm_I} {L : sm_L} {R : sm_R} (hls : ml_ls l s) (hm : en_mem ml_tb mlX (xLay, I, L, R)) (h : ml_pS (ml_D0 l) I J) (hT : ml_TI l s I) : ml_TI l s J := by
  have hs : s ≤ 1 := by unfold ml_ls at hls; omega
  have o : ∀ p j, ¬ ml_D0 l p j → ¬ (p = 107 ∧ (j = 11 ∨ j = 13 ∨ j = 14 ∨ j = 15 ∨ j = 16)) → J p j = I p j := h.1
  unfold ml_D0 ml_hm at o
  refine ⟨?_, ?_, ?_, fun c => ?_⟩
  · rw [o 107 18 (by omega) (by omega)]; exact hT.1
  · rw [o 107 19 (by omega) (by omega)]; exact hT.2.1
  · unfold ml_sum
    rw [o 107 20 (by omega) (by omega), o 118 s (by omega) (by omega), o 119 s (by omega) (by omega), o 122 s (by omega) (by omega), o 125 s (by omega) (by omega), o 136 s (by omega) (by omega)]
    exact hT.2.2.1
  · have c' : I 107 15 = 0 := by
      by_cases c2 : I 107 15 = 0
      · exact c2
      · exact absurd c (h.2.1 c2)
    refine mlV_hl hs hm (fun p j hp => o p j ?_ ?_) (hT.2.2.2 c')
    · unfold ml_hl at hp; omega
    · unfold ml_hl at hp; omega
theorem ml_TI_no {l s : Nat} {I J : sm_I} {L : sm_L} {R : sm_R} (hls : ml_ls l s) (hm : en_mem ml_tb mlX (xLay, I, L, R)) (h : ml_pS ml_no I J) (hT : ml_TI l s I) : ml_TI l s J := ml_TI_0 hls hm (ml_pS_no h) hT
/-- one step on, or a FAULT -/
def ml_pg (I J : sm_I) : Prop := ¬ J 107 13 = 0 ∨ (I 107 11).toInt + 1 ≤ (J 107 11).toInt
theorem ml_pg_tr {D : Nat → Nat → Prop} {I J K : sm_I} (g : ml_pg I J) (h : ml_pS D J K) : ml_pg I K := by
  rcases g with g | g
  · exact Or.inl (h.2.2.1 g)
  · exact Or.inr (by have := h.2.2.2; omega)
theorem ml_pg_lt {D : Nat → Nat → Prop} {I J K : sm_I} (h : ml_pS D I J) (g : ml_pg J K) : ml_pg I K := by
  rcases g with g | g
  · exact Or.inl g
  · exact Or.inr (by have := h.2.2.2; omega)
/-- behind what is told -/
def ml_ok (l s : Nat) (R : sm_R) (I J : sm_I) (L : sm_L) : Prop := en_mem ml_tb mlX (xLay, J, L, R) ∧ ml_pS (ml_Dl l) I J ∧ ml_TI l s J ∧ ml_pg I J
theorem ml_sn {l s : Nat} {I : sm_I} (hls : ml_ls l s) (hT : ml_TI l s I) : (I 107 19).toNatClampNeg = s ∧ vp_in (I 107 19) 2 := by
  have h := hT.2.1
  unfold ml_ls at hls
  have n := kl_nat (i := I 107 19) (by omega)
  exact ⟨by omega, kl_in (by omega) (by omega)⟩
theorem ml_cs {I : sm_I} {L : sm_L} {R : sm_R} {s : Nat} (hs : s ≤ 1) (hm : en_mem ml_tb mlX (xLay, I, L, R)) : (0 ≤ (I 118 s).toInt ∧ (I 118 s).toInt ≤ 4) ∧ (0 ≤ (I 119 s).toInt ∧ (I 119 s).toInt ≤ 6) ∧ (0 ≤ (I 122 s).toInt ∧ (I 122 s).toInt ≤ 10) ∧ (0 ≤ (I 125 s).toInt ∧ (I 125 s).toInt ≤ 10) ∧ (0 ≤ (I 136 s).toInt ∧ (I 136 s).toInt ≤ 5) := ⟨ml_row hm (p := 118) (n := 2) (q := (0, 4)) (fun _ => rfl) _ (by omega), ml_row hm (p := 119) (n := 2) (q := (0, 6)) (fun _ => rfl) _ (by omega), ml_row hm (p := 122) (n := 2) (q := (0, 10)) (fun _ => rfl) _ (by omega), ml_row hm (p := 125) (n := 2) (q := (0, 10)) (fun _ => rfl) _ (by omega), ml_row hm (p := 136) (n := 2) (q := (0, 5)) (fun _ => rfl) _ (by omega)⟩
theorem ml_nm49 {I : sm_I} {L : sm_L} {R : sm_R} {l s : Nat} (hls : ml_ls l s) (hT : ml_TI l s I) (hm : en_mem ml_tb mlX (xLay, I, L, R)) : (I 107 20).toInt ≤ 49 := by
  have hs : s ≤ 1 := by unfold ml_ls at hls; omega
  have b := ml_cs hs hm
  have h := hT.2.2.1
  unfold ml_sum at h
  omega
/-- one more is told, and its name known -/
theorem ml_done {l s p : Nat} {I J3 K J : sm_I} {L L' : sm_L} {R : sm_R} {n : Int32} {mx : Int} (hls : ml_ls l s) (m3 : en_mem ml_tb mlX (xLay, J3, L, R)) (T3 : ml_TI l s J3) (p3 : ml_pS (ml_Dl l) I J3) (g3 : ml_pg I J3) (mK : en_mem ml_tb mlX (xLay, K, L', R)) (pK : ml_pS (ml_kn (J3 107 20).toNatClampNeg) J3 K) (nK : (K 107 20).toInt = (J3 107 20).toInt + 1) (hp : p = 118 ∨ p = 119 ∨ p = 122 ∨ p = 125 ∨ p = 136) (en : en_int ml_tb p s = some (0, mx)) (hn : n = K p s + 1) (h0 : 0 ≤ (J3 p s).toInt) (hb : (J3 p s).toInt + 1 ≤ mx) (hmx : mx ≤ 10) (e : J = sm_up K p s n) (hV : J 107 15 = 0 → mlV J s) : ml_ok l s R I J L' := by
  have oK : ∀ a b, ¬ ml_kn (J3 107 20).toNatClampNeg a b → ¬ (a = 107 ∧ (b = 11 ∨ b = 13 ∨ b = 14 ∨ b = 15 ∨ b = 16)) → K a b = J3 a b := pK.1
  unfold ml_kn at oK
  unfold ml_ls at hls
  have sK : K p s = J3 p s := oK p s (by omega) (by omega)
  have nn : n.toInt = (J3 p s).toInt + 1 := by rw [hn, sK]; exact ml_in1 (by omega)
  have hD : 116 ≤ p ∧ p ≤ 136 ∧ ¬ ml_hl l p s := by
    refine ⟨by omega, by omega, fun c => ?_⟩
    unfold ml_hl at c
    omega
  have pJ : ml_pS (ml_Dl l) J3 J := by
    refine ml_pS_tr (J := K) (ml_pS_mo pK (fun a b c => ?_)) (by rw [e]; exact ml_pS_up (Or.inr ⟨hD.1, hD.2.1, hD.2.2, fun c => by unfold ml_hm at c; omega⟩) (by omega))
    unfold ml_kn at c
    unfold ml_Dl ml_hl ml_hm
    omega
  refine ⟨?_, ml_pS_tr p3 pJ, ⟨?_, ?_, ?_, hV⟩, ml_pg_tr g3 pJ⟩
  · rw [e]
    refine ml_wt (l := l) (by omega) (by rw [oK 107 18 (by omega) (by omega)]; exact T3.1) hD (by omega) mK (fun q hq => ?_)
    rw [en] at hq
    rw [← Option.some.inj hq]
    show 0 ≤ n.toInt ∧ n.toInt ≤ mx
    omega
  · rw [e, en_up_ne _ _ _ _ (by omega), oK 107 18 (by omega) (by omega)]; exact T3.1
  · rw [e, en_up_ne _ _ _ _ (by omega), oK 107 19 (by omega) (by omega)]; exact T3.2.1
  · have t := T3.2.2.1
    have f : ∀ a, (a = 118 ∨ a = 119 ∨ a = 122 ∨ a = 125 ∨ a = 136) → (J a s).toInt = (J3 a s).toInt + (if a = p then 1 else 0) := by
      intro a ha
      by_cases c : a = p
      · subst c; rw [e, en_up_eq, if_pos rfl]; exact nn
      · rw [e, en_up_ne _ _ _ _ (by omega), oK a s (by omega) (by omega), if_neg c]; omega
    unfold ml_sum at t ⊢
    rw [f 118 (by omega), f 119 (by omega), f 122 (by omega), f 125 (by omega), f 136 (by omega), e, en_up_ne _ _ _ _ (by omega), nK]
    rcases hp with c | c | c | c | c <;> subst c <;> simp <;> omega
theorem ml_V3 {l s p : Nat} {J3 K J : sm_I} {L : sm_L} {R : sm_R} {n : Int32} (hls : ml_ls l s) (m3 : en_mem ml_tb mlX (xLay, J3, L, R)) (T3 : ml_TI l s J3) (pK : ml_pS (ml_kn (J3 107 20).toNatClampNeg) J3 K) (hp : p = 118 ∨ p = 119 ∨ p = 136) (e : J = sm_up K p s n) (c : J 107 15 = 0) : mlV J s := by
  have oK : ∀ a b, ¬ ml_kn (J3 107 20).toNatClampNeg a b → ¬ (a = 107 ∧ (b = 11 ∨ b = 13 ∨ b = 14 ∨ b = 15 ∨ b = 16)) → K a b = J3 a b := pK.1
  unfold ml_kn at oK
  have hs : s ≤ 1 := by unfold ml_ls at hls; omega
  rw [e, en_up_ne _ _ _ _ (by omega)] at c
  have c' : J3 107 15 = 0 := by
    by_cases c2 : J3 107 15 = 0
    · exact c2
    · exact absurd c (pK.2.1 c2)
  refine mlV_hl hs m3 (fun a b hab => ?_) (T3.2.2.2 c')
  unfold ml_hl at hab
  rw [e, en_up_ne _ _ _ _ (by omega), oK a b (by omega) (by omega)]
theorem mx_tellName {S : sm_C} {d : Nat} {Φ : sm_Z → Prop} {I : sm_I} {L : sm_L} {R : sm_R} {x1 : Int32} {l s : Nat} (hls : ml_ls l s) (hm : en_mem ml_tb mlX (xLay, I, L, R)) (hT : ml_TI l s I) (hx : (x1 = 0 ∧ (I 118 s).toInt ≤ 3) ∨ (x1 = 1 ∧ (I 119 s).toInt ≤ 5)) (h : ∀ (J : sm_I) (L' : sm_L), ml_ok l s R I J L' → Φ (none, (xLay, J, L', kM R))) : sm_wp sm_P S (d + 4) 197 0 [.ref 107, .int x1] [] (xLay, I, L, kM R) (0, 0) Φ := by
  have hs : s ≤ 1 := by unfold ml_ls at hls; omega
  refine u_X12_tellName_0 (mx_goesOn hm (fun J1 m1 p1 g1 => ⟨J1, L, R, rfl, mx_named m1 (fun r J2 r0 r1 m2 p2 => ⟨r, J2, L, R, rfl, mx_must m2 (fun J3 m3 p3 => ⟨J3, L, R, rfl, fun a => ?_, fun _ => ?_⟩)⟩)⟩))
  all_goals
    have pI : ml_pS ml_no I J3 := ml_pS_tr p1 (ml_pS_tr p2 p3)
    have T3 : ml_TI l s J3 := ml_TI_no hls hm pI hT
    have g3 : ml_pg I J3 := ml_pg_tr g1 (ml_pS_tr p2 p3)
  · obtain ⟨sn, sv⟩ := ml_sn hls T3
    have b3 := ml_cs hs m3
    have e118 : J3 118 s = I 118 s := ml_pS_g pI (by omega)
    have e119 : J3 119 s = I 119 s := ml_pS_g pI (by omega)
    have t0 : (0 : Int32).toInt = 0 := by decide
    have t1 : (1 : Int32).toInt = 1 := by decide
    rcases hx with ⟨ex, hx⟩ | ⟨ex, hx⟩
    · subst ex
      refine ⟨fun _ => ⟨sv, fun n24 e24 => ?_⟩, fun c => absurd rfl c⟩
      rw [sn] at e24
      refine mx_knows r0 r1 (by decide) (by rw [e24]; omega) (fun _ => by rw [e24, e118]; omega) (fun c => absurd c (by decide)) (ml_nm49 hls T3 m3) m3 (fun K L' mK pK nK => ⟨K, L', R, rfl, fun _ => ?_, fun c => absurd rfl c⟩)
      have k19 : K 107 19 = J3 107 19 := pK.1 107 19 (by unfold ml_kn; omega) (by omega)
      rw [k19]
      refine ⟨sv, fun n31 e31 => ⟨sv, fun J e => h J L' ?_⟩⟩
      rw [sn] at e31 e
      exact ml_done hls m3 T3 (ml_pS_no pI) g3 mK pK nK (Or.inl rfl) (mx := 4) (by unfold ml_ls at hls; rcases hls with ⟨-, c⟩ | ⟨-, c⟩ <;> subst c <;> rfl) e31 b3.1.1 (by rw [e118]; omega) (by omega) e (ml_V3 hls m3 T3 pK (Or.inl rfl) e)
    · subst ex
      refine ⟨fun c => absurd c (by decide), fun _ => ⟨sv, fun n24 e24 => ?_⟩⟩
      rw [sn] at e24
      refine mx_knows r0 r1 (by decide) (by rw [e24]; omega) (fun c => absurd c (by decide)) (fun _ => by rw [e24, e119]; omega) (ml_nm49 hls T3 m3) m3 (fun K L' mK pK nK => ⟨K, L', R, rfl, fun c => absurd c (by decide), fun _ => ?_⟩)
      have k19 : K 107 19 = J3 107 19 := pK.1 107 19 (by unfold ml_kn; omega) (by omega)
      rw [k19]
      refine ⟨sv, fun n31 e31 => ⟨sv, fun J e => h J L' ?_⟩⟩
      rw [sn] at e31 e
      exact ml_done hls m3 T3 (ml_pS_no pI) g3 mK pK nK (Or.inr (Or.inl rfl)) (mx := 6) (by unfold ml_ls at hls; rcases hls with ⟨-, c⟩ | ⟨-, c⟩ <;> subst c <;> rfl) e31 b3.2.1.1 (by rw [e119]; omega) (by omega) e (ml_V3 hls m3 T3 pK (Or.inr (Or.inl rfl)) e)
  · exact h J3 L ⟨m3, ml_pS_no pI, T3, g3⟩
end
section
/-! ways and TIMES -/
theorem ml_Dl0 {l p j : Nat} (hl : l ≤ 1) (h : ml_D0 l p j) : ml_Dl l p j := by
  unfold ml_D0 ml_hm at h
  unfold ml_Dl ml_hl ml_hm
  omega
theorem ml_w0 {I : sm_I} {L : sm_L} {R : sm_R} {l p j n : Nat} {x : Int32} {q : Int × Int} (hl : l ≤ 1) (hv : (I 107 18).toInt = l) (hD : ml_D0 l p j) (hm : en_mem ml_tb mlX (xLay, I, L, R)) (e : en_int ml_tb p j = bif Nat.blt j n then some q else none) (hx : q.1 ≤ x.toInt ∧ x.toInt ≤ q.2) : en_mem ml_tb mlX (xLay, sm_up I p j x, L, R) ∧ ml_pS (ml_D0 l) I (sm_up I p j x) := by
  have hE := hD
  unfold ml_D0 at hE
  exact ⟨ml_wt (l := l) hl hv (by unfold ml_hl; omega) (by omega) hm (ml_rq e hx), ml_pS_up hD (by omega)⟩
theorem ml_l1 {l s : Nat} (hls : ml_ls l s) : l ≤ 1 ∧ s ≤ 1 := by unfold ml_ls at hls; omega
theorem ml_D0l {l : Nat} {I J : sm_I} (hl : l ≤ 1) (h : ml_pS (ml_D0 l) I J) : ml_pS (ml_Dl l) I J := ml_pS_mo h (fun _ _ c => ml_Dl0 hl c)
/-- the one way, and back -/
theorem ml_wy {I J K : sm_I} {L : sm_L} {R : sm_R} {l : Nat} {a b v : Int32} (ha : a.toNatClampNeg < 36 * l ∨ 36 * l + 36 ≤ a.toNatClampNeg) (hb : b.toNatClampNeg < 36 * l ∨ 36 * l + 36 ≤ b.toNatClampNeg) (hl : l ≤ 1) (hv : (I 107 18).toInt = l) (hm : en_mem ml_tb mlX (xLay, I, L, R)) (e1 : J = sm_up I 121 a.toNatClampNeg v) (e2 : K = sm_up J 121 b.toNatClampNeg v) : en_mem ml_tb mlX (xLay, K, L, R) ∧ ml_pS (ml_D0 l) I K := by
  have h1 := ml_w0 (L := L) (R := R) (l := l) (p := 121) (j := a.toNatClampNeg) (x := v) (n := 72) (q := (-2147483648, 2147483647)) hl hv (by unfold ml_D0 ml_hm; omega) hm rfl en_crange
  rw [← e1] at h1
  have h2 := ml_w0 (L := L) (R := R) (l := l) (p := 121) (j := b.toNatClampNeg) (x := v) (n := 72) (q := (-2147483648, 2147483647)) hl (by rw [e1, en_up_ne _ _ _ _ (by omega)]; exact hv) (by unfold ml_D0 ml_hm; omega) h1.1 rfl en_crange
  rw [← e2] at h2
  exact ⟨h2.1, ml_pS_tr h1.2 h2.2⟩
theorem mx_tellWay4 {S : sm_C} {d : Nat} {Φ : sm_Z → Prop} {I I0 : sm_I} {L : sm_L} {R : sm_R} {x1 x3 : Int32} {l s : Nat} (hls : ml_ls l s) (hm : en_mem ml_tb mlX (xLay, I, L, R)) (hT : ml_TI l s I) (p0 : ml_pS ml_no I0 I) (g0 : ml_pg I0 I) (hw : (I 120 s).toInt ≤ 11) (b1 : -1 ≤ x1.toInt ∧ x1.toInt ≤ 5) (b3 : -1 ≤ x3.toInt ∧ x3.toInt ≤ 5) (h : ∀ (J : sm_I) (L' : sm_L), ml_ok l s R I0 J L' → Φ (none, (xLay, J, L', kM R))) : sm_wp sm_P S (d + 4) 203 4 [.ref 107, .int x1, .int x3] [] (xLay, I, L, kM R) (0, 0) Φ := by
  obtain ⟨hl, hs⟩ := ml_l1 hls
  refine u_X12_tellWay_4 (mx_number hm (fun r J1 m1 p1 => ⟨r, J1, L, R, rfl, mx_must m1 (fun J3 m3 p3 => ⟨J3, L, R, rfl, fun a => ?_, fun _ => ?_⟩)⟩))
  all_goals
    have pI : ml_pS ml_no I J3 := ml_pS_tr p1 p3
    have T3 : ml_TI l s J3 := ml_TI_no hls hm pI hT
    have g3 : ml_pg I0 J3 := ml_pg_tr g0 pI
  · obtain ⟨sn, sv⟩ := ml_sn hls T3
    have e120 : J3 120 s = I 120 s := ml_pS_g pI (by omega)
    have b120 : 0 ≤ (J3 120 s).toInt ∧ (J3 120 s).toInt ≤ 12 := ml_row m3 (p := 120) (n := 2) (q := (0, 12)) (fun _ => rfl) _ (by omega)
    refine ⟨sv, fun n9 e9 => ⟨sv, fun J10 e10 => ?_⟩⟩
    rw [sn] at e9 e10
    have s9 : n9.toInt = (J3 120 s).toInt + 1 := by rw [e9]; exact ml_in1 (by omega)
    have w10 := ml_w0 (L := L) (R := R) (l := l) (p := 120) (j := s) (x := n9) (n := 2) (q := (0, 12)) hl T3.1 (by unfold ml_D0 ml_hm; unfold ml_ls at hls; omega) m3 rfl (by show 0 ≤ _ ∧ _ ≤ (12 : Int); rw [e120] at *; omega)
    rw [← e10] at w10
    have fin : ∀ J : sm_I, en_mem ml_tb mlX (xLay, J, L, R) → ml_pS (ml_D0 l) J3 J → Φ (none, (xLay, J, L, kM R)) := fun J mJ pJ => h J L ⟨mJ, ml_pS_tr (ml_pS_no (ml_pS_tr p0 pI)) (ml_D0l hl pJ), ml_TI_0 hls m3 pJ T3, ml_pg_tr g3 pJ⟩
    have f10 := fin J10 w10.1 w10.2
    refine ⟨fun _ => f10, fun c1 => ⟨fun _ => f10, fun c3 => ⟨fun _ => f10, fun _ n11 e11 => ?_⟩⟩⟩
    have c1 := ml_m1 c1
    have c3 := ml_m1 c3
    have k18 : (J10 107 18).toInt = l := (ml_TI_0 hls m3 w10.2 T3).1
    have k19 : (J10 107 19).toInt = s := (ml_TI_0 hls m3 w10.2 T3).2.1
    have idx : ∀ (y z n : Int32) (J : sm_I), (J 107 19).toInt = s → 0 ≤ y.toInt → y.toInt ≤ 5 → 0 ≤ z.toInt → z.toInt ≤ 5 → n = ((((36 : Int32) * (J 107 19)) + ((6 : Int32) * y)) + z) → vp_in n 72 ∧ (n.toNatClampNeg < 36 * l ∨ 36 * l + 36 ≤ n.toNatClampNeg) := by
      intro y z n J hJ y0 y1 z0 z1 en
      have q1 : ((36 : Int32) * (J 107 19)).toInt = 36 * (s : Int) := ml_mu (by decide) hJ (by omega) (by omega)
      have q2 : ((6 : Int32) * y).toInt = 6 * y.toInt := ml_mu (by decide) rfl (by omega) (by omega)
      have q3 : (((36 : Int32) * (J 107 19)) + ((6 : Int32) * y)).toInt = 36 * (s : Int) + 6 * y.toInt := ml_ad q1 q2 (by omega) (by omega)
      have q4 : n.toInt = 36 * (s : Int) + 6 * y.toInt + z.toInt := by rw [en]; exact ml_ad q3 rfl (by omega) (by omega)
      have nn := kl_nat (i := n) (by omega)
      exact ⟨kl_in (by omega) (by omega), by unfold ml_ls at hls; omega⟩
    obtain ⟨v11, u11⟩ := idx x1 x3 n11 J10 k19 (by omega) b1.2 (by omega) b3.2 e11
    have two : ∀ J12 : sm_I, J12 = sm_up J10 121 n11.toNatClampNeg r → ∀ n13 : Int32, n13 = ((((36 : Int32) * (J12 107 19)) + ((6 : Int32) * x3)) + x1) → (vp_in n13 72) ∧ ∀ J14 : sm_I, J14 = (sm_up J12 121 n13.toNatClampNeg r) → Φ (none, (xLay, J14, L, (kM R))) := by
      intro J12 e12 n13 e13
      obtain ⟨v13, u13⟩ := idx x3 x1 n13 J12 (by rw [e12, en_up_ne _ _ _ _ (by omega)]; exact k19) (by omega) b3.2 (by omega) b1.2 e13
      refine ⟨v13, fun J14 e14 => ?_⟩
      have w := ml_wy u11 u13 hl k18 w10.1 e12 e14
      exact fin J14 w.1 (ml_pS_tr w10.2 w.2)
    exact ⟨v11, fun _ => ⟨v11, two⟩, fun _ => ⟨v11, fun _ => ⟨v11, two⟩, fun _ => f10⟩⟩
  · exact h J3 L ⟨m3, ml_pS_no (ml_pS_tr p0 pI), T3, g3⟩
theorem mx_tellWay {S : sm_C} {d : Nat} {Φ : sm_Z → Prop} {I : sm_I} {L : sm_L} {R : sm_R} {l s : Nat} (hls : ml_ls l s) (hm : en_mem ml_tb mlX (xLay, I, L, R)) (hT : ml_TI l s I) (hw : (I 120 s).toInt ≤ 11) (h : ∀ (J : sm_I) (L' : sm_L), ml_ok l s R I J L' → Φ (none, (xLay, J, L', kM R))) : sm_wp sm_P S (d + 4) 203 0 [.ref 107] [] (xLay, I, L, kM R) (0, 0) Φ := by
  refine u_X12_tellWay_0 (mx_goesOn hm (fun J1 m1 p1 g1 => ⟨J1, L, R, rfl, mx_known m1 (fun r8 J2 m2 p2 a1 a2 a3 a4 a5 => ⟨r8, J2, L, R, rfl, mx_known m2 (fun r12 J3 m3 p3 c1 c2 c3 c4 c5 => ⟨r12, J3, L, R, rfl, ?_⟩)⟩)⟩))
  have bt : 0 ≤ (J2 107 11).toInt ∧ (J2 107 11).toInt ≤ 500 := ml_t m2
  have pI : ml_pS ml_no I J3 := ml_pS_tr p1 (ml_pS_tr p2 p3)
  have T3 : ml_TI l s J3 := ml_TI_no hls hm pI hT
  have g3 : ml_pg I J3 := ml_pg_tr g1 (ml_pS_tr p2 p3)
  have w3 : (J3 120 s).toInt ≤ 11 := by rw [ml_pS_g pI (by omega)]; exact hw
  have b8 : -1 ≤ r8.toInt ∧ r8.toInt ≤ 5 := ⟨a1, a4 (by decide)⟩
  have b12 : -1 ≤ r12.toInt ∧ r12.toInt ≤ 5 := ⟨c1, c4 (by decide)⟩
  have go : sm_wp sm_P S (d + 4) 203 4 [.ref 107, .int r8, .int r12] [] (xLay, J3, L, kM R) (0, 0) Φ := mx_tellWay4 hls m3 T3 pI g3 w3 b8 b12 h
  refine ⟨fun _ => ⟨fun _ => ⟨fun _ => go, fun _ => ?_⟩, fun _ => go⟩, fun _ => go⟩
  refine mx_wrong (by decide) (by decide) bt.1 (by omega) m3 (fun J4 m4 p4 _ => ⟨J4, L, R, rfl, ?_⟩)
  exact mx_tellWay4 hls m4 (ml_TI_no hls m3 p4 T3) (ml_pS_tr pI p4) (ml_pg_tr g3 p4) (by rw [ml_pS_g p4 (by omega)]; exact w3) b8 b12 h
/-- a TIME is told -/
theorem ml_time {S : sm_C} {d : Nat} {Φ : sm_Z → Prop} {I J3 : sm_I} {L : sm_L} {R : sm_R} {l s : Nat} {r8 n9 y z : Int32} (hls : ml_ls l s) (r0 : 0 ≤ r8.toInt) (r1 : r8.toInt ≤ 500) (m3 : en_mem ml_tb mlX (xLay, J3, L, R)) (T3 : ml_TI l s J3) (p3 : ml_pS ml_no I J3) (g3 : ml_pg I J3) (ht : (J3 122 s).toInt ≤ 9) (e9 : n9.toInt = 10 * (s : Int) + (J3 122 s).toInt) (by0 : -1 ≤ y.toInt ∧ y.toInt ≤ 3) (bz : -1 ≤ z.toInt ∧ z.toInt ≤ 5) (hyz : J3 107 15 = 0 → y.toInt ≠ -1 → 0 ≤ z.toInt) (h : ∀ (J : sm_I) (L' : sm_L), ml_ok l s R I J L' → Φ (none, (xLay, J, L', kM R))) : (vp_in n9 20) ∧ ∀ I18 : sm_I, I18 = (sm_up J3 123 n9.toNatClampNeg y) → (vp_in n9 20) ∧ ∀ I19 : sm_I, I19 = (sm_up I18 124 n9.toNatClampNeg z) → (vp_in (I19 107 19) 2) ∧ ∀ n20 : Int32, n20 = (I19 122 (I19 107 19).toNatClampNeg) → sm_wp sm_P S d 155 0 [.ref 107, .int r8, .int (2 : Int32), .int n20] [] (xLay, I19, L, (kM R)) (0, 0) (fun z => ∃ (I21 : sm_I) (L22 : sm_L) (R23 : sm_R), z = (none, (xLay, I21, L22, (kM R23))) ∧ (vp_in (I21 107 19) 2) ∧ ∀ n25 : Int32, n25 = ((I21 122 (I21 107 19).toNatClampNeg) + (1 : Int32)) → (vp_in (I21 107 19) 2) ∧ ∀ I26 : sm_I, I26 = (sm_up I21 122 (I21 107 19).toNatClampNeg n25) → Φ (none, (xLay, I26, L22, (kM R23)))) := by
  obtain ⟨hl, hs⟩ := ml_l1 hls
  have hls' := hls
  unfold ml_ls at hls'
  have b3 := ml_cs hs m3
  have n9n := kl_nat (i := n9) (by omega)
  have v9 : vp_in n9 20 := kl_in (by omega) (by omega)
  have d123 : 116 ≤ 123 ∧ 123 ≤ 136 ∧ ¬ ml_hl l 123 n9.toNatClampNeg := ⟨by decide, by decide, by unfold ml_hl; omega⟩
  have d124 : 116 ≤ 124 ∧ 124 ≤ 136 ∧ ¬ ml_hl l 124 n9.toNatClampNeg := ⟨by decide, by decide, by unfold ml_hl; omega⟩
  refine ⟨v9, fun I18 e18 => ⟨v9, fun I19 e19 => ?_⟩⟩
  have m18 : en_mem ml_tb mlX (xLay, I18, L, R) := by
    rw [e18]
    exact ml_wt hl T3.1 d123 (by decide) m3 (ml_rq (n := 20) (q := (-1, 3)) rfl by0)
  have m19 : en_mem ml_tb mlX (xLay, I19, L, R) := by
    rw [e19]
    exact ml_wt hl (by rw [e18, en_up_ne _ _ _ _ (by omega)]; exact T3.1) d124 (by decide) m18 (ml_rq (n := 20) (q := (-1, 5)) rfl bz)
  have o19 : ∀ p j, ¬ ((p = 123 ∨ p = 124) ∧ j = n9.toNatClampNeg) → I19 p j = J3 p j := fun p j hp => by rw [e19, en_up_ne _ _ _ _ (by omega), e18, en_up_ne _ _ _ _ (by omega)]
  have p19 : ml_pS (ml_Dl l) J3 I19 := by
    have q1 : ml_pS (ml_Dl l) J3 I18 := by rw [e18]; exact ml_pS_up (Or.inr ⟨d123.1, d123.2.1, d123.2.2, fun c => by unfold ml_hm at c; omega⟩) (by omega)
    have q2 : ml_pS (ml_Dl l) I18 I19 := by rw [e19]; exact ml_pS_up (Or.inr ⟨d124.1, d124.2.1, d124.2.2, fun c => by unfold ml_hm at c; omega⟩) (by omega)
    exact ml_pS_tr q1 q2
  have V19 : J3 107 15 = 0 → mlV I19 s := fun c => by
    refine mlV_dom (o19 122 s (by omega)) (o19 125 s (by omega)) (fun i hi => ⟨o19 _ _ (by omega), o19 _ _ (by omega)⟩) (fun k hk => o19 _ _ (by omega)) (fun k c hk hc => o19 _ _ (by omega)) (fun k c i hk hc hi => o19 _ _ (by omega)) (T3.2.2.2 c)
  have T19 : ml_TI l s I19 := by
    refine ⟨by rw [o19 _ _ (by omega)]; exact T3.1, by rw [o19 _ _ (by omega)]; exact T3.2.1, ?_, fun c => V19 (by rw [o19 _ _ (by omega)] at c; exact c)⟩
    unfold ml_sum
    rw [o19 _ _ (by omega), o19 _ _ (by omega), o19 _ _ (by omega), o19 _ _ (by omega), o19 _ _ (by omega), o19 _ _ (by omega)]
    exact T3.2.2.1
  obtain ⟨sn, sv⟩ := ml_sn hls T19
  refine ⟨sv, fun n20 e20 => ?_⟩
  rw [sn, o19 _ _ (by omega)] at e20
  have t2 : (2 : Int32).toInt = 2 := by decide
  refine mx_knows r0 r1 (by decide) (by rw [e20]; omega) (fun c => absurd c (by decide)) (fun c => absurd c (by decide)) (ml_nm49 hls T19 m19) m19 (fun K L' mK pK nK => ⟨K, L', R, rfl, ?_⟩)
  have oK : ∀ a b, ¬ ml_kn (I19 107 20).toNatClampNeg a b → ¬ (a = 107 ∧ (b = 11 ∨ b = 13 ∨ b = 14 ∨ b = 15 ∨ b = 16)) → K a b = I19 a b := pK.1
  unfold ml_kn at oK
  rw [oK 107 19 (by omega) (by omega)]
  refine ⟨sv, fun n25 e25 => ⟨sv, fun J e => h J L' ?_⟩⟩
  rw [sn] at e25 e
  refine ml_done hls m19 T19 (ml_pS_tr (ml_pS_no p3) p19) (ml_pg_tr g3 p19) mK pK nK (Or.inr (Or.inr (Or.inl rfl))) (mx := 10) (by rcases hls' with ⟨-, c⟩ | ⟨-, c⟩ <;> subst c <;> rfl) e25 (by rw [o19 _ _ (by omega)]; omega) (by rw [o19 _ _ (by omega)]; omega) (by omega) e (fun c => ?_)
  have c0 : J3 107 15 = 0 := by
    rw [e, en_up_ne _ _ _ _ (by omega)] at c
    by_cases c2 : J3 107 15 = 0
    · exact c2
    · exact absurd c (pK.2.1 (by rw [o19 _ _ (by omega)]; exact c2))
  have W := T3.2.2.2 c0
  have oJ : ∀ p j, p = 123 ∨ p = 124 ∨ p = 125 ∨ p = 128 ∨ p = 129 ∨ p = 130 → J p j = I19 p j := fun p j hp => by rw [e, en_up_ne _ _ _ _ (by omega), oK p j (by omega) (by omega)]
  have nJ : (J 122 s).toInt = (J3 122 s).toInt + 1 := by
    rw [e, en_up_eq, e25, oK 122 s (by omega) (by omega), o19 122 s (by omega)]; exact ml_in1 (by omega)
  refine ⟨fun i hi hy => ?_, fun k q i hk hq hi => ?_⟩
  · rw [oJ 123 _ (by omega)] at hy
    rw [oJ 124 _ (by omega)]
    by_cases ci : 10 * s + i = n9.toNatClampNeg
    · have a1 : I19 124 (10 * s + i) = z := by rw [ci, e19, en_up_eq]
      have a2 : I19 123 (10 * s + i) = y := by rw [ci, e19, en_up_ne _ _ _ _ (by omega), e18, en_up_eq]
      rw [a2] at hy
      rw [a1]; exact hyz c0 hy
    · rw [o19 _ _ (by omega)] at hy
      rw [o19 _ _ (by omega)]
      exact W.1 i (by omega) hy
  · rw [oJ 125 _ (by omega), o19 _ _ (by omega)] at hk
    rw [oJ 128 _ (by omega), o19 _ _ (by omega)] at hq
    rw [oJ 129 _ (by omega), o19 _ _ (by omega)] at hi
    rw [oJ 130 _ (by omega), o19 _ _ (by omega)]
    exact W.2 k q i hk hq hi
theorem mx_tellTime {S : sm_C} {d : Nat} {Φ : sm_Z → Prop} {I : sm_I} {L : sm_L} {R : sm_R} {l s : Nat} (hls : ml_ls l s) (hm : en_mem ml_tb mlX (xLay, I, L, R)) (hT : ml_TI l s I) (ht : (I 122 s).toInt ≤ 9) (h : ∀ (J : sm_I) (L' : sm_L), ml_ok l s R I J L' → Φ (none, (xLay, J, L', kM R))) : sm_wp sm_P S (d + 4) 202 0 [.ref 107] [] (xLay, I, L, kM R) (0, 0) Φ := by
  obtain ⟨hl, hs⟩ := ml_l1 hls
  refine u_X12_tellTime_0 (mx_goesOn hm (fun J1 m1 p1 g1 => ⟨J1, L, R, rfl, mx_named m1 (fun r8 J2 r0 r1 m2 p2 => ⟨r8, J2, L, R, rfl, ?_⟩)⟩))
  have pI2 : ml_pS ml_no I J2 := ml_pS_tr p1 p2
  have T2 : ml_TI l s J2 := ml_TI_no hls hm pI2 hT
  have g2 : ml_pg I J2 := ml_pg_tr g1 p2
  obtain ⟨sn, sv⟩ := ml_sn hls T2
  have b2 := ml_cs hs m2
  refine ⟨sv, fun n9 e9 => ?_⟩
  rw [sn] at e9
  have q1 : ((10 : Int32) * (J2 107 19)).toInt = 10 * (s : Int) := ml_mu (by decide) T2.2.1 (by omega) (by omega)
  have q9 : n9.toInt = 10 * (s : Int) + (J2 122 s).toInt := by rw [e9]; exact ml_ad q1 rfl (by omega) (by omega)
  have t2 : (J2 122 s).toInt ≤ 9 := by rw [ml_pS_g pI2 (by omega)]; exact ht
  have tn : (-1 : Int32).toInt = -1 := by decide
  refine mx_is m2 (fun r13 _ _ => ⟨r13, J2, L, R, rfl, fun _ => ?_, fun _ => ?_⟩)
  · refine mx_must m2 (fun J3 m3 p3 => ⟨J3, L, R, rfl, fun _ => ?_, fun _ => ?_⟩)
    · exact ml_time hls r0 r1 m3 (ml_TI_no hls m2 p3 T2) (ml_pS_tr pI2 p3) (ml_pg_tr g2 p3) (by rw [ml_pS_g p3 (by omega)]; exact t2) (by rw [ml_pS_g p3 (by omega)]; exact q9) (by decide) (by decide) (fun _ c => absurd tn c) h
    · exact h J3 L ⟨m3, ml_pS_no (ml_pS_tr pI2 p3), ml_TI_no hls m2 p3 T2, ml_pg_tr g2 p3⟩
  · refine mx_goesOn m2 (fun J3 m3 p3 _ => ⟨J3, L, R, rfl, mx_known m3 (fun r37 J4 m4 p4 a1 a2 a3 a4 a5 => ⟨r37, J4, L, R, rfl, mx_must m4 (fun J5 m5 p5 => ⟨J5, L, R, rfl, mx_known m5 (fun r45 J6 m6 p6 c1 c2 c3 c4 c5 => ⟨r45, J6, L, R, rfl, mx_must m6 (fun J7 m7 p7 => ⟨J7, L, R, rfl, fun _ => ?_, fun _ => ?_⟩)⟩)⟩)⟩)⟩)
    all_goals have p27 : ml_pS ml_no J2 J7 := ml_pS_tr p3 (ml_pS_tr p4 (ml_pS_tr p5 (ml_pS_tr p6 p7)))
    · refine ml_time hls r0 r1 m7 (ml_TI_no hls m2 p27 T2) (ml_pS_tr pI2 p27) (ml_pg_tr g2 p27) (by rw [ml_pS_g p27 (by omega)]; exact t2) (by rw [ml_pS_g p27 (by omega)]; exact q9) ⟨a1, a3 (by decide)⟩ ⟨c1, c4 (by decide)⟩ (fun c _ => ?_) h
      by_cases cz : r45.toInt = -1
      · exact absurd c (p7.2.1 (c5 cz))
      · omega
    · exact h J7 L ⟨m7, ml_pS_no (ml_pS_tr pI2 p27), ml_TI_no hls m2 p27 T2, ml_pg_tr g2 p27⟩
end
section
/-! spans -/
def ml_sp (x p j : Nat) : Prop := 130 ≤ p ∧ p ≤ 133 ∧ j = x
theorem ml_w15 {D : Nat → Nat → Prop} {I J : sm_I} (h : ml_pS D I J) (c : J 107 15 = 0) : I 107 15 = 0 := by
  by_cases c2 : I 107 15 = 0
  · exact c2
  · exact absurd c (h.2.1 c2)
theorem mx_tellSpan {S : sm_C} {d : Nat} {Φ : sm_Z → Prop} {I : sm_I} {L : sm_L} {R : sm_R} {x1 : Int32} {l : Nat} (hl : l ≤ 1) (hv : (I 107 18).toInt = l) (h0 : 0 ≤ x1.toInt) (h1 : x1.toInt < 260) (hx : ¬ ml_hl l 130 x1.toNatClampNeg) (hm : en_mem ml_tb mlX (xLay, I, L, R)) (h : ∀ J : sm_I, en_mem ml_tb mlX (xLay, J, L, R) → ml_pS (ml_sp x1.toNatClampNeg) I J → (J 107 15 = 0 → 0 ≤ (J 130 x1.toNatClampNeg).toInt) → Φ (none, (xLay, J, L, kM R))) : sm_wp sm_P S (d + 4) 201 0 [.ref 107, .int x1] [] (xLay, I, L, kM R) (0, 0) Φ := by
  have v : vp_in x1 260 := kl_in h0 (by omega)
  have n1 := kl_nat h0
  have live : ∀ J : sm_I, ml_pS (ml_sp x1.toNatClampNeg) I J → (J 107 18).toInt = l := fun J pJ => by rw [pJ.1 107 18 (by unfold ml_sp; omega) (by omega)]; exact hv
  have B : ∀ (b : Int32) (J : sm_I), en_mem ml_tb mlX (xLay, J, L, R) → ml_pS (ml_sp x1.toNatClampNeg) I J → (J 107 15 = 0 → 0 ≤ (J 130 x1.toNatClampNeg).toInt) → sm_wp sm_P S (d + 3) 169 0 [.ref 107, .int b] [] (xLay, J, L, kM R) (0, 0) (fun z => ∃ (r : Int32) (I' : sm_I) (L' : sm_L) (R' : sm_R), z = (some (.int r), (xLay, I', L', kM R')) ∧ (vp_in x1 260) ∧ ∀ I2 : sm_I, I2 = (sm_up I' 133 x1.toNatClampNeg r) → Φ (none, (xLay, I2, L', kM R'))) := by
    intro b J mJ pJ qJ
    refine mx_number mJ (fun r K mK pK => ⟨r, K, L, R, rfl, v, fun I2 e2 => ?_⟩)
    have pIK : ml_pS (ml_sp x1.toNatClampNeg) I K := ml_pS_tr pJ (ml_pS_no pK)
    refine h I2 ?_ ?_ (fun c => ?_)
    · rw [e2]
      exact ml_wt hl (live K pIK) ⟨by decide, by decide, by unfold ml_hl; omega⟩ (by decide) mK (ml_rq (n := 260) (q := (-2147483648, 2147483647)) rfl en_crange)
    · refine ml_pS_tr pIK ?_
      rw [e2]; exact ml_pS_up ⟨by decide, by decide, rfl⟩ (by omega)
    · rw [e2, en_up_ne _ _ _ _ (by omega)] at c
      rw [e2, en_up_ne _ _ _ _ (by omega), ml_pS_g pK (by omega)]
      exact qJ (ml_w15 pK c)
  have A : ∀ (b r8 : Int32) (J : sm_I), en_mem ml_tb mlX (xLay, J, L, R) → ml_pS (ml_sp x1.toNatClampNeg) I J → (J 107 15 = 0 → 0 ≤ (J 130 x1.toNatClampNeg).toInt) → sm_wp sm_P S (d + 3) 169 0 [.ref 107, .int b] [] (xLay, J, L, kM R) (0, 0) (fun z => ∃ (r : Int32) (I' : sm_I) (L' : sm_L) (R' : sm_R), z = (some (.int r), (xLay, I', L', kM R')) ∧ (vp_in x1 260) ∧ ∀ I2 : sm_I, I2 = (sm_up I' 132 x1.toNatClampNeg r) → ((r8 = 0 → sm_wp sm_P S (d + 3) 169 0 [.ref 107, .int (1 : Int32)] [] (xLay, I2, L', kM R') (0, 0) (fun z => ∃ (r : Int32) (I' : sm_I) (L' : sm_L) (R' : sm_R), z = (some (.int r), (xLay, I', L', kM R')) ∧ (vp_in x1 260) ∧ ∀ I2 : sm_I, I2 = (sm_up I' 133 x1.toNatClampNeg r) → Φ (none, (xLay, I2, L', kM R')))) ∧ (¬ r8 = 0 → sm_wp sm_P S (d + 3) 169 0 [.ref 107, .int (0 : Int32)] [] (xLay, I2, L', kM R') (0, 0) (fun z => ∃ (r : Int32) (I' : sm_I) (L' : sm_L) (R' : sm_R), z = (some (.int r), (xLay, I', L', kM R')) ∧ (vp_in x1 260) ∧ ∀ I2 : sm_I, I2 = (sm_up I' 133 x1.toNatClampNeg r) → Φ (none, (xLay, I2, L', kM R')))))) := by
    intro b r8 J mJ pJ qJ
    refine mx_number mJ (fun r K mK pK => ⟨r, K, L, R, rfl, v, fun I2 e2 => ?_⟩)
    have pIK : ml_pS (ml_sp x1.toNatClampNeg) I K := ml_pS_tr pJ (ml_pS_no pK)
    have m2 : en_mem ml_tb mlX (xLay, I2, L, R) := by
      rw [e2]
      exact ml_wt hl (live K pIK) ⟨by decide, by decide, by unfold ml_hl; omega⟩ (by decide) mK (ml_rq (n := 260) (q := (-2147483648, 2147483647)) rfl en_crange)
    have p2 : ml_pS (ml_sp x1.toNatClampNeg) I I2 := by
      refine ml_pS_tr pIK ?_
      rw [e2]; exact ml_pS_up ⟨by decide, by decide, rfl⟩ (by omega)
    have q2 : I2 107 15 = 0 → 0 ≤ (I2 130 x1.toNatClampNeg).toInt := fun c => by
      rw [e2, en_up_ne _ _ _ _ (by omega)] at c
      rw [e2, en_up_ne _ _ _ _ (by omega), ml_pS_g pK (by omega)]
      exact qJ (ml_w15 pK c)
    exact ⟨fun _ => B _ I2 m2 p2 q2, fun _ => B _ I2 m2 p2 q2⟩
  refine u_X12_tellSpan_0 (mx_known hm (fun r4 J1 m1 p1 a1 a2 a3 a4 a5 => ⟨r4, J1, L, R, rfl, mx_is m1 (fun r8 _ _ => ⟨r8, J1, L, R, rfl, ?_⟩)⟩))
  have W2 : ∀ (y : Int32) (J : sm_I), en_mem ml_tb mlX (xLay, J, L, R) → ml_pS ml_no J1 J → -1 ≤ y.toInt → y.toInt ≤ 9 → ∀ I17 : sm_I, I17 = (sm_up J 131 x1.toNatClampNeg y) → ∀ I18 : sm_I, I18 = (sm_up I17 130 x1.toNatClampNeg r4) → en_mem ml_tb mlX (xLay, I18, L, R) ∧ ml_pS (ml_sp x1.toNatClampNeg) I I18 ∧ (I18 107 15 = 0 → 0 ≤ (I18 130 x1.toNatClampNeg).toInt) := by
    intro y J mJ pJ y0 y1 I17 e17 I18 e18
    have pIJ : ml_pS (ml_sp x1.toNatClampNeg) I J := ml_pS_no (ml_pS_tr p1 pJ)
    have p17 : ml_pS (ml_sp x1.toNatClampNeg) I I17 := by
      refine ml_pS_tr pIJ ?_
      rw [e17]; exact ml_pS_up ⟨by decide, by decide, rfl⟩ (by omega)
    have m17 : en_mem ml_tb mlX (xLay, I17, L, R) := by
      rw [e17]
      exact ml_wt hl (live J pIJ) ⟨by decide, by decide, by unfold ml_hl; omega⟩ (by decide) mJ (ml_rq (n := 260) (q := (-1, 9)) rfl ⟨y0, y1⟩)
    refine ⟨?_, ?_, fun c => ?_⟩
    · rw [e18]
      exact ml_wt hl (live I17 p17) ⟨by decide, by decide, hx⟩ (by decide) m17 (ml_rq (n := 260) (q := (-1, 9)) rfl ⟨a1, a2⟩)
    · refine ml_pS_tr p17 ?_
      rw [e18]; exact ml_pS_up ⟨by decide, by decide, rfl⟩ (by omega)
    · rw [e18, en_up_ne _ _ _ _ (by omega), e17, en_up_ne _ _ _ _ (by omega)] at c
      rw [e18, en_up_eq]
      by_cases cr : r4.toInt = -1
      · exact absurd (ml_w15 pJ c) (a5 cr)
      · omega
  refine ⟨fun _ => mx_must m1 (fun J2 m2 p2 => ⟨J2, L, R, rfl, fun _ => mx_known m2 (fun r16 J3 m3 p3 c1 c2 c3 c4 c5 => ⟨r16, J3, L, R, rfl, v, fun I17 e17 => ⟨v, fun I18 e18 => ?_⟩⟩), fun _ => ⟨v, fun I17 e17 => ⟨v, fun I18 e18 => ?_⟩⟩⟩), fun _ => mx_goesOn m1 (fun J2 m2 p2 _ => ⟨J2, L, R, rfl, v, fun I17 e17 => ⟨v, fun I18 e18 => ?_⟩⟩)⟩
  · obtain ⟨q1, q2, q3⟩ := W2 r16 J3 m3 (ml_pS_tr p2 p3) c1 c2 I17 e17 I18 e18
    exact ⟨fun _ => A _ _ I18 q1 q2 q3, fun _ => A _ _ I18 q1 q2 q3⟩
  · obtain ⟨q1, q2, q3⟩ := W2 0 J2 m2 p2 (by decide) (by decide) I17 e17 I18 e18
    exact ⟨fun _ => A _ _ I18 q1 q2 q3, fun _ => A _ _ I18 q1 q2 q3⟩
  · obtain ⟨q1, q2, q3⟩ := W2 (-1) J2 m2 p2 (by decide) (by decide) I17 e17 I18 e18
    exact ⟨fun _ => A _ _ I18 q1 q2 q3, fun _ => A _ _ I18 q1 q2 q3⟩
/-! all of a choice -/
def ml_al (x p j : Nat) : Prop := (p = 129 ∧ j = x) ∨ (130 ≤ p ∧ p ≤ 133 ∧ 3 * x ≤ j ∧ j < 3 * x + 3)
def ml_ai (I : sm_I) (x : Nat) : Prop := I 107 15 = 0 → ∀ i : Nat, (i : Int) < (I 129 x).toInt → 0 ≤ (I 130 (3 * x + i)).toInt
theorem ml_ai_no {I J : sm_I} {x : Nat} (h : ml_pS ml_no I J) (q : ml_ai I x) : ml_ai J x := fun c i hi => by
  rw [ml_pS_g h (by omega)] at hi
  rw [ml_pS_g h (by omega)]
  exact q (ml_w15 h c) i hi
theorem mx_tellAll1 {S : sm_C} {d : Nat} {Φ : sm_Z → Prop} {I0 : sm_I} {L : sm_L} {R : sm_R} {x1 : Int32} {l s : Nat} (hls : ml_ls l s) (hv : (I0 107 18).toInt = l) (h0 : 40 * (s : Int) ≤ x1.toInt) (h1 : x1.toInt < 40 * (s : Int) + 40) (h : ∀ J : sm_I, en_mem ml_tb mlX (xLay, J, L, R) → ml_pS (ml_al x1.toNatClampNeg) I0 J → ml_ai J x1.toNatClampNeg → Φ (none, (xLay, J, L, kM R))) : ∀ (m : Nat) (I : sm_I) (x2 : Int32), en_mem ml_tb mlX (xLay, I, L, R) → ml_pS (ml_al x1.toNatClampNeg) I0 I → ml_ai I x1.toNatClampNeg → (¬ x2 = 0 → I 107 13 = 0 → (I 129 x1.toNatClampNeg).toInt ≤ 2) → 3 - (I 129 x1.toNatClampNeg).toInt < m → sm_wp sm_P S (d + 5) 196 1 [.ref 107, .int x1, .int x2] [] (xLay, I, L, kM R) (0, 0) Φ := by
  obtain ⟨hl, hs⟩ := ml_l1 hls
  have hls' := hls
  unfold ml_ls at hls'
  have n1 := kl_nat (i := x1) (by omega)
  have v : vp_in x1 80 := kl_in (by omega) (by omega)
  intro m
  induction m with
  | zero =>
    intro I x2 hm hp hq hc hM
    have b : 0 ≤ (I 129 x1.toNatClampNeg).toInt ∧ (I 129 x1.toNatClampNeg).toInt ≤ 3 := ml_row hm (p := 129) (n := 80) (q := (0, 3)) (fun _ => rfl) _ (by omega)
    omega
  | succ m ih =>
    intro I x2 hm hp hq hc hM
    have b : 0 ≤ (I 129 x1.toNatClampNeg).toInt ∧ (I 129 x1.toNatClampNeg).toInt ≤ 3 := ml_row hm (p := 129) (n := 80) (q := (0, 3)) (fun _ => rfl) _ (by omega)
    refine u_X12_tellAll_1 ⟨fun _ => h I hm hp hq, fun c2 => ⟨fun c13 => ⟨v, fun n1' e1 => ?_⟩, fun _ => h I hm hp hq⟩⟩
    have b2 := hc c2 c13
    have q1 : ((3 : Int32) * x1).toInt = 3 * x1.toInt := ml_mu (by decide) rfl (by omega) (by omega)
    have q2 : n1'.toInt = 3 * x1.toInt + (I 129 x1.toNatClampNeg).toInt := by rw [e1]; exact ml_ad q1 rfl (by omega) (by omega)
    have n2 := kl_nat (i := n1') (by omega)
    have v18 : (I 107 18).toInt = l := by rw [hp.1 107 18 (by unfold ml_al; omega) (by omega)]; exact hv
    refine mx_tellSpan hl v18 (by omega) (by omega) (by unfold ml_hl; omega) hm (fun J2 m2 p2 q2' => ⟨J2, L, R, rfl, fun _ => ⟨v, fun n6 e6 => ⟨v, fun J7 e7 => ?_⟩⟩, fun _ => ?_⟩)
    all_goals
      have pJ2 : ml_pS (ml_al x1.toNatClampNeg) I0 J2 := ml_pS_tr hp (ml_pS_mo p2 (fun p j c => by unfold ml_sp at c; unfold ml_al; omega))
      have o2 : ∀ p j, ¬ ml_sp n1'.toNatClampNeg p j → ¬ (p = 107 ∧ (j = 11 ∨ j = 13 ∨ j = 14 ∨ j = 15 ∨ j = 16)) → J2 p j = I p j := p2.1
      unfold ml_sp at o2
      have s129 : J2 129 x1.toNatClampNeg = I 129 x1.toNatClampNeg := o2 _ _ (by omega) (by omega)
    · rw [s129] at e6
      have s6 : n6.toInt = (I 129 x1.toNatClampNeg).toInt + 1 := by rw [e6]; exact ml_in1 (by omega)
      have m7 : en_mem ml_tb mlX (xLay, J7, L, R) := by
        rw [e7]
        exact ml_wt hl (by rw [o2 107 18 (by omega) (by omega)]; exact v18) ⟨by decide, by decide, by unfold ml_hl; omega⟩ (by decide) m2 (ml_rq (n := 80) (q := (0, 3)) rfl (by show 0 ≤ _ ∧ _ ≤ (3 : Int); omega))
      have p7 : ml_pS (ml_al x1.toNatClampNeg) I0 J7 := by
        refine ml_pS_tr pJ2 ?_
        rw [e7]; exact ml_pS_up (Or.inl ⟨rfl, rfl⟩) (by omega)
      have c7 : (J7 129 x1.toNatClampNeg).toInt = (I 129 x1.toNatClampNeg).toInt + 1 := by rw [e7, en_up_eq]; exact s6
      have a7 : ml_ai J7 x1.toNatClampNeg := by
        intro c i hi
        rw [e7, en_up_ne _ _ _ _ (by omega)] at c
        rw [c7] at hi
        rw [e7, en_up_ne _ _ _ _ (by omega)]
        by_cases ci : 3 * x1.toNatClampNeg + i = n1'.toNatClampNeg
        · rw [ci]; exact q2' c
        · rw [o2 _ _ (by omega) (by omega)]
          exact hq (ml_w15 p2 c) i (by omega)
      have nx : ∀ (J : sm_I) (r : Int32), en_mem ml_tb mlX (xLay, J, L, R) → ml_pS ml_no J7 J → (¬ r = 0 → J 107 13 = 0 → (J7 129 x1.toNatClampNeg).toInt ≤ 2) → sm_wp sm_P S (d + 5) 196 1 [.ref 107, .int x1, .int r] [] (xLay, J, L, kM R) (0, 0) Φ := by
        intro J r mJ pJ hr
        have e129 : J 129 x1.toNatClampNeg = J7 129 x1.toNatClampNeg := ml_pS_g pJ (by omega)
        exact ih J r mJ (ml_pS_tr p7 (ml_pS_no pJ)) (ml_ai_no pJ a7) (by rw [e129]; exact hr) (by rw [e129]; omega)
      refine mx_is m7 (fun r _ _ => ⟨r, J7, L, R, rfl, fun c => ⟨fun _ => nx J7 r m7 ml_pS_rf (fun c' => absurd c c'), fun c' => absurd c c'⟩, fun cr => ⟨v, fun c3 => ?_, fun c3 => ⟨fun c => absurd c cr, fun _ => ?_⟩⟩⟩)
      · refine mx_fail (by decide) (by decide) m7 (fun J8 m8 p8 f8 => ⟨J8, L, R, rfl, fun c => absurd c cr, fun _ => mx_goesOn m8 (fun J9 m9 p9 _ => ⟨J9, L, R, rfl, nx J9 r m9 (ml_pS_tr p8 p9) (fun _ c => absurd c (p9.2.2.1 f8))⟩)⟩)
      · have c3' : (J7 129 x1.toNatClampNeg).toInt ≠ 3 := fun c => c3 (en_ofI (by rw [c]; decide))
        exact mx_goesOn m7 (fun J9 m9 p9 _ => ⟨J9, L, R, rfl, nx J9 r m9 p9 (fun _ _ => by omega)⟩)
    · refine h J2 m2 pJ2 (fun c i hi => ?_)
      rw [s129] at hi
      rw [o2 _ _ (by omega) (by omega)]
      exact hq (ml_w15 p2 c) i hi
theorem mx_tellAll {S : sm_C} {d : Nat} {Φ : sm_Z → Prop} {I : sm_I} {L : sm_L} {R : sm_R} {x1 : Int32} {l s : Nat} (hls : ml_ls l s) (hv : (I 107 18).toInt = l) (h0 : 40 * (s : Int) ≤ x1.toInt) (h1 : x1.toInt < 40 * (s : Int) + 40) (hm : en_mem ml_tb mlX (xLay, I, L, R)) (h : ∀ J : sm_I, en_mem ml_tb mlX (xLay, J, L, R) → ml_pS (ml_al x1.toNatClampNeg) I J → ml_ai J x1.toNatClampNeg → Φ (none, (xLay, J, L, kM R))) : sm_wp sm_P S (d + 5) 196 0 [.ref 107, .int x1] [] (xLay, I, L, kM R) (0, 0) Φ := by
  obtain ⟨hl, hs⟩ := ml_l1 hls
  have hls' := hls
  unfold ml_ls at hls'
  have n1 := kl_nat (i := x1) (by omega)
  refine u_X12_tellAll_0 ⟨kl_in (by omega) (by omega), fun I1 e1 => ?_⟩
  have z : (I1 129 x1.toNatClampNeg).toInt = 0 := by rw [e1, en_up_eq]; decide
  refine mx_tellAll1 hls hv h0 h1 h 4 I1 1 ?_ ?_ (fun _ i hi => by rw [z] at hi; omega) (fun _ _ => by rw [z]; decide) (by rw [z]; decide)
  · rw [e1]
    exact ml_wt hl hv ⟨by decide, by decide, by unfold ml_hl; omega⟩ (by decide) hm (ml_rq (n := 80) (q := (0, 3)) rfl (by decide))
  · rw [e1]; exact ml_pS_up (Or.inl ⟨rfl, rfl⟩) (by omega)
end
