/-! the class's contracts by hand, with what was gone through (made of 29d) -/
theorem klw_0 {Sc : sm_C} : ∀ (d : Nat), klc_0.2.2.2.2.2 ≤ d → ∀ (vs : List Value) (w : sm_W), en_pvs klc_0.2.1 vs → en_mem kl_tb klX w → sm_wp sm_P Sc d klc_0.1 0 vs [] w (0, 0) (fun z => z.2.2.2.1 = w.2.2.1) := by
  intro d hd vs w hv hm
  obtain ⟨lay, I, L, R⟩ := w
  obtain ⟨vs1, rfl, hv1⟩ := kl_vr (q := 75) rfl hv
  obtain ⟨x1, vs2, rfl, b1, hv2⟩ := kl_vi hv1
  obtain ⟨x2, vs3, rfl, b2, hv3⟩ := kl_vi hv2
  obtain ⟨x3, vs4, rfl, b3, hv4⟩ := kl_vi hv3
  obtain ⟨x4, vs5, rfl, b4, hv5⟩ := kl_vi hv4
  obtain rfl := kl_v0 hv5
  obtain rfl : lay = xLay := hm.2.2.2.2.1
  have e : kR 75 R = R := m75_R hm
  obtain ⟨d, rfl⟩ : ∃ d', d = d' + 1 := ⟨d - 1, by have : 2 ≤ d := hd; omega⟩
  show sm_wp sm_P Sc (d + 1) 256 0 _ [] (xLay, I, L, R) (0, 0) _
  rw [← e]
  exact n75_tighten (m75_nb hm) (m75_w hm).2 (m75_X hm) b1.2 (fun r I' hr o => rfl)
theorem klk_0 {Sc : sm_C} : en_hold kl_tb2 klY sm_P Sc klc_0 := ky_lift klh_0 (by decide +kernel) klw_0
theorem klw_2 {Sc : sm_C} : ∀ (d : Nat), klc_2.2.2.2.2.2 ≤ d → ∀ (vs : List Value) (w : sm_W), en_pvs klc_2.2.1 vs → en_mem kl_tb klX w → sm_wp sm_P Sc d klc_2.1 0 vs [] w (0, 0) (fun z => z.2.2.2.1 = w.2.2.1) := by
  intro d hd vs w hv hm
  obtain ⟨lay, I, L, R⟩ := w
  obtain ⟨vs1, rfl, hv1⟩ := kl_vr (q := 75) rfl hv
  obtain ⟨x1, vs2, rfl, b1, hv2⟩ := kl_vi hv1
  obtain rfl := kl_v0 hv2
  obtain rfl : lay = xLay := hm.2.2.2.2.1
  have e : kR 75 R = R := m75_R hm
  obtain ⟨d, rfl⟩ : ∃ d', d = d' + 1 := ⟨d - 1, by have : 2 ≤ d := hd; omega⟩
  show sm_wp sm_P Sc (d + 1) 248 0 _ [] (xLay, I, L, R) (0, 0) _
  rw [← e]
  exact n75_copyUp (m75_nb hm) b1.2 (fun I' o => rfl)
theorem klk_2 {Sc : sm_C} : en_hold kl_tb2 klY sm_P Sc klc_2 := ky_lift klh_2 (by decide +kernel) klw_2
theorem klw_20 {Sc : sm_C} : ∀ (d : Nat), klc_20.2.2.2.2.2 ≤ d → ∀ (vs : List Value) (w : sm_W), en_pvs klc_20.2.1 vs → en_mem kl_tb klX w → sm_wp sm_P Sc d klc_20.1 0 vs [] w (0, 0) (fun z => z.2.2.2.1 = w.2.2.1) := by
  intro d hd vs w hv hm
  obtain ⟨lay, I, L, R⟩ := w
  obtain ⟨vs1, rfl, hv1⟩ := kl_vr (q := 75) rfl hv
  obtain ⟨x1, vs2, rfl, b1, hv2⟩ := kl_vi hv1
  obtain ⟨x2, vs3, rfl, b2, hv3⟩ := kl_vi hv2
  obtain ⟨x3, vs4, rfl, b3, hv4⟩ := kl_vi hv3
  obtain rfl := kl_v0 hv4
  obtain rfl : lay = xLay := hm.2.2.2.2.1
  have e : kR 75 R = R := m75_R hm
  obtain ⟨d, rfl⟩ : ∃ d', d = d' + 1 := ⟨d - 1, by have : 2 ≤ d := hd; omega⟩
  show sm_wp sm_P Sc (d + 1) 255 0 _ [] (xLay, I, L, R) (0, 0) _
  rw [← e]
  exact n75_reach (m75_nb hm) b1.2 (fun r => rfl)
theorem klk_20 {Sc : sm_C} : en_hold kl_tb2 klY sm_P Sc klc_20 := ky_lift klh_20 (by decide +kernel) klw_20
theorem klw_86 {Sc : sm_C} : ∀ (d : Nat), klc_86.2.2.2.2.2 ≤ d → ∀ (vs : List Value) (w : sm_W), en_pvs klc_86.2.1 vs → en_mem kl_tb klX w → sm_wp sm_P Sc d klc_86.1 0 vs [] w (0, 0) (fun z => z.2.2.2.1 = w.2.2.1) := by
  intro d hd vs w hv hm
  obtain ⟨lay, I, L, R⟩ := w
  obtain ⟨vs1, rfl, hv1⟩ := kl_vr (q := 75) rfl hv
  obtain ⟨x1, vs2, rfl, b1, hv2⟩ := kl_vi hv1
  obtain rfl := kl_v0 hv2
  obtain rfl : lay = xLay := hm.2.2.2.2.1
  have e : kR 75 R = R := m75_R hm
  show sm_wp sm_P Sc d 247 0 _ [] (xLay, I, L, R) (0, 0) _
  rw [← e]
  exact n75_blank (m75_S hm) (by first | rfl | exact fun _ => rfl) (fun I' hb hn hw hs h2 => rfl)
theorem klk_86 {Sc : sm_C} : en_hold kl_tb2 klY sm_P Sc klc_86 := ky_lift klh_86 (by decide +kernel) klw_86
theorem klw_90 {Sc : sm_C} : ∀ (d : Nat), klc_90.2.2.2.2.2 ≤ d → ∀ (vs : List Value) (w : sm_W), en_pvs klc_90.2.1 vs → en_mem kl_tb klX w → sm_wp sm_P Sc d klc_90.1 0 vs [] w (0, 0) (fun z => z.2.2.2.1 = w.2.2.1) := by
  intro d hd vs w hv hm
  obtain ⟨lay, I, L, R⟩ := w
  obtain ⟨vs1, rfl, hv1⟩ := kl_vr (q := 83) rfl hv
  obtain ⟨x1, vs2, rfl, b1, hv2⟩ := kl_vi hv1
  obtain ⟨x2, vs3, rfl, b2, hv3⟩ := kl_vi hv2
  obtain ⟨x3, vs4, rfl, b3, hv4⟩ := kl_vi hv3
  obtain ⟨x4, vs5, rfl, b4, hv5⟩ := kl_vi hv4
  obtain rfl := kl_v0 hv5
  obtain rfl : lay = xLay := hm.2.2.2.2.1
  have e : kR 83 R = R := m83_R hm
  obtain ⟨d, rfl⟩ : ∃ d', d = d' + 1 := ⟨d - 1, by have : 2 ≤ d := hd; omega⟩
  show sm_wp sm_P Sc (d + 1) 256 0 _ [] (xLay, I, L, R) (0, 0) _
  rw [← e]
  exact n83_tighten (m83_nb hm) (m83_w hm).2 (m83_X hm) b1.2 (fun r I' hr o => rfl)
theorem klk_90 {Sc : sm_C} : en_hold kl_tb2 klY sm_P Sc klc_90 := ky_lift klh_90 (by decide +kernel) klw_90
theorem klw_105 {Sc : sm_C} : ∀ (d : Nat), klc_105.2.2.2.2.2 ≤ d → ∀ (vs : List Value) (w : sm_W), en_pvs klc_105.2.1 vs → en_mem kl_tb klX w → sm_wp sm_P Sc d klc_105.1 0 vs [] w (0, 0) (fun z => z.2.2.2.1 = w.2.2.1) := by
  intro d hd vs w hv hm
  obtain ⟨lay, I, L, R⟩ := w
  obtain ⟨vs1, rfl, hv1⟩ := kl_vr (q := 83) rfl hv
  obtain ⟨x1, vs2, rfl, b1, hv2⟩ := kl_vi hv1
  obtain rfl := kl_v0 hv2
  obtain rfl : lay = xLay := hm.2.2.2.2.1
  have e : kR 83 R = R := m83_R hm
  obtain ⟨d, rfl⟩ : ∃ d', d = d' + 1 := ⟨d - 1, by have : 2 ≤ d := hd; omega⟩
  show sm_wp sm_P Sc (d + 1) 248 0 _ [] (xLay, I, L, R) (0, 0) _
  rw [← e]
  exact n83_copyUp (m83_nb hm) b1.2 (fun I' o => rfl)
theorem klk_105 {Sc : sm_C} : en_hold kl_tb2 klY sm_P Sc klc_105 := ky_lift klh_105 (by decide +kernel) klw_105
theorem klw_113 {Sc : sm_C} : ∀ (d : Nat), klc_113.2.2.2.2.2 ≤ d → ∀ (vs : List Value) (w : sm_W), en_pvs klc_113.2.1 vs → en_mem kl_tb klX w → sm_wp sm_P Sc d klc_113.1 0 vs [] w (0, 0) (fun z => z.2.2.2.1 = w.2.2.1) := by
  intro d hd vs w hv hm
  obtain ⟨lay, I, L, R⟩ := w
  obtain ⟨vs1, rfl, hv1⟩ := kl_vr (q := 83) rfl hv
  obtain ⟨x1, vs2, rfl, b1, hv2⟩ := kl_vi hv1
  obtain ⟨x2, vs3, rfl, b2, hv3⟩ := kl_vi hv2
  obtain ⟨x3, vs4, rfl, b3, hv4⟩ := kl_vi hv3
  obtain rfl := kl_v0 hv4
  obtain rfl : lay = xLay := hm.2.2.2.2.1
  have e : kR 83 R = R := m83_R hm
  obtain ⟨d, rfl⟩ : ∃ d', d = d' + 1 := ⟨d - 1, by have : 2 ≤ d := hd; omega⟩
  show sm_wp sm_P Sc (d + 1) 255 0 _ [] (xLay, I, L, R) (0, 0) _
  rw [← e]
  exact n83_reach (m83_nb hm) b1.2 (fun r => rfl)
theorem klk_113 {Sc : sm_C} : en_hold kl_tb2 klY sm_P Sc klc_113 := ky_lift klh_113 (by decide +kernel) klw_113
theorem klw_92 {Sc : sm_C} : ∀ (d : Nat), klc_92.2.2.2.2.2 ≤ d → ∀ (vs : List Value) (w : sm_W), en_pvs klc_92.2.1 vs → en_mem kl_tb klX w → sm_wp sm_P Sc d klc_92.1 0 vs [] w (0, 0) (fun z => z.2.2.2.1 = w.2.2.1) := by
  intro d hd vs w hv hm
  obtain ⟨lay, I, L, R⟩ := w
  obtain ⟨vs1, rfl, hv1⟩ := kl_vr (q := 83) rfl hv
  obtain ⟨x1, vs2, rfl, b1, hv2⟩ := kl_vi hv1
  obtain rfl := kl_v0 hv2
  obtain rfl : lay = xLay := hm.2.2.2.2.1
  have e : kR 83 R = R := m83_R hm
  show sm_wp sm_P Sc d 247 0 _ [] (xLay, I, L, R) (0, 0) _
  rw [← e]
  exact n83_blank (m83_S hm) (by first | rfl | exact fun _ => rfl) (fun I' hb hn hw hs h2 => rfl)
theorem klk_92 {Sc : sm_C} : en_hold kl_tb2 klY sm_P Sc klc_92 := ky_lift klh_92 (by decide +kernel) klw_92
theorem klw_93 {Sc : sm_C} : ∀ (d : Nat), klc_93.2.2.2.2.2 ≤ d → ∀ (vs : List Value) (w : sm_W), en_pvs klc_93.2.1 vs → en_mem kl_tb klX w → sm_wp sm_P Sc d klc_93.1 0 vs [] w (0, 0) (fun z => z.2.2.2.1 = w.2.2.1) := by
  intro d hd vs w hv hm
  obtain ⟨lay, I, L, R⟩ := w
  obtain ⟨vs1, rfl, hv1⟩ := kl_vr (q := 83) rfl hv
  obtain ⟨x1, vs2, rfl, b1, hv2⟩ := kl_vi hv1
  obtain ⟨x2, vs3, rfl, b2, hv3⟩ := kl_vi hv2
  obtain ⟨x3, vs4, rfl, b3, hv4⟩ := kl_vi hv3
  obtain ⟨x4, vs5, rfl, b4, hv5⟩ := kl_vi hv4
  obtain rfl := kl_v0 hv5
  obtain rfl : lay = xLay := hm.2.2.2.2.1
  have e : kR 83 R = R := m83_R hm
  obtain ⟨d, rfl⟩ : ∃ d', d = d' + 1 := ⟨d - 1, by have : 1 ≤ d := hd; omega⟩
  show sm_wp sm_P Sc (d + 1) 254 0 _ [] (xLay, I, L, R) (0, 0) _
  rw [← e]
  exact n83_loose (m83_w hm).2 (fun I' hb h4 h5 hO hS => rfl)
theorem klk_93 {Sc : sm_C} : en_hold kl_tb2 klY sm_P Sc klc_93 := ky_lift klh_93 (by decide +kernel) klw_93
theorem klw_97 {Sc : sm_C} : ∀ (d : Nat), klc_97.2.2.2.2.2 ≤ d → ∀ (vs : List Value) (w : sm_W), en_pvs klc_97.2.1 vs → en_mem kl_tb klX w → sm_wp sm_P Sc d klc_97.1 0 vs [] w (0, 0) (fun z => z.2.2.2.1 = w.2.2.1) := by
  intro d hd vs w hv hm
  obtain ⟨lay, I, L, R⟩ := w
  obtain ⟨vs1, rfl, hv1⟩ := kl_vr (q := 91) rfl hv
  obtain ⟨x1, vs2, rfl, b1, hv2⟩ := kl_vi hv1
  obtain ⟨x2, vs3, rfl, b2, hv3⟩ := kl_vi hv2
  obtain ⟨x3, vs4, rfl, b3, hv4⟩ := kl_vi hv3
  obtain ⟨x4, vs5, rfl, b4, hv5⟩ := kl_vi hv4
  obtain rfl := kl_v0 hv5
  obtain rfl : lay = xLay := hm.2.2.2.2.1
  have e : kR 91 R = R := m91_R hm
  obtain ⟨d, rfl⟩ : ∃ d', d = d' + 1 := ⟨d - 1, by have : 2 ≤ d := hd; omega⟩
  show sm_wp sm_P Sc (d + 1) 256 0 _ [] (xLay, I, L, R) (0, 0) _
  rw [← e]
  exact n91_tighten (m91_nb hm) (m91_w hm).2 (m91_X hm) b1.2 (fun r I' hr o => rfl)
theorem klk_97 {Sc : sm_C} : en_hold kl_tb2 klY sm_P Sc klc_97 := ky_lift klh_97 (by decide +kernel) klw_97
theorem klw_120 {Sc : sm_C} : ∀ (d : Nat), klc_120.2.2.2.2.2 ≤ d → ∀ (vs : List Value) (w : sm_W), en_pvs klc_120.2.1 vs → en_mem kl_tb klX w → sm_wp sm_P Sc d klc_120.1 0 vs [] w (0, 0) (fun z => z.2.2.2.1 = w.2.2.1) := by
  intro d hd vs w hv hm
  obtain ⟨lay, I, L, R⟩ := w
  obtain ⟨vs1, rfl, hv1⟩ := kl_vr (q := 91) rfl hv
  obtain ⟨x1, vs2, rfl, b1, hv2⟩ := kl_vi hv1
  obtain rfl := kl_v0 hv2
  obtain rfl : lay = xLay := hm.2.2.2.2.1
  have e : kR 91 R = R := m91_R hm
  obtain ⟨d, rfl⟩ : ∃ d', d = d' + 1 := ⟨d - 1, by have : 2 ≤ d := hd; omega⟩
  show sm_wp sm_P Sc (d + 1) 248 0 _ [] (xLay, I, L, R) (0, 0) _
  rw [← e]
  exact n91_copyUp (m91_nb hm) b1.2 (fun I' o => rfl)
theorem klk_120 {Sc : sm_C} : en_hold kl_tb2 klY sm_P Sc klc_120 := ky_lift klh_120 (by decide +kernel) klw_120
theorem klw_117 {Sc : sm_C} : ∀ (d : Nat), klc_117.2.2.2.2.2 ≤ d → ∀ (vs : List Value) (w : sm_W), en_pvs klc_117.2.1 vs → en_mem kl_tb klX w → sm_wp sm_P Sc d klc_117.1 0 vs [] w (0, 0) (fun z => z.2.2.2.1 = w.2.2.1) := by
  intro d hd vs w hv hm
  obtain ⟨lay, I, L, R⟩ := w
  obtain ⟨vs1, rfl, hv1⟩ := kl_vr (q := 91) rfl hv
  obtain ⟨x1, vs2, rfl, b1, hv2⟩ := kl_vi hv1
  obtain ⟨x2, vs3, rfl, b2, hv3⟩ := kl_vi hv2
  obtain ⟨x3, vs4, rfl, b3, hv4⟩ := kl_vi hv3
  obtain rfl := kl_v0 hv4
  obtain rfl : lay = xLay := hm.2.2.2.2.1
  have e : kR 91 R = R := m91_R hm
  obtain ⟨d, rfl⟩ : ∃ d', d = d' + 1 := ⟨d - 1, by have : 2 ≤ d := hd; omega⟩
  show sm_wp sm_P Sc (d + 1) 255 0 _ [] (xLay, I, L, R) (0, 0) _
  rw [← e]
  exact n91_reach (m91_nb hm) b1.2 (fun r => rfl)
theorem klk_117 {Sc : sm_C} : en_hold kl_tb2 klY sm_P Sc klc_117 := ky_lift klh_117 (by decide +kernel) klw_117
theorem klw_99 {Sc : sm_C} : ∀ (d : Nat), klc_99.2.2.2.2.2 ≤ d → ∀ (vs : List Value) (w : sm_W), en_pvs klc_99.2.1 vs → en_mem kl_tb klX w → sm_wp sm_P Sc d klc_99.1 0 vs [] w (0, 0) (fun z => z.2.2.2.1 = w.2.2.1) := by
  intro d hd vs w hv hm
  obtain ⟨lay, I, L, R⟩ := w
  obtain ⟨vs1, rfl, hv1⟩ := kl_vr (q := 91) rfl hv
  obtain ⟨x1, vs2, rfl, b1, hv2⟩ := kl_vi hv1
  obtain rfl := kl_v0 hv2
  obtain rfl : lay = xLay := hm.2.2.2.2.1
  have e : kR 91 R = R := m91_R hm
  show sm_wp sm_P Sc d 247 0 _ [] (xLay, I, L, R) (0, 0) _
  rw [← e]
  exact n91_blank (m91_S hm) (by first | rfl | exact fun _ => rfl) (fun I' hb hn hw hs h2 => rfl)
theorem klk_99 {Sc : sm_C} : en_hold kl_tb2 klY sm_P Sc klc_99 := ky_lift klh_99 (by decide +kernel) klw_99
