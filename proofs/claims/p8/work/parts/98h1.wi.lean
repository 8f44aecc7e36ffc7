/-! the ways of a text are both ways, between PLACES that are told -/
theorem st_3 : ∀ i, i < 46 → sm_steps.getD (3 * i + 2) 0 = 3 → sm_steps.getD (3 * i) 0 = 0 ∧ sm_steps.getD (3 * i + 1) 0 = 2 := by decide +kernel
theorem st_4 : ∀ i, i < 46 → sm_steps.getD (3 * i + 2) 0 = 4 → sm_steps.getD (3 * i) 0 = 3 := by decide +kernel
theorem st_5 : ∀ i, i < 46 → sm_steps.getD (3 * i + 2) 0 = 5 → sm_steps.getD (3 * i) 0 = 4 ∨ sm_steps.getD (3 * i) 0 = 30 := by decide +kernel
theorem st_o : ∀ i, i < 46 → (sm_steps.getD (3 * i + 2) 0 = 27 → sm_steps.getD (3 * i) 0 = 0 ∧ sm_steps.getD (3 * i + 1) 0 = 10) ∧ (sm_steps.getD (3 * i + 2) 0 = 28 → sm_steps.getD (3 * i) 0 = 27) ∧ (sm_steps.getD (3 * i + 2) 0 = 29 → sm_steps.getD (3 * i) 0 = 28) ∧ (sm_steps.getD (3 * i + 2) 0 = 30 → sm_steps.getD (3 * i) 0 = 29) := by decide +kernel
theorem fw_f {s k x : Int32} (h : fw s k = x) (hx : x ≠ -1) : ∃ i, i < 46 ∧ sm_steps.getD (3 * i) 0 = s ∧ sm_steps.getD (3 * i + 1) 0 = k ∧ sm_steps.getD (3 * i + 2) 0 = x := by
  obtain ⟨i, h1, h2, h3, h4⟩ := fw_mem (s := s) (k := k) (by rw [h]; exact hx)
  exact ⟨i, h1, h2, h3, h4.symm.trans h⟩
/-- what a step that tells no way and no name leaves as it is -/
def cor (a b : sg) : Prop := (∀ j, b.1 10 j = a.1 10 j) ∧ (∀ j, b.1 11 j = a.1 11 j) ∧ (∀ j, b.1 13 j = a.1 13 j) ∧ b.1 2 5 = a.1 2 5 ∧ b.1 2 7 = a.1 2 7 ∧ b.1 12 1 = a.1 12 1 ∧ b.2 = a.2
theorem cor_rf {a : sg} : cor a a := ⟨fun _ => rfl, fun _ => rfl, fun _ => rfl, rfl, rfl, rfl, rfl⟩
theorem cor_u2 {a0 a : sg} {c j : Nat} {v : Int32} (g : cor a0 a) (h : c ≠ 10 ∧ c ≠ 11 ∧ c ≠ 13 ∧ ¬ (c = 2 ∧ (j = 5 ∨ j = 7)) ∧ ¬ (c = 12 ∧ j = 1)) : cor a0 (u2 a c j v) := by
  obtain ⟨g1, g2, g3, g4, g5, g6, g7⟩ := g
  exact ⟨fun i => by rw [u2_ne _ _ _ _ (by omega)]; exact g1 i, fun i => by rw [u2_ne _ _ _ _ (by omega)]; exact g2 i, fun i => by rw [u2_ne _ _ _ _ (by omega)]; exact g3 i, by rw [u2_ne _ _ _ _ (by omega)]; exact g4, by rw [u2_ne _ _ _ _ (by omega)]; exact g5, by rw [u2_ne _ _ _ _ (by omega)]; exact g6, g7⟩
theorem cor_pl {a : sg} {c : Nat} {r : Int32} (h : c = 14 ∨ c = 15) : cor a (pl_last c r a) := by
  unfold pl_last
  split
  · exact cor_rf
  · split
    · exact cor_rf
    · exact cor_u2 cor_rf (by omega)
theorem cor_p6 {a0 a : sg} {q : Int32} (g : cor a0 a) : cor a0 (ad_pt6 q a) := by
  unfold ad_pt6
  split
  · exact g
  · split
    · exact g
    · split
      · exact g
      · exact cor_u2 g (by omega)
theorem cor_part {a : sg} {b : Bool} : cor a (ad_part b a) := by
  unfold ad_part
  split
  · exact cor_rf
  · split
    · split
      · split
        · exact cor_p6 cor_rf
        · exact cor_p6 (cor_u2 cor_rf (by omega))
      · exact cor_p6 cor_rf
    · exact cor_rf
theorem cor_tr {a : sg} {v : Int32} : cor a (tr_last v a) := by
  unfold tr_last
  split
  · exact cor_rf
  · split
    · exact cor_rf
    · exact cor_u2 cor_rf (by omega)
theorem cor_spb {a : sg} {c n : Nat} {row x y lo hi : Int32} (h : c = 16 ∨ c = 24 ∨ c = 29) : cor a (spb c n row x y lo hi a) := by
  unfold spb
  split
  · exact cor_rf
  · split
    · exact cor_rf
    · exact cor_u2 (cor_u2 (cor_u2 (cor_u2 cor_rf (by omega)) (by omega)) (by omega)) (by omega)
theorem cor_sp {a : sg} {v : Int32} : cor a (en_sp v a) := by
  unfold en_sp
  split
  · exact cor_spb (by omega)
  · exact cor_spb (by omega)
theorem cor_where {a : sg} {s : Int32} {nm : Int64} : cor a (tk_where s nm a).2 := by
  unfold tk_where
  split
  · split
    · exact cor_rf
    · exact cor_pl (by omega)
  · split
    · exact cor_rf
    · exact cor_pl (by omega)
theorem cor_open {a : sg} {s : Int32} {nm : Int64} : cor a (tk_open s nm a).2 := by
  unfold tk_open
  split
  · exact cor_rf
  · split
    · exact cor_u2 cor_rf (by omega)
    · exact cor_u2 cor_rf (by omega)
theorem cor_span {a : sg} {s : Int32} {nm : Int64} : cor a (tk_span s nm a).2 := by
  unfold tk_span
  split
  · exact cor_rf
  · split
    · exact cor_u2 (cor_u2 cor_rf (by omega)) (by omega)
    · exact cor_u2 cor_rf (by omega)
theorem cor_trust {a : sg} {v : Int32} : cor a (tk_trust v a).2 := by
  unfold tk_trust
  split
  · exact cor_rf
  · split
    · exact cor_tr
    · exact cor_rf
theorem cor_int {a : sg} {s k v : Int32} (h : s ≠ 5) : cor a (tk_int s k v a).2 := by
  unfold tk_int
  split
  · split
    · exact cor_sp
    · exact cor_u2 cor_rf (by omega)
  · exact cor_rf
/-- names of PLACES -/
def wn (a : sg) : Prop := (0 ≤ (a.1 12 1).toInt ∧ (a.1 12 1).toInt ≤ 6) ∧ (0 ≤ (a.1 2 5).toInt ∧ (a.1 2 5).toInt ≤ 35) ∧ ∀ i, i < cnt a.1 → a.1 10 i = 1 → 0 ≤ (a.1 11 i).toInt ∧ (a.1 11 i).toInt < (a.1 12 1).toInt
def pg (a : sg) (x : Int32) : Prop := 0 ≤ x.toInt ∧ x.toInt < (a.1 12 1).toInt
def ws (s : Int32) (a : sg) : Prop := (s = 3 ∨ s = 4 → a.1 2 7 = 2) ∧ (s = 27 ∨ s = 28 ∨ s = 29 ∨ s = 30 → a.1 2 7 = 10) ∧ (s = 4 → pg a (a.1 2 8)) ∧ (s = 5 → a.1 2 7 = 2 → pg a (a.1 2 8) ∧ pg a (a.1 2 9) ∧ a.1 2 8 ≠ a.1 2 9)
def WI (s : Int32) (a : sg) : Prop := wn a ∧ wt a ∧ ws s a
theorem wn_cor {a b : sg} (h : cor a b) (k : wn a) : wn b := by
  obtain ⟨h1, h2, h3, h4, h5, h6, -⟩ := h
  obtain ⟨k1, k2, k3⟩ := k
  refine ⟨by rw [h6]; exact k1, by rw [h4]; exact k2, fun i hi hk => ?_⟩
  unfold cnt at hi
  rw [h4] at hi
  rw [h1 i] at hk
  rw [h2 i, h6]
  exact k3 i hi hk
theorem wt_cor {a b : sg} (h : cor a b) (k : wt a) : wt b := by
  obtain ⟨-, -, h3, -, -, h6, -⟩ := h
  obtain ⟨k1, k2, k3, k4⟩ := k
  exact ⟨fun x y hx hy => by rw [h3, h3]; exact k1 x y hx hy, fun x hx => by rw [h3]; exact k2 x hx, fun x y hx hy n q => by rw [h6] at q; rw [h3]; exact k3 x y hx hy n q, fun i hi => by rw [h3]; exact k4 i hi⟩
theorem fnd_1 {a : sg} {nm : Int64} (h : wn a) : ∀ m i, i + m ≤ cnt a.1 → fnd a.1 a.2 nm 1 m i ≠ -1 → pg a (fnd a.1 a.2 nm 1 m i) := by
  intro m
  induction m with
  | zero => intro i _ hn; exact absurd rfl hn
  | succ m ih =>
    intro i hm hn
    have e : fnd a.1 a.2 nm 1 (m + 1) i = (if a.2 i = nm then (if a.1 10 i = 1 then a.1 11 i else fnd a.1 a.2 nm 1 m (i + 1)) else fnd a.1 a.2 nm 1 m (i + 1)) := rfl
    rw [e] at hn ⊢
    by_cases c1 : a.2 i = nm
    · rw [if_pos c1] at hn ⊢
      by_cases c2 : a.1 10 i = 1
      · rw [if_pos c2]
        exact h.2.2 i (by omega) c2
      · rw [if_neg c2] at hn ⊢
        exact ih (i + 1) (by omega) hn
    · rw [if_neg c1] at hn ⊢
      exact ih (i + 1) (by omega) hn
theorem fd_1 {a : sg} {nm : Int64} (h : wn a) (hn : fd a nm 1 ≠ -1) : pg a (fd a nm 1) := fnd_1 h (cnt a.1) 0 (by omega) hn
/-- a way -/
theorem wt_path {a : sg} {x y v : Int32} (h : wt a) (hn : wn a) (hx : pg a x) (hy : pg a y) (xy : x ≠ y) (v0 : 0 ≤ v.toInt) (v1 : v.toInt ≤ 1440) : wt (ad_path x y v a) ∧ wn (ad_path x y v a) ∧ (ad_path x y v a).1 2 7 = a.1 2 7 := by
  have c6 : (6 : Int32).toInt = 6 := by decide
  obtain ⟨x0, x1⟩ := hx
  obtain ⟨y0, y1⟩ := hy
  have p6 := hn.1
  obtain ⟨X, eX⟩ : ∃ X : Nat, x.toInt = X := ⟨x.toInt.toNat, by omega⟩
  obtain ⟨Y, eY⟩ : ∃ Y : Nat, y.toInt = Y := ⟨y.toInt.toNat, by omega⟩
  have XY : X ≠ Y := fun e => xy (en_ofI (by omega))
  have q1 : (x * (6 : Int32)).toInt = (X : Int) * 6 := ml_mu eX c6 (by omega) (by omega)
  have q2 : ((x * (6 : Int32)) + y).toInt = ((6 * X + Y : Nat) : Int) := (ml_ad q1 eY (by omega) (by omega)).trans (by omega)
  have q3 : (y * (6 : Int32)).toInt = (Y : Int) * 6 := ml_mu eY c6 (by omega) (by omega)
  have q4 : ((y * (6 : Int32)) + x).toInt = ((6 * Y + X : Nat) : Int) := (ml_ad q3 eX (by omega) (by omega)).trans (by omega)
  have w : wt (ad_w x y v a) ∧ wn (ad_w x y v a) ∧ (ad_w x y v a).1 2 7 = a.1 2 7 := by
    have e : ad_w x y v a = u2 (u2 a 13 (6 * X + Y) v) 13 (6 * Y + X) v := by
      unfold ad_w
      rw [tk_nat q2, tk_nat q4]
    rw [e]
    have g12 : (u2 (u2 a 13 (6 * X + Y) v) 13 (6 * Y + X) v).1 12 1 = a.1 12 1 := by rw [u2_ne _ _ _ _ (by omega), u2_ne _ _ _ _ (by omega)]
    have at_ : ∀ u t : Nat, u < 6 → t < 6 → (u2 (u2 a 13 (6 * X + Y) v) 13 (6 * Y + X) v).1 13 (6 * u + t) = if (u = X ∧ t = Y) ∨ (u = Y ∧ t = X) then v else a.1 13 (6 * u + t) := fun u t hu ht => by
      by_cases c1 : u = Y ∧ t = X
      · rw [if_pos (Or.inr c1), c1.1, c1.2, u2_eq]
      · rw [u2_ne _ _ _ _ (by omega)]
        by_cases c2 : u = X ∧ t = Y
        · rw [if_pos (Or.inl c2), c2.1, c2.2, u2_eq]
        · rw [u2_ne _ _ _ _ (by omega), if_neg (by omega)]
    refine ⟨⟨fun u t hu ht => ?_, fun u hu => ?_, fun u t hu ht n q => ?_, fun i hi => ?_⟩, ⟨by rw [g12]; exact hn.1, by rw [u2_ne _ _ _ _ (by omega), u2_ne _ _ _ _ (by omega)]; exact hn.2.1, fun i hi hk => ?_⟩, by rw [u2_ne _ _ _ _ (by omega), u2_ne _ _ _ _ (by omega)]⟩
    · rw [at_ u t hu ht, at_ t u ht hu, h.1 u t hu ht]
      by_cases c : (u = X ∧ t = Y) ∨ (u = Y ∧ t = X)
      · rw [if_pos c, if_pos (by omega)]
      · rw [if_neg c, if_neg (by omega)]
    · rw [show 7 * u = 6 * u + u by omega, at_ u u hu hu, if_neg (by omega), show 6 * u + u = 7 * u by omega]
      exact h.2.1 u hu
    · rw [g12] at q
      rw [at_ u t hu ht, if_neg (by omega)]
      exact h.2.2.1 u t hu ht n q
    · have e2 : i = 6 * (i / 6) + i % 6 := by omega
      rw [e2, at_ _ _ (by omega) (by omega)]
      split
      · exact Or.inr ⟨v0, v1⟩
      · exact h.2.2.2 _ (by omega)
    · unfold cnt at hi
      rw [u2_ne _ _ _ _ (by omega), u2_ne _ _ _ _ (by omega)] at hi hk
      rw [g12, u2_ne _ _ _ _ (by omega), u2_ne _ _ _ _ (by omega)]
      exact hn.2.2 i hi hk
  unfold ad_path
  split
  · exact ⟨h, hn, rfl⟩
  · split
    · exact ⟨h, hn, rfl⟩
    · split
      · exact ⟨h, hn, rfl⟩
      · split
        · split
          · exact w
          · split
            · exact ⟨h, hn, rfl⟩
            · exact w
        · exact ⟨h, hn, rfl⟩
/-- a new name -/
theorem mnn_i {n x : Int32} (h0 : 0 ≤ n.toInt) (hx0 : 0 ≤ x.toInt) (hx : x.toInt ≤ 1000) : (mnn n x).toInt = if n.toInt < x.toInt + 1 then n.toInt else x.toInt + 1 := by
  have s := ml_in1 (x := x) (by omega)
  unfold mnn
  by_cases c : n < x + 1
  · rw [if_pos c]
    have c := kl_lt.mp c
    rw [if_pos (by omega)]
  · rw [if_neg c]
    have c := kl_nlt c
    rw [if_neg (by omega)]; exact s
theorem wi_new {a : sg} {nm : Int64} (hn : wn a) (ht : wt a) (h35 : a.1 2 5 ≠ 35 ∨ True) : wn (tk_new nm a).2 ∧ wt (tk_new nm a).2 := by
  unfold tk_new
  split
  · exact ⟨hn, ht⟩
  · split
    · exact ⟨hn, ht⟩
    · next c2 =>
      have c2 := kl_nle c2
      rw [(by decide : (35 : Int32).toInt = 35)] at c2
      have n25 := kl_nat hn.2.1.1
      have s25 := ml_in1 (x := a.1 2 5) (by omega)
      show wn (nm_add nm a) ∧ wt (nm_add nm a)
      obtain ⟨b, eb⟩ : ∃ b : sg, b = (sm_up a.1 10 (cnt a.1) (nm_kd a), nmu a.2 (cnt a.1) nm) := ⟨_, rfl⟩
      have b10 : ∀ j, b.1 10 j = if j = cnt a.1 then nm_kd a else a.1 10 j := fun j => by
        rw [eb]
        show sm_up a.1 10 (cnt a.1) (nm_kd a) 10 j = _
        by_cases c : j = cnt a.1
        · rw [if_pos c, c, en_up_eq]
        · rw [if_neg c, en_up_ne _ _ _ _ (by omega)]
      have bo : ∀ c j, c ≠ 10 → b.1 c j = a.1 c j := fun c j hc => by
        rw [eb]
        exact en_up_ne _ _ _ _ (by omega)
      have fin : ∀ (num : Int32) (d : sg), (∀ j, d.1 10 j = b.1 10 j) → (∀ j, d.1 11 j = b.1 11 j) → (∀ j, d.1 13 j = b.1 13 j) → d.1 2 5 = b.1 2 5 → ((a.1 12 1).toInt ≤ (d.1 12 1).toInt ∧ (d.1 12 1).toInt ≤ 6) → (nm_kd a = 1 → 0 ≤ num.toInt ∧ num.toInt < (d.1 12 1).toInt) → wn (u2 (u2 d 11 (cnt a.1) num) 2 5 (a.1 2 5 + 1)) ∧ wt (u2 (u2 d 11 (cnt a.1) num) 2 5 (a.1 2 5 + 1)) := by
        intro num d d10 d11 d13 d25 dp hnum
        have g12 : (u2 (u2 d 11 (cnt a.1) num) 2 5 (a.1 2 5 + 1)).1 12 1 = d.1 12 1 := by rw [u2_ne _ _ _ _ (by omega), u2_ne _ _ _ _ (by omega)]
        have g13 : ∀ j, (u2 (u2 d 11 (cnt a.1) num) 2 5 (a.1 2 5 + 1)).1 13 j = a.1 13 j := fun j => by rw [u2_ne _ _ _ _ (by omega), u2_ne _ _ _ _ (by omega), d13, bo _ _ (by omega)]
        have p0 := hn.1
        refine ⟨⟨by rw [g12]; omega, by rw [u2_eq]; omega, fun i hi hk => ?_⟩, ⟨fun x y hx hy => by rw [g13, g13]; exact ht.1 x y hx hy, fun x hx => by rw [g13]; exact ht.2.1 x hx, fun x y hx hy n q => ?_, fun i hi => by rw [g13]; exact ht.2.2.2 i hi⟩⟩
        · have ci : cnt (u2 (u2 d 11 (cnt a.1) num) 2 5 (a.1 2 5 + 1)).1 = cnt a.1 + 1 := by
            unfold cnt
            rw [u2_eq]
            have := kl_nat (i := a.1 2 5 + 1) (by omega)
            omega
          rw [ci] at hi
          rw [u2_ne _ _ _ _ (by omega), u2_ne _ _ _ _ (by omega), d10, b10] at hk
          rw [g12, u2_ne _ _ _ _ (by omega)]
          by_cases c : i = cnt a.1
          · rw [if_pos c] at hk
            rw [c, u2_eq]; exact hnum hk
          · rw [if_neg c] at hk
            rw [u2_ne _ _ _ _ (by omega), d11, bo _ _ (by omega)]
            have := hn.2.2 i (by omega) hk
            omega
        · rw [g12] at q
          rw [g13]; exact ht.2.2.1 x y hx hy n (by omega)
      have p0 := hn.1
      have b12 : b.1 12 1 = a.1 12 1 := bo _ _ (by decide)
      unfold nm_add
      rw [← eb]
      have nk1 : ∀ {n : Int32}, n.toInt ≠ 1 → n ≠ 1 := fun {n} h e => h (by rw [e]; decide)
      unfold nb_new
      split
      · next k0 =>
        refine fin _ _ (fun j => by rw [u2_ne _ _ _ _ (by omega)]) (fun j => by rw [u2_ne _ _ _ _ (by omega)]) (fun j => by rw [u2_ne _ _ _ _ (by omega)]) (by rw [u2_ne _ _ _ _ (by omega)]) (by rw [u2_ne _ _ _ _ (by omega), b12]; omega) (fun e => absurd e (nk1 (by omega)))
      · split
        · next k0 k1 =>
          have m6 := mnn_i (n := 6) (x := b.1 12 1) (by decide) (by rw [b12]; omega) (by rw [b12]; omega)
          rw [b12, (by decide : (6 : Int32).toInt = 6)] at m6
          have s6 : (mnn 6 (b.1 12 1) - 1).toInt = (mnn 6 (b.1 12 1)).toInt - 1 := by
            rw [b12, Int32.toInt_sub, kl_1]
            exact en_bmod (by split at m6 <;> omega) (by split at m6 <;> omega) (Or.inl rfl)
          refine fin _ _ (fun j => by rw [u2_ne _ _ _ _ (by omega)]) (fun j => by rw [u2_ne _ _ _ _ (by omega)]) (fun j => by rw [u2_ne _ _ _ _ (by omega)]) (by rw [u2_ne _ _ _ _ (by omega)]) (by rw [u2_eq, b12]; split at m6 <;> omega) (fun _ => by rw [u2_eq, s6, b12]; split at m6 <;> omega)
        · split
          · refine fin _ _ (fun j => by rw [u2_ne _ _ _ _ (by omega)]) (fun j => by rw [u2_ne _ _ _ _ (by omega)]) (fun j => by rw [u2_ne _ _ _ _ (by omega)]) (by rw [u2_ne _ _ _ _ (by omega)]) (by rw [u2_ne _ _ _ _ (by omega), b12]; omega) (fun e => absurd e (nk1 (by omega)))
          · split
            · refine fin _ _ (fun j => by rw [u2_ne _ _ _ _ (by omega)]) (fun j => by rw [u2_ne _ _ _ _ (by omega)]) (fun j => by rw [u2_ne _ _ _ _ (by omega)]) (by rw [u2_ne _ _ _ _ (by omega)]) (by rw [u2_ne _ _ _ _ (by omega), b12]; omega) (fun e => absurd e (nk1 (by omega)))
            · have sn : ∀ t : Bool, cor b (sy_new t b) := fun t => by
                unfold sy_new
                split
                · refine cor_u2 (cor_u2 (cor_u2 ?_ (by omega)) (by omega)) (by omega)
                  split
                  · exact cor_u2 cor_rf (by omega)
                  · exact cor_rf
                · exact cor_rf
              obtain ⟨c1, c2, c3, c4, -, c6, -⟩ := sn (decide (b.1 2 7 = 8))
              exact fin _ _ c1 c2 c3 c4 (by rw [c6, b12]; omega) (fun e => absurd e (nk1 (by omega)))
/-- one TOKEN -/
theorem ms_wi {s k : Int32} {v : Int64} {a : sg} (h : WI s a) (hv : k = 16 → 0 ≤ v.toInt) (h0 : (ms s k v a).1 = 0) : WI (fw s k) (ms s k v a).2 := by
  obtain ⟨hn, ht, hs⟩ := h
  obtain ⟨g0, e0⟩ : ¬ (k = 16 ∧ ¬ lg_cmp v 1440 ≤ 0) ∧ ms s k v a = tk_take s k v a := by
    unfold ms at h0 ⊢
    by_cases c : k = 16 ∧ ¬ lg_cmp v 1440 ≤ 0
    · rw [if_pos c] at h0; exact absurd h0 (by show ¬ (5 : Int32) = 0; decide)
    · exact ⟨c, by rw [if_neg c]⟩
  rw [e0] at h0 ⊢
  have iv : ∀ {n : Int32} {m : Int}, s.toInt = m → n.toInt = m → s = n := fun e f => en_ofI (by rw [e, f])
  -- where nothing of a way is under way behind the step
  have far : ∀ b : sg, wn b → wt b → (∀ x : Int32, s = x → x ≠ 0 ∧ x ≠ 3 ∧ x ≠ 4 ∧ x ≠ 27 ∧ x ≠ 28 ∧ x ≠ 29 ∧ x ≠ 30) → WI (fw s k) b := fun b b1 b2 nx => by
    obtain ⟨n0, n3, n4, n27, n28, n29, n30⟩ := nx s rfl
    refine ⟨b1, b2, fun q => ?_, fun q => ?_, fun q => ?_, fun q => ?_⟩
    · rcases q with q | q
      · obtain ⟨i, i1, i2, i3, i4⟩ := fw_f q (by decide)
        exact absurd (i2.symm.trans (st_3 i i1 i4).1) n0
      · obtain ⟨i, i1, i2, i3, i4⟩ := fw_f q (by decide)
        exact absurd (i2.symm.trans (st_4 i i1 i4)) n3
    · rcases q with q | q | q | q
      · obtain ⟨i, i1, i2, i3, i4⟩ := fw_f q (by decide)
        exact absurd (i2.symm.trans ((st_o i i1).1 i4).1) n0
      · obtain ⟨i, i1, i2, i3, i4⟩ := fw_f q (by decide)
        exact absurd (i2.symm.trans ((st_o i i1).2.1 i4)) n27
      · obtain ⟨i, i1, i2, i3, i4⟩ := fw_f q (by decide)
        exact absurd (i2.symm.trans ((st_o i i1).2.2.1 i4)) n28
      · obtain ⟨i, i1, i2, i3, i4⟩ := fw_f q (by decide)
        exact absurd (i2.symm.trans ((st_o i i1).2.2.2 i4)) n29
    · obtain ⟨i, i1, i2, i3, i4⟩ := fw_f q (by decide)
      exact absurd (i2.symm.trans (st_4 i i1 i4)) n3
    · obtain ⟨i, i1, i2, i3, i4⟩ := fw_f q (by decide)
      rcases st_5 i i1 i4 with e | e
      · exact absurd (i2.symm.trans e) n4
      · exact absurd (i2.symm.trans e) n30
  have farc : ∀ b : sg, cor a b → (∀ x : Int32, s = x → x ≠ 0 ∧ x ≠ 3 ∧ x ≠ 4 ∧ x ≠ 27 ∧ x ≠ 28 ∧ x ≠ 29 ∧ x ≠ 30) → WI (fw s k) b := fun b c nx => far b (wn_cor c hn) (wt_cor c ht) nx
  -- open: the tell stays open
  have opn : ∀ b : sg, cor a b → s = 27 ∨ s = 28 ∨ s = 29 ∨ s = 30 → WI (fw s k) b := fun b c so => by
    have t7 : b.1 2 7 = 10 := by rw [c.2.2.2.2.1]; exact hs.2.1 so
    have n4 : ∀ x, x = 4 → fw s k ≠ x := fun x e q => by
      subst e
      obtain ⟨i, i1, i2, i3, i4⟩ := fw_f q (by decide)
      have := i2.symm.trans (st_4 i i1 i4)
      rw [this] at so
      revert so; decide
    refine ⟨wn_cor c hn, wt_cor c ht, fun q => ?_, fun _ => t7, fun q => absurd q (n4 4 rfl), fun q t2 => ?_⟩
    · rcases q with q | q
      · obtain ⟨i, i1, i2, i3, i4⟩ := fw_f q (by decide)
        have := i2.symm.trans (st_3 i i1 i4).1
        rw [this] at so
        exact absurd so (by decide)
      · exact absurd q (n4 4 rfl)
    · rw [t7] at t2
      exact absurd t2 (by decide)
  have nfar : ∀ (m : Int), s.toInt = m → m ≠ 0 → m ≠ 3 → m ≠ 4 → m ≠ 27 → m ≠ 28 → m ≠ 29 → m ≠ 30 → ∀ x : Int32, s = x → x ≠ 0 ∧ x ≠ 3 ∧ x ≠ 4 ∧ x ≠ 27 ∧ x ≠ 28 ∧ x ≠ 29 ∧ x ≠ 30 := fun m e a1 a2 a3 a4 a5 a6 a7 x ex => by
    subst ex
    refine ⟨fun q => a1 ?_, fun q => a2 ?_, fun q => a3 ?_, fun q => a4 ?_, fun q => a5 ?_, fun q => a6 ?_, fun q => a7 ?_⟩ <;> rw [← e, q] <;> decide
  unfold tk_take at h0 ⊢
  by_cases c0 : s.toInt = 0
  · rw [if_pos c0] at h0 ⊢
    show WI (fw s k) (u2 a 2 7 k)
    have es : s = 0 := iv c0 (by decide)
    have w1 : wn (u2 a 2 7 k) := ⟨by rw [u2_ne _ _ _ _ (by omega)]; exact hn.1, by rw [u2_ne _ _ _ _ (by omega)]; exact hn.2.1, fun i hi hk => by
      unfold cnt at hi
      rw [u2_ne _ _ _ _ (by omega)] at hi hk
      rw [u2_ne _ _ _ _ (by omega), u2_ne _ _ _ _ (by omega)]
      exact hn.2.2 i hi hk⟩
    have w2 : wt (u2 a 2 7 k) := ⟨fun x y hx hy => by rw [u2_ne _ _ _ _ (by omega), u2_ne _ _ _ _ (by omega)]; exact ht.1 x y hx hy, fun x hx => by rw [u2_ne _ _ _ _ (by omega)]; exact ht.2.1 x hx, fun x y hx hy n q => by
      rw [u2_ne _ _ _ _ (by omega)] at q
      rw [u2_ne _ _ _ _ (by omega)]; exact ht.2.2.1 x y hx hy n q, fun i hi => by rw [u2_ne _ _ _ _ (by omega)]; exact ht.2.2.2 i hi⟩
    refine ⟨w1, w2, fun q => ?_, fun q => ?_, fun q => ?_, fun q => ?_⟩
    · rw [u2_eq]
      rcases q with q | q
      · obtain ⟨i, i1, i2, i3, i4⟩ := fw_f q (by decide)
        exact i3.symm.trans (st_3 i i1 i4).2
      · obtain ⟨i, i1, i2, i3, i4⟩ := fw_f q (by decide)
        exact absurd ((i2.symm.trans (st_4 i i1 i4)).symm.trans es) (by decide)
    · rw [u2_eq]
      rcases q with q | q | q | q
      · obtain ⟨i, i1, i2, i3, i4⟩ := fw_f q (by decide)
        exact i3.symm.trans ((st_o i i1).1 i4).2
      · obtain ⟨i, i1, i2, i3, i4⟩ := fw_f q (by decide)
        exact absurd ((i2.symm.trans ((st_o i i1).2.1 i4)).symm.trans es) (by decide)
      · obtain ⟨i, i1, i2, i3, i4⟩ := fw_f q (by decide)
        exact absurd ((i2.symm.trans ((st_o i i1).2.2.1 i4)).symm.trans es) (by decide)
      · obtain ⟨i, i1, i2, i3, i4⟩ := fw_f q (by decide)
        exact absurd ((i2.symm.trans ((st_o i i1).2.2.2 i4)).symm.trans es) (by decide)
    · obtain ⟨i, i1, i2, i3, i4⟩ := fw_f q (by decide)
      exact absurd ((i2.symm.trans (st_4 i i1 i4)).symm.trans es) (by decide)
    · obtain ⟨i, i1, i2, i3, i4⟩ := fw_f q (by decide)
      rcases st_5 i i1 i4 with e | e
      · exact absurd ((i2.symm.trans e).symm.trans es) (by decide)
      · exact absurd ((i2.symm.trans e).symm.trans es) (by decide)
  rw [if_neg c0] at h0 ⊢
  by_cases c1 : s.toInt = 1 ∨ s.toInt = 6 ∨ s.toInt = 11 ∨ s.toInt = 14 ∨ s.toInt = 15
  · rw [if_pos c1] at h0 ⊢
    obtain ⟨b1, b2⟩ := wi_new (nm := v) hn ht (Or.inr trivial)
    exact far _ b1 b2 (nfar s.toInt rfl (by omega) (by omega) (by omega) (by omega) (by omega) (by omega) (by omega))
  rw [if_neg c1] at h0 ⊢
  by_cases c2 : s.toInt = 3 ∨ s.toInt = 4
  · rw [if_pos c2] at h0 ⊢
    unfold tk_path at h0 ⊢
    by_cases f1 : fd a v 1 = -1
    · rw [if_pos f1] at h0; exact absurd h0 (by show ¬ (4 : Int32) = 0; decide)
    rw [if_neg f1] at h0 ⊢
    have pf := fd_1 hn f1
    have t7 : a.1 2 7 = 2 := hs.1 (c2.elim (fun e => Or.inl (iv e (by decide))) (fun e => Or.inr (iv e (by decide))))
    by_cases s3 : s = 3
    · rw [if_pos s3] at h0 ⊢
      show WI (fw s k) (u2 a 2 8 (fd a v 1))
      have c := cor_u2 (a0 := a) (a := a) (c := 2) (j := 8) (v := fd a v 1) cor_rf (by omega)
      have w7 : (u2 a 2 8 (fd a v 1)).1 2 7 = 2 := c.2.2.2.2.1.trans t7
      refine ⟨wn_cor c hn, wt_cor c ht, fun _ => w7, fun q => ?_, fun _ => ?_, fun q => ?_⟩
      · rcases q with q | q | q | q
        · obtain ⟨i, i1, i2, i3, i4⟩ := fw_f q (by decide)
          exact absurd ((i2.symm.trans ((st_o i i1).1 i4).1).symm.trans s3) (by decide)
        · obtain ⟨i, i1, i2, i3, i4⟩ := fw_f q (by decide)
          exact absurd ((i2.symm.trans ((st_o i i1).2.1 i4)).symm.trans s3) (by decide)
        · obtain ⟨i, i1, i2, i3, i4⟩ := fw_f q (by decide)
          exact absurd ((i2.symm.trans ((st_o i i1).2.2.1 i4)).symm.trans s3) (by decide)
        · obtain ⟨i, i1, i2, i3, i4⟩ := fw_f q (by decide)
          exact absurd ((i2.symm.trans ((st_o i i1).2.2.2 i4)).symm.trans s3) (by decide)
      · rw [u2_eq]
        unfold pg
        rw [c.2.2.2.2.2.1]; exact pf
      · obtain ⟨i, i1, i2, i3, i4⟩ := fw_f q (by decide)
        rcases st_5 i i1 i4 with e | e
        · exact absurd ((i2.symm.trans e).symm.trans s3) (by decide)
        · exact absurd ((i2.symm.trans e).symm.trans s3) (by decide)
    · rw [if_neg s3] at h0 ⊢
      have s4 : s = 4 := c2.elim (fun e => absurd (iv e (by decide)) s3) (fun e => iv e (by decide))
      by_cases e8 : a.1 2 8 = fd a v 1
      · rw [if_pos e8] at h0; exact absurd h0 (by show ¬ (5 : Int32) = 0; decide)
      rw [if_neg e8] at h0 ⊢
      show WI (fw s k) (u2 a 2 9 (fd a v 1))
      have c := cor_u2 (a0 := a) (a := a) (c := 2) (j := 9) (v := fd a v 1) cor_rf (by omega)
      have w7 : (u2 a 2 9 (fd a v 1)).1 2 7 = 2 := c.2.2.2.2.1.trans t7
      refine ⟨wn_cor c hn, wt_cor c ht, fun _ => w7, fun q => ?_, fun q => ?_, fun _ _ => ?_⟩
      · rcases q with q | q | q | q
        · obtain ⟨i, i1, i2, i3, i4⟩ := fw_f q (by decide)
          exact absurd ((i2.symm.trans ((st_o i i1).1 i4).1).symm.trans s4) (by decide)
        · obtain ⟨i, i1, i2, i3, i4⟩ := fw_f q (by decide)
          exact absurd ((i2.symm.trans ((st_o i i1).2.1 i4)).symm.trans s4) (by decide)
        · obtain ⟨i, i1, i2, i3, i4⟩ := fw_f q (by decide)
          exact absurd ((i2.symm.trans ((st_o i i1).2.2.1 i4)).symm.trans s4) (by decide)
        · obtain ⟨i, i1, i2, i3, i4⟩ := fw_f q (by decide)
          exact absurd ((i2.symm.trans ((st_o i i1).2.2.2 i4)).symm.trans s4) (by decide)
      · obtain ⟨i, i1, i2, i3, i4⟩ := fw_f q (by decide)
        exact absurd ((i2.symm.trans (st_4 i i1 i4)).symm.trans s4) (by decide)
      · have g8 := hs.2.2.1 s4
        unfold pg at g8 ⊢
        rw [c.2.2.2.2.2.1, u2_ne _ _ _ _ (by omega), u2_eq]
        exact ⟨g8, pf, e8⟩
  rw [if_neg c2] at h0 ⊢
  by_cases c3 : s.toInt = 8 ∨ s.toInt = 10
  · rw [if_pos c3] at h0 ⊢
    exact farc _ cor_where (nfar s.toInt rfl (by omega) (by omega) (by omega) (by omega) (by omega) (by omega) (by omega))
  rw [if_neg c3] at h0 ⊢
  by_cases c4 : s.toInt = 27 ∨ s.toInt = 29
  · rw [if_pos c4] at h0 ⊢
    exact opn _ cor_open (c4.elim (fun e => Or.inl (iv e (by decide))) (fun e => Or.inr (Or.inr (Or.inl (iv e (by decide))))))
  rw [if_neg c4] at h0 ⊢
  by_cases c5 : s.toInt = 17 ∨ s.toInt = 20
  · rw [if_pos c5] at h0 ⊢
    exact farc _ cor_span (nfar s.toInt rfl (by omega) (by omega) (by omega) (by omega) (by omega) (by omega) (by omega))
  rw [if_neg c5] at h0 ⊢
  by_cases c6 : s.toInt = 26
  · rw [if_pos c6] at h0 ⊢
    refine farc _ ?_ (nfar s.toInt rfl (by omega) (by omega) (by omega) (by omega) (by omega) (by omega) (by omega))
    show cor a (if k = 9 then ad_part true a else if k = 13 then ad_part false a else a)
    split
    · exact cor_part
    · split
      · exact cor_part
      · exact cor_rf
  rw [if_neg c6] at h0 ⊢
  by_cases c7 : s.toInt = 13
  · rw [if_pos c7] at h0 ⊢
    exact farc _ cor_trust (nfar s.toInt rfl (by omega) (by omega) (by omega) (by omega) (by omega) (by omega) (by omega))
  rw [if_neg c7] at h0 ⊢
  by_cases s5 : s = 5
  · have m5 : s.toInt = 5 := by rw [s5]; decide
    unfold tk_int at h0 ⊢
    by_cases k16 : k = 16
    · rw [if_pos k16, if_pos s5] at h0 ⊢
      show WI (fw s k) (en_po (sg_n s v.toInt32) a)
      have v1 : v.toInt ≤ 1440 := by
        have : lg_cmp v 1440 ≤ 0 := Decidable.byContradiction (fun q => g0 ⟨k16, q⟩)
        have := lg_le.mp this
        rw [(by decide : (1440 : Int64).toInt = 1440)] at this
        exact this
      have v0 := hv k16
      have vi : v.toInt32.toInt = v.toInt := by
        rw [Int64.toInt_toInt32]
        exact en_bmod (by omega) (by omega) (Or.inl rfl)
      have sn : sg_n s v.toInt32 = v.toInt32 := by
        unfold sg_n
        rw [s5, if_neg (by decide), if_neg (by decide)]
      rw [sn]
      unfold en_po
      by_cases t2 : a.1 2 7 = 2
      · rw [if_pos t2]
        obtain ⟨p1, p2, p3⟩ := hs.2.2.2 s5 t2
        obtain ⟨w1, w2, -⟩ := wt_path ht hn p1 p2 p3 (by rw [vi]; exact v0) (by rw [vi]; exact v1)
        exact far _ w2 w1 (nfar 5 m5 (by decide) (by decide) (by decide) (by decide) (by decide) (by decide) (by decide))
      · rw [if_neg t2]
        exact farc _ (cor_spb (by omega)) (nfar 5 m5 (by decide) (by decide) (by decide) (by decide) (by decide) (by decide) (by decide))
    · rw [if_neg k16]
      exact farc _ cor_rf (nfar 5 m5 (by decide) (by decide) (by decide) (by decide) (by decide) (by decide) (by decide))
  · by_cases so : s = 28 ∨ s = 30
    · exact opn _ (cor_int s5) (so.elim (fun e => Or.inr (Or.inl e)) (fun e => Or.inr (Or.inr (Or.inr e))))
    · refine farc _ (cor_int s5) (nfar s.toInt rfl (by omega) (by omega) (by omega) (by omega) (fun e => so (Or.inl (iv e (by decide)))) (by omega) (fun e => so (Or.inr (iv e (by decide)))))
theorem ME_wi {K : Nat → Int32} {V : Nat → Int64} (hV : ∀ i, K i = 16 → 0 ≤ (V i).toInt) : ∀ (m t : Nat) (s : Int32) (a : sg), WI s a → (ME K V m t s a).1 = none → ∃ s', WI s' (ME K V m t s a).2 := by
  intro m
  induction m with
  | zero => intro t s a h _; exact ⟨s, h⟩
  | succ m ih =>
    intro t s a h h0
    have e : ME K V (m + 1) t s a = (if K t = 21 then (none, a) else if (ms s (K t) (V t) a).1 = 0 then ME K V m (t + 1) (fw s (K t)) (ms s (K t) (V t) a).2 else (some ((ms s (K t) (V t) a).1, t), a)) := rfl
    rw [e] at h0 ⊢
    by_cases c : K t = 21
    · rw [if_pos c]; exact ⟨s, h⟩
    · rw [if_neg c] at h0 ⊢
      by_cases c2 : (ms s (K t) (V t) a).1 = 0
      · rw [if_pos c2] at h0 ⊢
        exact ih (t + 1) _ _ (ms_wi h (hV t) c2) h0
      · rw [if_neg c2] at h0
        cases h0
theorem WI_0 {a : sg} (h : ini a) : WI 0 a := by
  obtain ⟨a1, a2, -, -, -, a6⟩ := h
  have p : a.1 12 1 = 0 := a2 1 (by decide)
  refine ⟨⟨by rw [p]; decide, by rw [a1]; decide, fun i hi => ?_⟩, ⟨fun x y hx hy => ?_, fun x hx => ?_, fun x y hx hy n _ => ?_, fun i hi => ?_⟩, fun q => absurd q (by decide), fun q => absurd q (by decide), fun q => absurd q (by decide), fun q => absurd q (by decide)⟩
  · unfold cnt at hi
    rw [a1] at hi
    exact absurd hi (Nat.not_lt_zero i)
  · rw [a6 _ (by omega), a6 _ (by omega)]
    by_cases c : (6 * x + y) % 7 = 0
    · rw [if_pos c, if_pos (by omega)]
    · rw [if_neg c, if_neg (by omega)]
  · rw [a6 _ (by omega), if_pos (by omega)]
  · rw [a6 _ (by omega), if_neg (by omega)]
  · rw [a6 i hi]
    split
    · exact Or.inr (by decide)
    · exact Or.inl rfl
theorem tk_V {b : Nat → Int32} {n : Nat} : ∀ i, tk_K b n i = 16 → 0 ≤ (tk_vl b n (tk_at b n i)).toInt := fun i q => by
  have lt : tk_at b n i < n := by
    rcases Nat.lt_or_ge (tk_at b n i) n with y | y
    · exact y
    · rw [tk_K_21.mpr y] at q
      exact absurd q (by decide)
  have kd : tk_K b n i = tk_kd b n (tk_at b n i) := by unfold tk_K; rw [if_pos lt]
  rw [kd] at q
  obtain ⟨v, v1, v2, -⟩ := in_eq q
  rw [v2]; omega
theorem wt_nv {a : sg} (h : wt a) {i : Nat} (hi : i < 36) : -1 ≤ nv (a.1 13 i) ∧ nv (a.1 13 i) ≤ 1440 := by
  rcases h.2.2.2 i hi with c | c
  · rw [c]; decide
  · unfold nv
    rw [if_neg (by omega)]; omega
theorem wt_WB {a : sg} (h : wt a) : WB 1440 (fun i => nv (a.1 13 i)) := ⟨fun i hi => wt_nv h hi, fun x hx => by
  show nv (a.1 13 (7 * x)) = 0
  rw [h.2.1 x hx]; decide⟩
theorem wt_WS {a : sg} (hn : wn a) (h : wt a) : WS (a.1 12 1).toNatClampNeg (fun i => nv (a.1 13 i)) := by
  have p := kl_nat hn.1.1
  refine ⟨fun x y hx hy => ?_, fun x y hx hy n q => ?_⟩
  · show nv (a.1 13 (6 * x + y)) = nv (a.1 13 (6 * y + x))
    rw [h.1 x y hx hy]
  · show nv (a.1 13 (6 * x + y)) = -1
    rw [h.2.2.1 x y hx hy n (by omega)]; decide
