/-! the class's findWalks with into = 12, exact (wip/pe/mkwk.py) -/
section
variable {S : sm_C} {d : Nat} {Φ : sm_Z → Prop} {I : sm_I} {L : sm_L} {R : sm_R}
def w12ok (I : sm_I) : Prop := ∀ i, i < 36 → I 13 i = -2 ∨ 0 ≤ (I 13 i).toInt
theorem w12_wb {x y : Int32} {a b : Nat} (hx : x.toInt = a) (hy : y.toInt = b) (ha : a < 6) (hb : b < 6) (h : Φ (some (.int (I 13 (6 * a + b))), (xLay, I, L, kQ12 R))) : sm_wp sm_P S d 27 0 [.ref 12, .int x, .int y] [] (xLay, I, L, kQ12 R) (0, 0) Φ := by
  have c6 : (6 : Int32).toInt = 6 := by decide
  have q1 : (x * (6 : Int32)).toInt = (a : Int) * 6 := ml_mu hx c6 (by omega) (by omega)
  have q2 : ((x * (6 : Int32)) + y).toInt = ((6 * a + b : Nat) : Int) := (ml_ad q1 hy (by omega) (by omega)).trans (by omega)
  refine s12_X10_walkBetween_0 ⟨fun k => ?_, fun _ => ⟨fun k => ?_, fun _ => ⟨fun k => ?_, fun _ => ⟨fun _ => ⟨kl_in (by omega) (by omega), ?_⟩, fun k => ?_⟩⟩⟩⟩
  · have k := kl_lt.mp k
    rw [kl_0] at k; omega
  · have k := kl_le.mp k
    omega
  · have k := kl_lt.mp k
    rw [kl_0] at k; omega
  · rw [tk_nat q2]; exact h
  · have k := kl_nlt k
    omega
/-- a way that is no better changes nothing; a better one is laid both ways -/
theorem w12_ap {x y v : Int32} {a b : Nat} (hx : x.toInt = a) (hy : y.toInt = b) (ha : a < 6) (hb : b < 6) (h0 : ¬ (I 13 (6 * a + b)).toInt < 0 → (I 13 (6 * a + b)).toInt ≤ v.toInt → Φ (none, (xLay, I, L, kQ12 R))) (h1 : (I 13 (6 * a + b)).toInt < 0 ∨ v.toInt < (I 13 (6 * a + b)).toInt → Φ (none, (xLay, sm_up (sm_up I 13 (6 * a + b) v) 13 (6 * b + a) v, L, kQ12 R))) : sm_wp sm_P S d 13 0 [.ref 12, .int x, .int y, .int v] [] (xLay, I, L, kQ12 R) (0, 0) Φ := by
  have c6 : (6 : Int32).toInt = 6 := by decide
  have q1 : (x * (6 : Int32)).toInt = (a : Int) * 6 := ml_mu hx c6 (by omega) (by omega)
  have q2 : ((x * (6 : Int32)) + y).toInt = ((6 * a + b : Nat) : Int) := (ml_ad q1 hy (by omega) (by omega)).trans (by omega)
  have q3 : (y * (6 : Int32)).toInt = (b : Int) * 6 := ml_mu hy c6 (by omega) (by omega)
  have q4 : ((y * (6 : Int32)) + x).toInt = ((6 * b + a : Nat) : Int) := (ml_ad q3 hx (by omega) (by omega)).trans (by omega)
  have m2 := tk_nat q2
  have m4 := tk_nat q4
  refine s12_X10_addPath_0 ⟨fun k => ?_, fun _ => ⟨fun k => ?_, fun _ => ⟨fun k => ?_, fun _ => ⟨fun _ => ⟨kl_in (by omega) (by omega), fun n1 e1 => ?_⟩, fun k => ?_⟩⟩⟩⟩
  · have k := kl_lt.mp k
    rw [kl_0] at k; omega
  · have k := kl_le.mp k
    omega
  · have k := kl_lt.mp k
    rw [kl_0] at k; omega
  · rw [m2] at e1
    rw [m2, m4]
    refine ⟨fun k => ⟨kl_in (by omega) (by omega), fun I2 e2 => ⟨kl_in (by omega) (by omega), fun I3 e3 => ?_⟩⟩, fun k => ⟨fun k2 => ?_, fun k2 => ⟨kl_in (by omega) (by omega), fun I2 e2 => ⟨kl_in (by omega) (by omega), fun I3 e3 => ?_⟩⟩⟩⟩
    · have k := kl_lt.mp k
      rw [kl_0, e1] at k
      rw [e3, e2]; exact h1 (Or.inl k)
    · have k := kl_nlt k
      have k2 := kl_le.mp k2
      rw [kl_0, e1] at k
      rw [e1] at k2
      exact h0 (by omega) k2
    · have k2 := kl_nle k2
      rw [e1] at k2
      rw [e3, e2]; exact h1 (Or.inr k2)
  · have k := kl_nlt k
    omega
def w12st (p k a b : Nat) (T : Nat → Int) (I0 I : sm_I) : Prop := w12ok I ∧ (∀ u v, u < 6 → v < 6 → v < u → ((u < p ∧ (u < a ∨ (u = a ∧ v < b))) → nv (I 13 (6 * u + v)) = Fn k T (6 * u + v) ∧ nv (I 13 (6 * v + u)) = Fn k T (6 * v + u)) ∧ (¬ (u < p ∧ (u < a ∨ (u = a ∧ v < b))) → nv (I 13 (6 * u + v)) = T (6 * u + v) ∧ nv (I 13 (6 * v + u)) = T (6 * v + u))) ∧ (∀ u, u < 6 → nv (I 13 (7 * u)) = T (7 * u)) ∧ ∀ c j, c ≠ 13 → I c j = I0 c j
theorem w12st_at {p k a b : Nat} {T : Nat → Int} {I0 I : sm_I} (hT : WB 100000 T) (hk : k < 6) (h : w12st p k a b T I0 I) : (∀ u, u < 6 → nv (I 13 (6 * u + k)) = T (6 * u + k)) ∧ ∀ v, v < 6 → nv (I 13 (6 * k + v)) = T (6 * k + v) := by
  obtain ⟨-, h2, h3, -⟩ := h
  have both : ∀ u v, u < 6 → v < 6 → (u = k ∨ v = k) → nv (I 13 (6 * u + v)) = T (6 * u + v) := fun u v hu hv c => by
    have fx : Fn k T (6 * u + v) = T (6 * u + v) := by
      rcases c with c | c
      · rw [c]; exact Fn_col hk hv hT
      · rw [c]; exact Fn_row hk hT
    rcases Nat.lt_trichotomy u v with l | l | l
    · obtain ⟨g1, g2⟩ := h2 v u hv hu l
      by_cases q : v < p ∧ (v < a ∨ (v = a ∧ u < b))
      · rw [(g1 q).2, fx]
      · exact (g2 q).2
    · subst l
      have := h3 u hu
      rw [show 6 * u + u = 7 * u by omega]; exact this
    · obtain ⟨g1, g2⟩ := h2 u v hu hv l
      by_cases q : u < p ∧ (u < a ∨ (u = a ∧ v < b))
      · rw [(g1 q).1, fx]
      · exact (g2 q).1
  exact ⟨fun u hu => both u k hu hk (Or.inr rfl), fun v hv => both k v hk hv (Or.inl rfl)⟩
theorem w12_5 {I0 : sm_I} {T : Nat → Int} {p k a : Nat} (hp : p ≤ 6) (hk : k < 6) (ha : a < p) (hT : WB 100000 T) (hS : WS p T) (h : ∀ (J : sm_I) (x1 x2 : Int32), x1.toInt = k → x2.toInt = a → w12st p k (a + 1) 0 T I0 J → sm_wp sm_P S (d + 1) 18 3 [.ref 12, .int x1, .int (x2 + (1 : Int32))] [] (xLay, J, L, (kQ12 R)) (0, 0) Φ) : ∀ (m b : Nat) (I : sm_I) (x1 x2 x3 : Int32), x1.toInt = k → x2.toInt = a → x3.toInt = b → b + m = a → w12st p k a b T I0 I → sm_wp sm_P S (d + 1) 18 5 [.ref 12, .int x1, .int x2, .int x3] [] (xLay, I, L, (kQ12 R)) (0, 0) Φ := by
  intro m
  induction m with
  | zero =>
    intro b I x1 x2 x3 h1 h2 h3 hm hI
    have e : b = a := by omega
    subst e
    refine s12_X10_findWalks_5 ⟨fun _ => h I x1 x2 h1 h2 ⟨hI.1, fun u v hu hv l => ?_, hI.2.2⟩, fun q => ?_⟩
    · obtain ⟨g1, g2⟩ := hI.2.1 u v hu hv l
      exact ⟨fun q => g1 (by omega), fun q => g2 (by omega)⟩
    · have q := kl_nle q
      omega
  | succ m ih =>
    intro b I x1 x2 x3 h1 h2 h3 hm hI
    have s3 := ml_in1 (x := x3) (by omega)
    obtain ⟨r1, r2⟩ := w12st_at hT hk hI
    have t1 := r1 a (by omega)
    have t2 := r2 b (by omega)
    have ab := hI.2.1 a b (by omega) (by omega) (by omega)
    have t3 := (ab.2 (by omega)).1
    have t4 := (ab.2 (by omega)).2
    have e1 : (6 * a + b) / 6 = a := by omega
    have e2 : (6 * a + b) % 6 = b := by omega
    have symF := (WS_Fn hk hT hS).1 a b (by omega) (by omega)
    have symT := hS.1 a b (by omega) (by omega)
    have B1 := hT.1 (6 * a + k) (by omega)
    have B2 := hT.1 (6 * k + b) (by omega)
    have B3 := hT.1 (6 * a + b) (by omega)
    have ok1 := hI.1 (6 * a + k) (by omega)
    have ok2 := hI.1 (6 * k + b) (by omega)
    have ok3 := hI.1 (6 * a + b) (by omega)
    have same : Fn k T (6 * a + b) = T (6 * a + b) → sm_wp sm_P S (d + 1) 18 5 [.ref 12, .int x1, .int x2, .int (x3 + (1 : Int32))] [] (xLay, I, L, (kQ12 R)) (0, 0) Φ := fun e => ih (b + 1) I x1 x2 _ h1 h2 (by omega) (by omega) ⟨hI.1, fun u v hu hv l => by
      obtain ⟨g1, g2⟩ := hI.2.1 u v hu hv l
      refine ⟨fun q => ?_, fun q => g2 (by omega)⟩
      by_cases c : u = a ∧ v = b
      · obtain ⟨c1, c2⟩ := c
        subst c1; subst c2
        exact ⟨by rw [t3, e], by rw [t4, ← symF, e, symT]⟩
      · exact g1 (by omega), hI.2.2⟩
    refine s12_X10_findWalks_5 ⟨fun q => ?_, fun _ => w12_wb h2 h1 (by omega) (by omega) ⟨_, I, L, rfl, w12_wb h1 h3 (by omega) (by omega) ⟨_, I, L, rfl, fun c => ?_, fun c => ⟨fun c2 => ?_, fun c2 => ?_⟩⟩⟩⟩
    · have q := kl_le.mp q
      omega
    · have c := kl_lt.mp c
      rw [kl_0] at c
      unfold nv at t1
      rw [if_pos c] at t1
      refine same ?_
      unfold Fn
      rw [e1, e2, if_pos (by omega)]
    · have c := kl_nlt c
      have c2 := kl_lt.mp c2
      rw [kl_0] at c c2
      unfold nv at t1 t2
      rw [if_neg (by omega)] at t1
      rw [if_pos c2] at t2
      refine same ?_
      unfold Fn
      rw [e1, e2, if_neg (by omega), if_pos (by omega)]
    · have c := kl_nlt c
      have c2 := kl_nlt c2
      rw [kl_0] at c c2
      unfold nv at t1 t2
      rw [if_neg (by omega)] at t1 t2
      have sum : (I 13 (6 * a + k) + I 13 (6 * k + b)).toInt = T (6 * a + k) + T (6 * k + b) := ml_ad t1 t2 (by omega) (by omega)
      refine w12_ap h2 h3 (by omega) (by omega) (fun c3 c4 => ⟨I, L, rfl, same ?_⟩) (fun c3 => ⟨_, L, rfl, ?_⟩)
      · unfold nv at t3
        rw [if_neg c3] at t3
        rw [sum, t3] at c4
        unfold Fn
        rw [e1, e2, if_neg (by omega), if_neg (by omega), if_neg (by omega), if_neg (by omega)]
      · have Fv : Fn k T (6 * a + b) = T (6 * a + k) + T (6 * k + b) := by
          unfold Fn
          rw [e1, e2, if_neg (by omega), if_neg (by omega)]
          unfold nv at t3
          rcases c3 with c3 | c3
          · rw [if_pos c3] at t3
            rw [if_pos (by omega)]
          · by_cases c5 : (I 13 (6 * a + b)).toInt < 0
            · rw [if_pos c5] at t3
              rw [if_pos (by omega)]
            · rw [if_neg c5] at t3
              rw [sum, t3] at c3
              rw [if_neg (by omega), if_pos c3]
        have nvs : nv (I 13 (6 * a + k) + I 13 (6 * k + b)) = Fn k T (6 * a + b) := by
          unfold nv
          rw [sum, if_neg (by omega), Fv]
        refine ih (b + 1) _ x1 x2 _ h1 h2 (by omega) (by omega) ⟨fun i hi => ?_, fun u v hu hv l => ?_, fun u hu => ?_, fun c j hc => ?_⟩
        · by_cases g1 : i = 6 * b + a
          · rw [g1, en_up_eq]; exact Or.inr (by rw [sum]; omega)
          · rw [en_up_ne _ _ _ _ (by omega)]
            by_cases g2 : i = 6 * a + b
            · rw [g2, en_up_eq]; exact Or.inr (by rw [sum]; omega)
            · rw [en_up_ne _ _ _ _ (by omega)]; exact hI.1 i hi
        · obtain ⟨g1, g2⟩ := hI.2.1 u v hu hv l
          by_cases c : u = a ∧ v = b
          · obtain ⟨c1, c2⟩ := c
            subst c1; subst c2
            refine ⟨fun _ => ⟨?_, ?_⟩, fun q => absurd (by omega) q⟩
            · rw [en_up_ne _ _ _ _ (by omega), en_up_eq]; exact nvs
            · rw [en_up_eq, ← symF]; exact nvs
          · rw [en_up_ne _ _ _ _ (by omega), en_up_ne _ _ _ _ (by omega), en_up_ne _ _ _ _ (by omega), en_up_ne _ _ _ _ (by omega)]
            exact ⟨fun q => g1 (by omega), fun q => g2 (by omega)⟩
        · rw [en_up_ne _ _ _ _ (by omega), en_up_ne _ _ _ _ (by omega)]; exact hI.2.2.1 u hu
        · rw [en_up_ne _ _ _ _ (by omega), en_up_ne _ _ _ _ (by omega)]; exact hI.2.2.2 c j hc
theorem w12_3 {I0 : sm_I} {T : Nat → Int} {p k : Nat} (hp : p ≤ 6) (h1p : (I0 12 1).toInt = p) (hk : k < 6) (hT : WB 100000 T) (hS : WS p T) (h : ∀ (J : sm_I) (x1 : Int32), x1.toInt = k → w12ok J → (∀ i, i < 36 → nv (J 13 i) = Fn k T i) → (∀ c j, c ≠ 13 → J c j = I0 c j) → sm_wp sm_P S (d + 1) 18 1 [.ref 12, .int (x1 + (1 : Int32))] [] (xLay, J, L, (kQ12 R)) (0, 0) Φ) : ∀ (m a : Nat) (I : sm_I) (x1 x2 : Int32), x1.toInt = k → x2.toInt = a → a + m = p → w12st p k a 0 T I0 I → sm_wp sm_P S (d + 1) 18 3 [.ref 12, .int x1, .int x2] [] (xLay, I, L, (kQ12 R)) (0, 0) Φ := by
  intro m
  induction m with
  | zero =>
    intro a I x1 x2 h1 h2 hm hI
    have e : a = p := by omega
    subst e
    have e1 : I 12 1 = I0 12 1 := hI.2.2.2 12 1 (by decide)
    refine s12_X10_findWalks_3 ⟨fun _ => h I x1 h1 hI.1 (fun i hi => ?_) hI.2.2.2, fun q => ?_⟩
    · obtain ⟨u, v, hu, hv, e⟩ : ∃ u v, u < 6 ∧ v < 6 ∧ i = 6 * u + v := ⟨i / 6, i % 6, by omega, by omega, by omega⟩
      subst e
      have F := WS_Fn hk hT hS
      have W2 := WB_Fn hk hT (by decide)
      rcases Nat.lt_trichotomy u v with l | l | l
      · obtain ⟨g1, g2⟩ := hI.2.1 v u hv hu l
        by_cases q : v < a
        · exact (g1 ⟨q, Or.inl q⟩).2
        · rw [(g2 (by omega)).2, hS.1 u v hu hv, hS.2 v u hv hu (by omega) (by omega), F.1 u v hu hv, F.2 v u hv hu (by omega) (by omega)]
      · subst l
        rw [show 6 * u + u = 7 * u by omega, hI.2.2.1 u hu, hT.2 u hu, W2.2 u hu]
      · obtain ⟨g1, g2⟩ := hI.2.1 u v hu hv l
        by_cases q : u < a
        · exact (g1 ⟨q, Or.inl q⟩).1
        · rw [(g2 (by omega)).1, hS.2 u v hu hv (by omega) (by omega), F.2 u v hu hv (by omega) (by omega)]
    · have q := kl_nle q
      rw [e1] at q
      omega
  | succ m ih =>
    intro a I x1 x2 h1 h2 hm hI
    have e1 : I 12 1 = I0 12 1 := hI.2.2.2 12 1 (by decide)
    refine s12_X10_findWalks_3 ⟨fun q => ?_, fun _ => w12_5 (I0 := I0) (T := T) (k := k) (a := a) hp hk (by omega) hT hS (fun J x1 x2 h1 h2 hJ => ih (a + 1) J x1 _ h1 ?_ (by omega) hJ) a 0 I x1 x2 0 h1 h2 (by decide) (by omega) hI⟩
    · have q := kl_le.mp q
      rw [e1] at q
      omega
    · have s := ml_in1 (x := x2) (by omega)
      omega
theorem w12_1 {I0 : sm_I} {N : Nat → Int} {p : Nat} (hp : p ≤ 6) (h1p : (I0 12 1).toInt = p) (hN : WB 1440 N) (hS : WS p N) (h : ∀ J : sm_I, w12ok J → (∀ i, i < 36 → nv (J 13 i) = Ft p N i) → (∀ c j, c ≠ 13 → J c j = I0 c j) → Φ (none, (xLay, J, L, kQ12 R))) : ∀ (m k : Nat) (I : sm_I) (x1 : Int32), x1.toInt = k → k + m = p → w12ok I → (∀ i, i < 36 → nv (I 13 i) = Ft k N i) → (∀ c j, c ≠ 13 → I c j = I0 c j) → sm_wp sm_P S (d + 1) 18 1 [.ref 12, .int x1] [] (xLay, I, L, (kQ12 R)) (0, 0) Φ := by
  intro m
  induction m with
  | zero =>
    intro k I x1 h1 hm ho g o
    have e : k = p := by omega
    subst e
    refine s12_X10_findWalks_1 ⟨fun _ => h I ho g o, fun q => ?_⟩
    have q := kl_nle q
    rw [o 12 1 (by decide)] at q
    omega
  | succ m ih =>
    intro k I x1 h1 hm ho g o
    refine s12_X10_findWalks_1 ⟨fun q => ?_, fun _ => w12_3 (I0 := I0) (T := Ft k N) (k := k) hp h1p (by omega) (WB_F6 hN k (by omega)) (WS_Ft hN hS k (by omega)) (fun J x1 h1 ho gJ oJ => ih (k + 1) J _ ?_ (by omega) ho gJ oJ) p 0 I x1 0 h1 (by decide) (by omega) ⟨ho, fun u v hu hv l => ⟨fun q => absurd q (by omega), fun _ => ⟨g _ (by omega), g _ (by omega)⟩⟩, fun u hu => g _ (by omega), o⟩⟩
    · have q := kl_le.mp q
      rw [o 12 1 (by decide)] at q
      omega
    · have s := ml_in1 (x := x1) (by omega)
      omega
theorem w12_walks {p : Nat} (hp : p ≤ 6) (h1p : (I 12 1).toInt = p) (ho : w12ok I) (hN : WB 1440 (fun i => nv (I 13 i))) (hS : WS p (fun i => nv (I 13 i))) (h : ∀ J : sm_I, w12ok J → (∀ i, i < 36 → nv (J 13 i) = Ft p (fun i => nv (I 13 i)) i) → (∀ c j, c ≠ 13 → J c j = I c j) → Φ (none, (xLay, J, L, kQ12 R))) : sm_wp sm_P S (d + 1) 18 0 [.ref 12] [] (xLay, I, L, (kQ12 R)) (0, 0) Φ := s12_X10_findWalks_0 (w12_1 (I0 := I) hp h1p hN hS h p 0 I 0 (by decide) (by omega) ho (fun i _ => rfl) (fun _ _ _ => rfl))
end
