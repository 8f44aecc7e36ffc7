/-! the class's syntax fault is the grammar's first one -/
theorem fwl_mem : ∀ (n : Nat) (l : List Int32) (s k : Int32), l.length ≤ 3 * n → fwl l s k ≠ -1 → ∃ i, i < n ∧ l.getD (3 * i) 0 = s ∧ l.getD (3 * i + 1) 0 = k ∧ fwl l s k = l.getD (3 * i + 2) 0 := by
  intro n
  induction n with
  | zero =>
    intro l s k hl h
    have : l = [] := List.eq_nil_of_length_eq_zero (by omega)
    subst this
    exact absurd rfl h
  | succ n ih =>
    intro l s k hl h
    match l, hl, h with
    | [], _, h => exact absurd rfl h
    | [_], _, h => exact absurd rfl h
    | [_, _], _, h => exact absurd rfl h
    | a :: b :: c :: r, hl, h =>
      have hr : r.length ≤ 3 * n := by simp at hl; omega
      have un : fwl (a :: b :: c :: r) s k = if a = s then (if b = k then c else fwl r s k) else fwl r s k := rfl
      rw [un] at h ⊢
      have rc : fwl r s k ≠ -1 → ∃ i, i < n + 1 ∧ (a :: b :: c :: r).getD (3 * i) 0 = s ∧ (a :: b :: c :: r).getD (3 * i + 1) 0 = k ∧ fwl r s k = (a :: b :: c :: r).getD (3 * i + 2) 0 := fun g => by
        obtain ⟨i, i1, i2, i3, i4⟩ := ih r s k hr g
        refine ⟨i + 1, by omega, ?_, ?_, ?_⟩
        · rw [show 3 * (i + 1) = 3 * i + 1 + 1 + 1 by omega]; exact i2
        · rw [show 3 * (i + 1) + 1 = 3 * i + 1 + 1 + 1 + 1 by omega]; exact i3
        · rw [show 3 * (i + 1) + 2 = 3 * i + 2 + 1 + 1 + 1 by omega]; exact i4
      by_cases c1 : a = s
      · rw [if_pos c1] at h ⊢
        by_cases c2 : b = k
        · rw [if_pos c2] at h ⊢
          exact ⟨0, by omega, c1, c2, rfl⟩
        · rw [if_neg c2] at h ⊢; exact rc h
      · rw [if_neg c1] at h ⊢; exact rc h
theorem fw_mem {s k : Int32} (h : fw s k ≠ -1) : ∃ i, i < 46 ∧ sm_steps.getD (3 * i) 0 = s ∧ sm_steps.getD (3 * i + 1) 0 = k ∧ fw s k = sm_steps.getD (3 * i + 2) 0 := fwl_mem 46 sm_steps s k (by rw [st_len]; decide) h
theorem st_0 : ∀ i, i < 46 → sm_steps.getD (3 * i) 0 = 0 → sm_steps.getD (3 * i + 1) 0 = 21 ∨ (sm_steps.getD (3 * i + 1) 0).toInt < 15 := by decide +kernel
theorem st_k : ∀ i, i < 46 → 0 ≤ (sm_steps.getD (3 * i + 1) 0).toInt := by decide +kernel
theorem fw_0 {k : Int32} (h : fw 0 k ≠ -1) (h21 : k ≠ 21) : k.toInt < 15 := by
  obtain ⟨i, i1, i2, i3, -⟩ := fw_mem h
  rcases st_0 i i1 i2 with q | q
  · exact absurd (i3.symm.trans q) h21
  · rw [i3] at q; exact q
theorem fw_k {s k : Int32} (h : fw s k ≠ -1) : 0 ≤ k.toInt := by
  obtain ⟨i, i1, -, i3, -⟩ := fw_mem h
  rw [← i3]; exact st_k i i1
theorem ks_fault {S : sm_C} {d q : Nat} {Φ : sm_Z → Prop} {I : sm_I} {L : sm_L} {R : sm_R} {x1 x2 x3 : Int32} {t : Nat} {g : gc} (ht : x3.toInt = t) (hg : gr x1 I g) (h : ∀ J : sm_I, gfr I J → (gf x1 x2 t g = 0 → x2 ≠ 21 → gr 1 J (gc_st x1 x2 g)) → Φ (some (.int (gf x1 x2 t g)), (xLay, J, L, kT q R))) : sm_wp sm_P S (d + 1) 240 0 [.ref 7, .int x1, .int x2, .int x3] [] (xLay, I, L, kT q R) (0, 0) Φ := by
  have c500 : (500 : Int32).toInt = 500 := by decide
  have rf : gfr I I := fun _ _ _ _ => rfl
  have last : ¬ (fw x1 x2 = -1 ∨ ((x2 = 9 ∨ x2 = 13) ∧ g.tell = 12)) → ((x2 = (21 : Int32) → Φ (some (.int (0 : Int32)), (xLay, I, L, (kT q R)))) ∧ (¬ x2 = (21 : Int32) → (((500 : Int32) ≤ x3 → Φ (some (.int (2 : Int32)), (xLay, I, L, (kT q R)))) ∧ (¬ (500 : Int32) ≤ x3 → sm_wp sm_P S d 242 0 [.ref 7, .int x1, .int x2] [] (xLay, I, L, (kT q R)) (0, 0) (fun z => ∃ (r6 : Int32) (I4 : sm_I) (L5 : sm_L), z = (some (.int r6), (xLay, I4, L5, (kT q R))) ∧ ((r6 = 0 → Φ (some (.int (2 : Int32)), (xLay, I4, L5, (kT q R)))) ∧ (¬ r6 = 0 → Φ (some (.int (0 : Int32)), (xLay, I4, L5, (kT q R)))))))))) := by
    intro n1
    have e0 : gf x1 x2 t g = if x2 = 21 then 0 else if 500 ≤ t then 2 else if gc_ok x1 x2 g = true then 0 else 2 := by unfold gf; rw [if_neg n1]
    refine ⟨fun c => ?_, fun c => ⟨fun c2 => ?_, fun c2 => ?_⟩⟩
    · rw [if_pos c] at e0
      have := h I rf (fun _ z => absurd c z)
      rw [e0] at this; exact this
    · have c2 := kl_le.mp c2
      rw [if_neg c, if_pos (by omega)] at e0
      have := h I rf (fun z => by rw [e0] at z; exact absurd z (by decide))
      rw [e0] at this; exact this
    · have c2 := kl_nle c2
      rw [if_neg c, if_neg (by omega)] at e0
      have nf : fw x1 x2 ≠ -1 := fun z => n1 (Or.inl z)
      refine ks_room (fw_k nf) (fun e1 => fw_0 (by rw [← e1]; exact nf) c) hg (fun J fr k => ⟨_, J, L, rfl, fun z => ?_, fun z => ?_⟩)
      · have z := (tk_if _).mp z
        rw [z] at e0
        have := h J fr (fun w => by rw [e0] at w; exact absurd w (by decide))
        rw [e0] at this; exact this
      · have z := (tk_if1 _).mp z
        rw [z] at e0
        have := h J fr (fun _ _ => k z)
        rw [e0] at this; exact this
  have bad : (fw x1 x2 = -1 ∨ ((x2 = 9 ∨ x2 = 13) ∧ g.tell = 12)) → Φ (some (.int (1 : Int32)), (xLay, I, L, (kT q R))) := fun b => by
    have e0 : gf x1 x2 t g = 1 := by unfold gf; rw [if_pos b]
    have := h I rf (fun z => by rw [e0] at z; exact absurd z (by decide))
    rw [e0] at this; exact this
  have joins : ∀ s0 : Int32, (¬ s0 = 0 ↔ (x2 = 9 ∨ x2 = 13)) → sm_wp sm_P S (d + 1) 240 4 [.ref 7, .int x1, .int x2, .int x3] [.int s0] (xLay, I, L, (kT q R)) (0, 0) Φ := by
    intro s0 hs
    refine t_X3_faultOf_4 (ks_follow ⟨_, I, L, rfl, fun a => bad (Or.inl a), fun a => ⟨fun b => last (fun z => ?_), fun b => ⟨fun c => bad (Or.inr ⟨hs.mp b, by rw [← hg.1]; exact c⟩), fun c => last (fun z => ?_)⟩⟩⟩)
    · rcases z with z | z
      · exact a z
      · exact hs.mpr z.1 b
    · rcases z with z | z
      · exact a z
      · exact c (by rw [hg.1]; exact z.2)
  refine t_X3_faultOf_0 ⟨fun a => joins 1 ⟨fun _ => Or.inl a, fun _ => by decide⟩, fun a => ⟨fun b => joins 1 ⟨fun _ => Or.inr b, fun _ => by decide⟩, fun b => joins 0 ⟨fun z => absurd rfl z, fun z => by rcases z with z | z; exact absurd z a; exact absurd z b⟩⟩⟩
/-- the kinds of the TOKENS, the end's behind the last -/
def tk_K (b : Nat → Int32) (n i : Nat) : Int32 := if tk_at b n i < n then tk_kd b n (tk_at b n i) else 21
theorem ks_syn1 {S : sm_C} {d q : Nat} {Φ : sm_Z → Prop} {I0 : sm_I} {L : sm_L} {R : sm_R} {K : Nat → Int32} {c : Nat} {R0 : Option (Int32 × Nat)} (hc : (I0 3 3).toInt = c) (c5 : c ≤ 501) (hK : ∀ i, i ≤ c → i ≤ 500 → I0 4 i = K i) (hE : c ≤ 500 → K c = 21) (hN : ∀ i, i < c → K i ≠ 21) (h : ∀ (r : Int32) (J : sm_I), (∀ a j, a ≠ 7 → a ≠ 8 → ¬ (a = 2 ∧ j = 11) → J a j = I0 a j) → (R0 = none → r = 0) → (∀ f j, R0 = some (f, j) → r = f ∧ f ≠ 0 ∧ J 2 11 = I0 5 j ∧ j ≤ 500) → Φ (some (.int r), (xLay, J, L, kT q R))) : ∀ (m t : Nat) (I : sm_I) (x1 x2 : Int32) (g : gc), x2.toInt = t → t + m = 501 → t ≤ 500 → t ≤ c → gr x1 I g → gfr I0 I → SY K m t x1 g = R0 → sm_wp sm_P S (d + 2) 277 1 [.ref 2, .int x1, .int x2] [] (xLay, I, L, kT q R) (0, 0) Φ := by
  intro m
  induction m with
  | zero => intro t I x1 x2 g hx hm t50 tc hg fr hR; omega
  | succ m ih =>
    intro t I x1 x2 g hx hm t50 tc hg fr hR
    have nt := tk_nat hx
    have e33 : I 3 3 = I0 3 3 := fr 3 3 (by decide) (by decide)
    have s := ml_in1 (x := x2) (by omega)
    have v : vp_in x2 502 := kl_in (by omega) (by omega)
    have kt : I 4 x2.toNatClampNeg = K t := by rw [nt, fr 4 t (by decide) (by decide)]; exact hK t tc (by omega)
    have hR : (if gf x1 (K t) t g = 0 then (if K t = 21 then none else SY K m (t + 1) (fw x1 (K t)) (gc_st x1 (K t) g)) else some (gf x1 (K t) t g, t)) = R0 := hR
    refine t_X7_syntaxFault_1 ⟨fun a => ?_, fun a => ⟨v, ?_⟩⟩
    · rw [kl_lt, e33] at a; omega
    · rw [kt]
      refine ks_fault hx hg (fun J fJ k => ⟨_, J, L, rfl, fun z => ⟨v, ?_⟩, fun z => ⟨v, fun I8 e8 => ?_⟩⟩)
      · rw [if_pos z] at hR
        have kJ : J 4 x2.toNatClampNeg = K t := by rw [fJ 4 _ (by decide) (by decide)]; exact kt
        rw [kJ]
        refine ks_follow ⟨_, J, L, rfl, ?_⟩
        have frJ : gfr I0 J := fun a j a1 a2 => (fJ a j a1 a2).trans (fr a j a1 a2)
        by_cases e : K t = 21
        · rw [if_pos e] at hR
          have tc2 : t = c := by
            rcases Nat.lt_or_ge t c with q | q
            · exact absurd e (hN t q)
            · omega
          refine t_X7_syntaxFault_1 ⟨fun _ => h 0 J (fun a j a1 a2 _ => frJ a j a1 a2) (fun _ => rfl) (fun f j q => by rw [← hR] at q; cases q), fun a => ?_⟩
          have a := kl_nlt a
          rw [fJ 3 3 (by decide) (by decide), e33] at a
          omega
        · rw [if_neg e] at hR
          have gk := k z e
          have t5 : t < 500 := by
            rcases Nat.lt_or_ge t 500 with q | q
            · exact q
            · exfalso
              unfold gf at z
              by_cases b : fw x1 (K t) = -1 ∨ ((K t = 9 ∨ K t = 13) ∧ g.tell = 12)
              · rw [if_pos b] at z; exact absurd z (by decide)
              · rw [if_neg b, if_neg e, if_pos q] at z; exact absurd z (by decide)
          have tc2 : t < c := by
            rcases Nat.lt_or_ge t c with q | q
            · exact q
            · have : t = c := by omega
              subst this
              exact absurd (hE (by omega)) e
          exact ih (t + 1) J _ _ _ (by omega) (by omega) (by omega) (by omega) ⟨gk.1, gk.2.1, fun _ => gk.2.2 (by decide)⟩ frJ hR
      · rw [if_neg z] at hR
        refine h _ I8 (fun a j a1 a2 a3 => ?_) (fun q => by rw [← hR] at q; cases q) (fun f j q => ?_)
        · rw [e8, en_up_ne _ _ _ _ (by omega), fJ a j a1 a2]; exact fr a j a1 a2
        · rw [← hR] at q
          have q := Option.some.inj q
          have q1 : gf x1 (K t) t g = f := congrArg Prod.fst q
          have q2 : t = j := congrArg Prod.snd q
          subst q1
          subst q2
          refine ⟨rfl, z, ?_, by omega⟩
          rw [e8, en_up_eq, nt, fJ 5 t (by decide) (by decide)]
          exact fr 5 t (by decide) (by decide)
