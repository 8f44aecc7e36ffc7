/-! THE GRAMMAR: what follows what -/
def fwl : List Int32 → Int32 → Int32 → Int32
  | a :: b :: c :: r, s, k => if a = s then (if b = k then c else fwl r s k) else fwl r s k
  | _, _, _ => -1
def fw (s k : Int32) : Int32 := fwl sm_steps s k
theorem dr3 {l : List Int32} {j : Nat} (h : j + 2 < l.length) : l.drop j = l.getD j 0 :: l.getD (j + 1) 0 :: l.getD (j + 2) 0 :: l.drop (j + 3) := by
  have g : ∀ i, i < l.length → l.drop i = l.getD i 0 :: l.drop (i + 1) := fun i hi => by
    rw [List.drop_eq_getElem_cons hi, List.getD_eq_getElem?_getD, List.getElem?_eq_getElem hi]; rfl
  rw [g j (by omega), g (j + 1) (by omega), g (j + 2) (by omega)]
theorem st_len : sm_steps.length = 138 := by decide +kernel
theorem ks_follow1 {S : sm_C} {d q : Nat} {Φ : sm_Z → Prop} {I : sm_I} {L : sm_L} {R : sm_R} {x0 x1 : Int32} : ∀ (m i : Nat) (x2 : Int32), x2.toInt = i → i + 3 * m = 138 → Φ (some (.int (fwl (sm_steps.drop i) x0 x1)), (xLay, I, L, kT q R)) → sm_wp sm_P S d 241 1 [.int x0, .int x1, .int x2] [] (xLay, I, L, kT q R) (0, 0) Φ := by
  have l : (Int32.ofNat sm_steps.length).toInt = 138 := by rw [st_len]; decide
  have c1 : (1 : Int32).toInt = (1 : Nat) := by decide
  have c2 : (2 : Int32).toInt = (2 : Nat) := by decide
  have c3 : (3 : Int32).toInt = (3 : Nat) := by decide
  intro m
  induction m with
  | zero =>
    intro i x2 hx hm h
    have s2 := tk_add hx c2 (by omega)
    refine t_X3_follow_1 ⟨fun _ => ?_, fun a => ?_⟩
    · rw [List.drop_eq_nil_of_le (by rw [st_len]; omega)] at h; exact h
    · have := kl_nle a
      omega
  | succ m ih =>
    intro i x2 hx hm h
    have s1 := tk_add hx c1 (by omega)
    have s2 := tk_add hx c2 (by omega)
    have s3 := tk_add hx c3 (by omega)
    have n0 := tk_nat hx
    have n1 := tk_nat s1
    have n2 := tk_nat s2
    rw [dr3 (by rw [st_len]; omega)] at h
    have h : Φ (some (.int (if sm_steps.getD i 0 = x0 then (if sm_steps.getD (i + 1) 0 = x1 then sm_steps.getD (i + 2) 0 else fwl (sm_steps.drop (i + 3)) x0 x1) else fwl (sm_steps.drop (i + 3)) x0 x1)), (xLay, I, L, kT q R)) := h
    have v0 : vp_in x2 sm_steps.length := kl_in (by omega) (by rw [st_len]; omega)
    have v1 : vp_in (x2 + 1) sm_steps.length := kl_in (by omega) (by rw [st_len]; omega)
    have v2 : vp_in (x2 + 2) sm_steps.length := kl_in (by omega) (by rw [st_len]; omega)
    refine t_X3_follow_1 ⟨fun a => ?_, fun a => ⟨v0, fun e => ⟨v1, fun e1 => ⟨v2, ?_⟩, fun e1 => ?_⟩, fun e => ?_⟩⟩
    · have := kl_le.mp a
      omega
    · rw [n0] at e
      rw [n1] at e1
      rw [if_pos e, if_pos e1] at h
      rw [n2]; exact h
    · rw [n0] at e
      rw [n1] at e1
      rw [if_pos e, if_neg e1] at h
      exact ih (i + 3) _ s3 (by omega) h
    · rw [n0] at e
      rw [if_neg e] at h
      exact ih (i + 3) _ s3 (by omega) h
theorem ks_follow {S : sm_C} {d q : Nat} {Φ : sm_Z → Prop} {I : sm_I} {L : sm_L} {R : sm_R} {x0 x1 : Int32} (h : Φ (some (.int (fw x0 x1)), (xLay, I, L, kT q R))) : sm_wp sm_P S d 241 0 [.int x0, .int x1] [] (xLay, I, L, kT q R) (0, 0) Φ := t_X3_follow_0 (ks_follow1 46 0 0 (by decide) (by decide) h)
/-- what is counted while a text is read: its tell, alls, parts, tells of each word -/
abbrev gc : Type := Int32 × Nat × Nat × (Nat → Nat)
abbrev gc.tell (g : gc) : Int32 := g.1
abbrev gc.alls (g : gc) : Nat := g.2.1
abbrev gc.parts (g : gc) : Nat := g.2.2.1
abbrev gc.tells (g : gc) : Nat → Nat := g.2.2.2
def gc0 : gc := ⟨0, 0, 0, fun _ => 0⟩
/-- the word that is counted for a tell -/
def gw (k : Int32) : Nat := if k = 8 then 6 else k.toNatClampNeg
def gc_st (s k : Int32) (g : gc) : gc := if s = 0 ∧ k.toInt < 15 then ⟨k, 1, 1, fun j => if j = gw k then g.tells j + 1 else g.tells j⟩ else if k = 9 then ⟨g.tell, g.alls + 1, 1, g.tells⟩ else if k = 13 then ⟨g.tell, g.alls, g.parts + 1, g.tells⟩ else g
def gc_ok (s k : Int32) (g : gc) : Bool := if s = 0 ∧ k.toInt < 15 then decide ((g.tells (gw k) : Int) + 1 ≤ (sm_room.getD (gw k) 0).toInt) else decide ((gc_st s k g).alls ≤ 4) && decide ((gc_st s k g).parts ≤ 3)
/-- SYNTAX (1), ROOM (2) or 0 of the TOKEN t -/
def gf (s k : Int32) (t : Nat) (g : gc) : Int32 := if fw s k = -1 ∨ ((k = 9 ∨ k = 13) ∧ g.tell = 12) then 1 else if k = 21 then 0 else if 500 ≤ t then 2 else if gc_ok s k g = true then 0 else 2
/-- the first fault of the grammar, from the TOKEN t on -/
def SY (K : Nat → Int32) : Nat → Nat → Int32 → gc → Option (Int32 × Nat)
  | 0, _, _, _ => none
  | m + 1, t, s, g => if gf s (K t) t g = 0 then (if K t = 21 then none else SY K m (t + 1) (fw s (K t)) (gc_st s (K t) g)) else some (gf s (K t) t g, t)
/-- the class's counts -/
def gr (s : Int32) (I : sm_I) (g : gc) : Prop := I 7 1 = g.tell ∧ (∀ j, j < 15 → (I 8 j).toInt = g.tells j ∧ g.tells j ≤ 20) ∧ (s ≠ 0 → (I 7 2).toInt = g.alls ∧ (I 7 3).toInt = g.parts ∧ g.alls ≤ 4 ∧ g.parts ≤ 3)
