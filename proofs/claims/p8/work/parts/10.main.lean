/-! the small machine's run is the machine's -/
section SmFin
variable {base : Nat} {ct : Nat → ClassId} {tt : Nat → Nat} {D : va_G} {S : sm_C} {M : sm_M} {d : Nat} {p : Program} {l : Launch} {e : Env} {R : Room} {s : State} {m : MethodId} {args : Array Value} {below : List Frame} {meth : Method} {c : Code} {Q : State → Prop}
variable {pc : Nat} {lv lv' : sm_V} {st st' r : List Value} {lay : List (Nat × Nat)} {me : sm_Y} {w : sm_W} {cs : Nat × Nat} {ops : List Nat} {z z' : sm_Z} {P : Nat → sm_M}
variable {rec : Nat → Nat → Nat → List Value → List Value → sm_W → Nat × Nat → Option sm_Z} {jmp : Nat → sm_V → List Value → sm_W → Nat × Nat → Option sm_Z} {fall : Nat}
theorem sm_i3 {t : Nat} (h : (pc : Int) + 3 = (t : Int)) : t = pc + 3 := by omega
theorem sm_b1_ok (hX : sm_X base ct tt D S M d p R s m args meth c) {c' : ClassFile.Cond} {off : Int} {ta tb : Nat} {a b : List Value → Option sm_Z} (hd : decode M.2.1 pc = .ok (.ifCond c' off, 3)) (hta : (pc : Int) + off = (ta : Int)) (htb : (pc : Int) + 3 = (tb : Int)) (ha : ∀ r, a r = some z → sm_TW base ct tt D M p l e R s m args below meth c Q ta lv r w cs) (hb : ∀ r, b r = some z → sm_TW base ct tt D M p l e R s m args below meth c Q tb lv r w cs) (h : sm_b1 c' st a b = some z) : sm_TW base ct tt D M p l e R s m args below meth c Q pc lv st w cs := by
  have e3 := sm_i3 htb
  subst e3
  unfold sm_b1 at h
  split at h
  · intro H locs ls hl hP hS hz hn hcs
    cases c' <;> dsimp only at h
    · exact lv_if_eq hX.1 hX.2.1 hd hta (fun q => ha _ (by rw [if_pos q] at h; exact h) H locs ls hl hP hS hz hn hcs) (fun q => hb _ (by rw [if_neg q] at h; exact h) H locs ls hl hP hS hz hn hcs)
    · exact lv_if_ne hX.1 hX.2.1 hd hta (fun q => ha _ (by rw [if_neg q] at h; exact h) H locs ls hl hP hS hz hn hcs) (fun q => hb _ (by rw [if_pos q] at h; exact h) H locs ls hl hP hS hz hn hcs)
    · exact lv_if_lt hX.1 hX.2.1 hd hta (fun q => ha _ (by rw [if_pos q] at h; exact h) H locs ls hl hP hS hz hn hcs) (fun q => hb _ (by rw [if_neg q] at h; exact h) H locs ls hl hP hS hz hn hcs)
    · exact lv_if_ge hX.1 hX.2.1 hd hta (fun q => ha _ (by rw [if_pos q] at h; exact h) H locs ls hl hP hS hz hn hcs) (fun q => hb _ (by rw [if_neg q] at h; exact h) H locs ls hl hP hS hz hn hcs)
    · exact lv_if_gt hX.1 hX.2.1 hd hta (fun q => ha _ (by rw [if_pos q] at h; exact h) H locs ls hl hP hS hz hn hcs) (fun q => hb _ (by rw [if_neg q] at h; exact h) H locs ls hl hP hS hz hn hcs)
    · exact lv_if_le hX.1 hX.2.1 hd hta (fun q => ha _ (by rw [if_pos q] at h; exact h) H locs ls hl hP hS hz hn hcs) (fun q => hb _ (by rw [if_neg q] at h; exact h) H locs ls hl hP hS hz hn hcs)
  · cases h
theorem sm_b2_ok (hX : sm_X base ct tt D S M d p R s m args meth c) {c' : ClassFile.Cond} {off : Int} {ta tb : Nat} {a b : List Value → Option sm_Z} (hd : decode M.2.1 pc = .ok (.if_icmp c' off, 3)) (hta : (pc : Int) + off = (ta : Int)) (htb : (pc : Int) + 3 = (tb : Int)) (ha : ∀ r, a r = some z → sm_TW base ct tt D M p l e R s m args below meth c Q ta lv r w cs) (hb : ∀ r, b r = some z → sm_TW base ct tt D M p l e R s m args below meth c Q tb lv r w cs) (h : sm_b2 c' st a b = some z) : sm_TW base ct tt D M p l e R s m args below meth c Q pc lv st w cs := by
  have e3 := sm_i3 htb
  subst e3
  unfold sm_b2 at h
  split at h
  · intro H locs ls hl hP hS hz hn hcs
    cases c' <;> dsimp only at h
    · exact lv_icmp_eq hX.1 hX.2.1 hd hta (fun q => ha _ (by rw [if_pos q] at h; exact h) H locs ls hl hP hS hz hn hcs) (fun q => hb _ (by rw [if_neg q] at h; exact h) H locs ls hl hP hS hz hn hcs)
    · exact lv_icmp_ne hX.1 hX.2.1 hd hta (fun q => ha _ (by rw [if_neg q] at h; exact h) H locs ls hl hP hS hz hn hcs) (fun q => hb _ (by rw [if_pos q] at h; exact h) H locs ls hl hP hS hz hn hcs)
    · exact lv_icmp_lt hX.1 hX.2.1 hd hta (fun q => ha _ (by rw [if_pos q] at h; exact h) H locs ls hl hP hS hz hn hcs) (fun q => hb _ (by rw [if_neg q] at h; exact h) H locs ls hl hP hS hz hn hcs)
    · exact lv_icmp_ge hX.1 hX.2.1 hd hta (fun q => ha _ (by rw [if_pos q] at h; exact h) H locs ls hl hP hS hz hn hcs) (fun q => hb _ (by rw [if_neg q] at h; exact h) H locs ls hl hP hS hz hn hcs)
    · exact lv_icmp_gt hX.1 hX.2.1 hd hta (fun q => ha _ (by rw [if_pos q] at h; exact h) H locs ls hl hP hS hz hn hcs) (fun q => hb _ (by rw [if_neg q] at h; exact h) H locs ls hl hP hS hz hn hcs)
    · exact lv_icmp_le hX.1 hX.2.1 hd hta (fun q => ha _ (by rw [if_pos q] at h; exact h) H locs ls hl hP hS hz hn hcs) (fun q => hb _ (by rw [if_neg q] at h; exact h) H locs ls hl hP hS hz hn hcs)
  · cases h
theorem sm_bnull_ok (hX : sm_X base ct tt D S M d p R s m args meth c) {off : Int} {ta tb : Nat} {a b : List Value → Option sm_Z} (hd : decode M.2.1 pc = .ok (.ifnull off, 3)) (hta : (pc : Int) + off = (ta : Int)) (htb : (pc : Int) + 3 = (tb : Int)) (ha : ∀ r, a r = some z → sm_TW base ct tt D M p l e R s m args below meth c Q ta lv r w cs) (hb : ∀ r, b r = some z → sm_TW base ct tt D M p l e R s m args below meth c Q tb lv r w cs) (h : sm_bn st a b = some z) : sm_TW base ct tt D M p l e R s m args below meth c Q pc lv st w cs := by
  have e3 := sm_i3 htb
  subst e3
  unfold sm_bn at h
  split at h
  · exact fun H locs ls hl hP hS hz hn hcs => lv_ifnullN hX.1 hX.2.1 hd hta (ha _ h H locs ls hl hP hS hz hn hcs)
  · exact fun H locs ls hl hP hS hz hn hcs => lv_ifnull hX.1 hX.2.1 hd (hb _ h H locs ls hl hP hS hz hn hcs)
  · cases h
theorem sm_bnon_ok (hX : sm_X base ct tt D S M d p R s m args meth c) {off : Int} {ta tb : Nat} {a b : List Value → Option sm_Z} (hd : decode M.2.1 pc = .ok (.ifnonnull off, 3)) (hta : (pc : Int) + off = (ta : Int)) (htb : (pc : Int) + 3 = (tb : Int)) (ha : ∀ r, a r = some z → sm_TW base ct tt D M p l e R s m args below meth c Q tb lv r w cs) (hb : ∀ r, b r = some z → sm_TW base ct tt D M p l e R s m args below meth c Q ta lv r w cs) (h : sm_bn st a b = some z) : sm_TW base ct tt D M p l e R s m args below meth c Q pc lv st w cs := by
  have e3 := sm_i3 htb
  subst e3
  unfold sm_bn at h
  split at h
  · exact fun H locs ls hl hP hS hz hn hcs => lv_ifnonnullN hX.1 hX.2.1 hd (ha _ h H locs ls hl hP hS hz hn hcs)
  · exact fun H locs ls hl hP hS hz hn hcs => lv_ifnonnull hX.1 hX.2.1 hd hta (hb _ h H locs ls hl hP hS hz hn hcs)
  · cases h
/-- what a run that was asked for brings -/
def sm_Hr (base : Nat) (ct : Nat → ClassId) (tt : Nat → Nat) (D : va_G) (S : sm_C) (P : Nat → sm_M) (l : Launch) (rec : Nat → Nat → Nat → List Value → List Value → sm_W → Nat × Nat → Option sm_Z) : Prop :=
  ∀ (d' g : Nat) (as : List Value) (w' : sm_W) (z' : sm_Z), (lg_sl as).length ≤ (P g).2.2.1 → w'.1.length ≤ 1000 → rec d' g 0 as [] w' (0, 0) = some z' → (Met l (P g).1 (sm_mw (P g)) (sm_rm d' (P g)) (va_Pc (as.map (sm_cv base tt)) (sm_Pre base ct tt D S w')) (sm_Q base ct tt D z') (P g).2.2.2.2.2.1 (P g).2.2.2.2.2.2.1 (sm_A base)) ∧ sm_Ln (P g) z' w' (0, 0)
set_option maxHeartbeats 4000000 in
theorem sm_else_ok (cf : sm_CF) (okP : ∀ f, sm_OK P (P f)) (hX : sm_X base ct tt D S M d p R s m args meth c) (hr : sm_Hr base ct tt D S P l rec) {i : Instr} {k : sm_V → List Value → sm_W → Nat × Nat → Option sm_Z} (hd : decode M.2.1 pc = .ok (i, sm_ln i)) (ho : sm_okE P M i ops = true) (hk : ∀ lv st w cs, k lv st w cs = some z → sm_TW base ct tt D M p l e R s m args below meth c Q (pc + sm_ln i) lv st w cs) (h : sm_else P S rec d M i ops lv st w cs k = some z) : sm_TW base ct tt D M p l e R s m args below meth c Q pc lv st w cs := by
  unfold sm_else at h
  split at h
  · next g inst ci a1 a2 a3 a4 rs0 =>
    obtain ⟨rs, hrs⟩ : ∃ rs, a1 :: a2 :: a3 :: a4 :: rs0 = rs := ⟨_, rfl⟩
    have ho : sm_okC P M i g inst ci (a1 :: a2 :: a3 :: a4 :: rs0) = true := ho
    rw [hrs] at ho
    have hoo := Bool.and_eq_true_iff.mp ho
    clear ho
    obtain ⟨hcal0, ho⟩ := hoo
    have hcal := (okP g).2 (of_decide_eq_true hcal0)
    cases d with
    | zero => cases h
    | succ d =>
      obtain ⟨z', hrc, hn1, hsl, h8, hc1, hc2, h1, h2⟩ := sm_inv_of h
      by_cases hw : w.1.length ≤ 1000
      · obtain ⟨hM, hL1, hL2⟩ := hr d g _ w z' hsl hw h1
        have hL1 : z'.2.1.length = w.1.length + (P g).2.2.2.2.2.1 := by simpa using hL1
        have kk := hk _ _ _ _ h2
        cases i with
        | invokevirtual x =>
          have ho : sm_okV P M x g inst ci (rs.getD 0 0) (rs.getD 1 0) (rs.getD 2 0) = true := ho
          have hi : inst = 1 := by
            unfold sm_okV at ho
            split at ho
            · simp only [Bool.and_eq_true, decide_eq_true_eq] at ho; exact ho.1.1.1.1
            · cases ho
          subst hi
          obtain ⟨X, b, rest, rfl, hX1, hb1⟩ := sm_rc_of hrc
          have e1 : ((X ++ Value.ref b :: rest).take ((P g).2.2.2.2.1 + 1)).reverse = Value.ref b :: X.reverse := by
            rw [← hX1]; simp [List.take_append, List.take_of_length_le]
          have e2 : (X ++ Value.ref b :: rest).drop ((P g).2.2.2.2.1 + 1) = rest := by
            rw [← hX1]; simp [List.drop_append]
          rw [e1] at hM
          rw [e2] at h8 kk
          exact sm_k_V okP hX hcal hd ho hb1 hX1 h8 hc1 hc2 hM hL1 (hL2 hw) kk
        | invokestatic x =>
          have ho : sm_okS P M x g inst (rs.getD 3 0) (rs.getD 0 0) (rs.getD 1 0) = true := ho
          have hi : inst = 0 := by
            simp only [sm_okS, Bool.and_eq_true, decide_eq_true_eq] at ho; exact ho.1.1
          subst hi
          have e0 : st = st.take ((P g).2.2.2.2.1 + 0) ++ st.drop ((P g).2.2.2.2.1 + 0) := (List.take_append_drop _ _).symm
          rw [e0]
          exact sm_k_S okP hX hcal hd ho (by simp at hn1 ⊢; omega) h8 hc1 hc2 hM hL1 (hL2 hw) kk
        | invokespecial x =>
          have ho : sm_okP P M x g inst (rs.getD 3 0) (rs.getD 0 0) (rs.getD 1 0) = true := ho
          have hi : inst = 1 := by
            simp only [sm_okP, Bool.and_eq_true, decide_eq_true_eq] at ho; exact ho.1.1.1.1
          subst hi
          obtain ⟨X, b, rest, rfl, hX1, hb1⟩ := sm_rc_of hrc
          have e1 : ((X ++ Value.ref b :: rest).take ((P g).2.2.2.2.1 + 1)).reverse = Value.ref b :: X.reverse := by
            rw [← hX1]; simp [List.take_append, List.take_of_length_le]
          have e2 : (X ++ Value.ref b :: rest).drop ((P g).2.2.2.2.1 + 1) = rest := by
            rw [← hX1]; simp [List.drop_append]
          rw [e1] at hM
          rw [e2] at h8 kk
          exact sm_k_P okP hX hcal hd ho hX1 h8 hc1 hc2 hM hL1 (hL2 hw) kk
        | _ => cases ho
      · exact fun H locs ls hl hP hS hz hn hcs => absurd hn hw
  · next hno =>
    have ho : sm_ok1 M i ops = true := by
      unfold sm_okE at ho
      split at ho
      · next g inst ci a1 a2 a3 a4 r => exact absurd rfl (hno g inst ci a1 a2 a3 a4 r)
      · exact ho
    split at h
    · next q e =>
      obtain ⟨lv', st', me'⟩ := q
      exact sm_one_ok (lay := w.1) (me := w.2) cf hX hd ho e (hk _ _ _ _ h)
    · cases h
end SmFin
