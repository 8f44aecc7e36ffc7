/-! the reference's cut, exact: all TOKENS -/
def mt_rows (b : Nat → Int32) (n c : Nat) (I : sm_I) (L : sm_L) : Prop := ∀ i, i < c → tk_at b n i < n ∧ I 110 i = mt_kd b n (tk_at b n i) ∧ (I 111 i).toInt = tk_at b n i ∧ I 112 i = mt_vl b n (tk_at b n i) ∧ L 113 i = mt_nm b n (tk_at b n i)
def mt_fr (I J : sm_I) (L K : sm_L) : Prop := (∀ a j, a ≠ 110 → a ≠ 111 → a ≠ 112 → ¬ (a = 107 ∧ j = 10) → J a j = I a j) ∧ ∀ a j, a ≠ 113 → K a j = L a j
/-- the TOKENS are cut: 501 of them, or fewer and the end -/
def mt_fin (b : Nat → Int32) (n c : Nat) (J : sm_I) : Prop := (c = 501 ∧ (J 107 10).toInt = 501) ∨ (c ≤ 500 ∧ (J 107 10).toInt = c + 1 ∧ tk_at b n c = n ∧ J 110 c = 0 ∧ (J 111 c).toInt = n)
theorem mt_cut1 {S : sm_C} {d : Nat} {Φ : sm_Z → Prop} {I0 : sm_I} {L0 : sm_L} {R : sm_R} {b : Nat → Int32} {n : Nat} (hk : pk_ok L0) (hB : mt_B b) (hb : I0 109 = b) (hz : (I0 107 4).toInt = n) (hn : n ≤ 2000) (h : ∀ (c : Nat) (J : sm_I) (K : sm_L), c ≤ 501 → mt_rows b n c J K → mt_fin b n c J → mt_fr I0 J L0 K → Φ (none, (xLay, J, K, kM R))) : ∀ (m : Nat) (I : sm_I) (L : sm_L) (x1 : Int32) (p c : Nat), x1.toInt = p → p ≤ n → (I 107 10).toInt = c → c ≤ 501 → mt_rows b n c I L → tk_sk b n p = tk_at b n c → mt_fr I0 I L0 L → n - p < m → sm_wp sm_P S (d + 1) 119 1 [.ref 107, .int x1] [] (xLay, I, L, kM R) (0, 0) Φ := by
  have c500 : (500 : Int32).toInt = 500 := by decide
  intro m
  induction m with
  | zero => intro I L x1 p c _ _ _ _ _ _ _ hM; omega
  | succ m ih =>
    intro I L x1 p c hx pn hc c5 hr hs hf hM
    have rb : I 109 = b := by funext j; rw [hf.1 109 j (by decide) (by decide) (by decide) (by omega), hb]
    have rz : (I 107 4).toInt = n := by rw [hf.1 107 4 (by decide) (by decide) (by decide) (by omega), hz]
    have rk : pk_ok L := pk_cg (fun j => hf.2 114 j (by decide)) hk
    have s1 := ml_in1 (x := x1) (by omega)
    refine u_X12_cut_1 ⟨fun a => ?_, fun a => ?_⟩
    · rw [kl_lt, c500] at a
      have : c = 501 := by omega
      exact h c I L c5 hr (Or.inl ⟨this, by omega⟩) hf
    · have a := kl_nlt a
      refine mt_byteAt rz hn hx ⟨_, I, L, R, rfl, fun g => ?_, fun g => ?_⟩
      · rw [kl_lt] at g
        have pn : p < n := by omega
        have eb : mt_by (I 109) n p = b p &&& 255 := by unfold mt_by; rw [if_pos pn, rb]
        rw [eb]
        have bl : ∀ c : Int32, 0 ≤ c.toInt → c.toInt ≤ 127 → (b p &&& 255 = c ↔ b p = c) := fun c c0 c1 => mt_eq (hB p (by omega)).1 (hB p (by omega)).2 c0 c1
        have blank : tk_bl (b p) = true → sm_wp sm_P S (d + 1) 119 1 [.ref 107, .int (x1 + (1 : Int32))] [] (xLay, I, L, (kM R)) (0, 0) Φ := fun z => by
          refine ih I L _ (p + 1) c (by omega) (by omega) hc c5 hr ?_ hf (by omega)
          rw [← hs]; unfold tk_sk; exact (tk_end_s pn z).symm
        refine ⟨fun z => blank ?_, fun z1 => ⟨fun z => blank ?_, fun z2 => ⟨fun z => blank ?_, fun z3 => ⟨fun z => blank ?_, fun z4 => ?_⟩⟩⟩⟩
        · have := (bl 9 (by decide) (by decide)).mp z
          unfold tk_bl; rw [this]; decide
        · have := (bl 10 (by decide) (by decide)).mp z
          unfold tk_bl; rw [this]; decide
        · have := (bl 13 (by decide) (by decide)).mp z
          unfold tk_bl; rw [this]; decide
        · have := (bl 32 (by decide) (by decide)).mp z
          unfold tk_bl; rw [this]; decide
        · have nb : tk_bl (b p) = false := by
            unfold tk_bl
            rw [show decide (b p = 9) = false from decide_eq_false (fun q => z1 ((bl 9 (by decide) (by decide)).mpr q)), show decide (b p = 10) = false from decide_eq_false (fun q => z2 ((bl 10 (by decide) (by decide)).mpr q)), show decide (b p = 13) = false from decide_eq_false (fun q => z3 ((bl 13 (by decide) (by decide)).mpr q)), show decide (b p = 32) = false from decide_eq_false (fun q => z4 ((bl 32 (by decide) (by decide)).mpr q))]
            rfl
          have sp : tk_at b n c = p := by
            rw [← hs]; unfold tk_sk; exact tk_end_n (by rw [nb]; simp)
          have nx := tk_nx_gt (b := b) (n := n) (p := p) pn
          have s := ml_in1 (x := I 107 10) (by omega)
          have go : ∀ (x : Int32) (J : sm_I) (K : sm_L), x.toInt = tk_nx b n p → J = sm_up (sm_up (sm_up (sm_up I 110 c (mt_kd b n p)) 111 c x1) 112 c (mt_vl b n p)) 107 10 (I 107 10 + 1) → K = sm_up L 113 c (mt_nm b n p) → sm_wp sm_P S (d + 1) 119 1 [.ref 107, .int x] [] (xLay, J, K, kM R) (0, 0) Φ := by
            intro x J K ex eJ eK
            refine ih J K x (tk_nx b n p) (c + 1) ex nx.2 ?_ (by omega) (fun i hi => ?_) ?_ ⟨fun a j a1 a2 a3 a4 => ?_, fun a j a1 => ?_⟩ (by omega)
            · rw [eJ, en_up_eq, s]; omega
            · by_cases e : i = c
              · subst e
                rw [sp, eJ, eK, en_up_ne _ _ _ _ (by omega), en_up_ne _ _ _ _ (by omega), en_up_ne _ _ _ _ (by omega), en_up_eq, en_up_ne _ _ _ _ (by omega), en_up_ne _ _ _ _ (by omega), en_up_eq, en_up_ne _ _ _ _ (by omega), en_up_eq, en_up_eq]
                exact ⟨pn, rfl, hx, rfl, rfl⟩
              · have q := hr i (by omega)
                refine ⟨q.1, ?_, ?_, ?_, ?_⟩
                · rw [eJ, en_up_ne _ _ _ _ (by omega), en_up_ne _ _ _ _ (by omega), en_up_ne _ _ _ _ (by omega), en_up_ne _ _ _ _ (by omega)]; exact q.2.1
                · rw [eJ, en_up_ne _ _ _ _ (by omega), en_up_ne _ _ _ _ (by omega), en_up_ne _ _ _ _ (by omega), en_up_ne _ _ _ _ (by omega)]; exact q.2.2.1
                · rw [eJ, en_up_ne _ _ _ _ (by omega), en_up_ne _ _ _ _ (by omega), en_up_ne _ _ _ _ (by omega), en_up_ne _ _ _ _ (by omega)]; exact q.2.2.2.1
                · rw [eK, en_up_ne _ _ _ _ (by omega)]; exact q.2.2.2.2
            · show tk_sk b n (tk_nx b n p) = (if tk_at b n c < n then tk_sk b n (tk_nx b n (tk_at b n c)) else n)
              rw [sp, if_pos pn]
            · rw [eJ, en_up_ne _ _ _ _ (by omega), en_up_ne _ _ _ _ (by omega), en_up_ne _ _ _ _ (by omega), en_up_ne _ _ _ _ (by omega)]; exact hf.1 a j a1 a2 a3 a4
            · rw [eK, en_up_ne _ _ _ _ (by omega)]; exact hf.2 a j a1
          refine mt_isLetter ⟨_, I, L, R, rfl, fun y => ?_, fun y => ?_⟩
          · have y := (tk_if _).mp y
            rw [mt_le (hB p (by omega)).1 (hB p (by omega)).2] at y
            have ny : ¬ tk_le (b p) = true := by rw [y]; decide
            refine mt_isDigit ⟨_, I, L, R, rfl, fun u => ?_, fun u => ?_⟩
            · have u := (tk_if _).mp u
              rw [mt_di (hB p (by omega)).1 (hB p (by omega)).2] at u
              have nu : ¬ tk_di (b p) = true := by rw [u]; decide
              refine mt_sign ⟨_, I, L, R, rfl, mt_token hc (by omega) (fun J K eJ eK => ⟨J, K, R, rfl, go _ J K ?_ ?_ ?_⟩)⟩
              · unfold tk_nx; rw [if_neg ny, if_neg nu]; omega
              · have e1 : mt_kd b n p = mt_sg (b p &&& 255) := by
                  unfold mt_kd; rw [if_neg ny, if_neg nu]
                  unfold mt_sg
                  simp only [bl 59 (by decide) (by decide), bl 58 (by decide) (by decide), bl 45 (by decide) (by decide)]
                have e2 : mt_vl b n p = 0 := by unfold mt_vl; rw [if_neg ny, if_neg nu]
                rw [eJ, e1, e2]
              · have e3 : mt_nm b n p = 0 := by unfold mt_nm; rw [if_neg ny]
                rw [eK, e3]
            · have u := (tk_if1 _).mp u
              rw [mt_di (hB p (by omega)).1 (hB p (by omega)).2] at u
              refine mt_dig (b := b) (n := n) (p := p) (c := c) (e := tk_end tk_di b n p) hB rb rz hn hx hc (by omega) (tk_end_n2 (by omega)) (fun x J K ex eJ eK => go x J K ?_ ?_ ?_) (tk_end tk_di b n p - p + 1) 0 0 0 (by decide) (by rfl) tk_end_le rfl (by omega)
              · unfold tk_nx; rw [if_neg ny, if_pos u]; exact ex
              · unfold mt_kd mt_vl; rw [if_neg ny, if_neg ny, if_pos u, if_pos u]; exact eJ
              · unfold mt_nm; rw [if_neg ny]; exact eK
          · have y := (tk_if1 _).mp y
            rw [mt_le (hB p (by omega)).1 (hB p (by omega)).2] at y
            refine mt_let (b := b) (n := n) (p := p) (c := c) (e := tk_end tk_le b n p) rk hB rb rz hn hx hc (by omega) (tk_end_n2 (by omega)) (fun x J K ex eJ eK => go x J K ?_ ?_ ?_) (tk_end tk_le b n p - p + 1) 0 0 0 (by decide) (by rfl) tk_end_le rfl (by omega)
            · unfold tk_nx; rw [if_pos y]; exact ex
            · unfold mt_kd mt_vl; rw [if_pos y, if_pos y]; exact eJ
            · unfold mt_nm; rw [if_pos y]; exact eK
      · have g := kl_nlt g
        have e : p = n := by omega
        have an : tk_at b n c = n := by rw [← hs, e]; unfold tk_sk; exact tk_end_n (by omega)
        have s := ml_in1 (x := I 107 10) (by omega)
        refine mt_token hc (by omega) (fun J K eJ eK => ⟨J, K, R, rfl, h c J K c5 (fun i hi => ?_) (Or.inr ⟨by omega, ?_, an, ?_, ?_⟩) ⟨fun a j a1 a2 a3 a4 => ?_, fun a j a1 => ?_⟩⟩)
        · have q := hr i hi
          refine ⟨q.1, ?_, ?_, ?_, ?_⟩
          · rw [eJ, en_up_ne _ _ _ _ (by omega), en_up_ne _ _ _ _ (by omega), en_up_ne _ _ _ _ (by omega), en_up_ne _ _ _ _ (by omega)]; exact q.2.1
          · rw [eJ, en_up_ne _ _ _ _ (by omega), en_up_ne _ _ _ _ (by omega), en_up_ne _ _ _ _ (by omega), en_up_ne _ _ _ _ (by omega)]; exact q.2.2.1
          · rw [eJ, en_up_ne _ _ _ _ (by omega), en_up_ne _ _ _ _ (by omega), en_up_ne _ _ _ _ (by omega), en_up_ne _ _ _ _ (by omega)]; exact q.2.2.2.1
          · rw [eK, en_up_ne _ _ _ _ (by omega)]; exact q.2.2.2.2
        · rw [eJ, en_up_eq, s]; omega
        · rw [eJ, en_up_ne _ _ _ _ (by omega), en_up_ne _ _ _ _ (by omega), en_up_ne _ _ _ _ (by omega), en_up_eq]
        · rw [eJ, en_up_ne _ _ _ _ (by omega), en_up_ne _ _ _ _ (by omega), en_up_eq]; exact rz
        · rw [eJ, en_up_ne _ _ _ _ (by omega), en_up_ne _ _ _ _ (by omega), en_up_ne _ _ _ _ (by omega), en_up_ne _ _ _ _ (by omega)]; exact hf.1 a j a1 a2 a3 a4
        · rw [eK, en_up_ne _ _ _ _ (by omega)]; exact hf.2 a j a1
theorem mt_cut {S : sm_C} {d : Nat} {Φ : sm_Z → Prop} {I : sm_I} {L : sm_L} {R : sm_R} {n : Nat} (hk : pk_ok L) (hB : mt_B (I 109)) (hz : (I 107 4).toInt = n) (hn : n ≤ 2000) (h : ∀ (c : Nat) (J : sm_I) (K : sm_L), c ≤ 501 → mt_rows (I 109) n c J K → mt_fin (I 109) n c J → mt_fr I J L K → Φ (none, (xLay, J, K, kM R))) : sm_wp sm_P S (d + 1) 119 0 [.ref 107] [] (xLay, I, L, kM R) (0, 0) Φ := by
  refine u_X12_cut_0 (mt_cut1 (I0 := I) (L0 := L) (b := I 109) hk hB rfl hz hn h (n + 1) _ L 0 0 0 (by decide) (by omega) (by rw [en_up_eq]; decide) (by omega) (fun i hi => absurd hi (Nat.not_lt_zero i)) rfl ⟨fun a j a1 a2 a3 a4 => ?_, fun _ _ _ => rfl⟩ (by omega))
  rw [en_up_ne _ _ _ _ (by omega)]
