/-! read leaves the rows of MOVES (wip/pe/mkY.py) -/
def kl_tb3 : en_Tb := (kl_tb.1, kl_tb.2.1, (48, []) :: kl_tb.2.2)
def klZ (c48 : Nat → Int64) (w : sm_W) : Prop := klX w ∧ ∀ j, w.2.2.1 48 j = c48 j
theorem klZ_no {p j : Nat} (h : en_fix kl_tb3 p j = false) : p ≠ 48 ∧ en_fix kl_tb p j = false := by
  have h : (Nat.beq 48 p && true || en_wok kl_tb.2.2 p j) = false := h
  obtain ⟨h1, h2⟩ := Bool.or_eq_false_iff.mp h
  refine ⟨fun e => ?_, h2⟩
  subst e
  exact absurd h1 (by decide)
theorem klZ_ok {c48 : Nat → Int64} : en_Xok kl_tb3 (klZ c48) := by
  refine ⟨fun lay m p j x h hX => ⟨klX_ok.1 lay m p j x (klZ_no h).2 hX.1, hX.2⟩, fun lay m p j r h hX => ⟨klX_ok.2.1 lay m p j r (klZ_no h).2 hX.1, hX.2⟩, fun lay m p j y h hX => ⟨klX_ok.2.2 lay m p j y (klZ_no h).2 hX.1, fun i => ?_⟩⟩
  have n := (klZ_no h).1
  exact (en_up_ne _ _ _ _ (fun q => n q.1.symm)).trans (hX.2 i)
/-! read's tree: the rows of MOVES stay (wip/pe/mkY.py) -/
theorem klz_6 {Sc : sm_C} {c48 : Nat → Int64} : en_hold kl_tb3 (klZ c48) sm_P Sc klc_6 := en_chk_ok klZ_ok (T := []) (cuts := klu_6) (fun _ h => absurd h List.not_mem_nil) (by decide +kernel)
theorem klz_7 {Sc : sm_C} {c48 : Nat → Int64} : en_hold kl_tb3 (klZ c48) sm_P Sc klc_7 := en_chk_ok klZ_ok (T := []) (cuts := klu_7) (fun _ h => absurd h List.not_mem_nil) (by decide +kernel)
theorem klz_8 {Sc : sm_C} {c48 : Nat → Int64} : en_hold kl_tb3 (klZ c48) sm_P Sc klc_8 := en_chk_ok klZ_ok (T := []) (cuts := klu_8) (fun _ h => absurd h List.not_mem_nil) (by decide +kernel)
theorem klz_9 {Sc : sm_C} {c48 : Nat → Int64} : en_hold kl_tb3 (klZ c48) sm_P Sc klc_9 := en_chk_ok klZ_ok (T := []) (cuts := klu_9) (fun _ h => absurd h List.not_mem_nil) (by decide +kernel)
theorem klz_39 {Sc : sm_C} {c48 : Nat → Int64} : en_hold kl_tb3 (klZ c48) sm_P Sc klc_39 := en_chk_ok klZ_ok (T := []) (cuts := klu_39) (fun _ h => absurd h List.not_mem_nil) (by decide +kernel)
theorem klz_40 {Sc : sm_C} {c48 : Nat → Int64} : en_hold kl_tb3 (klZ c48) sm_P Sc klc_40 := en_chk_ok klZ_ok (T := []) (cuts := klu_40) (fun _ h => absurd h List.not_mem_nil) (by decide +kernel)
theorem klz_41 {Sc : sm_C} {c48 : Nat → Int64} : en_hold kl_tb3 (klZ c48) sm_P Sc klc_41 := en_chk_ok klZ_ok (T := []) (cuts := klu_41) (fun _ h => absurd h List.not_mem_nil) (by decide +kernel)
theorem klz_42 {Sc : sm_C} {c48 : Nat → Int64} : en_hold kl_tb3 (klZ c48) sm_P Sc klc_42 := en_chk_ok klZ_ok (T := []) (cuts := klu_42) (fun _ h => absurd h List.not_mem_nil) (by decide +kernel)
theorem klz_43 {Sc : sm_C} {c48 : Nat → Int64} : en_hold kl_tb3 (klZ c48) sm_P Sc klc_43 := en_chk_ok klZ_ok (T := []) (cuts := klu_43) (fun _ h => absurd h List.not_mem_nil) (by decide +kernel)
theorem klz_44 {Sc : sm_C} {c48 : Nat → Int64} : en_hold kl_tb3 (klZ c48) sm_P Sc klc_44 := en_chk_ok klZ_ok (T := []) (cuts := klu_44) (fun _ h => absurd h List.not_mem_nil) (by decide +kernel)
theorem klz_47 {Sc : sm_C} {c48 : Nat → Int64} : en_hold kl_tb3 (klZ c48) sm_P Sc klc_47 := en_chk_ok klZ_ok (T := []) (cuts := klu_47) (fun _ h => absurd h List.not_mem_nil) (by decide +kernel)
theorem klz_48 {Sc : sm_C} {c48 : Nat → Int64} : en_hold kl_tb3 (klZ c48) sm_P Sc klc_48 := en_chk_ok klZ_ok (T := []) (cuts := klu_48) (fun _ h => absurd h List.not_mem_nil) (by decide +kernel)
theorem klz_49 {Sc : sm_C} {c48 : Nat → Int64} : en_hold kl_tb3 (klZ c48) sm_P Sc klc_49 := en_chk_ok klZ_ok (T := []) (cuts := klu_49) (fun _ h => absurd h List.not_mem_nil) (by decide +kernel)
theorem klz_50 {Sc : sm_C} {c48 : Nat → Int64} : en_hold kl_tb3 (klZ c48) sm_P Sc klc_50 := en_chk_ok klZ_ok (T := []) (cuts := klu_50) (fun _ h => absurd h List.not_mem_nil) (by decide +kernel)
theorem klz_51 {Sc : sm_C} {c48 : Nat → Int64} : en_hold kl_tb3 (klZ c48) sm_P Sc klc_51 := en_chk_ok klZ_ok (T := []) (cuts := klu_51) (fun _ h => absurd h List.not_mem_nil) (by decide +kernel)
theorem klz_52 {Sc : sm_C} {c48 : Nat → Int64} : en_hold kl_tb3 (klZ c48) sm_P Sc klc_52 := en_chk_ok klZ_ok (T := []) (cuts := klu_52) (fun _ h => absurd h List.not_mem_nil) (by decide +kernel)
theorem klz_53 {Sc : sm_C} {c48 : Nat → Int64} : en_hold kl_tb3 (klZ c48) sm_P Sc klc_53 := en_chk_ok klZ_ok (T := []) (cuts := klu_53) (fun _ h => absurd h List.not_mem_nil) (by decide +kernel)
theorem klz_54 {Sc : sm_C} {c48 : Nat → Int64} : en_hold kl_tb3 (klZ c48) sm_P Sc klc_54 := en_chk_ok klZ_ok (T := [klc_47, klc_48, klc_49, klc_50, klc_51, klc_52, klc_53]) (cuts := klu_54) (List.forall_mem_cons.mpr ⟨klz_47, List.forall_mem_cons.mpr ⟨klz_48, List.forall_mem_cons.mpr ⟨klz_49, List.forall_mem_cons.mpr ⟨klz_50, List.forall_mem_cons.mpr ⟨klz_51, List.forall_mem_cons.mpr ⟨klz_52, List.forall_mem_cons.mpr ⟨klz_53, fun _ h => absurd h List.not_mem_nil⟩⟩⟩⟩⟩⟩⟩) (by decide +kernel)
theorem klz_55 {Sc : sm_C} {c48 : Nat → Int64} : en_hold kl_tb3 (klZ c48) sm_P Sc klc_55 := en_chk_ok klZ_ok (T := []) (cuts := klu_55) (fun _ h => absurd h List.not_mem_nil) (by decide +kernel)
theorem klz_56 {Sc : sm_C} {c48 : Nat → Int64} : en_hold kl_tb3 (klZ c48) sm_P Sc klc_56 := en_chk_ok klZ_ok (T := []) (cuts := klu_56) (fun _ h => absurd h List.not_mem_nil) (by decide +kernel)
theorem klz_57 {Sc : sm_C} {c48 : Nat → Int64} : en_hold kl_tb3 (klZ c48) sm_P Sc klc_57 := en_chk_ok klZ_ok (T := []) (cuts := klu_57) (fun _ h => absurd h List.not_mem_nil) (by decide +kernel)
theorem klz_58 {Sc : sm_C} {c48 : Nat → Int64} : en_hold kl_tb3 (klZ c48) sm_P Sc klc_58 := en_chk_ok klZ_ok (T := []) (cuts := klu_58) (fun _ h => absurd h List.not_mem_nil) (by decide +kernel)
theorem klz_59 {Sc : sm_C} {c48 : Nat → Int64} : en_hold kl_tb3 (klZ c48) sm_P Sc klc_59 := en_chk_ok klZ_ok (T := []) (cuts := klu_59) (fun _ h => absurd h List.not_mem_nil) (by decide +kernel)
theorem klz_60 {Sc : sm_C} {c48 : Nat → Int64} : en_hold kl_tb3 (klZ c48) sm_P Sc klc_60 := en_chk_ok klZ_ok (T := []) (cuts := klu_60) (fun _ h => absurd h List.not_mem_nil) (by decide +kernel)
theorem klz_61 {Sc : sm_C} {c48 : Nat → Int64} : en_hold kl_tb3 (klZ c48) sm_P Sc klc_61 := en_chk_ok klZ_ok (T := []) (cuts := klu_61) (fun _ h => absurd h List.not_mem_nil) (by decide +kernel)
theorem klz_62 {Sc : sm_C} {c48 : Nat → Int64} : en_hold kl_tb3 (klZ c48) sm_P Sc klc_62 := en_chk_ok klZ_ok (T := [klc_55, klc_56, klc_57, klc_58, klc_59, klc_60, klc_61]) (cuts := klu_62) (List.forall_mem_cons.mpr ⟨klz_55, List.forall_mem_cons.mpr ⟨klz_56, List.forall_mem_cons.mpr ⟨klz_57, List.forall_mem_cons.mpr ⟨klz_58, List.forall_mem_cons.mpr ⟨klz_59, List.forall_mem_cons.mpr ⟨klz_60, List.forall_mem_cons.mpr ⟨klz_61, fun _ h => absurd h List.not_mem_nil⟩⟩⟩⟩⟩⟩⟩) (by decide +kernel)
theorem klz_63 {Sc : sm_C} {c48 : Nat → Int64} : en_hold kl_tb3 (klZ c48) sm_P Sc klc_63 := en_chk_ok klZ_ok (T := []) (cuts := klu_63) (fun _ h => absurd h List.not_mem_nil) (by decide +kernel)
theorem klz_64 {Sc : sm_C} {c48 : Nat → Int64} : en_hold kl_tb3 (klZ c48) sm_P Sc klc_64 := en_chk_ok klZ_ok (T := [klc_63]) (cuts := klu_64) (List.forall_mem_cons.mpr ⟨klz_63, fun _ h => absurd h List.not_mem_nil⟩) (by decide +kernel)
theorem klz_65 {Sc : sm_C} {c48 : Nat → Int64} : en_hold kl_tb3 (klZ c48) sm_P Sc klc_65 := en_chk_ok klZ_ok (T := []) (cuts := klu_65) (fun _ h => absurd h List.not_mem_nil) (by decide +kernel)
theorem klz_66 {Sc : sm_C} {c48 : Nat → Int64} : en_hold kl_tb3 (klZ c48) sm_P Sc klc_66 := en_chk_ok klZ_ok (T := [klc_65]) (cuts := klu_66) (List.forall_mem_cons.mpr ⟨klz_65, fun _ h => absurd h List.not_mem_nil⟩) (by decide +kernel)
theorem klz_67 {Sc : sm_C} {c48 : Nat → Int64} : en_hold kl_tb3 (klZ c48) sm_P Sc klc_67 := en_chk_ok klZ_ok (T := [klc_41, klc_63]) (cuts := klu_67) (List.forall_mem_cons.mpr ⟨klz_41, List.forall_mem_cons.mpr ⟨klz_63, fun _ h => absurd h List.not_mem_nil⟩⟩) (by decide +kernel)
theorem klz_68 {Sc : sm_C} {c48 : Nat → Int64} : en_hold kl_tb3 (klZ c48) sm_P Sc klc_68 := en_chk_ok klZ_ok (T := [klc_42, klc_65]) (cuts := klu_68) (List.forall_mem_cons.mpr ⟨klz_42, List.forall_mem_cons.mpr ⟨klz_65, fun _ h => absurd h List.not_mem_nil⟩⟩) (by decide +kernel)
theorem klz_71 {Sc : sm_C} {c48 : Nat → Int64} : en_hold kl_tb3 (klZ c48) sm_P Sc klc_71 := en_chk_ok klZ_ok (T := []) (cuts := klu_71) (fun _ h => absurd h List.not_mem_nil) (by decide +kernel)
theorem klz_72 {Sc : sm_C} {c48 : Nat → Int64} : en_hold kl_tb3 (klZ c48) sm_P Sc klc_72 := en_chk_ok klZ_ok (T := [klc_71]) (cuts := klu_72) (List.forall_mem_cons.mpr ⟨klz_71, fun _ h => absurd h List.not_mem_nil⟩) (by decide +kernel)
theorem klz_73 {Sc : sm_C} {c48 : Nat → Int64} : en_hold kl_tb3 (klZ c48) sm_P Sc klc_73 := en_chk_ok klZ_ok (T := []) (cuts := klu_73) (fun _ h => absurd h List.not_mem_nil) (by decide +kernel)
theorem klz_74 {Sc : sm_C} {c48 : Nat → Int64} : en_hold kl_tb3 (klZ c48) sm_P Sc klc_74 := en_chk_ok klZ_ok (T := [klc_73]) (cuts := klu_74) (List.forall_mem_cons.mpr ⟨klz_73, fun _ h => absurd h List.not_mem_nil⟩) (by decide +kernel)
theorem klz_82 {Sc : sm_C} {c48 : Nat → Int64} : en_hold kl_tb3 (klZ c48) sm_P Sc klc_82 := en_chk_ok klZ_ok (T := []) (cuts := klu_82) (fun _ h => absurd h List.not_mem_nil) (by decide +kernel)
theorem klz_83 {Sc : sm_C} {c48 : Nat → Int64} : en_hold kl_tb3 (klZ c48) sm_P Sc klc_83 := en_chk_ok klZ_ok (T := [klc_6, klc_8, klc_82]) (cuts := klu_83) (List.forall_mem_cons.mpr ⟨klz_6, List.forall_mem_cons.mpr ⟨klz_8, List.forall_mem_cons.mpr ⟨klz_82, fun _ h => absurd h List.not_mem_nil⟩⟩⟩) (by decide +kernel)
theorem klz_84 {Sc : sm_C} {c48 : Nat → Int64} : en_hold kl_tb3 (klZ c48) sm_P Sc klc_84 := en_chk_ok klZ_ok (T := []) (cuts := klu_84) (fun _ h => absurd h List.not_mem_nil) (by decide +kernel)
theorem klz_85 {Sc : sm_C} {c48 : Nat → Int64} : en_hold kl_tb3 (klZ c48) sm_P Sc klc_85 := en_chk_ok klZ_ok (T := [klc_7, klc_9, klc_84]) (cuts := klu_85) (List.forall_mem_cons.mpr ⟨klz_7, List.forall_mem_cons.mpr ⟨klz_9, List.forall_mem_cons.mpr ⟨klz_84, fun _ h => absurd h List.not_mem_nil⟩⟩⟩) (by decide +kernel)
