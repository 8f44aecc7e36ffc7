/-! THE LAW: at the start all is the same -/
theorem lw_s0 {I : sm_I} {L : sm_L} {R : sm_R} (z : sz (xLay, I, L, R)) : LJ I R := by
  have iz : ∀ {x : Int32}, x.toInt = 0 → x = 0 := fun e => en_ofI (by rw [e]; decide)
  have im : ∀ {x : Int32}, x.toInt = -1 → x = -1 := fun e => en_ofI (by rw [e]; decide)
  have r : ∀ p n v, (p, n, v) ∈ sz_rows → ∀ j, j < n → (I p j).toInt = v := fun p n v h j hj => z.1 (p, n, v) h j hj
  have f : ∀ p j v, (p, j, v) ∈ sz_flds → (I p j).toInt = v := fun p j v h => z.2.1 (p, j, v) h
  have e10 : I 0 10 = 0 := iz (f 0 10 0 (by decide))
  have e37 : I 37 0 = 0 := iz (f 37 0 0 (by decide))
  have m37 : I 37 1 = 0 := iz (f 37 1 0 (by decide))
  refine ⟨⟨?_, fun j hj => ?_, ?_⟩, ⟨fun k hk => ?_, fun k hk => ?_, ?_, fun i hi hj => ?_, fun k hk => ?_⟩, 49, 12, 0, ⟨Or.inr ⟨rfl, rfl⟩, Nat.zero_le _, z.2.2 (0, 9, 49) (by decide), z.2.2 (2, 6, 12) (by decide), f 107 18 0 (by decide)⟩, ⟨(fun c j => I (c + (49 - 12)) j, fun _ => 0), fun c j _ _ _ _ => rfl, TDw_0 (fun p hp => ?_) (fun j hj => ?_) ?_⟩, fun x y hx _ => ?_, ?_, fun j hj => ?_⟩
  · rw [e10, iz (f 107 2 0 (by decide))]
  · rw [e10, kl_0] at hj
    omega
  · rw [im (f 0 11 (-1) (by decide)), im (f 107 17 (-1) (by decide))]
  · rw [e37, iz (r 137 10 0 (by decide) k hk)]
    simp
  · rw [im (r 38 10 (-1) (by decide) k hk), im (r 138 10 (-1) (by decide) k hk)]
  · rw [m37, iz (f 107 54 0 (by decide))]
  · rw [m37, kl_0] at hj
    omega
  · rw [im (r 39 55 (-1) (by decide) k hk), im (r 160 60 (-1) (by decide) k (by omega))]
  · rcases hp with e | e | e | e | e | e <;> subst e
    · exact iz (r 118 2 0 (by decide) 0 (by decide))
    · exact iz (r 119 2 0 (by decide) 0 (by decide))
    · exact iz (r 122 2 0 (by decide) 0 (by decide))
    · exact iz (r 125 2 0 (by decide) 0 (by decide))
    · exact iz (r 134 2 0 (by decide) 0 (by decide))
    · exact iz (r 136 2 0 (by decide) 0 (by decide))
  · show I 49 j = 0
    rcases (by omega : j = 0 ∨ j = 1 ∨ j = 2 ∨ j = 3 ∨ j = 4) with e | e | e | e | e <;> subst e
    · exact iz (f 49 0 0 (by decide))
    · exact iz (f 49 1 0 (by decide))
    · exact iz (f 49 2 0 (by decide))
    · exact iz (f 49 3 0 (by decide))
    · exact iz (f 49 4 0 (by decide))
  · show I 49 6 = 0
    exact iz (f 49 6 0 (by decide))
  · rw [iz (r 119 2 0 (by decide) 0 (by decide)), kl_0] at hx
    omega
  · rw [iz (f 49 5 0 (by decide)), iz (f 107 46 0 (by decide))]
  · rw [iz (f 107 46 0 (by decide)), kl_0] at hj
    omega
