/-! for every script of at most six ints the law's run answers 1 -/
theorem ab_rg (ys : Nat → Int32) (k : Nat) : -2147483648 ≤ (ys k).toInt ∧ (ys k).toInt ≤ 2147483647 := ab_crange
theorem ab_six (ys : Nat → Int32) : sm_wp sm_P (6, ys) 60 307 0 [.ref 1004] [] sm_w0 (0, 0) (fun z => z.1 = some (.int 1)) := by
  have r0 := ab_rg ys 0
  have r1 := ab_rg ys 1
  have r2 := ab_rg ys 2
  have r6 := ab_rho6 ys
  have go : ∀ {l1 h1 l2 h2 l6 h6 : Int} {n : Nat}, ab_run 6 sm_P ab_acc n 60 307 0 [(2, .ofNat 1004)] [] ab_M0 [ab_full, (l1, h1), (l2, h2), ab_full, ab_full, ab_full, (l6, h6)] (0, 0) ab_k1 = true → (l1 ≤ (ys 1).toInt ∧ (ys 1).toInt ≤ h1) → (l2 ≤ (ys 2).toInt ∧ (ys 2).toInt ≤ h2) → (l6 ≤ (ab_rho ys 6).toInt ∧ (ab_rho ys 6).toInt ≤ h6) → sm_wp sm_P (6, ys) 60 307 0 [.ref 1004] [] sm_w0 (0, 0) (fun z => z.1 = some (.int 1)) := fun h q1 q2 q6 => ab_fin (Nat.le_refl 6) h (ab_satE r0 q1 q2 q6)
  by_cases c0 : (ab_rho ys 6).toInt ≤ 17
  · exact go rn_g1 (by simp only [Int.negSucc_eq, Int.ofNat_eq_natCast]; omega) (by simp only [Int.negSucc_eq, Int.ofNat_eq_natCast]; omega) (by simp only [Int.negSucc_eq, Int.ofNat_eq_natCast]; omega)
  by_cases c18 : (ab_rho ys 6).toInt ≤ 18
  · exact go rn_o18 (by simp only [Int.negSucc_eq, Int.ofNat_eq_natCast]; omega) (by simp only [Int.negSucc_eq, Int.ofNat_eq_natCast]; omega) (by simp only [Int.negSucc_eq, Int.ofNat_eq_natCast]; omega)
  by_cases c19 : (ab_rho ys 6).toInt ≤ 19
  · by_cases d19_3 : (ys 1).toInt ≤ -1
    · exact go rn_o19_0 (by simp only [Int.negSucc_eq, Int.ofNat_eq_natCast]; omega) (by simp only [Int.negSucc_eq, Int.ofNat_eq_natCast]; omega) (by simp only [Int.negSucc_eq, Int.ofNat_eq_natCast]; omega)
    · by_cases d19_2 : (ys 1).toInt ≤ 0
      · exact go rn_o19_1 (by simp only [Int.negSucc_eq, Int.ofNat_eq_natCast]; omega) (by simp only [Int.negSucc_eq, Int.ofNat_eq_natCast]; omega) (by simp only [Int.negSucc_eq, Int.ofNat_eq_natCast]; omega)
      · exact go rn_o19_2 (by simp only [Int.negSucc_eq, Int.ofNat_eq_natCast]; omega) (by simp only [Int.negSucc_eq, Int.ofNat_eq_natCast]; omega) (by simp only [Int.negSucc_eq, Int.ofNat_eq_natCast]; omega)
  by_cases c20 : (ab_rho ys 6).toInt ≤ 20
  · exact go rn_o20 (by simp only [Int.negSucc_eq, Int.ofNat_eq_natCast]; omega) (by simp only [Int.negSucc_eq, Int.ofNat_eq_natCast]; omega) (by simp only [Int.negSucc_eq, Int.ofNat_eq_natCast]; omega)
  by_cases c21 : (ab_rho ys 6).toInt ≤ 21
  · by_cases d21_3 : (ys 1).toInt ≤ -1
    · exact go rn_o21_0 (by simp only [Int.negSucc_eq, Int.ofNat_eq_natCast]; omega) (by simp only [Int.negSucc_eq, Int.ofNat_eq_natCast]; omega) (by simp only [Int.negSucc_eq, Int.ofNat_eq_natCast]; omega)
    · by_cases d21_2 : (ys 1).toInt ≤ 0
      · exact go rn_o21_1 (by simp only [Int.negSucc_eq, Int.ofNat_eq_natCast]; omega) (by simp only [Int.negSucc_eq, Int.ofNat_eq_natCast]; omega) (by simp only [Int.negSucc_eq, Int.ofNat_eq_natCast]; omega)
      · exact go rn_o21_2 (by simp only [Int.negSucc_eq, Int.ofNat_eq_natCast]; omega) (by simp only [Int.negSucc_eq, Int.ofNat_eq_natCast]; omega) (by simp only [Int.negSucc_eq, Int.ofNat_eq_natCast]; omega)
  by_cases c22 : (ab_rho ys 6).toInt ≤ 22
  · exact go rn_o22 (by simp only [Int.negSucc_eq, Int.ofNat_eq_natCast]; omega) (by simp only [Int.negSucc_eq, Int.ofNat_eq_natCast]; omega) (by simp only [Int.negSucc_eq, Int.ofNat_eq_natCast]; omega)
  by_cases c23 : (ab_rho ys 6).toInt ≤ 23
  · exact go rn_o23 (by simp only [Int.negSucc_eq, Int.ofNat_eq_natCast]; omega) (by simp only [Int.negSucc_eq, Int.ofNat_eq_natCast]; omega) (by simp only [Int.negSucc_eq, Int.ofNat_eq_natCast]; omega)
  by_cases c24 : (ab_rho ys 6).toInt ≤ 24
  · by_cases d24_2 : (ys 1).toInt ≤ -2147483549
    · exact go rn_o24_0 (by simp only [Int.negSucc_eq, Int.ofNat_eq_natCast]; omega) (by simp only [Int.negSucc_eq, Int.ofNat_eq_natCast]; omega) (by simp only [Int.negSucc_eq, Int.ofNat_eq_natCast]; omega)
    · exact go rn_o24_1 (by simp only [Int.negSucc_eq, Int.ofNat_eq_natCast]; omega) (by simp only [Int.negSucc_eq, Int.ofNat_eq_natCast]; omega) (by simp only [Int.negSucc_eq, Int.ofNat_eq_natCast]; omega)
  by_cases c25 : (ab_rho ys 6).toInt ≤ 31
  · exact go rn_g2 (by simp only [Int.negSucc_eq, Int.ofNat_eq_natCast]; omega) (by simp only [Int.negSucc_eq, Int.ofNat_eq_natCast]; omega) (by simp only [Int.negSucc_eq, Int.ofNat_eq_natCast]; omega)
  by_cases c32 : (ab_rho ys 6).toInt ≤ 32
  · by_cases d32_9 : (ys 1).toInt ≤ -1
    · by_cases f32_3 : (ys 2).toInt ≤ -1
      · exact go rn_o32_0 (by simp only [Int.negSucc_eq, Int.ofNat_eq_natCast]; omega) (by simp only [Int.negSucc_eq, Int.ofNat_eq_natCast]; omega) (by simp only [Int.negSucc_eq, Int.ofNat_eq_natCast]; omega)
      · by_cases f32_2 : (ys 2).toInt ≤ 0
        · exact go rn_o32_1 (by simp only [Int.negSucc_eq, Int.ofNat_eq_natCast]; omega) (by simp only [Int.negSucc_eq, Int.ofNat_eq_natCast]; omega) (by simp only [Int.negSucc_eq, Int.ofNat_eq_natCast]; omega)
        · exact go rn_o32_2 (by simp only [Int.negSucc_eq, Int.ofNat_eq_natCast]; omega) (by simp only [Int.negSucc_eq, Int.ofNat_eq_natCast]; omega) (by simp only [Int.negSucc_eq, Int.ofNat_eq_natCast]; omega)
    · by_cases d32_6 : (ys 1).toInt ≤ 0
      · by_cases f32_3 : (ys 2).toInt ≤ -1
        · exact go rn_o32_3 (by simp only [Int.negSucc_eq, Int.ofNat_eq_natCast]; omega) (by simp only [Int.negSucc_eq, Int.ofNat_eq_natCast]; omega) (by simp only [Int.negSucc_eq, Int.ofNat_eq_natCast]; omega)
        · by_cases f32_2 : (ys 2).toInt ≤ 0
          · exact go rn_o32_4 (by simp only [Int.negSucc_eq, Int.ofNat_eq_natCast]; omega) (by simp only [Int.negSucc_eq, Int.ofNat_eq_natCast]; omega) (by simp only [Int.negSucc_eq, Int.ofNat_eq_natCast]; omega)
          · exact go rn_o32_5 (by simp only [Int.negSucc_eq, Int.ofNat_eq_natCast]; omega) (by simp only [Int.negSucc_eq, Int.ofNat_eq_natCast]; omega) (by simp only [Int.negSucc_eq, Int.ofNat_eq_natCast]; omega)
      · by_cases f32_3 : (ys 2).toInt ≤ -1
        · exact go rn_o32_6 (by simp only [Int.negSucc_eq, Int.ofNat_eq_natCast]; omega) (by simp only [Int.negSucc_eq, Int.ofNat_eq_natCast]; omega) (by simp only [Int.negSucc_eq, Int.ofNat_eq_natCast]; omega)
        · by_cases f32_2 : (ys 2).toInt ≤ 0
          · exact go rn_o32_7 (by simp only [Int.negSucc_eq, Int.ofNat_eq_natCast]; omega) (by simp only [Int.negSucc_eq, Int.ofNat_eq_natCast]; omega) (by simp only [Int.negSucc_eq, Int.ofNat_eq_natCast]; omega)
          · exact go rn_o32_8 (by simp only [Int.negSucc_eq, Int.ofNat_eq_natCast]; omega) (by simp only [Int.negSucc_eq, Int.ofNat_eq_natCast]; omega) (by simp only [Int.negSucc_eq, Int.ofNat_eq_natCast]; omega)
  by_cases c33 : (ab_rho ys 6).toInt ≤ 33
  · by_cases d33_4 : (ys 1).toInt ≤ -1
    · exact go rn_o33_0 (by simp only [Int.negSucc_eq, Int.ofNat_eq_natCast]; omega) (by simp only [Int.negSucc_eq, Int.ofNat_eq_natCast]; omega) (by simp only [Int.negSucc_eq, Int.ofNat_eq_natCast]; omega)
    · by_cases d33_3 : (ys 1).toInt ≤ 0
      · exact go rn_o33_1 (by simp only [Int.negSucc_eq, Int.ofNat_eq_natCast]; omega) (by simp only [Int.negSucc_eq, Int.ofNat_eq_natCast]; omega) (by simp only [Int.negSucc_eq, Int.ofNat_eq_natCast]; omega)
      · by_cases d33_2 : (ys 1).toInt ≤ 1000
        · exact go rn_o33_2 (by simp only [Int.negSucc_eq, Int.ofNat_eq_natCast]; omega) (by simp only [Int.negSucc_eq, Int.ofNat_eq_natCast]; omega) (by simp only [Int.negSucc_eq, Int.ofNat_eq_natCast]; omega)
        · exact go rn_o33_3 (by simp only [Int.negSucc_eq, Int.ofNat_eq_natCast]; omega) (by simp only [Int.negSucc_eq, Int.ofNat_eq_natCast]; omega) (by simp only [Int.negSucc_eq, Int.ofNat_eq_natCast]; omega)
  by_cases c34 : (ab_rho ys 6).toInt ≤ 34
  · by_cases d34_4 : (ys 1).toInt ≤ -1
    · exact go rn_o34_0 (by simp only [Int.negSucc_eq, Int.ofNat_eq_natCast]; omega) (by simp only [Int.negSucc_eq, Int.ofNat_eq_natCast]; omega) (by simp only [Int.negSucc_eq, Int.ofNat_eq_natCast]; omega)
    · by_cases d34_3 : (ys 1).toInt ≤ 0
      · exact go rn_o34_1 (by simp only [Int.negSucc_eq, Int.ofNat_eq_natCast]; omega) (by simp only [Int.negSucc_eq, Int.ofNat_eq_natCast]; omega) (by simp only [Int.negSucc_eq, Int.ofNat_eq_natCast]; omega)
      · by_cases d34_2 : (ys 1).toInt ≤ 1000
        · exact go rn_o34_2 (by simp only [Int.negSucc_eq, Int.ofNat_eq_natCast]; omega) (by simp only [Int.negSucc_eq, Int.ofNat_eq_natCast]; omega) (by simp only [Int.negSucc_eq, Int.ofNat_eq_natCast]; omega)
        · exact go rn_o34_3 (by simp only [Int.negSucc_eq, Int.ofNat_eq_natCast]; omega) (by simp only [Int.negSucc_eq, Int.ofNat_eq_natCast]; omega) (by simp only [Int.negSucc_eq, Int.ofNat_eq_natCast]; omega)
  by_cases c35 : (ab_rho ys 6).toInt ≤ 40
  · exact go rn_g3 (by simp only [Int.negSucc_eq, Int.ofNat_eq_natCast]; omega) (by simp only [Int.negSucc_eq, Int.ofNat_eq_natCast]; omega) (by simp only [Int.negSucc_eq, Int.ofNat_eq_natCast]; omega)
  by_cases c41 : (ab_rho ys 6).toInt ≤ 41
  · exact go rn_o41 (by simp only [Int.negSucc_eq, Int.ofNat_eq_natCast]; omega) (by simp only [Int.negSucc_eq, Int.ofNat_eq_natCast]; omega) (by simp only [Int.negSucc_eq, Int.ofNat_eq_natCast]; omega)
  by_cases c42 : (ab_rho ys 6).toInt ≤ 45
  · exact go rn_g4 (by simp only [Int.negSucc_eq, Int.ofNat_eq_natCast]; omega) (by simp only [Int.negSucc_eq, Int.ofNat_eq_natCast]; omega) (by simp only [Int.negSucc_eq, Int.ofNat_eq_natCast]; omega)
  by_cases c46 : (ab_rho ys 6).toInt ≤ 46
  · by_cases d46_11 : (ys 1).toInt ≤ -2147483639
    · exact go rn_o46_0 (by simp only [Int.negSucc_eq, Int.ofNat_eq_natCast]; omega) (by simp only [Int.negSucc_eq, Int.ofNat_eq_natCast]; omega) (by simp only [Int.negSucc_eq, Int.ofNat_eq_natCast]; omega)
    · by_cases d46_10 : (ys 1).toInt ≤ -1
      · exact go rn_o46_1 (by simp only [Int.negSucc_eq, Int.ofNat_eq_natCast]; omega) (by simp only [Int.negSucc_eq, Int.ofNat_eq_natCast]; omega) (by simp only [Int.negSucc_eq, Int.ofNat_eq_natCast]; omega)
      · by_cases d46_9 : (ys 1).toInt ≤ 0
        · exact go rn_o46_2 (by simp only [Int.negSucc_eq, Int.ofNat_eq_natCast]; omega) (by simp only [Int.negSucc_eq, Int.ofNat_eq_natCast]; omega) (by simp only [Int.negSucc_eq, Int.ofNat_eq_natCast]; omega)
        · by_cases d46_8 : (ys 1).toInt ≤ 1
          · exact go rn_o46_3 (by simp only [Int.negSucc_eq, Int.ofNat_eq_natCast]; omega) (by simp only [Int.negSucc_eq, Int.ofNat_eq_natCast]; omega) (by simp only [Int.negSucc_eq, Int.ofNat_eq_natCast]; omega)
          · by_cases d46_7 : (ys 1).toInt ≤ 2
            · exact go rn_o46_4 (by simp only [Int.negSucc_eq, Int.ofNat_eq_natCast]; omega) (by simp only [Int.negSucc_eq, Int.ofNat_eq_natCast]; omega) (by simp only [Int.negSucc_eq, Int.ofNat_eq_natCast]; omega)
            · by_cases d46_6 : (ys 1).toInt ≤ 3
              · exact go rn_o46_5 (by simp only [Int.negSucc_eq, Int.ofNat_eq_natCast]; omega) (by simp only [Int.negSucc_eq, Int.ofNat_eq_natCast]; omega) (by simp only [Int.negSucc_eq, Int.ofNat_eq_natCast]; omega)
              · by_cases d46_5 : (ys 1).toInt ≤ 4
                · exact go rn_o46_6 (by simp only [Int.negSucc_eq, Int.ofNat_eq_natCast]; omega) (by simp only [Int.negSucc_eq, Int.ofNat_eq_natCast]; omega) (by simp only [Int.negSucc_eq, Int.ofNat_eq_natCast]; omega)
                · by_cases d46_4 : (ys 1).toInt ≤ 5
                  · exact go rn_o46_7 (by simp only [Int.negSucc_eq, Int.ofNat_eq_natCast]; omega) (by simp only [Int.negSucc_eq, Int.ofNat_eq_natCast]; omega) (by simp only [Int.negSucc_eq, Int.ofNat_eq_natCast]; omega)
                  · by_cases d46_3 : (ys 1).toInt ≤ 6
                    · exact go rn_o46_8 (by simp only [Int.negSucc_eq, Int.ofNat_eq_natCast]; omega) (by simp only [Int.negSucc_eq, Int.ofNat_eq_natCast]; omega) (by simp only [Int.negSucc_eq, Int.ofNat_eq_natCast]; omega)
                    · by_cases d46_2 : (ys 1).toInt ≤ 7
                      · exact go rn_o46_9 (by simp only [Int.negSucc_eq, Int.ofNat_eq_natCast]; omega) (by simp only [Int.negSucc_eq, Int.ofNat_eq_natCast]; omega) (by simp only [Int.negSucc_eq, Int.ofNat_eq_natCast]; omega)
                      · exact go rn_o46_10 (by simp only [Int.negSucc_eq, Int.ofNat_eq_natCast]; omega) (by simp only [Int.negSucc_eq, Int.ofNat_eq_natCast]; omega) (by simp only [Int.negSucc_eq, Int.ofNat_eq_natCast]; omega)
  by_cases c47 : (ab_rho ys 6).toInt ≤ 63
  · exact go rn_g5 (by simp only [Int.negSucc_eq, Int.ofNat_eq_natCast]; omega) (by simp only [Int.negSucc_eq, Int.ofNat_eq_natCast]; omega) (by simp only [Int.negSucc_eq, Int.ofNat_eq_natCast]; omega)
  exfalso
  omega
theorem sm_main : sm_Main := by
  intro L ys hL
  have hE : ab_sat (ab_rho ys) [] := fun k => ab_crange
  match L, hL with
  | 0, _ => exact ab_fin (by decide) rn_L0 hE
  | 1, _ => exact ab_fin (by decide) rn_L1 hE
  | 2, _ => exact ab_fin (by decide) rn_L2 hE
  | 3, _ => exact ab_fin (by decide) rn_L3 hE
  | 4, _ => exact ab_fin (by decide) rn_L4 hE
  | 5, _ => exact ab_fin (by decide) rn_L5 hE
  | 6, _ => exact ab_six ys
