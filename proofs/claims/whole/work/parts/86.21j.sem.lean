/-! home. -/
theorem call_home {h m : AH} {s : St} {e : Ex} {b : Nat} (x y : Int32) (R : Rel h m s e b) (he : e 8 0 = e 8 1) : Ch 0 h m e b (f_X10_home h 1 x y) (f_X11_home m 226 x y) := by
  have L := RC_L R.1.1
  have L2 := rm_L R.2.1
  have B := IV_Bz R.2.2.1
  have Lt : LM (sI m 226 0 (0 : Int32)) := L2
  have no : Ch 0 h m e b (f_X10_home_L38 h) (f_X11_home_L36 m 226) := by
    refine Ch_no R he (v := 0) rfl ?_
    unfold f_X11_home_L36
    rw [y_gs, if_pos (lm_S226 L2), r_raise L2, y_bds]
  have no2 : Ch 0 h m e b (f_X10_home_L22 h 1 y) (f_X11_home_L11 m 226 y) := by
    unfold f_X10_home_L22 f_X10_home_L23 f_X11_home_L11 f_X11_home_L20
    rw [if_pos (by decide), if_pos rfl]; exact no
  unfold f_X10_home f_X11_home
  by_cases x0 : x < 0
  · rw [if_pos x0, if_pos x0]; exact no2
  rw [if_neg x0, if_neg x0]
  obtain ⟨l, hl, rfl⟩ := nlt0 x0
  by_cases g5 : l < 512
  · have n5 : ¬ (512 : Int32) ≤ nI l := fun q => by have := (q_le (show 512 < 2 ^ 31 by omega) hl).mp q; omega
    have l5 : nI l < (512 : Int32) := (q_lt hl (show 512 < 2 ^ 31 by omega)).mpr g5
    rw [if_neg n5, if_pos l5, y_gs, if_pos (lc_S1 L), lc_R1_3 L, y_gs, if_pos (lc_S19 L), c_hfind R.1.1 B (IV_Hr R.2.2.1) g5, y_bds, y_gs, if_pos (lm_S226 L2), r_homeWay' R.2.1 B (IV_Hr R.2.2.1) g5, y_bds]
    cases ew : hWay s l with
    | none => exact no2
    | some k =>
      obtain ⟨k5, k4⟩ := (hWay_iff B R.2.2.1.2.1.2).mp ew
      have u := hWay_u B ew
      have wl := cw_lt B u
      obtain ⟨w21, w24, w28, wr⟩ := RC_w R.1.1 u
      obtain ⟨w22, w23, w27, w29, w26⟩ := wr (by omega)
      have t0 : ∀ o k, o ≠ 226 → hI (sI m 226 0 (0 : Int32)) o k = hI m o k := fun o k ho => x_ne (by omega)
      rw [show Option.map (cw s) (some k) = some (cw s k) from rfl, oI_s, oI_s]
      unfold f_X10_home_L23 f_X11_home_L20
      rw [if_neg (lt0 (show cw s k < 2 ^ 31 by omega)), if_neg (k_n1 (show k < 2 ^ 31 by omega))]
      by_cases y0 : y < 0
      · rw [if_pos y0, if_pos y0]; exact no
      rw [if_neg y0, if_neg y0]
      obtain ⟨j, hj, rfl⟩ := nlt0 y0
      by_cases g9 : j ≤ 9
      · have l9 : nI j ≤ (9 : Int32) := (q_le hj (show 9 < 2 ^ 31 by omega)).mpr g9
        rw [if_pos l9, if_pos l9, y_gs, if_pos (lc_S1 L), lc_R1_3 L, y_gs, if_pos (lc_S19 L)]
        unfold f_X4_tell
        rw [y_gs m, if_pos (lm_S226 L2), y_lt]
        have ibc : ib (nI (cw s k)) 512 = true := q_ib wl (by omega)
        have ibk : ib (nI k) 512 = true := q_ib k5 (by omega)
        have qc := q_cl (show cw s k < 2 ^ 31 by omega)
        have qk := q_cl (show k < 2 ^ 31 by omega)
        have : j = 0 ∨ j = 1 ∨ j = 2 ∨ j = 3 ∨ j = 4 ∨ j = 9 ∨ (5 ≤ j ∧ j ≤ 8) := by omega
        rcases this with rfl | rfl | rfl | rfl | rfl | rfl | g58
        · rw [if_pos (show nI 0 = (0 : Int32) from rfl), y_gs, if_pos (lc_S19 L), lc_R19_3 L, y_gs, if_pos (lc_S22 L), lc_N22 L, y_gb, if_pos ibc, qc, w22, y_bds]
          rw [if_pos (show nI 0 = (0 : Int32) from rfl), lm_R51 Lt, y_gs, if_pos (lm_S264 Lt), lm_N264 Lt, y_gb, if_pos ibk, qk, t0 264 _ (by omega), rm_6 R.2.1 k5]
          exact Ch_ok R he rfl rfl
        · rw [if_neg (show ¬ nI 1 = (0 : Int32) from by decide), if_pos (show nI 1 = (1 : Int32) from rfl), y_gs, if_pos (lc_S19 L), lc_R19_4 L, y_gs, if_pos (lc_S23 L), lc_N23 L, y_gb, if_pos ibc, qc, w23, y_bds]
          rw [if_neg (show ¬ nI 1 = (0 : Int32) from by decide), if_pos (show nI 1 = (1 : Int32) from rfl), lm_R52 Lt, y_gs, if_pos (lm_S265 Lt), lm_N265 Lt, y_gb, if_pos ibk, qk, t0 265 _ (by omega), rm_7 R.2.1 k5]
          exact Ch_ok R he rfl rfl
        · rw [if_neg (show ¬ nI 2 = (0 : Int32) from by decide), if_neg (show ¬ nI 2 = (1 : Int32) from by decide), if_pos (show nI 2 = (2 : Int32) from rfl), y_gs, if_pos (lc_S19 L), lc_R19_5 L, y_gs, if_pos (lc_S24 L), lc_N24 L, y_gb, if_pos ibc, qc, w24, y_bds]
          rw [if_neg (show ¬ nI 2 = (0 : Int32) from by decide), if_neg (show ¬ nI 2 = (1 : Int32) from by decide), if_pos (show nI 2 = (2 : Int32) from rfl), lm_R53 Lt, y_gs, if_pos (lm_S266 Lt), lm_N266 Lt, y_gb, if_pos ibk, qk, t0 266 _ (by omega), rm_8 R.2.1 k5]
          exact Ch_ok R he rfl rfl
        · have d : hI h 26 (cw s k) = if N s 8 k = 0 then 0 else nI (N s 10 k) := by
            by_cases z : N s 8 k = 0
            · rw [if_pos z]; exact R.1.2 k u (by omega) z
            · rw [if_neg z]; exact (w26 z).1
          rw [if_neg (show ¬ nI 3 = (0 : Int32) from by decide), if_neg (show ¬ nI 3 = (1 : Int32) from by decide), if_neg (show ¬ nI 3 = (2 : Int32) from by decide), if_pos (show nI 3 = (3 : Int32) from rfl), y_gs, if_pos (lc_S19 L), lc_R19_7 L, y_gs, if_pos (lc_S26 L), lc_N26 L, y_gb, if_pos ibc, qc, d, y_bds]
          rw [if_neg (show ¬ nI 3 = (0 : Int32) from by decide), if_neg (show ¬ nI 3 = (1 : Int32) from by decide), if_neg (show ¬ nI 3 = (2 : Int32) from by decide), if_pos (show nI 3 = (3 : Int32) from rfl), lm_R53 Lt, y_gs, if_pos (lm_S266 Lt), lm_N266 Lt, y_gb, if_pos ibk, qk, t0 266 _ (by omega), rm_8 R.2.1 k5, lm_R55 Lt, y_gs, if_pos (lm_S268 Lt), lm_N268 Lt, y_gb, if_pos ibk, t0 268 _ (by omega), rm_10 R.2.1 k5]
          have n8 : N s 8 k ≤ 17 := (R.2.2.1.2.2.2.2.1.1 k k5).2.2.2.2.2.2.2.1
          by_cases z : N s 8 k = 0
          · rw [if_pos z, z, if_neg (fun q => q rfl)]; exact Ch_ok R he rfl rfl
          · have p : ¬ pI (N s 8 k) = (-1 : Int32) := by unfold pI; rw [if_neg z]; exact k_n1 (by omega)
            rw [if_neg z, if_pos p]; exact Ch_ok R he rfl rfl
        · rw [if_neg (show ¬ nI 4 = (0 : Int32) from by decide), if_neg (show ¬ nI 4 = (1 : Int32) from by decide), if_neg (show ¬ nI 4 = (2 : Int32) from by decide), if_neg (show ¬ nI 4 = (3 : Int32) from by decide), if_pos (show nI 4 = (4 : Int32) from rfl), y_gs, if_pos (lc_S19 L), lc_R19_8 L, y_gs, if_pos (lc_S27 L), lc_N27 L, y_gb, if_pos ibc, qc, w27]
          rw [if_neg (show ¬ nI 4 = (0 : Int32) from by decide), if_neg (show ¬ nI 4 = (1 : Int32) from by decide), if_neg (show ¬ nI 4 = (2 : Int32) from by decide), if_neg (show ¬ nI 4 = (3 : Int32) from by decide), if_pos (show nI 4 = (4 : Int32) from rfl), lm_R50 Lt, y_gs, if_pos (lm_S263 Lt), lm_N263 Lt, y_gb, if_pos ibk, qk, t0 263 _ (by omega), rm_5 R.2.1 k5]
          by_cases z : nI (N s 5 k) = 0
          · rw [if_pos z, if_pos z, y_bds]; exact Ch_ok R he rfl rfl
          · rw [if_neg z, if_neg z, y_bds]; exact Ch_ok R he rfl rfl
        · obtain ⟨a, a6, ea⟩ := Bz_4 B
          have p1 : 1 ≤ N s 0 4 := by rw [ea]; exact Nat.two_pow_pos a
          have p64 : N s 0 4 ≤ 64 := by rw [ea]; exact Nat.pow_le_pow_right (n := 2) (j := 6) (by omega) a6
          have n05 : N s 0 5 ≤ 8 := B.2.2.2.2.2.1.2
          have s4 : hI h 19 13 = nI (N s 0 4) := R.1.1.2.1.2.1
          have s5 : hI h 19 14 = nI (N s 0 5) := R.1.1.2.1.2.2.1
          have hk := R.2.2.1.2.1.2.1 k k5 (by omega)
          have ku := (set_u B hk.2.1 hk.2.2).2
          rw [k4, show l + 1 - 1 = l from rfl] at ku
          have li : hI h 21 (cw s k) = nI l := by rw [w21, k4]; unfold pI; rw [if_neg (by omega)]; rfl
          have mk : nI l &&& (nI (N s 0 4) - (1 : Int32)) = nI (l % N s 0 4) := by
            rw [ea, (show nI (2 ^ a) - (1 : Int32) = nI (2 ^ a - 1) from by rw [show (1 : Int32) = nI 1 from rfl, q_sub (Nat.two_pow_pos a)]), q_and (by omega) (by omega)]
          have sub : cw s k - l % N s 0 4 * N s 0 5 = k % 8 ∧ l % N s 0 4 * N s 0 5 ≤ cw s k := by
            unfold cw; rw [← ku]; omega
          have r8 : nI k - nI k / (8 : Int32) * (8 : Int32) = nI (k % 8) := q_rem (d := 8) (by omega) (by omega)
          rw [if_neg (show ¬ nI 9 = (0 : Int32) from by decide), if_neg (show ¬ nI 9 = (1 : Int32) from by decide), if_neg (show ¬ nI 9 = (2 : Int32) from by decide), if_neg (show ¬ nI 9 = (3 : Int32) from by decide), if_neg (show ¬ nI 9 = (4 : Int32) from by decide), if_pos (show nI 9 = (9 : Int32) from rfl), y_gs, if_pos (lc_S19 L), lc_R19_2 L, y_gs, if_pos (lc_S21 L), lc_N21 L, y_gb, if_pos ibc, qc, li, s4, s5, mk, q_mul, q_sub sub.2, sub.1, y_bds]
          rw [if_neg (show ¬ nI 9 = (0 : Int32) from by decide), if_neg (show ¬ nI 9 = (1 : Int32) from by decide), if_neg (show ¬ nI 9 = (2 : Int32) from by decide), if_neg (show ¬ nI 9 = (3 : Int32) from by decide), if_neg (show ¬ nI 9 = (4 : Int32) from by decide), if_pos (show nI 9 = (9 : Int32) from rfl), r8]
          exact Ch_ok R he rfl rfl
        · have ne : ∀ i, i < 5 ∨ i = 9 → ¬ nI j = nI i := fun i hi q => by have := (q_eq hj (by omega)).mp q; omega
          have i1 : nI (cw s k) * (4 : Int32) + ((nI j - (5 : Int32)) &&& (3 : Int32)) = nI (4 * cw s k + (j - 5)) := by
            rw [show (5 : Int32) = nI 5 from rfl, q_sub (by omega), show (3 : Int32) = nI (2 ^ 2 - 1) from rfl, q_and (by omega) (by omega), show (4 : Int32) = nI 4 from rfl, q_mul, q_add, show (j - 5) % 2 ^ 2 = j - 5 by omega, show cw s k * 4 = 4 * cw s k by omega]
          have i2 : (4 : Int32) * nI k + nI j - (5 : Int32) = nI (4 * k + (j - 5)) := by
            rw [show (4 : Int32) = nI 4 from rfl, q_mul, q_add, show (5 : Int32) = nI 5 from rfl, q_sub (by omega), show 4 * k + j - 5 = 4 * k + (j - 5) by omega]
          rw [if_neg (show ¬ nI j = (0 : Int32) from ne 0 (by omega)), if_neg (show ¬ nI j = (1 : Int32) from ne 1 (by omega)), if_neg (show ¬ nI j = (2 : Int32) from ne 2 (by omega)), if_neg (show ¬ nI j = (3 : Int32) from ne 3 (by omega)), if_neg (show ¬ nI j = (4 : Int32) from ne 4 (by omega)), if_neg (show ¬ nI j = (9 : Int32) from ne 9 (by omega)), y_gs, if_pos (lc_S19 L), lc_R19_10 L, y_gs, if_pos (lc_S29 L), lc_N29 L, i1, y_gb, if_pos (q_ib (by omega) (by omega)), q_cl (show 4 * cw s k + (j - 5) < 2 ^ 31 by omega), w29 (j - 5) (by omega), y_bds]
          have rw' : hI m 262 (4 * k + (j - 5)) = w4 (Wda s 2 k) (j - 5) := R.2.1.2.2.1 2 k (j - 5) (by omega) k5 (by omega)
          rw [if_neg (show ¬ nI j = (0 : Int32) from ne 0 (by omega)), if_neg (show ¬ nI j = (1 : Int32) from ne 1 (by omega)), if_neg (show ¬ nI j = (2 : Int32) from ne 2 (by omega)), if_neg (show ¬ nI j = (3 : Int32) from ne 3 (by omega)), if_neg (show ¬ nI j = (4 : Int32) from ne 4 (by omega)), if_neg (show ¬ nI j = (9 : Int32) from ne 9 (by omega)), lm_R49 Lt, y_gs, if_pos (lm_S262 Lt), lm_N262 Lt, i2, y_gb, if_pos (q_ib (by omega) (by omega)), q_cl (show 4 * k + (j - 5) < 2 ^ 31 by omega), t0 262 _ (by omega), rw']
          exact Ch_ok R he rfl rfl
      · have l9 : ¬ nI j ≤ (9 : Int32) := fun q => g9 ((q_le hj (show 9 < 2 ^ 31 by omega)).mp q)
        rw [if_neg l9, if_neg l9]; exact no
  · have n5 : (512 : Int32) ≤ nI l := (q_le (show 512 < 2 ^ 31 by omega) hl).mpr (by omega)
    have l5 : ¬ nI l < (512 : Int32) := fun q => g5 ((q_lt hl (show 512 < 2 ^ 31 by omega)).mp q)
    rw [if_pos n5, if_neg l5]; exact no2
