/-! core. -/
theorem tells_c {h : AH} (L : LC h) {c n w : Nat} (hc : c < 16) (hn : n ≤ 16) (u8 : hI h (36 + 12 * c) 1 = nI n) (hw : w < 2 ^ 31) : f_X3_tells h (34 + 12 * c) (nI w) = some (if w ≤ 40 ∨ (100 ≤ w ∧ w < 100 + 3 * n) then 1 else 0) := by
  unfold f_X3_tells f_X3_tells_L10 f_X3_tells_L32
  rw [if_neg (lt0 hw)]
  by_cases g : w ≤ 40
  · rw [if_pos (show nI w ≤ (40 : Int32) from (q_le hw (show 40 < 2 ^ 31 by omega)).mpr g), if_pos (Or.inl g)]
  · rw [if_neg (show ¬ nI w ≤ (40 : Int32) from fun q => g ((q_le hw (show 40 < 2 ^ 31 by omega)).mp q))]
    by_cases g2 : w < 100
    · rw [if_pos (show nI w < (100 : Int32) from (q_lt hw (show 100 < 2 ^ 31 by omega)).mpr g2), if_neg (by omega)]
    · rw [if_neg (show ¬ nI w < (100 : Int32) from fun q => g2 ((q_lt hw (show 100 < 2 ^ 31 by omega)).mp q)), y_gs, if_pos (lk_S34 L hc), lk_R34_5 L hc, y_gs, if_pos (lk_S36 L hc), u8, show (100 : Int32) = nI 100 from rfl, show (3 : Int32) = nI 3 from rfl, q_mul, q_add]
      by_cases g3 : w < 100 + 3 * n
      · rw [if_neg (fun q => by have := (q_le (by omega) hw).mp q; omega), if_pos (by omega)]
      · rw [if_pos ((q_le (by omega) hw).mpr (by omega)), if_neg (by omega)]
theorem call_core {h m : AH} {s : St} {e : Ex} {b : Nat} (x y : Int32) (R : Rel h m s e b) (he : e 8 0 = e 8 1) : Ch 0 h m e b (f_X10_core h 1 x y) (f_X11_core m 226 x y) := by
  have L := RC_L R.1.1
  have L2 := rm_L R.2.1
  have n16 := FR_b R
  have lim := Rel_lim R
  have bb := R.2.2.1.1.2
  have B := IV_Bz R.2.2.1
  have R0 := Rel_thr R 0
  have Lt : LM (sI m 226 0 (0 : Int32)) := L2
  have rc0 : f_X11_isCore (sI m 226 0 (0 : Int32)) 226 x = _ := r_isCore R0.2.1 B x
  by_cases g : 0 ≤ x ∧ x < nI (N s 0 0)
  · obtain ⟨c, hc, rfl⟩ := core_n (by omega) g
    have c16 : c < 16 := by omega
    obtain ⟨k1, k2, k3⟩ := c_cores L c16
    obtain ⟨u1, ⟨u2, u3, u4⟩, ⟨u5, u6, u7⟩, ⟨u8, u9, u10, u11⟩, u12, ⟨u13, u14, u15⟩, u16, z39, z40, _⟩ := R.2.2.2.2.1 c c16
    obtain ⟨_, _, _, _, z37, _, z36, z38, _, _⟩ := R.1.1.2.2.1 c c16
    have w36 := rm_12 R.2.1 c16
    have w37 := rm_13 R.2.1 c16
    have w38 := rm_15 R.2.1 c16
    have t0 : ∀ o k, o ≠ 226 → hI (sI m 226 0 (0 : Int32)) o k = hI m o k := fun o k ho => x_ne (by omega)
    have X0 : f_X10_core h 1 (nI c) y = bd (f_X3_tells h (34 + 12 * c) y) fun v7 => if ¬ v7 = 0 then (gb (ib (nI c) (hN h (hR h 1 4))) <| bd (f_X3_tell h (34 + 12 * c) y) fun v10 => some (some v10, h)) else f_X10_core_L21 h := by
      unfold f_X10_core
      rw [y_gs, if_pos (lc_S1 L), c_isCoreN R.1.1 B, y_bds, if_pos g, if_neg (by decide), y_gs, if_pos k1, y_gb, if_pos k2, k3, y_gs, if_pos (lk_S34 L c16)]
    have no8 : (∀ j, 32 ≤ j → j ≤ 40 → y ≠ nI j) → f_X11_core_L108 (sI m 226 0 (0 : Int32)) 226 (nI c) y = some (0, sI m 226 0 (1 : Int32)) := by
      intro q
      unfold f_X11_core_L108
      rw [if_neg (show ¬ y = (32 : Int32) from q 32 (by omega) (by omega)), if_neg (show ¬ y = (33 : Int32) from q 33 (by omega) (by omega)), if_neg (show ¬ y = (34 : Int32) from q 34 (by omega) (by omega)), if_neg (show ¬ y = (35 : Int32) from q 35 (by omega) (by omega)), if_neg (show ¬ y = (36 : Int32) from q 36 (by omega) (by omega)), if_neg (show ¬ y = (37 : Int32) from q 37 (by omega) (by omega)), if_neg (show ¬ y = (38 : Int32) from q 38 (by omega) (by omega)), if_neg (show ¬ y = (39 : Int32) from q 39 (by omega) (by omega)), if_neg (show ¬ y = (40 : Int32) from q 40 (by omega) (by omega)), y_gs, if_pos (lm_S226 Lt), r_raise Lt, y_bds]
      exact congrArg (fun z => some ((0 : Int32), z)) (sI_sI _ _ _ _ _)
    have Y0 : f_X11_core m 226 (nI c) y = if y < (100 : Int32) then f_X11_core_L91 (sI m 226 0 (0 : Int32)) 226 (nI c) y else
        if ((100 : Int32) + ((3 : Int32) * nI (e 2 c))) ≤ y then f_X11_core_L91 (sI m 226 0 (0 : Int32)) 226 (nI c) y
        else lt ((((16 : Int32) * nI c) + ((y - (100 : Int32)) / (3 : Int32)))) fun x10 =>
          if ¬ (y - y / (3 : Int32) * (3 : Int32)) = (1 : Int32) then
            if ¬ (y - y / (3 : Int32) * (3 : Int32)) = (2 : Int32) then gb (ib x10 256) <| some ((hI (sI m 226 0 (0 : Int32)) 251 x10.toNatClampNeg), sI m 226 0 (0 : Int32))
            else gb (ib x10 256) <| some ((hI (sI m 226 0 (0 : Int32)) 250 x10.toNatClampNeg), sI m 226 0 (0 : Int32))
          else gb (ib x10 256) <| some ((hI (sI m 226 0 (0 : Int32)) 249 x10.toNatClampNeg), sI m 226 0 (0 : Int32)) := by
      unfold f_X11_core
      rw [y_gs, if_pos (lm_S226 L2), y_lt, rc0, y_bds, if_pos g, if_pos (show ¬ nI 1 = 0 from by decide), lm_R30 Lt, lm_R31 Lt, lm_R32 Lt, lm_R33 Lt, lm_N248 Lt, lm_N249 Lt, lm_N250 Lt, lm_N251 Lt, q_cl (show c < 2 ^ 31 by omega), t0 248 _ (by omega), u9, y_gs, if_pos (lm_S248 Lt), y_gb, if_pos (q_ib c16 (by omega)), y_lt, y_lt, y_gs, if_pos (lm_S251 Lt), y_gs, if_pos (lm_S250 Lt), y_gs, if_pos (lm_S249 Lt)]
    have X1 : ∀ w, w < 2 ^ 31 → y = nI w → (w ≤ 40 ∨ (100 ≤ w ∧ w < 100 + 3 * e 2 c)) → ∀ v, f_X3_tell h (34 + 12 * c) y = some v → f_X10_core h 1 (nI c) y = some (some v, h) := by
      intro w hw hy hr v hv
      rw [X0, hv, hy, tells_c L c16 (by omega) u8 hw, if_pos hr, y_bds, if_pos (by decide), y_gb, if_pos k2, y_bds]
    by_cases y0 : y < 0
    · refine Ch_no R he (v := 0) ?_ ?_
      · rw [X0]; unfold f_X3_tells f_X3_tells_L10
        rw [if_pos y0, if_pos (Int32.lt_trans y0 (by decide : (0 : Int32) < 100)), y_bds, if_neg (fun w => w rfl)]; rfl
      · rw [Y0, if_pos (Int32.lt_trans y0 (by decide : (0 : Int32) < 100))]
        unfold f_X11_core_L91
        rw [if_pos y0]
        exact no8 (fun j h1 h2 q => lt0 (show j < 2 ^ 31 by omega) (q ▸ y0))
    · obtain ⟨w, hw, rfl⟩ := nlt0 y0
      by_cases g100 : w < 100
      · have l100 : nI w < (100 : Int32) := (q_lt hw (show 100 < 2 ^ 31 by omega)).mpr g100
        have Y1 : f_X11_core m 226 (nI c) (nI w) = f_X11_core_L91 (sI m 226 0 (0 : Int32)) 226 (nI c) (nI w) := by rw [Y0, if_pos l100]
        by_cases g32 : w < 32
        · have nle : ¬ (32 : Int32) ≤ nI w := fun q => by have := (q_le (show 32 < 2 ^ 31 by omega) hw).mp q; omega
          have ne : ∀ j, 32 ≤ j → j ≤ 40 → ¬ nI w = nI j := fun j h1 h2 q => by have := (q_eq hw (by omega)).mp q; omega
          refine Ch_ok R he (X1 w hw rfl (by omega) (hI h (35 + 12 * c) w) ?_) ?_
          · unfold f_X3_tell
            rw [if_pos l100, if_neg (show ¬ nI w = (32 : Int32) from ne 32 (by omega) (by omega)), if_neg (show ¬ nI w = (33 : Int32) from ne 33 (by omega) (by omega)), if_neg (show ¬ nI w = (34 : Int32) from ne 34 (by omega) (by omega)), if_neg (show ¬ nI w = (35 : Int32) from ne 35 (by omega) (by omega)), if_neg (show ¬ nI w = (36 : Int32) from ne 36 (by omega) (by omega)), if_neg (show ¬ nI w = (37 : Int32) from ne 37 (by omega) (by omega)), if_neg (show ¬ nI w = (38 : Int32) from ne 38 (by omega) (by omega)), if_neg (show ¬ nI w = (39 : Int32) from ne 39 (by omega) (by omega)), if_neg (show ¬ nI w = (40 : Int32) from ne 40 (by omega) (by omega)), y_gs, if_pos (lk_S34 L c16), lk_R34_2 L c16, y_gs, if_pos (lk_S35 L c16), lk_N35 L c16, show (31 : Int32) = nI (2 ^ 5 - 1) from by decide, q_and (by omega) (by omega), show w % 2 ^ 5 = w from Nat.mod_eq_of_lt g32, y_gb, if_pos (q_ib g32 (by omega)), q_cl (by omega)]
          · rw [Y1]; unfold f_X11_core_L91
            rw [if_neg y0, if_neg nle, y_gs, if_pos (lm_S226 Lt), r_reg Lt c16 g32, y_bds, t0 243 _ (by omega), u1 w g32]
        · by_cases g40 : w ≤ 40
          · have le : (32 : Int32) ≤ nI w := (q_le (show 32 < 2 ^ 31 by omega) hw).mpr (by omega)
            have Y2 : f_X11_core m 226 (nI c) (nI w) = f_X11_core_L108 (sI m 226 0 (0 : Int32)) 226 (nI c) (nI w) := by
              rw [Y1]; unfold f_X11_core_L91; rw [if_neg y0, if_pos le]
            have : w = 32 ∨ w = 33 ∨ w = 34 ∨ w = 35 ∨ w = 36 ∨ w = 37 ∨ w = 38 ∨ w = 39 ∨ w = 40 := by omega
            rcases this with rfl | rfl | rfl | rfl | rfl | rfl | rfl | rfl | rfl
            · refine Ch_ok R he (X1 32 hw rfl (by omega) _ (by unfold f_X3_tell; rw [if_pos l100, if_pos (show nI 32 = (32 : Int32) from rfl), y_gs, if_pos (lk_S34 L c16), u2])) ?_
              rw [Y2]; unfold f_X11_core_L108
              rw [if_pos (show nI 32 = (32 : Int32) from rfl), y_gs, if_pos (lm_S226 Lt), lm_R26 Lt, y_gs, if_pos (lm_S244 Lt), lm_N244 Lt, y_gb, if_pos (q_ib c16 (by omega)), q_cl (show c < 2 ^ 31 by omega), t0 244 _ (by omega), u3]
            · refine Ch_ok R he (X1 33 hw rfl (by omega) _ (by unfold f_X3_tell; rw [if_pos l100, if_neg (show ¬ nI 33 = (32 : Int32) from by decide), if_pos (show nI 33 = (33 : Int32) from rfl), y_gs, if_pos (lk_S34 L c16), u5])) ?_
              rw [Y2]; unfold f_X11_core_L108
              rw [if_neg (show ¬ nI 33 = (32 : Int32) from by decide), if_pos (show nI 33 = (33 : Int32) from rfl), y_gs, if_pos (lm_S226 Lt), lm_R27 Lt, y_gs, if_pos (lm_S245 Lt), lm_N245 Lt, y_gb, if_pos (q_ib c16 (by omega)), q_cl (show c < 2 ^ 31 by omega), t0 245 _ (by omega), u6]
            · refine Ch_ok R he (X1 34 hw rfl (by omega) _ (by unfold f_X3_tell; rw [if_pos l100, if_neg (show ¬ nI 34 = (32 : Int32) from by decide), if_neg (show ¬ nI 34 = (33 : Int32) from by decide), if_pos (show nI 34 = (34 : Int32) from rfl), y_gs, if_pos (lk_S34 L c16), lk_R34_5 L c16, y_gs, if_pos (lk_S36 L c16), u8])) ?_
              rw [Y2]; unfold f_X11_core_L108
              rw [if_neg (show ¬ nI 34 = (32 : Int32) from by decide), if_neg (show ¬ nI 34 = (33 : Int32) from by decide), if_pos (show nI 34 = (34 : Int32) from rfl), y_gs, if_pos (lm_S226 Lt), lm_R30 Lt, y_gs, if_pos (lm_S248 Lt), lm_N248 Lt, y_gb, if_pos (q_ib c16 (by omega)), q_cl (show c < 2 ^ 31 by omega), t0 248 _ (by omega), u9]
            · refine Ch_ok R he (X1 35 hw rfl (by omega) _ (by unfold f_X3_tell; rw [if_pos l100, if_neg (show ¬ nI 35 = (32 : Int32) from by decide), if_neg (show ¬ nI 35 = (33 : Int32) from by decide), if_neg (show ¬ nI 35 = (34 : Int32) from by decide), if_pos (show nI 35 = (35 : Int32) from rfl), y_gs, if_pos (lk_S34 L c16), lk_R34_7 L c16, y_gs, if_pos (lk_S43 L c16), u13])) ?_
              rw [Y2]; unfold f_X11_core_L108
              rw [if_neg (show ¬ nI 35 = (32 : Int32) from by decide), if_neg (show ¬ nI 35 = (33 : Int32) from by decide), if_neg (show ¬ nI 35 = (34 : Int32) from by decide), if_pos (show nI 35 = (35 : Int32) from rfl), y_gs, if_pos (lm_S226 Lt), lm_R28 Lt, y_gs, if_pos (lm_S246 Lt), lm_N246 Lt, y_gb, if_pos (q_ib c16 (by omega)), q_cl (show c < 2 ^ 31 by omega), t0 246 _ (by omega), u14]
            · refine Ch_ok R he (X1 36 hw rfl (by omega) _ (by unfold f_X3_tell; rw [if_pos l100, if_neg (show ¬ nI 36 = (32 : Int32) from by decide), if_neg (show ¬ nI 36 = (33 : Int32) from by decide), if_neg (show ¬ nI 36 = (34 : Int32) from by decide), if_neg (show ¬ nI 36 = (35 : Int32) from by decide), if_pos (show nI 36 = (36 : Int32) from rfl), y_gs, if_pos (lk_S34 L c16), z36])) ?_
              rw [Y2]; unfold f_X11_core_L108
              rw [if_neg (show ¬ nI 36 = (32 : Int32) from by decide), if_neg (show ¬ nI 36 = (33 : Int32) from by decide), if_neg (show ¬ nI 36 = (34 : Int32) from by decide), if_neg (show ¬ nI 36 = (35 : Int32) from by decide), if_pos (show nI 36 = (36 : Int32) from rfl), y_gs, if_pos (lm_S226 Lt), lm_R34 Lt, y_gs, if_pos (lm_S252 Lt), lm_N252 Lt, y_gb, if_pos (q_ib c16 (by omega)), q_cl (show c < 2 ^ 31 by omega), t0 252 _ (by omega), w36]
            · refine Ch_ok R he (X1 37 hw rfl (by omega) _ (by unfold f_X3_tell; rw [if_pos l100, if_neg (show ¬ nI 37 = (32 : Int32) from by decide), if_neg (show ¬ nI 37 = (33 : Int32) from by decide), if_neg (show ¬ nI 37 = (34 : Int32) from by decide), if_neg (show ¬ nI 37 = (35 : Int32) from by decide), if_neg (show ¬ nI 37 = (36 : Int32) from by decide), if_pos (show nI 37 = (37 : Int32) from rfl), y_gs, if_pos (lk_S34 L c16), z37])) ?_
              rw [Y2]; unfold f_X11_core_L108
              rw [if_neg (show ¬ nI 37 = (32 : Int32) from by decide), if_neg (show ¬ nI 37 = (33 : Int32) from by decide), if_neg (show ¬ nI 37 = (34 : Int32) from by decide), if_neg (show ¬ nI 37 = (35 : Int32) from by decide), if_neg (show ¬ nI 37 = (36 : Int32) from by decide), if_pos (show nI 37 = (37 : Int32) from rfl), y_gs, if_pos (lm_S226 Lt), lm_R35 Lt, y_gs, if_pos (lm_S253 Lt), lm_N253 Lt, y_gb, if_pos (q_ib c16 (by omega)), q_cl (show c < 2 ^ 31 by omega), t0 253 _ (by omega), w37]
            · refine Ch_ok R he (X1 38 hw rfl (by omega) _ (by unfold f_X3_tell; rw [if_pos l100, if_neg (show ¬ nI 38 = (32 : Int32) from by decide), if_neg (show ¬ nI 38 = (33 : Int32) from by decide), if_neg (show ¬ nI 38 = (34 : Int32) from by decide), if_neg (show ¬ nI 38 = (35 : Int32) from by decide), if_neg (show ¬ nI 38 = (36 : Int32) from by decide), if_neg (show ¬ nI 38 = (37 : Int32) from by decide), if_pos (show nI 38 = (38 : Int32) from rfl), y_gs, if_pos (lk_S34 L c16), z38])) ?_
              rw [Y2]; unfold f_X11_core_L108
              rw [if_neg (show ¬ nI 38 = (32 : Int32) from by decide), if_neg (show ¬ nI 38 = (33 : Int32) from by decide), if_neg (show ¬ nI 38 = (34 : Int32) from by decide), if_neg (show ¬ nI 38 = (35 : Int32) from by decide), if_neg (show ¬ nI 38 = (36 : Int32) from by decide), if_neg (show ¬ nI 38 = (37 : Int32) from by decide), if_pos (show nI 38 = (38 : Int32) from rfl), y_gs, if_pos (lm_S226 Lt), lm_R29 Lt, y_gs, if_pos (lm_S247 Lt), lm_N247 Lt, y_gb, if_pos (q_ib c16 (by omega)), q_cl (show c < 2 ^ 31 by omega), t0 247 _ (by omega), w38]
            · refine Ch_ok R he (X1 39 hw rfl (by omega) _ (by unfold f_X3_tell; rw [if_pos l100, if_neg (show ¬ nI 39 = (32 : Int32) from by decide), if_neg (show ¬ nI 39 = (33 : Int32) from by decide), if_neg (show ¬ nI 39 = (34 : Int32) from by decide), if_neg (show ¬ nI 39 = (35 : Int32) from by decide), if_neg (show ¬ nI 39 = (36 : Int32) from by decide), if_neg (show ¬ nI 39 = (37 : Int32) from by decide), if_neg (show ¬ nI 39 = (38 : Int32) from by decide), if_pos (show nI 39 = (39 : Int32) from rfl), y_gs, if_pos (lk_S34 L c16), z39])) ?_
              rw [Y2]; unfold f_X11_core_L108
              rw [if_neg (show ¬ nI 39 = (32 : Int32) from by decide), if_neg (show ¬ nI 39 = (33 : Int32) from by decide), if_neg (show ¬ nI 39 = (34 : Int32) from by decide), if_neg (show ¬ nI 39 = (35 : Int32) from by decide), if_neg (show ¬ nI 39 = (36 : Int32) from by decide), if_neg (show ¬ nI 39 = (37 : Int32) from by decide), if_neg (show ¬ nI 39 = (38 : Int32) from by decide), if_pos (show nI 39 = (39 : Int32) from rfl), y_gs, if_pos (lm_S226 Lt), lm_R37 Lt, y_gs, if_pos (lm_S255 Lt), lm_N255 Lt, y_gb, if_pos (q_ib c16 (by omega)), q_cl (show c < 2 ^ 31 by omega), t0 255 _ (by omega)]
            · refine Ch_ok R he (X1 40 hw rfl (by omega) _ (by unfold f_X3_tell; rw [if_pos l100, if_neg (show ¬ nI 40 = (32 : Int32) from by decide), if_neg (show ¬ nI 40 = (33 : Int32) from by decide), if_neg (show ¬ nI 40 = (34 : Int32) from by decide), if_neg (show ¬ nI 40 = (35 : Int32) from by decide), if_neg (show ¬ nI 40 = (36 : Int32) from by decide), if_neg (show ¬ nI 40 = (37 : Int32) from by decide), if_neg (show ¬ nI 40 = (38 : Int32) from by decide), if_neg (show ¬ nI 40 = (39 : Int32) from by decide), if_pos (show nI 40 = (40 : Int32) from rfl), y_gs, if_pos (lk_S34 L c16), z40])) ?_
              rw [Y2]; unfold f_X11_core_L108
              rw [if_neg (show ¬ nI 40 = (32 : Int32) from by decide), if_neg (show ¬ nI 40 = (33 : Int32) from by decide), if_neg (show ¬ nI 40 = (34 : Int32) from by decide), if_neg (show ¬ nI 40 = (35 : Int32) from by decide), if_neg (show ¬ nI 40 = (36 : Int32) from by decide), if_neg (show ¬ nI 40 = (37 : Int32) from by decide), if_neg (show ¬ nI 40 = (38 : Int32) from by decide), if_neg (show ¬ nI 40 = (39 : Int32) from by decide), if_pos (show nI 40 = (40 : Int32) from rfl), y_gs, if_pos (lm_S226 Lt), lm_R38 Lt, y_gs, if_pos (lm_S256 Lt), lm_N256 Lt, y_gb, if_pos (q_ib c16 (by omega)), q_cl (show c < 2 ^ 31 by omega), t0 256 _ (by omega)]
          · have le : (32 : Int32) ≤ nI w := (q_le (show 32 < 2 ^ 31 by omega) hw).mpr (by omega)
            refine Ch_no R he (v := 0) ?_ ?_
            · rw [X0, tells_c L c16 (by omega) u8 hw, if_neg (by omega), y_bds, if_neg (fun q => q rfl)]; rfl
            · rw [Y1]; unfold f_X11_core_L91; rw [if_neg y0, if_pos le]
              exact no8 (fun j h1 h2 q => by have := (q_eq hw (by omega)).mp q; omega)
      · have l100 : ¬ nI w < (100 : Int32) := fun q => g100 ((q_lt hw (show 100 < 2 ^ 31 by omega)).mp q)
        have s100 : (100 : Int32) + (3 : Int32) * nI (e 2 c) = nI (100 + 3 * e 2 c) := by rw [show (100 : Int32) = nI 100 from rfl, show (3 : Int32) = nI 3 from rfl, q_mul, q_add]
        by_cases gs : w < 100 + 3 * e 2 c
        · have n1 : ¬ (100 : Int32) + (3 : Int32) * nI (e 2 c) ≤ nI w := by rw [s100]; exact fun q => by have := (q_le (by omega) hw).mp q; omega
          have d1 : nI w - (100 : Int32) = nI (w - 100) := by rw [show (100 : Int32) = nI 100 from rfl, q_sub (by omega)]
          have d2 : nI (w - 100) / (3 : Int32) = nI ((w - 100) / 3) := q_div (d := 3) (by omega) (by omega)
          have d3 : nI (w - 100) - nI ((w - 100) / 3) * (3 : Int32) = nI ((w - 100) % 3) := by
            have := q_rem (a := w - 100) (d := 3) (by omega) (by omega)
            rw [← d2]; exact this
          have d4 : nI w - nI w / (3 : Int32) * (3 : Int32) = nI (w % 3) := q_rem (a := w) (d := 3) hw (by omega)
          have i16 : (w - 100) / 3 < e 2 c := by omega
          have j3 : (w - 100) % 3 < 3 := Nat.mod_lt _ (by omega)
          obtain ⟨v1, v2, v3, v4, v5, v6, v7, v8⟩ := u12 _ i16
          refine Ch_ok R he (X1 w hw rfl (by omega) (hI h (37 + 12 * c) (3 * ((w - 100) / 3) + (w - 100) % 3)) ?_) ?_
          · unfold f_X3_tell
            rw [if_neg l100, y_gs, if_pos (lk_S34 L c16), lk_R34_5 L c16, y_gs, if_pos (lk_S36 L c16), d1, d2, d3, x7_get L c16 (by omega) j3, y_bds]
          · rw [Y0, if_neg l100, if_neg n1, d1, d2, d4, show (16 : Int32) = nI 16 from rfl, q_mul, q_add, y_lt, q_cl (show 16 * c + (w - 100) / 3 < 2 ^ 31 by omega)]
            have ib' : ib (nI (16 * c + (w - 100) / 3)) 256 = true := q_ib (by omega) (by omega)
            rw [y_gb, if_pos ib', y_gb, if_pos ib', y_gb, if_pos ib', t0 251 _ (by omega), t0 250 _ (by omega), t0 249 _ (by omega)]
            have : (w % 3 = 1 ∧ (w - 100) % 3 = 0) ∨ (w % 3 = 2 ∧ (w - 100) % 3 = 1) ∨ (w % 3 = 0 ∧ (w - 100) % 3 = 2) := by omega
            rcases this with ⟨p, q⟩ | ⟨p, q⟩ | ⟨p, q⟩
            · rw [p, q, if_neg (fun q => q rfl), show 3 * ((w - 100) / 3) + 0 = 3 * ((w - 100) / 3) from rfl, v1, v2]
            · rw [p, q, if_pos (by decide), if_neg (fun q => q rfl), v4, v5]
            · rw [p, q, if_pos (by decide), if_pos (by decide), v7]
        · have n1 : (100 : Int32) + (3 : Int32) * nI (e 2 c) ≤ nI w := by rw [s100]; exact (q_le (by omega) hw).mpr (by omega)
          have le : (32 : Int32) ≤ nI w := (q_le (show 32 < 2 ^ 31 by omega) hw).mpr (by omega)
          refine Ch_no R he (v := 0) ?_ ?_
          · rw [X0, tells_c L c16 (by omega) u8 hw, if_neg (by omega), y_bds, if_neg (fun q => q rfl)]; rfl
          · rw [Y0, if_neg l100, if_pos n1]; unfold f_X11_core_L91; rw [if_neg y0, if_pos le]
            exact no8 (fun j h1 h2 q => by have := (q_eq hw (by omega)).mp q; omega)
  · refine Ch_no R he (v := 0) ?_ ?_
    · unfold f_X10_core
      rw [y_gs, if_pos (lc_S1 L), c_isCoreN R.1.1 B, y_bds, if_neg g, if_pos (show nI 0 = 0 from rfl)]; rfl
    · unfold f_X11_core
      rw [y_gs, if_pos (lm_S226 L2), y_lt, rc0, y_bds, if_neg g, if_neg (fun w => w rfl), r_raise Lt, y_bds]
      exact congrArg (fun z => some ((0 : Int32), z)) (sI_sI _ _ _ _ _)
