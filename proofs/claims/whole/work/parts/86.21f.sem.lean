/-! Calls that change nothing: trace, core. -/
theorem Ch_ok {h m : AH} {s : St} {e : Ex} {b : Nat} {X : Option (Option Int32 × AH)} {Y : Option (Int32 × AH)} {v : Int32} (R : Rel h m s e b) (he : e 8 0 = e 8 1) (x : X = some (some v, h)) (y : Y = some (v, sI m 226 0 (0 : Int32))) : Ch 0 h m e b X Y := by
  obtain ⟨q0, q1, q2⟩ := e2_8 e 0
  exact ⟨h, _, s, _, v, Rel_thr R 0, Bd_rfl h, rfl, by rw [q0, q1]; exact he, y, Or.inl ⟨x, q2⟩⟩
theorem Ch_no {h m : AH} {s : St} {e : Ex} {b : Nat} {X : Option (Option Int32 × AH)} {Y : Option (Int32 × AH)} {v : Int32} (R : Rel h m s e b) (he : e 8 0 = e 8 1) (x : X = some (none, hT h)) (y : Y = some (v, sI m 226 0 (1 : Int32))) : Ch 0 h m e b X Y := by
  obtain ⟨q0, q1, q2⟩ := e2_8 e 1
  exact ⟨h, _, s, _, v, Rel_thr R 1, Bd_rfl h, rfl, by rw [q0, q1]; exact he, y, Or.inr ⟨x, q2⟩⟩
/-- of calls of the class that change nothing and don't throw -/
def Cp (h m : AH) (e : Ex) (b : Nat) (X : Option Int32) (Y : Option (Int32 × AH)) : Prop :=
  ∃ m' s' e' r, X = some r ∧ Y = some (r, m') ∧ Rel h m' s' e' b ∧ m'.2.2 = m.2.2 ∧ e' 8 0 = e' 8 1
theorem Cp_ok {h m : AH} {s : St} {e : Ex} {b : Nat} {X : Option Int32} {Y : Option (Int32 × AH)} {v : Int32} (R : Rel h m s e b) (he : e 8 0 = e 8 1) (x : X = some v) (y : Y = some (v, sI m 226 0 (0 : Int32))) : Cp h m e b X Y := by
  obtain ⟨q0, q1, q2⟩ := e2_8 e 0
  exact ⟨_, s, _, v, x, y, Rel_thr R 0, rfl, by rw [q0, q1]; exact he⟩
theorem nlt0 {x : Int32} (h : ¬ x < 0) : ∃ n, n < 2 ^ 31 ∧ x = nI n := by
  rcases i_cases x with g | g
  · exact absurd g h
  · exact g
theorem call_trace {h m : AH} {s : St} {e : Ex} {b : Nat} (x y z : Int32) (R : Rel h m s e b) (he : e 8 0 = e 8 1) : Ch 0 h m e b (f_X10_trace h 1 x y z) (f_X11_trace m 226 x y z) := by
  have L := RC_L R.1.1
  have L2 := rm_L R.2.1
  have n16 := FR_b R
  have bb := R.2.2.1.1.2
  have B := IV_Bz R.2.2.1
  have no : ∀ a1 a2 a3, f_X11_trace_L56 m 226 a1 a2 a3 = some (0, sI m 226 0 (1 : Int32)) := by
    intro a1 a2 a3
    unfold f_X11_trace_L56 f_X11_trace_L57
    rw [if_neg (by decide), y_gs, if_pos (lm_S226 L2), r_raise L2, y_bds]
  by_cases g : 0 ≤ x ∧ x < nI (N s 0 0)
  · obtain ⟨c, hc, rfl⟩ := core_n (by omega) g
    have c16 : c < 16 := by omega
    obtain ⟨k1, k2, k3⟩ := c_cores L c16
    obtain ⟨_, _, _, _, _, ⟨u13, u14, u15⟩, u16, _⟩ := R.2.2.2.2.1 c c16
    have X0 : f_X10_trace h 1 (nI c) y z = bd (f_X9_has h (43 + 12 * c) y) fun v8 => if v8 = 0 then f_X10_trace_L34 h else if z < 0 then f_X10_trace_L34 h else if z < (8 : Int32) then (gb (ib (nI c) (hN h (hR h 1 4))) <| bd (f_X9_get h (43 + 12 * c) y z) fun v13 => some (some v13, h)) else f_X10_trace_L34 h := by
      unfold f_X10_trace
      rw [y_gs, if_pos (lc_S1 L), c_isCoreN R.1.1 B, y_bds, if_pos g, if_neg (by decide), y_gs, if_pos k1, y_gb, if_pos k2, k3, y_gs, if_pos (lk_S34 L c16), lk_R34_7 L c16, y_gs, if_pos (lk_S43 L c16)]
    have Y0 : f_X11_trace m 226 (nI c) y z = if y < 0 then f_X11_trace_L56 m 226 (nI c) y z else if (32 : Int32) ≤ y then f_X11_trace_L56 m 226 (nI c) y z else f_X11_trace_L38 m 226 (nI c) y z y 246 (nI c) := by
      unfold f_X11_trace
      rw [y_gs, if_pos (lm_S226 L2), r_isCore R.2.1 B, y_bds, if_pos g, if_neg (by decide), if_neg (lt0 (show c < 2 ^ 31 by omega)), if_pos (show nI c < (16 : Int32) from (q_lt (by omega) (show 16 < 2 ^ 31 by omega)).mpr c16), lm_R28 L2]
    by_cases y0 : y < 0
    · refine Ch_no R he ?_ (by rw [Y0, if_pos y0]; exact no _ _ _)
      rw [X0]; unfold f_X9_has; rw [if_pos y0, y_bds, if_pos rfl]; rfl
    · by_cases y32 : (32 : Int32) ≤ y
      · refine Ch_no R he ?_ (by rw [Y0, if_neg y0, if_pos y32]; exact no _ _ _)
        rw [X0]; unfold f_X9_has; rw [if_neg y0, if_pos y32, y_bds, if_pos rfl]; rfl
      · obtain ⟨k, hk, rfl⟩ := nlt0 y0
        have k32 : k < 32 := by
          by_cases w : 32 ≤ k
          · exact absurd ((q_le (show 32 < 2 ^ 31 by omega) hk).mpr w) y32
          · omega
        by_cases yr : k < e 5 c
        · have nle : ¬ nI (e 5 c) ≤ nI k := fun w => by have := (q_le (show e 5 c < 2 ^ 31 by omega) hk).mp w; omega
          have hs : f_X9_has h (43 + 12 * c) (nI k) = some 1 := by
            unfold f_X9_has; rw [if_neg y0, if_neg y32, y_gs, if_pos (lk_S43 L c16), u13, if_neg nle]
          have m38 : f_X11_trace_L38 m 226 (nI c) (nI k) z (nI k) 246 (nI c) = if z < 0 then f_X11_trace_L56 m 226 (nI c) (nI k) z else if (8 : Int32) ≤ z then f_X11_trace_L56 m 226 (nI c) (nI k) z else f_X11_trace_L57 m 226 (nI c) (nI k) z (1 : Int32) := by
            unfold f_X11_trace_L38
            rw [y_gs, if_pos (lm_S246 L2), lm_N246 L2, y_gb, if_pos (q_ib c16 (by omega)), q_cl (show c < 2 ^ 31 by omega), u14, if_neg nle]
          by_cases z0 : z < 0
          · refine Ch_no R he ?_ (by rw [Y0, if_neg y0, if_neg y32, m38, if_pos z0]; exact no _ _ _)
            rw [X0, hs, y_bds, if_neg (by decide), if_pos z0]; rfl
          · obtain ⟨w, hw, rfl⟩ := nlt0 z0
            by_cases z8 : w < 8
            · have lt8 : nI w < (8 : Int32) := (q_lt hw (show 8 < 2 ^ 31 by omega)).mpr z8
              have nle8 : ¬ (8 : Int32) ≤ nI w := fun q => by have := (q_le (show 8 < 2 ^ 31 by omega) hw).mp q; omega
              obtain ⟨t1, t2⟩ := u16 k k32 yr
              have n1 : nI (e 5 c) - (1 : Int32) - nI k = nI (e 5 c - 1 - k) := by rw [show (1 : Int32) = nI 1 from rfl, q_sub (by omega), q_sub (by omega)]
              have n2 : nI (e 5 c - 1 - k) - nI (e 5 c - 1 - k) / (32 : Int32) * (32 : Int32) = nI ((e 5 c - 1 - k) % 32) := q_rem (d := 32) (by omega) (by omega)
              have n3 : (e 5 c - 1 - k) % 32 < 32 := Nat.mod_lt _ (by omega)
              have gt : f_X9_get h (43 + 12 * c) (nI k) (nI w) = some (hI h (44 + 12 * c) (8 * ((e 5 c - 1 - k) % 32) + w)) := by
                unfold f_X9_get
                rw [y_gs, if_pos (lk_S43 L c16), lk_R43_0 L c16, y_gs, if_pos (lk_S44 L c16), lk_N44 L c16, u13, n1, n2, show (8 : Int32) = nI 8 from rfl, q_mul, q_add, show (e 5 c - 1 - k) % 32 * 8 + w = 8 * ((e 5 c - 1 - k) % 32) + w by omega, y_gb, if_pos (q_ib (by omega) (by omega)), q_cl (by omega)]
              have xx : f_X10_trace h 1 (nI c) (nI k) (nI w) = some (some (hI h (44 + 12 * c) (8 * ((e 5 c - 1 - k) % 32) + w)), h) := by
                rw [X0, hs, y_bds, if_neg (by decide), if_neg z0, if_pos lt8, y_gb, if_pos k2, gt, y_bds]
              refine Ch_ok R he xx ?_
              rw [Y0, if_neg y0, if_neg y32, m38, if_neg z0, if_neg nle8]
              unfold f_X11_trace_L57
              have Lt : LM (sI m 226 0 (0 : Int32)) := L2
              rw [if_pos (by decide), y_gs, if_pos (lm_S226 L2), y_lt, lm_R28 Lt, y_gs, if_pos (lm_S246 Lt), lm_N246 Lt, y_gb, if_pos (q_ib c16 (by omega)), q_cl (show c < 2 ^ 31 by omega), x_ne (by omega), u14, n1, y_lt]
              by_cases w7 : w = 7
              · subst w7
                rw [if_neg (fun q => q rfl), t2]
              · rw [if_pos (show ¬ nI w = (7 : Int32) from fun q => w7 ((q_eq hw (show 7 < 2 ^ 31 by omega)).mp q)), lm_R39 Lt, y_gs, if_pos (lm_S257 Lt), lm_N257 Lt, n2, show (32 : Int32) = nI 32 from rfl, show (7 : Int32) = nI 7 from rfl, q_mul, q_add, q_mul, q_add, y_gb, if_pos (q_ib (by omega) (by omega)), q_cl (by omega), x_ne (by omega), t1 w (by omega)]
            · have nlt8 : ¬ nI w < (8 : Int32) := fun q => z8 ((q_lt hw (show 8 < 2 ^ 31 by omega)).mp q)
              have le8 : (8 : Int32) ≤ nI w := (q_le (show 8 < 2 ^ 31 by omega) hw).mpr (by omega)
              refine Ch_no R he ?_ (by rw [Y0, if_neg y0, if_neg y32, m38, if_neg z0, if_pos le8]; exact no _ _ _)
              rw [X0, hs, y_bds, if_neg (by decide), if_neg z0, if_neg nlt8]; rfl
        · have le : nI (e 5 c) ≤ nI k := (q_le (show e 5 c < 2 ^ 31 by omega) hk).mpr (by omega)
          refine Ch_no R he (v := 0) ?_ ?_
          · rw [X0]; unfold f_X9_has; rw [if_neg y0, if_neg y32, y_gs, if_pos (lk_S43 L c16), u13, if_pos le, y_bds, if_pos rfl]; rfl
          · rw [Y0, if_neg y0, if_neg y32]
            unfold f_X11_trace_L38
            rw [y_gs, if_pos (lm_S246 L2), lm_N246 L2, y_gb, if_pos (q_ib c16 (by omega)), q_cl (show c < 2 ^ 31 by omega), u14, if_pos le]; exact no _ _ _
  · refine Ch_no R he (v := 0) ?_ ?_
    · unfold f_X10_trace
      rw [y_gs, if_pos (lc_S1 L), c_isCoreN R.1.1 B, y_bds, if_neg g, if_pos (show nI 0 = 0 from rfl)]; rfl
    · unfold f_X11_trace
      rw [y_gs, if_pos (lm_S226 L2), r_isCore R.2.1 B, y_bds, if_neg g, if_pos (show nI 0 = 0 from rfl)]; exact no _ _ _
