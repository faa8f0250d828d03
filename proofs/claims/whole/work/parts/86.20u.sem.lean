/-! One step of a core in both. -/
def advC (q : AH) (a0 : Nat) (x7 x10 x12 : Int32) : Option (Int32 × AH) :=
  if (x7 &&& (127 : Int32)) = (3 : Int32) then
    bd (f_X3_loaded q a0 x7 ((x10 + (x7 >>> ((20 : Int32) &&& 31))) &&& (8191 : Int32))) fun q14 =>
    some (q14.1, q14.2)
  else
    if (x7 &&& (127 : Int32)) = (15 : Int32) then
      bd (f_X3_fenced q a0 x7) fun q16 =>
      some (q16.1, q16.2)
    else
      if (x7 &&& (127 : Int32)) = (19 : Int32) then
        bd (f_X0_knowsShift q x7) fun v18 =>
        if v18 = 0 then
          bd (f_X3_stopped q a0 x7 (2 : Int32)) fun q20 =>
          some (q20.1, q20.2)
        else
          bd (f_X0_reckon q x7 x10 (x7 >>> ((20 : Int32) &&& 31))) fun v21 =>
          bd (f_X3_reckoned q a0 x7 v21) fun q22 =>
          f_X3_advance_L307 q22.2 q22.1
      else
        if (x7 &&& (127 : Int32)) = (23 : Int32) then
          bd (f_X3_reckoned q a0 x7 ((hI q a0 3) + (x7 &&& (-4096 : Int32)))) fun q24 =>
          f_X3_advance_L198 q24.2 q24.1
        else
          if (x7 &&& (127 : Int32)) = (35 : Int32) then
            bd (f_X0_storeDistance q x7) fun v26 =>
            bd (f_X3_stored q a0 x7 ((x10 + v26) &&& (8191 : Int32)) x12) fun q27 =>
            some (q27.1, q27.2)
          else
            if (x7 &&& (127 : Int32)) = (47 : Int32) then
              bd (f_X0_knowsAtomic q x7) fun v29 =>
              if v29 = 0 then
                bd (f_X3_stopped q a0 x7 (2 : Int32)) fun q31 =>
                some (q31.1, q31.2)
              else
                bd (f_X3_swapped q a0 x7 (x10 &&& (8191 : Int32)) x12) fun q32 =>
                some (q32.1, q32.2)
            else
              if (x7 &&& (127 : Int32)) = (51 : Int32) then
                bd (f_X0_knows q x7) fun v34 =>
                if v34 = 0 then
                  bd (f_X3_stopped q a0 x7 (2 : Int32)) fun q36 =>
                  some (q36.1, q36.2)
                else
                  bd (f_X0_reckon q x7 x10 x12) fun v37 =>
                  bd (f_X3_reckoned q a0 x7 v37) fun q38 =>
                  some (q38.1, q38.2)
              else
                if (x7 &&& (127 : Int32)) = (55 : Int32) then
                  bd (f_X3_reckoned q a0 x7 (x7 &&& (-4096 : Int32))) fun q40 =>
                  some (q40.1, q40.2)
                else
                  if (x7 &&& (127 : Int32)) = (99 : Int32) then
                    bd (f_X3_branched q a0 x7 x10 x12) fun q42 =>
                    some (q42.1, q42.2)
                  else
                    if (x7 &&& (127 : Int32)) = (103 : Int32) then
                      bd (f_X0_variant q x7) fun v44 =>
                      if ¬ v44 = 0 then
                        bd (f_X3_stopped q a0 x7 (2 : Int32)) fun q46 =>
                        some (q46.1, q46.2)
                      else
                        bd (f_X3_jumped q a0 x7 ((x10 + (x7 >>> ((20 : Int32) &&& 31))) &&& (-2 : Int32))) fun q47 =>
                        some (q47.1, q47.2)
                    else
                      if (x7 &&& (127 : Int32)) = (111 : Int32) then
                        bd (f_X0_jumpDistance q x7) fun v49 =>
                        bd (f_X3_jumped q a0 x7 ((hI q a0 3) + v49)) fun q50 =>
                        some (q50.1, q50.2)
                      else
                        if x7 = (115 : Int32) then
                          f_X3_advance_L393 q a0 x7
                        else
                          if ¬ x7 = (1048691 : Int32) then
                            f_X3_advance_L398 q a0 x7 (2 : Int32)
                          else
                            f_X3_advance_L393 q a0 x7
def advR (h : AH) (a0 : Nat) (a1 a2 a3 a4 v2 v3 x6 : Int32) : Option (Int32 × AH) :=
  if (a2 &&& (127 : Int32)) = (3 : Int32) then
    bd (f_X11_load h a0 a1 a3 a4 (v2 + (a2 >>> ((20 : Int32) &&& 31)))) fun q8 =>
    some (q8.1, q8.2)
  else
    if (a2 &&& (127 : Int32)) = (15 : Int32) then
      if a3 = 0 then
        gs h (hR h a0 30) 21 <|
        gb (ib a1 (hN h (hR h a0 30))) <|
        if (hI h (hR h a0 30) a1.toNatClampNeg) ≤ 0 then
          lt (sI h a0 40 (0 : Int32)) fun h14 =>
          f_X11_stepOf_L518 h14 a0 a1 x6
        else
          some ((5 : Int32), h)
      else
        bd (f_X11_stops h a0 a1 (2 : Int32)) fun q15 =>
        some (q15.1, q15.2)
    else
      if (a2 &&& (127 : Int32)) = (19 : Int32) then
        bd (f_X11_reckon h a0 a1 a2 a3 a4 v2 v3) fun q17 =>
        some (q17.1, q17.2)
      else
        if (a2 &&& (127 : Int32)) = (23 : Int32) then
          bd (f_X11_setReg h a0 a1 a4 (x6 + (a2 &&& (-4096 : Int32)))) fun q19 =>
          f_X11_stepOf_L518 q19 a0 a1 x6
        else
          if (a2 &&& (127 : Int32)) = (35 : Int32) then
            bd (f_X11_store h a0 a1 a3 (v2 + (((a2 >>> ((25 : Int32) &&& 31)) <<< ((5 : Int32) &&& 31)) ||| ((a2 >>> ((7 : Int32) &&& 31)) &&& (31 : Int32)))) v3) fun q21 =>
            f_X11_stepOf_L428 q21.2 q21.1
          else
            if (a2 &&& (127 : Int32)) = (47 : Int32) then
              bd (f_X11_atomic h a0 a1 a2 a3 a4 v2 v3) fun q23 =>
              some (q23.1, q23.2)
            else
              if (a2 &&& (127 : Int32)) = (51 : Int32) then
                bd (f_X11_reckon h a0 a1 a2 a3 a4 v2 v3) fun q25 =>
                some (q25.1, q25.2)
              else
                if (a2 &&& (127 : Int32)) = (55 : Int32) then
                  bd (f_X11_setReg h a0 a1 a4 (a2 &&& (-4096 : Int32))) fun q27 =>
                  f_X11_stepOf_L518 q27 a0 a1 x6
                else
                  if (a2 &&& (127 : Int32)) = (99 : Int32) then
                    bd (f_X11_branch h a0 a1 a2 a3 v2 v3) fun q29 =>
                    some (q29.1, q29.2)
                  else
                    if (a2 &&& (127 : Int32)) = (103 : Int32) then
                      if a3 = 0 then
                        bd (f_X11_setReg h a0 a1 a4 (x6 + (4 : Int32))) fun q32 =>
                        gs q32 a0 10 <|
                        bd (f_X11_retire q32 a0 a1 ((v2 + (a2 >>> ((20 : Int32) &&& 31))) &&& (-2 : Int32))) fun q34 =>
                        some (q34.1, q34.2)
                      else
                        bd (f_X11_stops h a0 a1 (2 : Int32)) fun q35 =>
                        some (q35.1, q35.2)
                    else
                      if (a2 &&& (127 : Int32)) = (111 : Int32) then
                        bd (f_X11_setReg h a0 a1 a4 (x6 + (4 : Int32))) fun q37 =>
                        gs q37 a0 10 <|
                        bd (f_X11_retire q37 a0 a1 (x6 + (((((a2 >>> ((31 : Int32) &&& 31)) <<< ((20 : Int32) &&& 31)) ||| (((a2 >>> ((12 : Int32) &&& 31)) &&& (255 : Int32)) <<< ((12 : Int32) &&& 31))) ||| (((a2 >>> ((20 : Int32) &&& 31)) &&& (1 : Int32)) <<< ((11 : Int32) &&& 31))) ||| (((a2 >>> ((21 : Int32) &&& 31)) &&& (1023 : Int32)) <<< ((1 : Int32) &&& 31))))) fun q39 =>
                        f_X11_stepOf_L336 q39.2 q39.1
                      else
                        if (a2 &&& (127 : Int32)) = (115 : Int32) then
                          if a2 = (115 : Int32) then
                            f_X11_stepOf_L502 h a0 a1
                          else
                            if ¬ a2 = (1048691 : Int32) then
                              f_X11_stepOf_L507 h a0 a1 (2 : Int32)
                            else
                              f_X11_stepOf_L502 h a0 a1
                        else
                          bd (f_X11_stops h a0 a1 (2 : Int32)) fun q43 =>
                          some (q43.1, q43.2)

theorem r_reg {m : AH} (L : LM m) {c d : Nat} (hc : c < 16) (hd : d < 32) : f_X11_reg m 226 (nI c) (nI d) = some (hI m 243 (32 * c + d)) := by
  unfold f_X11_reg
  rw [y_gs, if_pos (lm_S226 L), lm_R25 L, y_gs, if_pos (lm_S243 L), lm_N243 L, show (32 : Int32) = nI 32 from rfl, q_mul, q_add, y_gb, if_pos (q_ib (by omega) (by omega)), q_cl (by omega)]
theorem J_adv {h m m2 : AH} {s : St} {e : Ex} {b c d f : Nat} {w x y : Int32} (K : Ctx h m m2 s e b c d f w) : Jn h m s e (b + 2) (advC h (34 + 12 * c) w x y) (advR m2 226 (nI c) w (nI f) (nI d) x y (nI (e 0 c))) := by
  have c16 := Ctx_16 K
  have L := RC_L K.1.1.1
  have L2 := Ctx_L K
  have P := Ctx_p K
  obtain ⟨R, hc, Q, hd, f8', hd2, hf, hb⟩ := id K
  have J1 : Jn h m s e (b + 2) (f_X3_stopped h (34 + 12 * c) w (1 : Int32)) (f_X11_stops m2 226 (nI c) (1 : Int32)) := J_stop (why := 1) K (by omega)
  have J2 : Jn h m s e (b + 2) (f_X3_stopped h (34 + 12 * c) w (2 : Int32)) (f_X11_stops m2 226 (nI c) (2 : Int32)) := J_stop (why := 2) K (by omega)
  unfold advC advR
  by_cases g : w &&& (127 : Int32) = (3 : Int32)
  · rw [if_pos g, if_pos g]; exact J_some (J_load K)
  rw [if_neg g, if_neg g]
  by_cases g : w &&& (127 : Int32) = (15 : Int32)
  · rw [if_pos g, if_pos g, bd_id]; exact J_fence K
  rw [if_neg g, if_neg g]
  by_cases g : w &&& (127 : Int32) = (19 : Int32)
  · rw [if_pos g, if_pos g]; exact (J_op K).1 g
  rw [if_neg g, if_neg g]
  by_cases g : w &&& (127 : Int32) = (23 : Int32)
  · rw [if_pos g, if_pos g, P.1]; unfold f_X3_advance_L198; rw [bd_id]; exact J_reck K
  rw [if_neg g, if_neg g]
  by_cases g : w &&& (127 : Int32) = (35 : Int32)
  · rw [if_pos g, if_pos g, s_far, y_bds]; exact J_some (J_store K)
  rw [if_neg g, if_neg g]
  by_cases g : w &&& (127 : Int32) = (47 : Int32)
  · rw [if_pos g, if_pos g, bd_id (f_X11_atomic m2 226 (nI c) w (nI f) (nI d) x y)]; exact J_atomic K
  rw [if_neg g, if_neg g]
  by_cases g : w &&& (127 : Int32) = (51 : Int32)
  · rw [if_pos g, if_pos g]; exact (J_op K).2 g
  rw [if_neg g, if_neg g]
  by_cases g : w &&& (127 : Int32) = (55 : Int32)
  · rw [if_pos g, if_pos g, bd_id]; exact J_reck K
  rw [if_neg g, if_neg g]
  by_cases g : w &&& (127 : Int32) = (99 : Int32)
  · rw [if_pos g, if_pos g]; exact J_some (J_branch K)
  rw [if_neg g, if_neg g]
  by_cases g : w &&& (127 : Int32) = (103 : Int32)
  · rw [if_pos g, if_pos g, c_variant h hf, y_bds]
    by_cases g0 : f = 0
    · have e0 : nI f = 0 := by rw [g0]; rfl
      rw [if_neg (fun w => w e0), if_pos e0, bd_id]; exact J_jump K
    · have e0 : ¬ nI f = 0 := fun w => g0 ((nIf f8' (show 0 < 2 ^ 31 by omega)).mp w)
      rw [if_pos e0, if_neg e0]; exact J_some J2
  rw [if_neg g, if_neg g]
  by_cases g : w &&& (127 : Int32) = (111 : Int32)
  · rw [if_pos g, if_pos g, j_far, y_bds, P.1, bd_id]; exact J_jump K
  rw [if_neg g, if_neg g]
  unfold f_X3_advance_L393 f_X3_advance_L398 f_X11_stepOf_L502 f_X11_stepOf_L507
  rw [y_gs, if_pos (lk_S34 L c16), y_gs, if_pos (lk_S34 L c16), y_gs, if_pos (lm_S226 L2), y_gs, if_pos (lm_S226 L2), bd_id, bd_id, bd_id, bd_id]
  by_cases g5 : w = (115 : Int32)
  · rw [if_pos g5, if_pos (show w &&& (127 : Int32) = (115 : Int32) from by rw [g5]; decide), if_pos g5]; exact J1
  · rw [if_neg g5, if_neg g5]
    by_cases g6 : w = (1048691 : Int32)
    · rw [if_neg (fun w => w g6), if_pos (show w &&& (127 : Int32) = (115 : Int32) from by rw [g6]; decide), if_neg (fun w => w g6)]; exact J1
    · rw [if_pos g6, if_pos g6]
      have : (if w &&& (127 : Int32) = (115 : Int32) then f_X11_stops m2 226 (nI c) (2 : Int32) else f_X11_stops m2 226 (nI c) (2 : Int32)) = f_X11_stops m2 226 (nI c) (2 : Int32) := by split <;> rfl
      rw [this]; exact J2
