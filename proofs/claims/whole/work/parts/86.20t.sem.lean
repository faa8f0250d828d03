theorem J_atomic {h m m2 : AH} {s : St} {e : Ex} {b c d f : Nat} {w x y : Int32} (K : Ctx h m m2 s e b c d f w) : Jn h m s e (b + 2) (bd (f_X0_knowsAtomic h w) fun v29 => if v29 = 0 then (bd (f_X3_stopped h (34 + 12 * c) w (2 : Int32)) fun q31 => some (q31.1, q31.2)) else bd (f_X3_swapped h (34 + 12 * c) w (x &&& (8191 : Int32)) y) fun q32 => some (q32.1, q32.2)) (f_X11_atomic m2 226 (nI c) w (nI f) (nI d) x y) := by
  have c16 := Ctx_16 K
  have L := RC_L K.1.1.1
  have L2 := Ctx_L K
  obtain ⟨R, hc, Q, hd, f8', hd2, hf, hb⟩ := id K
  have J2 : Jn h m s e (b + 2) (f_X3_stopped h (34 + 12 * c) w (2 : Int32)) (f_X11_stops m2 226 (nI c) (2 : Int32)) := J_stop (why := 2) K (by omega)
  have J4 : Jn h m s e (b + 2) (f_X3_stopped h (34 + 12 * c) w (4 : Int32)) (f_X11_stops m2 226 (nI c) (4 : Int32)) := J_stop (why := 4) K (by omega)
  obtain ⟨a, ha, hxa⟩ := msk_n x (j := 13) (by omega)
  have hxa' : x &&& (8191 : Int32) = nI a := hxa
  have a8 : a < 8192 := ha
  obtain ⟨n, hn, hw⟩ := us27_n w
  have RQ := Rel_Q R Q
  obtain ⟨u1, ⟨u2, u3, u4⟩, _, ⟨u8, u9, u10, u11⟩, _⟩ := RQ.2.2.2.2.1 c c16
  have lim := Rel_lim R
  rw [c_knowsAtomic h f8' hf hn hw, y_bds, r_atHead m2 f8' hn hw]
  by_cases g : kA f n
  · rw [if_pos g, if_neg (by decide), if_pos g, bd_id, hxa']
    unfold f_X3_swapped f_X11_atomic_L31
    obtain ⟨al1, al2⟩ := al_iff x (j := 2) (by omega) a8 hxa'
    have al2' : nI a &&& (3 : Int32) = nI (a % 4) := al2
    have al1' : x - x / (4 : Int32) * (4 : Int32) = 0 ↔ a % 4 = 0 := al1
    rw [al2']
    by_cases ga : a % 4 = 0
    · have ga0 : nI (a % 4) = 0 := by rw [ga]; rfl
      rw [if_pos ga0, if_pos (al1'.mpr ga), y_gs, if_pos (lk_S34 L c16), lk_R34_5 L c16, y_gs, if_pos (lk_S36 L c16), u8, y_gs, if_pos (lm_S226 L2), lm_R30 L2, y_gs, if_pos (lm_S248 L2), lm_N248 L2, y_gb, if_pos (q_ib c16 (by omega)), q_cl (show c < 2 ^ 31 by omega), u9]
      by_cases gn : e 2 c = 0
      · have gl : nI (e 2 c) ≤ 0 := by rw [gn]; decide
        obtain ⟨h1, m1, s1, ⟨R1, B1, M1, N1, T1⟩, cs⟩ := change_both (A := a / 4) RQ hc (by omega) (by omega)
        rw [show 4 * (a / 4) = a by omega] at cs
        rw [if_pos gl, if_pos gl, y_lt, hxa']
        rcases cs with ⟨c1, c2⟩ | ⟨k, k1, k2, k3, k4, c1, c2⟩
        · rw [c1, c2, y_bds, y_bds, y_lt, if_neg (show ¬ (0 : Int32) ≤ nN from by decide), if_neg (fun w => w rfl)]
          exact ⟨h1, m1, s1, e, 6, rfl, rfl, by omega, Rel_up R1 (by omega) hb, B1, M1.trans Q.1, N1, fun _ _ _ => rfl⟩
        · have L1 := RC_L R1.1.1
          have LM1 := rm_L R1.2.1
          have r4 : nI a / (4 : Int32) = nI (a / 4) := q_div (show a < 2 ^ 31 by omega) (show 4 < 2 ^ 31 by omega)
          have k32 : 4 * (k % 32) + a / 4 % 4 < 128 := by omega
          have nn : (0 : Int32) ≤ nI (4 * (k % 32) + a / 4 % 4) := (q_le (a := 0) (by omega) (by omega)).mpr (by omega)
          have w0 := write_both (v := av n (hI m1 241 (a / 4)) y) R1 (A := a / 4) (by omega) k1 k2 k3 k4
          obtain ⟨w1, w2⟩ := w0
          rw [c1, c2, y_bds, y_bds, y_lt, if_pos nn, if_pos (show ¬ (nI 1, m1).1 = 0 from (by decide : ¬ nI 1 = 0))]
          dsimp only
          rw [y_gs, if_pos (lk_S34 L1 c16), lk_R34_6 L1 c16, y_gs, if_pos (lk_S38 L1 c16), lk_R38_3 L1 c16, y_gs, if_pos (lk_S42 L1 c16), lk_N42 L1 c16, y_gb, if_pos (q_ib k32 (by omega)), q_cl (show 4 * (k % 32) + a / 4 % 4 < 2 ^ 31 by omega), w1, y_lt, c_atomic h1 hn hw, y_bds, y_gb, if_pos (q_ib k32 (by omega)), y_lt, y_gs, if_pos (lm_S226 LM1), lm_R23 LM1, y_gs, if_pos (lm_S241 LM1), r4, lm_N241 LM1, y_gb, if_pos (q_ib (show a / 4 < 2048 by omega) (by omega)), q_cl (show a / 4 < 2 ^ 31 by omega), y_lt]
          have hC := r_atC m1 (a1 := nI c) (a4 := nI d) (x6 := nI a) (x := hI m1 241 (a / 4)) (y := y) hn
          unfold atC at hC
          rw [hC]
          unfold f_X11_atomic_L330
          generalize av n (hI m1 241 (a / 4)) y = z at *
          generalize hv : hI m1 241 (a / 4) = v at *
          have Lz : LM (sI m1 241 (a / 4) z) := LM1
          have LI := LM_if Lz (d := d) (o := 243) (k := 32 * c + d) (v := v)
          obtain ⟨_, ⟨v2, v3, v4⟩, _⟩ := w2.2.2.2.2.1 c c16
          have L5 : LM (sI (sI (sI (if d = 0 then sI m1 241 (a / 4) z else sI (sI m1 241 (a / 4) z) 243 (32 * c + d) v) 226 41 (nI a)) 226 42 v) 226 43 z) := LI
          have e4 : hI (sI (sI (sI (if d = 0 then sI m1 241 (a / 4) z else sI (sI m1 241 (a / 4) z) 243 (32 * c + d) v) 226 41 (nI a)) 226 42 v) 226 43 z) 244 c = nI (e 0 c) := by
            rw [x_ne (by omega), x_ne (by omega), x_ne (by omega)]
            split
            · exact v3
            · rw [x_ne (by omega)]; exact v3
          have M : M2 (sI m1 241 (a / 4) z) (sI (sI (sI (if d = 0 then sI m1 241 (a / 4) z else sI (sI m1 241 (a / 4) z) 243 (32 * c + d) v) 226 41 (nI a)) 226 42 v) 226 43 z) c d v w (nI a) v z := by
            have t := fun k hk => T1 k hk
            have f1 : ∀ o k, o = 226 → hI (if d = 0 then sI m1 241 (a / 4) z else sI (sI m1 241 (a / 4) z) 243 (32 * c + d) v) o k = hI m1 o k := by
              intro o k ho; split
              · exact x_ne (by omega)
              · rw [x_ne (by omega), x_ne (by omega)]
            refine ⟨by show (if d = 0 then sI m1 241 (a / 4) z else sI (sI m1 241 (a / 4) z) 243 (32 * c + d) v).2 = m1.2; split <;> rfl, fun o k h1' h2' => ?_, fun h' => ?_, fun k q1 q2 q3 q4 q5 q6 => ?_, ?_, ?_, ?_, ?_, ?_⟩
            · rw [x_ne (by omega), x_ne (by omega), x_ne (by omega)]
              split
              · rfl
              · exact x_ne (by omega)
            · rw [x_ne (by omega), x_ne (by omega), x_ne (by omega), if_neg h', x_eq]
            · rw [x_ne (by omega), x_ne (by omega), x_ne (by omega), f1 _ _ rfl, x_ne (by omega)]
            · rw [x_ne (by omega), x_ne (by omega), x_ne (by omega), f1 _ _ rfl, t 78 (by omega)]; exact Q.2.2.2.1
            · rw [x_ne (by omega), x_ne (by omega), x_ne (by omega), f1 _ _ rfl, t 40 (by omega)]; exact Q.2.2.2.2.1
            · rw [x_ne (by omega), x_ne (by omega), x_eq]
            · rw [x_ne (by omega), x_eq]
            · rw [x_eq]
          obtain ⟨h', m', e', b1, b2, b3, b4, b5, b6⟩ := fin_both (np := nI (e 0 c) + (4 : Int32)) w2 (show c < N (sWrite s1 k (a / 4) z) 0 0 from by show c < N s1 0 0; rw [N1]; exact hc) hd M (by omega)
          rw [c_d hd2, v2, b1, y_bds, y_gs, if_pos (lm_S226 LM1), lm_R23 LM1, y_gs, if_pos (lm_S241 LM1), r4, lm_N241 LM1, y_gb, if_pos (q_ib (show a / 4 < 2048 by omega) (by omega)), q_cl (show a / 4 < 2 ^ 31 by omega), y_lt, r_setReg Lz c16 hd, y_bds, y_gs, if_pos (lm_S226 LI), y_lt, y_lt, y_lt, lm_R26 L5, y_gs, if_pos (lm_S244 L5), lm_N244 L5, y_gb, if_pos (q_ib c16 (by omega)), q_cl (show c < 2 ^ 31 by omega), e4, b2, y_bds]
          exact ⟨h', m', _, e', 1, rfl, rfl, by omega, b3, Bd_tr B1 (Bd_tr (Bd_2 rfl) b4), b5.trans (M1.trans Q.1), fun i => N1 i, b6⟩
      · have gl : ¬ nI (e 2 c) ≤ 0 := fun w => gn (by have := (q_le (a := e 2 c) (b := 0) (by omega) (by omega)).mp w; omega)
        rw [if_neg gl, if_neg gl]
        exact ⟨h, m2, s, e, 5, rfl, rfl, by omega, Rel_up RQ (by omega) hb, Bd_rfl h, Q.1, fun _ => rfl, fun _ _ _ => rfl⟩
    · have ga0 : ¬ nI (a % 4) = 0 := fun w => ga ((q_eq (by omega) (show 0 < 2 ^ 31 by omega)).mp w)
      rw [if_neg ga0, if_neg (fun w => ga (al1'.mp w)), y_gs, if_pos (lk_S34 L c16), y_gs, if_pos (lm_S226 L2), bd_id, bd_id]
      exact J4
  · rw [if_neg g, if_pos rfl, if_neg g, bd_id]
    unfold f_X11_atomic_L24
    rw [y_gs, if_pos (lm_S226 L2), bd_id]; exact J2
