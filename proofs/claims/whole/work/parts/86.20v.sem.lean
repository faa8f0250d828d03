theorem rg_n (w : Int32) {k : Nat} (hk : k < 27) (e : ((nI k) &&& 31) = nI k) : ∃ n, n < 32 ∧ jushr w (nI k) &&& (31 : Int32) = nI n ∧ (w >>> ((nI k) &&& 31)) &&& (31 : Int32) = nI n := by
  obtain ⟨n, h1, h2⟩ := fld_n w (k := k) (j := 5) (by omega) (by omega)
  have h3 := fld (x := w) (k := k) (j := 5) (by omega) (by omega)
  exact ⟨n, h1, by rw [show (31 : Int32) = nI (2 ^ 5 - 1) from by decide, h3]; exact h2, by rw [e, show (31 : Int32) = nI (2 ^ 5 - 1) from by decide]; exact h2⟩
/-- a step of a core in both -/
theorem advance_both {h m : AH} {s : St} {e : Ex} {b c : Nat} (R : Rel h m s e b) (hc : c < N s 0 0) (hb : b + 3 ≤ 536870912) : Jn h m s e (b + 3) (f_X3_advance h (34 + 12 * c)) (f_X11_stepOf m 226 (nI c)) := by
  have L := RC_L R.1.1
  have L2 := rm_L R.2.1
  have c16 : c < 16 := by have := R.2.2.1.1.1.1.2; omega
  obtain ⟨u1, ⟨u2, u3, u4⟩, ⟨u5, u6, u7⟩, _⟩ := R.2.2.2.2.1 c c16
  unfold f_X3_advance f_X11_stepOf
  rw [y_gs, if_pos (lk_S34 L c16), u5, u2, y_gs, if_pos (lm_S226 L2), lm_R27 L2, y_gs, if_pos (lm_S245 L2), lm_N245 L2, y_gb, if_pos (q_ib c16 (by omega)), q_cl (show c < 2 ^ 31 by omega), u6, lm_R26 L2, y_gs, if_pos (lm_S244 L2), lm_N244 L2, y_gb, if_pos (q_ib c16 (by omega)), u3]
  by_cases g1 : e 1 c = 0
  · have e1 : nI (e 1 c) = 0 := by rw [g1]; rfl
    have e1' : nI (e 1 c) ≤ 0 := by rw [g1]; decide
    have a3 : nI (e 0 c) &&& (3 : Int32) = nI (e 0 c % 4) := q_and (k := 2) (by omega) (by omega)
    have r4 : nI (e 0 c) - nI (e 0 c) / (4 : Int32) * (4 : Int32) = nI (e 0 c % 4) := q_rem (d := 4) (by omega) (by omega)
    rw [if_pos e1, if_pos e1', a3, r4]
    by_cases g4 : e 0 c % 4 = 0
    · have z4 : nI (e 0 c % 4) = 0 := by rw [g4]; rfl
      rw [if_pos z4, if_pos z4, y_gb, if_pos (q_ib c16 (by omega))]
      obtain ⟨h1, m1, s1, ⟨R1, B1, M1, N1, T1⟩, cs⟩ := reads_both (A := e 0 c / 4) (nd := 15) (a := e 0 c) R hc (by omega) (by omega) u4 rfl (by omega)
      rw [show 4 * (e 0 c / 4) = e 0 c by omega, show nI 15 = (15 : Int32) from rfl] at cs

      rcases cs with ⟨c1, c2⟩ | ⟨c1, c2, c3⟩
      · rw [c1, c2, y_bds, y_bds, if_neg (fun w => w rfl), if_neg (fun w => w rfl)]
        exact ⟨h1, m1, s1, e, 2, rfl, rfl, by omega, Rel_up R1 (by omega) hb, B1, M1, N1, fun _ _ _ => rfl⟩
      · have L1 := RC_L R1.1.1
        have LM1 := rm_L R1.2.1
        rw [show BB 15 = (-1 : Int32) from by decide, and_m1] at c3
        rw [c1, c2, y_bds, y_bds, if_pos (show ¬ (nI 1, h1).1 = 0 from (by decide : ¬ nI 1 = 0)), if_pos (show ¬ (nI 1, m1).1 = 0 from (by decide : ¬ nI 1 = 0))]
        dsimp only
        generalize hw : hI h1 (34 + 12 * c) 16 = w at *
        obtain ⟨x, hx, x1, x2⟩ := rg_n w (k := 15) (by omega) (by decide)
        obtain ⟨y, hy, y1, y2⟩ := rg_n w (k := 20) (by omega) (by decide)
        obtain ⟨d, hd, d1, d2⟩ := rg_n w (k := 7) (by omega) (by decide)
        obtain ⟨f, hf, f1⟩ := fld_n w (k := 12) (j := 3) (by omega) (by omega)
        have f1' : (w >>> ((12 : Int32) &&& 31)) &&& (7 : Int32) = nI f := by rw [show ((12 : Int32) &&& 31) = nI 12 from by decide, show (7 : Int32) = nI (2 ^ 3 - 1) from by decide]; exact f1
        have d2' : (w >>> ((7 : Int32) &&& 31)) &&& (31 : Int32) = nI d := d2
        have x1' : jushr w (15 : Int32) &&& (31 : Int32) = nI x := x1
        have y1' : jushr w (20 : Int32) &&& (31 : Int32) = nI y := y1
        have x2' : (w >>> ((15 : Int32) &&& 31)) &&& (31 : Int32) = nI x := x2
        have y2' : (w >>> ((20 : Int32) &&& 31)) &&& (31 : Int32) = nI y := y2
        obtain ⟨v1, ⟨v2, v3, v4⟩, _⟩ := R1.2.2.2.2.1 c c16
        generalize hm2 : sI (sI (sI (sI (sI m1 226 78 w) 226 40 (nI d)) 226 41 (-1 : Int32)) 226 42 (0 : Int32)) 226 43 (0 : Int32) = m2
        have Q : Q2 m1 m2 w d := by
          rw [← hm2]
          refine ⟨rfl, fun o k h1 => ?_, fun k h1 h2 h3 h4 h5 h6 => ?_, ?_, ?_, ?_, ?_, ?_⟩
          · rw [x_ne (by omega), x_ne (by omega), x_ne (by omega), x_ne (by omega), x_ne (by omega)]
          · rw [x_ne (by omega), x_ne (by omega), x_ne (by omega), x_ne (by omega), x_ne (by omega)]
          · rw [x_ne (by omega), x_ne (by omega), x_ne (by omega), x_ne (by omega), x_eq]
          · rw [x_ne (by omega), x_ne (by omega), x_ne (by omega), x_eq]
          · rw [x_ne (by omega), x_ne (by omega), x_eq]
          · rw [x_ne (by omega), x_eq]
          · rw [x_eq]
        have K : Ctx h1 m1 m2 s1 e (b + 1) c d f w := ⟨R1, by rw [N1]; exact hc, Q, hd, hf, d2', f1', by omega⟩
        have LM2 := Ctx_L K
        have J := J_adv (x := hI h1 (35 + 12 * c) x) (y := hI h1 (35 + 12 * c) y) K
        have m2x : hI m2 243 (32 * c + x) = hI h1 (35 + 12 * c) x := by rw [Q.2.1 _ _ (by omega)]; exact (v1 x hx).symm
        have m2y : hI m2 243 (32 * c + y) = hI h1 (35 + 12 * c) y := by rw [Q.2.1 _ _ (by omega)]; exact (v1 y hy).symm
        have m2p : hI m2 244 c = nI (e 0 c) := by rw [Q.2.1 _ _ (by omega)]; exact v3
        rw [y_gs, if_pos (lk_S34 L1 c16), y_lt w, lk_R34_2 L1 c16, y_gs, if_pos (lk_S35 L1 c16), x1', y1', lk_N35 L1 c16, y_gb, if_pos (q_ib hx (by omega)), q_cl (show x < 2 ^ 31 by omega), y_lt, y_gb, if_pos (q_ib hy (by omega)), q_cl (show y < 2 ^ 31 by omega), y_lt, y_gs, if_pos (lm_S226 LM1), c3, y_lt w, f1', y_lt (nI f), d2', y_lt (nI d), y_lt, y_lt, y_lt, y_lt, y_lt, hm2]
        have hR : f_X11_stepOf_L97 m2 226 (nI c) w (nI f) (nI d) = advR m2 226 (nI c) w (nI f) (nI d) (hI h1 (35 + 12 * c) x) (hI h1 (35 + 12 * c) y) (nI (e 0 c)) := by
          unfold f_X11_stepOf_L97
          show (gs m2 226 10 <| bd (f_X11_reg m2 226 (nI c) ((w >>> ((15 : Int32) &&& 31)) &&& (31 : Int32))) fun v2 => bd (f_X11_reg m2 226 (nI c) ((w >>> ((20 : Int32) &&& 31)) &&& (31 : Int32))) fun v3 => gs m2 (hR m2 226 26) 21 <| gb (ib (nI c) (hN m2 (hR m2 226 26))) <| lt ((hI m2 (hR m2 226 26) (nI c).toNatClampNeg)) fun x6 => advR m2 226 (nI c) w (nI f) (nI d) v2 v3 x6) = _
          rw [y_gs, if_pos (lm_S226 LM2), x2', y2', r_reg LM2 c16 hx, y_bds, r_reg LM2 c16 hy, y_bds, lm_R26 LM2, y_gs, if_pos (lm_S244 LM2), lm_N244 LM2, y_gb, if_pos (q_ib c16 (by omega)), q_cl (show c < 2 ^ 31 by omega), y_lt, m2x, m2y, m2p]
        rw [hR]
        unfold advC at J
        obtain ⟨h', m', s', e', r, a1, a2, a3, a4, a5, a6, a7, a8⟩ := J
        exact ⟨h', m', s', e', r, a1, a2, a3, a4, Bd_tr B1 a5, a6.trans M1, fun i => (a7 i).trans (N1 i), a8⟩
    · have z4 : ¬ nI (e 0 c % 4) = 0 := fun w => g4 ((q_eq (by omega) (show 0 < 2 ^ 31 by omega)).mp w)
      rw [if_neg z4, if_neg z4, y_lt, y_gb, if_pos (q_ib c16 (by omega)), y_lt]
      refine ⟨_, _, s, e2 e 1 c 3, 1, rfl, rfl, by omega, Rel_up (Rel_cause (why := 3) R c16 (by omega)) (by omega) hb, Bd_2 rfl, rfl, fun _ => rfl, fun F i hF => ?_⟩
      unfold e2; rw [if_neg (by omega)]
  · have e1 : ¬ nI (e 1 c) = 0 := fun w => g1 ((q_eq (by omega) (show 0 < 2 ^ 31 by omega)).mp w)
    have e1' : ¬ nI (e 1 c) ≤ 0 := fun w => g1 (by have := (q_le (a := e 1 c) (b := 0) (by omega) (by omega)).mp w; omega)
    rw [if_neg e1, if_neg e1']
    exact ⟨h, m, s, e, 0, rfl, rfl, by omega, Rel_up R (by omega) hb, Bd_rfl h, rfl, fun _ => rfl, fun _ _ _ => rfl⟩
