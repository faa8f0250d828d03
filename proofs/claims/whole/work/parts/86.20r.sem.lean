/-! Stores in both. -/
theorem bt_m4 : ∀ i, i < 32 → bt (-4 : Int32) i = decide (2 ≤ i) := by decide +kernel
theorem an4 {a : Nat} (ha : a < 8192) : nI a &&& (-4 : Int32) = nI (4 * (a / 4)) := by
  refine bt_ext (fun i hi => ?_)
  rw [bt_and, bt_m4 i hi, bt_nI _ _ hi, bt_nI _ _ hi, show 4 * (a / 4) = 2 ^ 2 * (a / 2 ^ 2) from rfl, Nat.testBit_two_pow_mul, Nat.testBit_div_two_pow]
  by_cases e : 2 ≤ i
  · simp [e, show i - 2 + 2 = i by omega]
  · simp [e]
theorem J_store {h m m2 : AH} {s : St} {e : Ex} {b c d f : Nat} {w x v : Int32} (K : Ctx h m m2 s e b c d f w) : Jn h m s e (b + 2) (f_X3_stored h (34 + 12 * c) w (x &&& (8191 : Int32)) v) (f_X11_store m2 226 (nI c) (nI f) x v) := by
  have c16 := Ctx_16 K
  have L := RC_L K.1.1.1
  have L2 := Ctx_L K
  obtain ⟨R, hc, Q, hd, f8', hd2, hf, hb⟩ := id K
  have lim := Rel_lim R
  have J2 : Jn h m s e (b + 2) (f_X3_stopped h (34 + 12 * c) w (2 : Int32)) (f_X11_stops m2 226 (nI c) (2 : Int32)) := J_stop (why := 2) K (by omega)
  have J4 : Jn h m s e (b + 2) (f_X3_stopped h (34 + 12 * c) w (4 : Int32)) (f_X11_stops m2 226 (nI c) (4 : Int32)) := J_stop (why := 4) K (by omega)
  obtain ⟨a, ha, hxa⟩ := msk_n x (j := 13) (by omega)
  have hxa' : x &&& (8191 : Int32) = nI a := hxa
  have a8 : a < 8192 := ha
  have RQ := Rel_Q R Q
  obtain ⟨u1, ⟨u2, u3, u4⟩, _, ⟨u8, u9, u10, u11⟩, _⟩ := RQ.2.2.2.2.1 c c16
  unfold f_X3_stored f_X11_store
  rw [c_variant h hf, y_bds, hxa']
  by_cases g2 : f ≤ 2
  · have e2' : nI f ≤ (2 : Int32) := (q_le (by omega) (show 2 < 2 ^ 31 by omega)).mpr g2
    obtain ⟨z1, z2, z3⟩ := sz_s f g2
    obtain ⟨al1, al2⟩ := al_iff x g2 a8 hxa'
    have pm : a % 2 ^ f < 2 ^ f := Nat.mod_lt _ (Nat.two_pow_pos _)
    have p4 : 2 ^ f ≤ 2 ^ 2 := Nat.pow_le_pow_right (by omega) g2
    rw [if_pos e2', if_pos e2', z1, y_lt, y_lt (nI (2 ^ f)), (sz_1 _ g2).1, al2, y_gb, if_pos (decide_eq_true (sz_1 _ g2).2)]
    by_cases ga : a % 2 ^ f = 0
    · have ga0 : nI (a % 2 ^ f) = 0 := by rw [ga]; rfl
      have t4 : a % 4 < 4 := Nat.mod_lt _ (by omega)
      have tal : (a % 4) % 2 ^ f = 0 := by
        have : f = 0 ∨ f = 1 ∨ f = 2 := by omega
        rcases this with q | q | q <;> rw [q] at ga ⊢ <;> simp only [Nat.reducePow] at ga ⊢ <;> omega
      obtain ⟨n1, n2⟩ := nd_s f g2 (a % 4) t4 tal
      have a3 : nI a &&& (3 : Int32) = nI (a % 4) := q_and (k := 2) (by omega) (by omega)
      have r4 : nI a - nI a / (4 : Int32) * (4 : Int32) = nI (a % 4) := q_rem (d := 4) (by omega) (by omega)
      have l1 : hI m2 239 1 = nI (N s 0 1) := rm_0 RQ.2.1 (by omega)
      rw [if_pos ga0, if_pos (al1.mpr ga), y_gs, if_pos (lk_S34 L c16), lk_R34_5 L c16, y_gs, if_pos (lk_S36 L c16)]
      unfold f_X7_isFull
      rw [y_gs, if_pos (lk_S36 L c16), u8, u11, y_gs, if_pos (lm_S226 L2), lm_R30 L2, y_gs, if_pos (lm_S248 L2), lm_N248 L2, y_gb, if_pos (q_ib c16 (by omega)), lm_R21 L2, y_gs, if_pos (lm_S239 L2), lm_N239 L2, y_gb, if_pos (show ib (1 : Int32) 6 = true from by decide), q_cl (show c < 2 ^ 31 by omega), show (1 : Int32).toNatClampNeg = 1 from by decide, l1, u9]
      by_cases gn : e 2 c < N s 0 1
      · rw [if_pos ((q_lt (by omega) (by omega)).mpr gn), y_bds, if_pos rfl, if_pos (show ¬ nI (e 2 c) = nI (N s 0 1) from fun w => by have := (q_eq (by omega) (by omega)).mp w; omega)]
        rw [a3, y_lt (nI (a % 4)), z2, y_lt (nI (2 ^ 2 ^ f - 1)), y_gb, if_pos (q_ib z3 (by omega)), q_cl (show 2 ^ 2 ^ f - 1 < 2 ^ 31 by omega), show tBB.getD (2 ^ 2 ^ f - 1) 0 = BB (2 ^ 2 ^ f - 1) from rfl, y_lt (v &&& BB (2 ^ 2 ^ f - 1)), n1, s31 _ t4, q_sub (show a % 4 ≤ a from Nat.mod_le _ _), show a - a % 4 = 4 * (a / 4) by omega, put_eq g2 t4 tal]
        obtain ⟨h1, p1, p2, p3, p5⟩ := push_both (A := a / 4) (B := (2 ^ 2 ^ f - 1) * 2 ^ (a % 4)) (D := (v <<< nI (8 * (a % 4))) &&& BB ((2 ^ 2 ^ f - 1) * 2 ^ (a % 4))) RQ c16 gn (by omega) n2 (and_not0 _ _)
        rw [p1, y_bds, y_lt (nI a), y_gb, if_pos (q_ib c16 (by omega)), show (16 : Int32) = nI 16 from rfl, q_mul, q_add, y_lt (nI (16 * c + e 2 c)), lm_R31 L2, y_gs, if_pos (lm_S249 L2), lm_N249 L2, y_gb, if_pos (q_ib (by omega) (by omega)), an4 a8, q_cl (show 16 * c + e 2 c < 2 ^ 31 by omega), y_lt (sI m2 249 (16 * c + e 2 c) (nI (4 * (a / 4))))]
        have La : LM (sI m2 249 (16 * c + e 2 c) (nI (4 * (a / 4)))) := L2
        rw [lm_R32 La, y_gs, if_pos (lm_S250 La), lm_N250 La, y_gb, if_pos (q_ib (by omega) (by omega)), r4, n1, y_lt]
        unfold f_X11_store_L98
        generalize hB : (2 ^ 2 ^ f - 1) * 2 ^ (a % 4) = B at *
        have Lb : LM (sI (sI m2 249 (16 * c + e 2 c) (nI (4 * (a / 4)))) 250 (16 * c + e 2 c) (nI B)) := L2
        rw [y_gs, if_pos (lm_S226 Lb), lm_R32 Lb, y_gs, if_pos (lm_S250 Lb), lm_N250 Lb, y_gb, if_pos (q_ib (by omega) (by omega)), q_cl (show 16 * c + e 2 c < 2 ^ 31 by omega), x_eq, r_maskOf _ n2, y_bds, lm_R33 Lb, y_gs, if_pos (lm_S251 Lb), lm_N251 Lb, y_gb, if_pos (q_ib (by omega) (by omega)), r4, s31 _ t4, y_lt]
        have Lc : LM (sI (sI (sI m2 249 (16 * c + e 2 c) (nI (4 * (a / 4)))) 250 (16 * c + e 2 c) (nI B)) 251 (16 * c + e 2 c) ((v <<< nI (8 * (a % 4))) &&& BB B)) := L2
        rw [lm_R30 Lc, y_gs, if_pos (lm_S248 Lc), lm_N248 Lc, y_gb, if_pos (q_ib c16 (by omega)), y_gb, if_pos (q_ib c16 (by omega)), q_cl (show c < 2 ^ 31 by omega), x_ne (by omega), x_ne (by omega), x_ne (by omega), u9, show (1 : Int32) = nI 1 from rfl, q_add, y_lt, y_lt, y_lt, show nI 1 = (1 : Int32) from rfl, z2, r_maskOf _ z3, y_bds, y_lt]
        generalize hm3 : sI (sI (sI (sI m2 249 (16 * c + e 2 c) (nI (4 * (a / 4)))) 250 (16 * c + e 2 c) (nI B)) 251 (16 * c + e 2 c) ((v <<< nI (8 * (a % 4))) &&& BB B)) 248 c (nI (e 2 c + 1)) = m3 at *
        have L3 : LM m3 := rm_L p2.2.1
        have m3e : m3.2 = m2.2 := by rw [← hm3]; rfl
        have m3f : ∀ o k, o ≠ 248 → o ≠ 249 → o ≠ 250 → o ≠ 251 → hI m3 o k = hI m2 o k := by
          intro o k q1 q2 q3 q4
          rw [← hm3, x_ne (by omega), x_ne (by omega), x_ne (by omega), x_ne (by omega)]
        have L4 : LM (sI (sI (sI m3 226 40 0) 226 41 (nI a)) 226 43 (v &&& BB (2 ^ 2 ^ f - 1))) := L3
        rw [lm_R26 L4, y_gs, if_pos (lm_S244 L4), lm_N244 L4, y_gb, if_pos (q_ib c16 (by omega)), x_ne (by omega), x_ne (by omega), x_ne (by omega), m3f _ _ (by omega) (by omega) (by omega) (by omega), u3]
        have M : M2 m3 (sI (sI (sI m3 226 40 0) 226 41 (nI a)) 226 43 (v &&& BB (2 ^ 2 ^ f - 1))) c 0 0 w (nI a) 0 (v &&& BB (2 ^ 2 ^ f - 1)) := by
          refine ⟨rfl, fun o k h1 _ => ?_, fun h => absurd rfl h, fun k h1 h2 h3 h4 h5 h6 => ?_, ?_, ?_, ?_, ?_, ?_⟩
          · rw [x_ne (by omega), x_ne (by omega), x_ne (by omega)]
          · rw [x_ne (by omega), x_ne (by omega), x_ne (by omega)]
          · rw [x_ne (by omega), x_ne (by omega), x_ne (by omega), m3f _ _ (by omega) (by omega) (by omega) (by omega)]; exact Q.2.2.2.1
          · rw [x_ne (by omega), x_ne (by omega), x_eq]; rfl
          · rw [x_ne (by omega), x_eq]
          · rw [x_ne (by omega), x_ne (by omega), x_ne (by omega), m3f _ _ (by omega) (by omega) (by omega) (by omega)]; exact Q.2.2.2.2.2.2.1
          · rw [x_eq]
        obtain ⟨h', m', e', b1, b2, b3, b4, b5, b6⟩ := fin_both (np := nI (e 0 c) + (4 : Int32)) p2 hc (show 0 < 32 by omega) M (by omega)
        have L1 := RC_L p2.1.1
        unfold f_X3_stored_L100
        have hp : hI h1 (34 + 12 * c) 3 = nI (e 0 c) := by rw [p5 _ _ (by omega) (by omega)]; exact u2
        have b1' : f_X3_finish h1 (34 + 12 * c) w (0 : Int32) (0 : Int32) (nI a) (0 : Int32) (v &&& BB (2 ^ 2 ^ f - 1)) (nI (e 0 c) + (4 : Int32)) = some (nI 1, h') := b1
        rw [y_gs, if_pos (lk_S34 L1 c16), hp, b1', y_bds, b2, y_bds]
        have B1 : Bd h h1 := Bd_2 p3
        refine ⟨h', m', s, e', 1, rfl, rfl, by omega, Rel_up b3 (by omega) hb, Bd_tr B1 b4, b5.trans (m3e.trans Q.1), fun _ => rfl, fun F i hF => ?_⟩
        rw [b6 F i hF]; unfold eP; rw [if_neg (by omega), if_neg (by omega), if_neg (by omega)]
      · have en : e 2 c = N s 0 1 := by omega
        rw [if_neg (fun w => gn ((q_lt (by omega) (by omega)).mp w)), y_bds, if_neg (by decide), if_neg (fun w => w (by rw [en]))]
        exact ⟨h, m2, s, e, 4, rfl, rfl, by omega, Rel_up RQ (by omega) hb, Bd_rfl h, Q.1, fun _ => rfl, fun _ _ _ => rfl⟩
    · have ga0 : ¬ nI (a % 2 ^ f) = 0 := fun w => ga ((q_eq (by omega) (show 0 < 2 ^ 31 by omega)).mp w)
      rw [if_neg ga0, if_neg (fun w => ga (al1.mp w)), y_gs, if_pos (lk_S34 L c16), y_gs, if_pos (lm_S226 L2), bd_id, bd_id]
      exact J4
  · have e5 : ¬ nI f ≤ (2 : Int32) := fun w => g2 ((q_le (by omega) (show 2 < 2 ^ 31 by omega)).mp w)
    rw [if_neg e5, if_neg e5, y_gs, if_pos (lk_S34 L c16), y_gs, if_pos (lm_S226 L2), bd_id, bd_id]; exact J2
