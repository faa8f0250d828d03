/-! Each instruction in both. -/
def Jn (h m : AH) (s : St) (e : Ex) (b : Nat) (X Y : Option (Int32 × AH)) : Prop := ∃ h' m' s' e' r, X = some (nI r, h') ∧ Y = some (nI r, m') ∧ r ≤ 6 ∧ Rel h' m' s' e' b ∧ Bd h h' ∧ m'.2 = m.2 ∧ (∀ i, N s' 0 i = N s 0 i) ∧ (∀ F i, 8 ≤ F → e' F i = e F i)
def Ctx (h m m2 : AH) (s : St) (e : Ex) (b c d f : Nat) (w : Int32) : Prop := Rel h m s e b ∧ c < N s 0 0 ∧ Q2 m m2 w d ∧ d < 32 ∧ f < 8 ∧ (w >>> ((7 : Int32) &&& 31)) &&& (31 : Int32) = nI d ∧ (w >>> ((12 : Int32) &&& 31)) &&& (7 : Int32) = nI f ∧ b + 2 ≤ 536870912
theorem Rel_up {h m : AH} {s : St} {e : Ex} {b b' : Nat} (R : Rel h m s e b) (hb : b ≤ b') (h2 : b' ≤ 536870912) : Rel h m s e b' :=
  ⟨R.1, R.2.1, IV_up R.2.2.1 hb h2, R.2.2.2.1, EX_fr R.2.2.2.2 (FrC_rfl h) (Fr_rfl m) (fun _ => rfl) hb (Rel_lim R)⟩
theorem Ctx_16 {h m m2 : AH} {s : St} {e : Ex} {b c d f : Nat} {w : Int32} (K : Ctx h m m2 s e b c d f w) : c < 16 := by
  have := K.1.2.2.1.1.1.1.2; have := K.2.1; omega
theorem Ctx_L {h m m2 : AH} {s : St} {e : Ex} {b c d f : Nat} {w : Int32} (K : Ctx h m m2 s e b c d f w) : LM m2 := LM_2 (rm_L K.1.2.1) K.2.2.1.1
theorem Ctx_p {h m m2 : AH} {s : St} {e : Ex} {b c d f : Nat} {w : Int32} (K : Ctx h m m2 s e b c d f w) : hI h (34 + 12 * c) 3 = nI (e 0 c) ∧ hI m2 244 c = nI (e 0 c) := by
  obtain ⟨_, ⟨x2, x3, x4⟩, _⟩ := K.1.2.2.2.2.1 c (Ctx_16 K)
  exact ⟨x2, by rw [K.2.2.1.2.1 244 c (by omega)]; exact x3⟩
theorem c_d {w : Int32} {d : Nat} (h : (w >>> ((7 : Int32) &&& 31)) &&& (31 : Int32) = nI d) : jushr w (7 : Int32) &&& (31 : Int32) = nI d := by
  rw [← h]; exact fld (k := 7) (j := 5) (by omega) (by omega)
theorem J_stop {h m m2 : AH} {s : St} {e : Ex} {b c d f why : Nat} {w : Int32} (K : Ctx h m m2 s e b c d f w) (hw : why ≤ 4) : Jn h m s e (b + 2) (f_X3_stopped h (34 + 12 * c) w (nI why)) (f_X11_stops m2 226 (nI c) (nI why)) := by
  have hb := K.2.2.2.2.2.2.2
  obtain ⟨h', m', e', a1, a2, a3, a4, a5, a6⟩ := stop_both (why := why) K.1 K.2.1 hw K.2.2.1 (by omega)
  exact ⟨h', m', s, e', 1, a1, a2, by omega, Rel_up a3 (by omega) hb, a4, a5, fun _ => rfl, a6⟩
theorem J_some {h m : AH} {s : St} {e : Ex} {b : Nat} {X Y : Option (Int32 × AH)} (J : Jn h m s e b X Y) : Jn h m s e b (bd X fun q => some (q.1, q.2)) (bd Y fun q => some (q.1, q.2)) := by
  obtain ⟨h', m', s', e', r, a1, a2, a3, a4, a5, a6, a7, a8⟩ := J
  exact ⟨h', m', s', e', r, by rw [a1, y_bds], by rw [a2, y_bds], a3, a4, a5, a6, a7, a8⟩
theorem bd_id (X : Option (Int32 × AH)) : (bd X fun q => some (q.1, q.2)) = X := by
  cases X with
  | none => rfl
  | some x => rfl
/-- a result goes to register d, the place to np -/
theorem J_fin {h m m2 : AH} {s : St} {e : Ex} {b c d f : Nat} {w v np : Int32} (K : Ctx h m m2 s e b c d f w) : Jn h m s e (b + 2) (f_X3_finish h (34 + 12 * c) w (nI d) v (-1 : Int32) (0 : Int32) (0 : Int32) np) (f_X11_retire (if d = 0 then m2 else sI m2 243 (32 * c + d) v) 226 (nI c) np) := by
  have hb := K.2.2.2.2.2.2.2
  obtain ⟨h', m', e', a1, a2, a3, a4, a5, a6⟩ := reck_both (v := v) (np := np) K.1 K.2.1 K.2.2.2.1 K.2.2.1 (by omega)
  exact ⟨h', m', s, e', 1, a1, a2, by omega, Rel_up a3 (by omega) hb, a4, a5, fun _ => rfl, a6⟩
/-- no register is set -/
theorem J_fin0 {h m m2 : AH} {s : St} {e : Ex} {b c d f : Nat} {w np : Int32} (K : Ctx h m m2 s e b c d f w) : Jn h m s e (b + 2) (f_X3_finish h (34 + 12 * c) w (0 : Int32) (0 : Int32) (-1 : Int32) (0 : Int32) (0 : Int32) np) (f_X11_retire (sI m2 226 40 (0 : Int32)) 226 (nI c) np) := by
  have hb := K.2.2.2.2.2.2.2
  obtain ⟨k1, k2, k3, k4, k5, k6, k7, k8⟩ := K.2.2.1
  have M : M2 m (sI m2 226 40 (0 : Int32)) c 0 0 w (-1) 0 0 := by
    refine ⟨k1, fun o k h1 _ => ?_, fun h => absurd rfl h, fun k h1 h2 h3 h4 h5 h6 => ?_, ?_, ?_, ?_, ?_, ?_⟩
    · rw [x_ne (by omega)]; exact k2 o k h1
    · rw [x_ne (by omega)]; exact k3 k h1 h2 h3 h4 h5 h6
    · rw [x_ne (by omega)]; exact k4
    · rw [x_eq]; rfl
    · rw [x_ne (by omega)]; exact k6
    · rw [x_ne (by omega)]; exact k7
    · rw [x_ne (by omega)]; exact k8
  obtain ⟨h', m', e', a1, a2, a3, a4, a5, a6⟩ := fin_both (np := np) K.1 K.2.1 (by omega) M (by omega)
  exact ⟨h', m', s, e', 1, a1, a2, by omega, Rel_up a3 (by omega) hb, a4, a5, fun _ => rfl, a6⟩
/-- lui, auipc and the like -/
theorem J_reck {h m m2 : AH} {s : St} {e : Ex} {b c d f : Nat} {w v : Int32} (K : Ctx h m m2 s e b c d f w) : Jn h m s e (b + 2) (f_X3_reckoned h (34 + 12 * c) w v) (bd (f_X11_setReg m2 226 (nI c) (nI d) v) fun q => f_X11_stepOf_L518 q 226 (nI c) (nI (e 0 c))) := by
  have c16 := Ctx_16 K
  have L := RC_L K.1.1.1
  have L2 := Ctx_L K
  have p := Ctx_p K
  have J := J_fin (v := v) (np := nI (e 0 c) + (4 : Int32)) K
  unfold f_X3_reckoned
  rw [y_gs, if_pos (lk_S34 L c16), c_d K.2.2.2.2.2.1, p.1, r_setReg L2 c16 K.2.2.2.1, y_bds]
  unfold f_X11_stepOf_L518
  rw [y_gs, if_pos (lm_S226 (LM_if L2))]
  exact J_some J
/-- jumps -/
theorem J_jump {h m m2 : AH} {s : St} {e : Ex} {b c d f : Nat} {w np : Int32} (K : Ctx h m m2 s e b c d f w) : Jn h m s e (b + 2) (f_X3_jumped h (34 + 12 * c) w np) (bd (f_X11_setReg m2 226 (nI c) (nI d) (nI (e 0 c) + (4 : Int32))) fun q32 => gs q32 226 10 <| bd (f_X11_retire q32 226 (nI c) np) fun q34 => some (q34.1, q34.2)) := by
  have c16 := Ctx_16 K
  have L := RC_L K.1.1.1
  have L2 := Ctx_L K
  have p := Ctx_p K
  have J := J_fin (v := nI (e 0 c) + (4 : Int32)) (np := np) K
  unfold f_X3_jumped
  rw [y_gs, if_pos (lk_S34 L c16), c_d K.2.2.2.2.2.1, p.1, r_setReg L2 c16 K.2.2.2.1, y_bds, y_gs, if_pos (lm_S226 (LM_if L2))]
  exact J_some J
theorem J_305 {h m m2 : AH} {s : St} {e : Ex} {b c d f : Nat} {w v : Int32} (K : Ctx h m m2 s e b c d f w) : Jn h m s e (b + 2) (f_X3_reckoned h (34 + 12 * c) w v) (f_X11_reckon_L305 m2 226 (nI c) (nI d) v) := by
  have c16 := Ctx_16 K
  have L := RC_L K.1.1.1
  have L2 := Ctx_L K
  have p := Ctx_p K
  have J := J_fin (v := v) (np := nI (e 0 c) + (4 : Int32)) K
  have e4 : hI (if d = 0 then m2 else sI m2 243 (32 * c + d) v) 244 c = nI (e 0 c) := by
    split
    · exact p.2
    · rw [x_ne (by omega)]; exact p.2
  unfold f_X3_reckoned f_X11_reckon_L305
  rw [y_gs, if_pos (lk_S34 L c16), c_d K.2.2.2.2.2.1, p.1, y_gs, if_pos (lm_S226 L2), r_setReg L2 c16 K.2.2.2.1, y_bds, y_gs, if_pos (lm_S226 (LM_if L2)), lm_R26 (LM_if L2), y_gs, if_pos (lm_S244 (LM_if L2)), lm_N244 (LM_if L2), y_gb, if_pos (q_ib c16 (by omega)), q_cl (by omega), e4]
  exact J_some J
/-- what reckons with a register or a number -/
theorem J_op {h m m2 : AH} {s : St} {e : Ex} {b c d f : Nat} {w x y : Int32} (K : Ctx h m m2 s e b c d f w) :
    (w &&& (127 : Int32) = (19 : Int32) → Jn h m s e (b + 2) (bd (f_X0_knowsShift h w) fun v18 => if v18 = 0 then (bd (f_X3_stopped h (34 + 12 * c) w (2 : Int32)) fun q20 => some (q20.1, q20.2)) else bd (f_X0_reckon h w x (w >>> ((20 : Int32) &&& 31))) fun v21 => bd (f_X3_reckoned h (34 + 12 * c) w v21) fun q22 => f_X3_advance_L307 q22.2 q22.1) (bd (f_X11_reckon m2 226 (nI c) w (nI f) (nI d) x y) fun q17 => some (q17.1, q17.2))) ∧
    (w &&& (127 : Int32) = (51 : Int32) → Jn h m s e (b + 2) (bd (f_X0_knows h w) fun v34 => if v34 = 0 then (bd (f_X3_stopped h (34 + 12 * c) w (2 : Int32)) fun q36 => some (q36.1, q36.2)) else bd (f_X0_reckon h w x y) fun v37 => bd (f_X3_reckoned h (34 + 12 * c) w v37) fun q38 => some (q38.1, q38.2)) (bd (f_X11_reckon m2 226 (nI c) w (nI f) (nI d) x y) fun q25 => some (q25.1, q25.2))) := by
  obtain ⟨_, _, _, _, f8', _, hf, _⟩ := id K
  have L2 := Ctx_L K
  have J2 : Jn h m s e (b + 2) (f_X3_stopped h (34 + 12 * c) w (2 : Int32)) (f_X11_stops m2 226 (nI c) (2 : Int32)) := J_stop (why := 2) K (by omega)
  refine ⟨fun ho => ?_, fun ho => ?_⟩
  · have hn : ¬ w &&& (127 : Int32) = (51 : Int32) := by rw [ho]; decide
    obtain ⟨v, hv, hv2⟩ := c_knowsShift h hf f8'
    obtain ⟨r1, r2⟩ := r_reckon m2 L2 (c := nI c) (x := x) (y := y) (d := d) f8' false ⟨fun w => absurd w (by decide), fun w => absurd w hn⟩
    rw [hv, y_bds]
    by_cases g : gd false (jushr w (25 : Int32)) f
    · rw [if_neg (fun w => (hv2.mp w) g), c_reckon h hf f8', y_bds, r1 g, decide_eq_false hn, if_neg (by decide)]
      exact J_some (J_305 K)
    · rw [if_pos (hv2.mpr g), r2 g]
      rw [bd_id, bd_id, bd_id]; exact J2
  · obtain ⟨v, hv, hv2⟩ := c_knows h hf f8'
    obtain ⟨r1, r2⟩ := r_reckon m2 L2 (c := nI c) (x := x) (y := y) (d := d) f8' true ⟨fun _ => ho, fun _ => rfl⟩
    rw [hv, y_bds]
    by_cases g : gd true (jushr w (25 : Int32)) f
    · rw [if_neg (fun w => (hv2.mp w) g), c_reckon h hf f8', y_bds, r1 g, decide_eq_true ho, if_pos rfl]
      exact J_some (J_305 K)
    · rw [if_pos (hv2.mpr g), r2 g]
      rw [bd_id, bd_id, bd_id]; exact J2
