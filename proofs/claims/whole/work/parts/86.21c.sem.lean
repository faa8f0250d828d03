/-! step, drain, deliver, deliverOn. -/
theorem r_isCore {m : AH} {s : St} (R : RM m s) (B : Bz s) (x : Int32) : f_X11_isCore m 226 x = some (if 0 ≤ x ∧ x < nI (N s 0 0) then nI 1 else nI 0) := by
  have L := rm_L R
  unfold f_X11_isCore
  by_cases g : x < 0
  · rw [if_pos g, if_neg (fun w => absurd (Int32.lt_of_lt_of_le g w.1) Int32.lt_irrefl)]; rfl
  · rw [if_neg g, y_gs, if_pos (lm_S226 L), lm_R21 L, y_gs, if_pos (lm_S239 L), lm_N239 L, y_gb, if_pos (show ib (0 : Int32) 6 = true from by decide), show (0 : Int32).toNatClampNeg = 0 from by decide, rm_0 R (by omega)]
    by_cases g2 : nI (N s 0 0) ≤ x
    · rw [if_pos g2, if_neg (fun w => absurd (Int32.lt_of_lt_of_le w.2 g2) Int32.lt_irrefl)]; rfl
    · rw [if_neg g2, if_pos ⟨Int32.not_lt.mp g, Int32.not_le.mp g2⟩]; rfl
/-- a core's number -/
theorem core_n {x : Int32} {n : Nat} (hn : n < 2 ^ 31) (h : 0 ≤ x ∧ x < nI n) : ∃ c, c < n ∧ x = nI c := by
  rcases i_cases x with g | ⟨c, c1, c2⟩
  · exact absurd (Int32.lt_of_lt_of_le g h.1) Int32.lt_irrefl
  · exact ⟨c, by rw [c2] at h; exact (q_lt c1 hn).mp h.2, c2⟩
theorem FR_b {h m : AH} {s : St} {e : Ex} {b : Nat} (R : Rel h m s e b) : 1 ≤ N s 0 0 ∧ N s 0 0 ≤ 16 := R.2.2.1.1.1.1
/-- the class's way to a core -/
theorem c_cores {h : AH} (L : LC h) {c : Nat} (hc : c < 16) : hS h (hR h 1 4) = 25 ∧ ib (nI c) (hN h (hR h 1 4)) = true ∧ hR h (hR h 1 4) (nI c).toNatClampNeg = 34 + 12 * c := by
  rw [lc_R1_4 L, lc_N31 L, q_cl (by omega)]
  exact ⟨lc_S31 L, q_ib hc (by omega), (L.2.2 c hc).2.1⟩
theorem call_step {h m : AH} {s : St} {e : Ex} {b : Nat} (x : Int32) (R : Rel h m s e b) (he : e 8 0 = e 8 1) (hb : b + 3 ≤ 536870912) : Ch 3 h m e b (f_X10_step h 1 x) (f_X11_step m 226 x) := by
  have L := RC_L R.1.1
  have L2 := rm_L R.2.1
  have n16 := FR_b R
  have B := IV_Bz R.2.2.1
  by_cases g : 0 ≤ x ∧ x < nI (N s 0 0)
  · obtain ⟨c, hc, rfl⟩ := core_n (by omega) g
    obtain ⟨k1, k2, k3⟩ := c_cores L (show c < 16 by omega)
    have R0 := Rel_thr R 0
    have Lt : LM (sI m 226 0 (nI 0)) := rm_L R0.2.1
    obtain ⟨h', m', s', e', r, a1, a2, a3, a4, a5, a6, a7, a8⟩ := advance_both R0 hc (by omega)
    obtain ⟨q0, q1, q2⟩ := e2_8 e 0
    have X : f_X10_step h 1 (nI c) = some (some (nI r), h') := by
      unfold f_X10_step
      rw [y_gs, if_pos (lc_S1 L), c_isCoreN R.1.1 B, y_bds, if_pos g, if_pos (by decide), y_gs, if_pos k1, y_gb, if_pos k2, k3, y_gs, if_pos (lk_S34 L (by omega)), a1, y_bds]
    have Y : f_X11_step m 226 (nI c) = some (nI r, m') := by
      unfold f_X11_step
      rw [y_gs, if_pos (lm_S226 L2), r_isCore R.2.1 B, y_bds, if_pos g, if_neg (by decide)]
      unfold f_X11_step_L14
      rw [y_gs, if_pos (lm_S226 L2), y_lt, show (0 : Int32) = nI 0 from rfl, y_gs, if_pos (lm_S226 Lt), x_eq, if_pos rfl, a2, y_bds]
    rw [X, Y]
    refine ⟨h', m', s', e', nI r, Rel_up a4 (by omega) hb, a5, by rw [a6]; rfl, ?_, rfl, Or.inl ⟨rfl, ?_⟩⟩
    · rw [a8 8 0 (by omega), a8 8 1 (by omega), q0, q1]; exact he
    · rw [a8 8 2 (by omega), q2]
  · have R1 := Rel_thr R 1
    have Lt : LM (sI m 226 0 (nI 1)) := rm_L R1.2.1
    obtain ⟨q0, q1, q2⟩ := e2_8 e 1
    have X : f_X10_step h 1 x = some (none, hT h) := by
      unfold f_X10_step
      rw [y_gs, if_pos (lc_S1 L), c_isCoreN R.1.1 B, y_bds, if_neg g, if_neg (by decide)]
    have Y : f_X11_step m 226 x = some (0, sI m 226 0 (nI 1)) := by
      unfold f_X11_step
      rw [y_gs, if_pos (lm_S226 L2), r_isCore R.2.1 B, y_bds, if_neg g, if_pos (show nI 0 = 0 from rfl)]
      unfold f_X11_step_L14
      rw [y_gs, if_pos (lm_S226 L2), y_lt, show (1 : Int32) = nI 1 from rfl, y_gs, if_pos (lm_S226 Lt), x_eq, if_neg (by decide)]
    rw [X, Y]
    exact ⟨h, _, s, _, 0, Rel_up R1 (by omega) hb, Bd_rfl h, rfl, by rw [q0, q1]; exact he, rfl, Or.inr ⟨rfl, q2⟩⟩
theorem call_drain {h m : AH} {s : St} {e : Ex} {b : Nat} (x : Int32) (R : Rel h m s e b) (he : e 8 0 = e 8 1) (hb : b + 3 ≤ 536870912) : Ch 3 h m e b (f_X10_drain h 1 x) (f_X11_drain m 226 x) := by
  have L := RC_L R.1.1
  have L2 := rm_L R.2.1
  have n16 := FR_b R
  have B := IV_Bz R.2.2.1
  by_cases g : 0 ≤ x ∧ x < nI (N s 0 0)
  · obtain ⟨c, hc, rfl⟩ := core_n (by omega) g
    obtain ⟨k1, k2, k3⟩ := c_cores L (show c < 16 by omega)
    have R0 := Rel_thr R 0
    have Lt : LM (sI m 226 0 (nI 0)) := rm_L R0.2.1
    obtain ⟨h', m', s', e', r, a1, a2, a3, a4, a5, a6, a7, a8⟩ := drain_both R0 hc (by omega)
    obtain ⟨q0, q1, q2⟩ := e2_8 e 0
    have X : f_X10_drain h 1 (nI c) = some (some (nI r), h') := by
      unfold f_X10_drain
      rw [y_gs, if_pos (lc_S1 L), c_isCoreN R.1.1 B, y_bds, if_pos g, if_pos (by decide), y_gs, if_pos k1, y_gb, if_pos k2, k3, y_gs, if_pos (lk_S34 L (by omega)), a1, y_bds]
    have Y : f_X11_drain m 226 (nI c) = some (nI r, m') := by
      unfold f_X11_drain
      rw [y_gs, if_pos (lm_S226 L2), r_isCore R.2.1 B, y_bds, if_pos g, if_neg (by decide)]
      unfold f_X11_drain_L14
      rw [y_gs, if_pos (lm_S226 L2), y_lt, show (0 : Int32) = nI 0 from rfl, y_gs, if_pos (lm_S226 Lt), x_eq, if_pos rfl, a2, y_bds]
    rw [X, Y]
    refine ⟨h', m', s', e', nI r, Rel_up a4 (by omega) hb, a5, by rw [a6]; rfl, ?_, rfl, Or.inl ⟨rfl, ?_⟩⟩
    · rw [a8 8 0 (by omega), a8 8 1 (by omega), q0, q1]; exact he
    · rw [a8 8 2 (by omega), q2]
  · have R1 := Rel_thr R 1
    have Lt : LM (sI m 226 0 (nI 1)) := rm_L R1.2.1
    obtain ⟨q0, q1, q2⟩ := e2_8 e 1
    have X : f_X10_drain h 1 x = some (none, hT h) := by
      unfold f_X10_drain
      rw [y_gs, if_pos (lc_S1 L), c_isCoreN R.1.1 B, y_bds, if_neg g, if_neg (by decide)]
    have Y : f_X11_drain m 226 x = some (0, sI m 226 0 (nI 1)) := by
      unfold f_X11_drain
      rw [y_gs, if_pos (lm_S226 L2), r_isCore R.2.1 B, y_bds, if_neg g, if_pos (show nI 0 = 0 from rfl)]
      unfold f_X11_drain_L14
      rw [y_gs, if_pos (lm_S226 L2), y_lt, show (1 : Int32) = nI 1 from rfl, y_gs, if_pos (lm_S226 Lt), x_eq, if_neg (by decide)]
    rw [X, Y]
    exact ⟨h, _, s, _, 0, Rel_up R1 (by omega) hb, Bd_rfl h, rfl, by rw [q0, q1]; exact he, rfl, Or.inr ⟨rfl, q2⟩⟩
