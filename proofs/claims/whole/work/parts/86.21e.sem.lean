/-! run. -/
theorem sg_0 {f : Nat → Nat} {n k : Nat} (h : ∀ j, n ≤ j → f j = 0) (hk : n ≤ k) : sg f k = sg f n := by
  induction k with
  | zero => rw [show n = 0 by omega]
  | succ k ih =>
    by_cases g : n = k + 1
    · rw [g]
    · show sg f k + f k = _
      rw [h k (by omega), ih (by omega)]; rfl
theorem c_pres {h : AH} {s : St} (R : RC h s) : hS h (hR h 1 5) = 21 ∧ ib (0 : Int32) (hN h (hR h 1 5)) = true ∧ hI h (hR h 1 5) (0 : Int32).toNatClampNeg = nI (N s 0 0) := by
  have L := RC_L R
  rw [lc_R1_5 L, lc_N32 L, show (0 : Int32).toNatClampNeg = 0 from by decide]
  exact ⟨lc_S32 L, by decide, R.2.1.1 0 (by omega)⟩
theorem c_retired {h m : AH} {s : St} {e : Ex} {b : Nat} (R : Rel h m s e b) : f_X10_retired h 1 = some (nI (sg (e 5) 16)) := by
  have L := RC_L R.1.1
  have n16 := FR_b R
  obtain ⟨k1, k2, k3⟩ := c_pres R.1.1
  have z := R.2.2.2.2.2.1.2
  rw [sg_0 z (show N s 0 0 ≤ 16 by omega)]
  unfold f_X10_retired
  rw [y_lt, y_lt]
  have key : ∀ r i f, i + r = N s 0 0 → r < f → f_X10_retired_L4 h f 1 (nI (sg (e 5) i)) (nI i) = some (nI (sg (e 5) (N s 0 0))) := by
    intro r
    induction r with
    | zero =>
      intro i f hi hf
      obtain ⟨f', rfl⟩ : ∃ f', f = f' + 1 := ⟨f - 1, by omega⟩
      unfold f_X10_retired_L4
      rw [y_gs, if_pos (lc_S1 L), y_gs, if_pos k1, y_gb, if_pos k2, k3, if_pos ((q_le (by omega) (by omega)).mpr (by omega)), show i = N s 0 0 by omega]
    | succ r ih =>
      intro i f hi hf
      obtain ⟨f', rfl⟩ : ∃ f', f = f' + 1 := ⟨f - 1, by omega⟩
      have i16 : i < 16 := by omega
      obtain ⟨d1, d2, d3⟩ := c_cores L i16
      have y : hI h (43 + 12 * i) 1 = nI (e 5 i) := (R.2.2.2.2.1 i i16).2.2.2.2.2.1.1
      unfold f_X10_retired_L4
      rw [y_gs, if_pos (lc_S1 L), y_gs, if_pos k1, y_gb, if_pos k2, k3, if_neg (fun w => by have := (q_le (by omega) (by omega)).mp w; omega), y_gs, if_pos d1, y_gb, if_pos d2, d3, y_gs, if_pos (lk_S34 L i16), lk_R34_7 L i16, y_gs, if_pos (lk_S43 L i16), y, q_add, y_lt, show (1 : Int32) = nI 1 from rfl, q_add, y_lt]
      exact ih (i + 1) f' (by omega) (by omega)
  exact key (N s 0 0) 0 FU (by omega) (FU_gt (by omega))
theorem c_changed {h m : AH} {s : St} {e : Ex} {b : Nat} (R : Rel h m s e b) : f_X10_changed h 1 = some (nI (N s 19 0)) := by
  have L := RC_L R.1.1
  have n16 := FR_b R
  obtain ⟨k1, k2, k3⟩ := c_pres R.1.1
  obtain ⟨z1, z⟩ := R.2.2.2.1
  rw [z1, sg_0 z (show N s 0 0 ≤ 16 by omega)]
  unfold f_X10_changed
  rw [y_lt, y_lt]
  have key : ∀ r i f, i + r = N s 0 0 → r < f → f_X10_changed_L4 h f 1 (nI (sg (N s 25) i)) (nI i) = some (nI (sg (N s 25) (N s 0 0))) := by
    intro r
    induction r with
    | zero =>
      intro i f hi hf
      obtain ⟨f', rfl⟩ : ∃ f', f = f' + 1 := ⟨f - 1, by omega⟩
      unfold f_X10_changed_L4
      rw [y_gs, if_pos (lc_S1 L), y_gs, if_pos k1, y_gb, if_pos k2, k3, if_pos ((q_le (by omega) (by omega)).mpr (by omega)), show i = N s 0 0 by omega]
    | succ r ih =>
      intro i f hi hf
      obtain ⟨f', rfl⟩ : ∃ f', f = f' + 1 := ⟨f - 1, by omega⟩
      have i16 : i < 16 := by omega
      obtain ⟨d1, d2, d3⟩ := c_cores L i16
      have y : hI h (34 + 12 * i) 15 = nI (N s 25 i) := (R.1.1.2.2.1 i i16).2.2.2.2.2.2.2.2.1
      unfold f_X10_changed_L4
      rw [y_gs, if_pos (lc_S1 L), y_gs, if_pos k1, y_gb, if_pos k2, k3, if_neg (fun w => by have := (q_le (by omega) (by omega)).mp w; omega), y_gs, if_pos d1, y_gb, if_pos d2, d3, y_gs, if_pos (lk_S34 L i16), y, q_add, y_lt, show (1 : Int32) = nI 1 from rfl, q_add, y_lt]
      exact ih (i + 1) f' (by omega) (by omega)
  exact key (N s 0 0) 0 FU (by omega) (FU_gt (by omega))
abbrev KC := AH → Nat → Int32 → Int32 → Int32 → Option (Option Int32 × AH)
abbrev KR := AH → Nat → Int32 → Int32 → Int32 → Option (Int32 × AH)
/-- all messages are delivered -/
theorem deliver_all (K : KC) (K' : KR) (a1 a2 a3 : Int32) : ∀ (p : Nat) {h m : AH} {s : St} {e : Ex} {b : Nat}, Rel h m s e b → ph s ≤ p → ∀ j f g, ph s < j → j ≤ 1000000 → ph s < f → ph s < g →
    ∃ h' m' s', f_X10_run_L80 K f h 1 a1 a2 a3 (nI j) = K h' 1 a1 a2 (a3 + (1 : Int32)) ∧ f_X11_run_L69 K' g m 226 a1 a2 a3 = K' m' 226 a1 a2 (a3 + (1 : Int32)) ∧ Rel h' m' s' e b ∧ Bd h h' ∧ m'.2 = m.2 ∧ (∀ i, N s' 0 i = N s 0 i) := by
  intro p
  induction p with
  | zero =>
    intro h m s e b R hp j f g hj hj2 hf hg
    have L := RC_L R.1.1
    have L2 := rm_L R.2.1
    obtain ⟨f', rfl⟩ : ∃ f', f = f' + 1 := ⟨f - 1, by omega⟩
    obtain ⟨g', rfl⟩ : ∃ g', g = g' + 1 := ⟨g - 1, by omega⟩
    have pl : hI h 16 1 = nI (Pl s).length := R.1.1.2.2.2.2.2.2.1.1
    have em : (Pl s).length = 0 := by
      rcases hq : Pl s with _ | ⟨x, q⟩
      · rfl
      · have := ph_0 (s := s) (by rw [hq]; exact List.cons_ne_nil _ _); omega
    refine ⟨h, m, s, ?_, ?_, R, Bd_rfl h, rfl, fun _ => rfl⟩
    · unfold f_X10_run_L80 f_X10_run_L107
      rw [if_neg (fun w => by have := (q_le (a := j) (b := 0) (by omega) (by omega)).mp w; omega), y_gs, if_pos (lc_S1 L), lc_R1_2 L, y_gs, if_pos (lc_S16 L), pl, em, if_pos (by decide), y_lt]
    · unfold f_X11_run_L69
      rw [y_gs, if_pos (lm_S226 L2), rm_p R.2.1, em, if_pos (by decide), y_lt]
  | succ p ih =>
    intro h m s e b R hp j f g hj hj2 hf hg
    have L := RC_L R.1.1
    have L2 := rm_L R.2.1
    have ln := len_lt R
    obtain ⟨f', rfl⟩ : ∃ f', f = f' + 1 := ⟨f - 1, by omega⟩
    obtain ⟨g', rfl⟩ : ∃ g', g = g' + 1 := ⟨g - 1, by omega⟩
    have pl : hI h 16 1 = nI (Pl s).length := R.1.1.2.2.2.2.2.2.1.1
    by_cases em : (Pl s).length = 0
    · refine ⟨h, m, s, ?_, ?_, R, Bd_rfl h, rfl, fun _ => rfl⟩
      · unfold f_X10_run_L80 f_X10_run_L107
        rw [if_neg (fun w => by have := (q_le (a := j) (b := 0) (by omega) (by omega)).mp w; omega), y_gs, if_pos (lc_S1 L), lc_R1_2 L, y_gs, if_pos (lc_S16 L), pl, em, if_pos (by decide), y_lt]
      · unfold f_X11_run_L69
        rw [y_gs, if_pos (lm_S226 L2), rm_p R.2.1, em, if_pos (by decide), y_lt]
    · obtain ⟨h1, m1, a1', a2', a3', a4, a5, a6⟩ := bring_both R (i := 0) (by omega)
      have a1'' : f_X10_carry h 1 (0 : Int32) = some (nI 1, h1) := a1'
      have a2'' : f_X11_bring m 226 (0 : Int32) = some m1 := a2'
      have lt := ph_bring R.2.2.1 (i := 0) (by omega)
      have ne : ¬ nI (Pl s).length ≤ 0 := fun w => by have := (q_le (b := 0) (show (Pl s).length < 2 ^ 31 by omega) (by omega)).mp w; omega
      obtain ⟨h', m', s', b1, b2, b3, b4, b5, b6⟩ := ih a3' (by omega) (j - 1) f' g' (by omega) (by omega) (by omega) (by omega)
      refine ⟨h', m', s', ?_, ?_, b3, Bd_tr a4 b4, b5.trans a5, fun i => (b6 i).trans (a6 i)⟩
      · rw [f_X10_run_L80, if_neg (fun w => by have := (q_le (a := j) (b := 0) (by omega) (by omega)).mp w; omega), y_gs, if_pos (lc_S1 L), lc_R1_2 L, y_gs, if_pos (lc_S16 L), pl, if_neg ne, a1'', y_bds, show nI j + (-1 : Int32) = nI (j - 1) from by rw [show (-1 : Int32) = - nI 1 from by decide, ← Int32.sub_eq_add_neg, q_sub (by omega)], y_lt]
        exact b1
      · rw [f_X11_run_L69, y_gs, if_pos (lm_S226 L2), rm_p R.2.1, if_neg ne, a2'', y_bds]
        exact b2
/-- each core steps and drains, then all is delivered -/
theorem round_both (K : KC) (K' : KR) (a1 a2 a3 : Int32) : ∀ (r : Nat) {h m : AH} {s : St} {e : Ex} {b : Nat}, Rel h m s e b → ∀ i f g, i + r = N s 0 0 → r < f → r < g → b + 4 * r ≤ 536870912 →
    ∃ h' m' s' e', f_X10_run_L37 K f h 1 a1 a2 a3 (nI i) = K h' 1 a1 a2 (a3 + (1 : Int32)) ∧ f_X11_run_L38 K' g m 226 a1 a2 a3 (nI i) = K' m' 226 a1 a2 (a3 + (1 : Int32)) ∧ Rel h' m' s' e' (b + 4 * r) ∧ Bd h h' ∧ m'.2 = m.2 ∧ (∀ i, N s' 0 i = N s 0 i) ∧ (∀ F i, 8 ≤ F → e' F i = e F i) := by
  intro r
  induction r with
  | zero =>
    intro h m s e b R i f g hi hf hg hb
    have L := RC_L R.1.1
    have L2 := rm_L R.2.1
    have n16 := FR_b R
    obtain ⟨k1, k2, k3⟩ := c_pres R.1.1
    obtain ⟨f', rfl⟩ : ∃ f', f = f' + 1 := ⟨f - 1, by omega⟩
    obtain ⟨g', rfl⟩ : ∃ g', g = g' + 1 := ⟨g - 1, by omega⟩
    have pl := ph_le R.2.2.1
    obtain ⟨h', m', s', b1, b2, b3, b4, b5, b6⟩ := deliver_all K K' a1 a2 a3 (ph s) R (Nat.le_refl _) 1000000 FU FU pl (Nat.le_refl _) (FU_gt (by omega)) (FU_gt (by omega))
    refine ⟨h', m', s', e, ?_, ?_, b3, b4, b5, b6, fun _ _ _ => rfl⟩
    · unfold f_X10_run_L37
      rw [y_gs, if_pos (lc_S1 L), y_gs, if_pos k1, y_gb, if_pos k2, k3, if_pos ((q_le (by omega) (by omega)).mpr (by omega)), y_lt]
      exact b1
    · unfold f_X11_run_L38
      rw [y_gs, if_pos (lm_S226 L2), lm_R21 L2, y_gs, if_pos (lm_S239 L2), lm_N239 L2, y_gb, if_pos (show ib (0 : Int32) 6 = true from by decide), show (0 : Int32).toNatClampNeg = 0 from by decide, rm_0 R.2.1 (by omega), if_pos ((q_le (by omega) (by omega)).mpr (by omega))]
      exact b2
  | succ r ih =>
    intro h m s e b R i f g hi hf hg hb
    have L := RC_L R.1.1
    have L2 := rm_L R.2.1
    have n16 := FR_b R
    have i16 : i < 16 := by omega
    obtain ⟨k1, k2, k3⟩ := c_pres R.1.1
    obtain ⟨d1, d2, d3⟩ := c_cores L i16
    obtain ⟨f', rfl⟩ : ∃ f', f = f' + 1 := ⟨f - 1, by omega⟩
    obtain ⟨g', rfl⟩ : ∃ g', g = g' + 1 := ⟨g - 1, by omega⟩
    obtain ⟨h1, m1, s1, e1, r1, p1, p2, _, p4, p5, p6, p7, p8⟩ := advance_both R (c := i) (by omega) (by omega)
    have L1 := RC_L p4.1.1
    obtain ⟨h2, m2, s2, e2', r2, q1, q2, _, q4, q5, q6, q7, q8⟩ := drain_both p4 (c := i) (by rw [p7]; omega) (by omega)
    obtain ⟨d1', d2', d3'⟩ := c_cores L1 i16
    obtain ⟨h', m', s', e', b1, b2, b3, b4, b5, b6, b7⟩ := ih (Rel_up q4 (show b + 3 + 1 ≤ b + 4 by omega) (by omega)) (i + 1) f' g' (by rw [q7, p7]; omega) (by omega) (by omega) (by omega)
    refine ⟨h', m', s', e', ?_, ?_, by rw [show b + 4 * (r + 1) = b + 4 + 4 * r by omega]; exact b3, Bd_tr p5 (Bd_tr q5 b4), b5.trans (q6.trans p6), fun j => (b6 j).trans ((q7 j).trans (p7 j)), fun F j hF => (b7 F j hF).trans ((q8 F j hF).trans (p8 F j hF))⟩
    · rw [f_X10_run_L37, y_gs, if_pos (lc_S1 L), y_gs, if_pos k1, y_gb, if_pos k2, k3, if_neg (fun w => by have := (q_le (by omega) (by omega)).mp w; omega), y_gs, if_pos d1, y_gb, if_pos d2, d3, y_gs, if_pos (lk_S34 L i16), p1, y_bds, y_gs, if_pos (lc_S1 L1), y_gs, if_pos d1', y_gb, if_pos d2', d3', y_gs, if_pos (lk_S34 L1 i16), q1, y_bds, show (1 : Int32) = nI 1 from rfl, q_add, y_lt]
      exact b1
    · rw [f_X11_run_L38, y_gs, if_pos (lm_S226 L2), lm_R21 L2, y_gs, if_pos (lm_S239 L2), lm_N239 L2, y_gb, if_pos (show ib (0 : Int32) 6 = true from by decide), show (0 : Int32).toNatClampNeg = 0 from by decide, rm_0 R.2.1 (by omega), if_neg (fun w => by have := (q_le (by omega) (by omega)).mp w; omega), p2, y_bds, y_gs, if_pos (lm_S226 (rm_L p4.2.1)), q2, y_bds, show (1 : Int32) = nI 1 from rfl, q_add, y_lt]
      exact b2
theorem rounds_both (n : Nat) (hn : n ≤ 200) (v : Int32) : ∀ (r : Nat) {h m : AH} {s : St} {e : Ex} {b : Nat}, Rel h m s e b → ∀ i f g, i + r = n → r < f → r < g → b + 64 * r ≤ 536870912 →
    ∃ h' m' s' e' z, f_X10_run_L29 f h 1 (nI n) v (nI i) = some (some z, h') ∧ f_X11_run_L30 g m 226 (nI n) v (nI i) = some (z, m') ∧ Rel h' m' s' e' (b + 64 * r) ∧ Bd h h' ∧ m'.2 = m.2 ∧ (∀ i, N s' 0 i = N s 0 i) ∧ (∀ F i, 8 ≤ F → e' F i = e F i) := by
  intro r
  induction r with
  | zero =>
    intro h m s e b R i f g hi hf hg hb
    have L := RC_L R.1.1
    have L2 := rm_L R.2.1
    obtain ⟨f', rfl⟩ : ∃ f', f = f' + 1 := ⟨f - 1, by omega⟩
    obtain ⟨g', rfl⟩ : ∃ g', g = g' + 1 := ⟨g - 1, by omega⟩
    refine ⟨h, m, s, e, nI (sg (e 5) 16) - v, ?_, ?_, R, Bd_rfl h, rfl, fun _ => rfl, fun _ _ _ => rfl⟩
    · unfold f_X10_run_L29
      rw [if_pos ((q_le (by omega) (by omega)).mpr (by omega)), y_gs, if_pos (lc_S1 L), c_retired R, y_bds]
    · unfold f_X11_run_L30
      rw [if_pos ((q_le (by omega) (by omega)).mpr (by omega)), y_gs, if_pos (lm_S226 L2), R.2.2.2.2.2.1.1]
  | succ r ih =>
    intro h m s e b R i f g hi hf hg hb
    have n16 := FR_b R
    obtain ⟨f', rfl⟩ : ∃ f', f = f' + 1 := ⟨f - 1, by omega⟩
    obtain ⟨g', rfl⟩ : ∃ g', g = g' + 1 := ⟨g - 1, by omega⟩
    obtain ⟨h1, m1, s1, e1, p1, p2, p3, p4, p5, p6, p7⟩ := round_both (f_X10_run_L29 f') (f_X11_run_L30 g') (nI n) v (nI i) (N s 0 0) R 0 FU FU (by omega) (FU_gt (by omega)) (FU_gt (by omega)) (by omega)
    obtain ⟨h', m', s', e', z, b1, b2, b3, b4, b5, b6, b7⟩ := ih (Rel_up p3 (show b + 4 * N s 0 0 ≤ b + 64 by omega) (by omega)) (i + 1) f' g' (by omega) (by omega) (by omega) (by omega)
    have add1 : nI i + (1 : Int32) = nI (i + 1) := by rw [show (1 : Int32) = nI 1 from rfl, q_add]
    rw [add1] at p1 p2
    have p1' : f_X10_run_L37 (f_X10_run_L29 f') FU h 1 (nI n) v (nI i) (0 : Int32) = _ := p1
    have p2' : f_X11_run_L38 (f_X11_run_L30 g') FU m 226 (nI n) v (nI i) (0 : Int32) = _ := p2
    refine ⟨h', m', s', e', z, ?_, ?_, by rw [show b + 64 * (r + 1) = b + 64 + 64 * r by omega]; exact b3, Bd_tr p4 b4, b5.trans p5, fun j => (b6 j).trans (p6 j), fun F j hF => (b7 F j hF).trans (p7 F j hF)⟩
    · rw [f_X10_run_L29, if_neg (fun w => by have := (q_le (by omega) (by omega)).mp w; omega), y_lt, p1', b1]
    · rw [f_X11_run_L30, if_neg (fun w => by have := (q_le (by omega) (by omega)).mp w; omega), y_lt, p2', b2]
theorem call_run {h m : AH} {s : St} {e : Ex} {b : Nat} (x : Int32) (R : Rel h m s e b) (he : e 8 0 = e 8 1) (hb : b + 12800 ≤ 536870912) : Ch 12800 h m e b (f_X10_run h 1 x) (f_X11_run m 226 x) := by
  have L := RC_L R.1.1
  have L2 := rm_L R.2.1
  have thr : Ch 12800 h m e b (f_X10_run_L12 h) (f_X11_run_L12 m 226) := by
    have R1 := Rel_thr R 1
    obtain ⟨q0, q1, q2⟩ := e2_8 e 1
    unfold f_X10_run_L12 f_X11_run_L12
    rw [y_gs, if_pos (lm_S226 L2), r_raise L2, y_bds]
    exact ⟨h, _, s, _, 0, Rel_up R1 (by omega) hb, Bd_rfl h, rfl, by rw [q0, q1]; exact he, rfl, Or.inr ⟨rfl, q2⟩⟩
  unfold f_X10_run f_X11_run
  by_cases g1 : x < (1 : Int32)
  · rw [if_pos g1, if_pos g1]; exact thr
  · rw [if_neg g1, if_neg g1]
    by_cases g2 : x ≤ (200 : Int32)
    · rw [if_pos g2, if_pos g2]
      rcases i_cases x with g | ⟨n, n1, n2⟩
      · exact absurd (Int32.lt_trans g (by decide : (0 : Int32) < 1)) g1
      · subst n2
        have n2 : n ≤ 200 := (q_le n1 (show 200 < 2 ^ 31 by omega)).mp g2
        have R0 := Rel_thr R 0
        obtain ⟨q0, q1, q2⟩ := e2_8 e 0
        obtain ⟨h', m', s', e', z, b1, b2, b3, b4, b5, b6, b7⟩ := rounds_both n n2 (nI (sg (e 5) 16)) n R0 0 FU FU (by omega) (FU_gt (by omega)) (FU_gt (by omega)) (by omega)
        have b1' : f_X10_run_L29 FU h 1 (nI n) (nI (sg (e 5) 16)) (0 : Int32) = some (some z, h') := b1
        have b2' : f_X11_run_L30 FU (sI m 226 0 (0 : Int32)) 226 (nI n) (nI (sg (e 5) 16)) (0 : Int32) = some (z, m') := b2
        rw [y_gs, if_pos (lc_S1 L), c_retired R, y_bds, y_lt, b1', y_gs, if_pos (lm_S226 L2), y_lt, x_ne (by omega), R.2.2.2.2.2.1.1, y_lt, y_lt, b2']
        refine ⟨h', m', s', e', z, Rel_up b3 (by omega) hb, b4, by rw [b5]; rfl, ?_, rfl, Or.inl ⟨rfl, ?_⟩⟩
        · rw [b7 8 0 (by omega), b7 8 1 (by omega), q0, q1]; exact he
        · rw [b7 8 2 (by omega), q2]
    · rw [if_neg g2, if_neg g2]; exact thr
