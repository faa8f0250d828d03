theorem nIf {f k : Nat} (hf : f < 8) (hk : k < 2 ^ 31) : nI f = nI k ↔ f = k := q_eq (by omega) hk
theorem J_fence {h m m2 : AH} {s : St} {e : Ex} {b c d f : Nat} {w : Int32} (K : Ctx h m m2 s e b c d f w) :
    Jn h m s e (b + 2) (f_X3_fenced h (34 + 12 * c) w) (if nI f = 0 then gs m2 (hR m2 226 30) 21 <| gb (ib (nI c) (hN m2 (hR m2 226 30))) <| if (hI m2 (hR m2 226 30) (nI c).toNatClampNeg) ≤ 0 then lt (sI m2 226 40 (0 : Int32)) fun h14 => f_X11_stepOf_L518 h14 226 (nI c) (nI (e 0 c)) else some ((5 : Int32), m2) else bd (f_X11_stops m2 226 (nI c) (2 : Int32)) fun q15 => some (q15.1, q15.2)) := by
  have c16 := Ctx_16 K
  have L := RC_L K.1.1.1
  have L2 := Ctx_L K
  have p := Ctx_p K
  obtain ⟨R, hc, Q, hd, f8', _, hf, hb⟩ := id K
  obtain ⟨_, _, _, ⟨x8, x9, x10, x11⟩, _⟩ := R.2.2.2.2.1 c c16
  have lim := Rel_lim R
  unfold f_X3_fenced
  rw [c_variant h hf, y_bds]
  by_cases g : f = 0
  · have g0 : nI f = 0 := by rw [g]; rfl
    have e8 : hI m2 248 c = nI (e 2 c) := by rw [Q.2.1 _ _ (by omega)]; exact x9
    rw [if_pos g0, if_pos g0, y_gs, if_pos (lk_S34 L c16), lk_R34_5 L c16, y_gs, if_pos (lk_S36 L c16), x8, lm_R30 L2, y_gs, if_pos (lm_S248 L2), lm_N248 L2, y_gb, if_pos (q_ib c16 (by omega)), q_cl (by omega), e8]
    by_cases z : e 2 c = 0
    · have z0 : nI (e 2 c) ≤ 0 := by rw [z]; decide
      rw [if_pos z0, if_pos z0, bd_id, y_lt, p.1]
      unfold f_X11_stepOf_L518
      have L3 : LM (sI m2 226 40 (0 : Int32)) := L2
      rw [y_gs, if_pos (lm_S226 L3), bd_id]
      exact J_fin0 K
    · have z0 : ¬ nI (e 2 c) ≤ 0 := fun g => by have := (q_le (by omega) (show 0 < 2 ^ 31 by omega)).mp g; omega
      rw [if_neg z0, if_neg z0]
      refine ⟨h, m2, s, e, 5, rfl, rfl, by omega, ?_, Bd_rfl h, Q.1, fun _ => rfl, fun _ _ _ => rfl⟩
      have X2 : EX h m2 s e b := ⟨fun j hj => EXc_of (R.2.2.2.2.1 j hj) hj (fun _ _ _ => rfl) (fun k => Or.inl (Q.2.1 _ _ (by omega))) (fun o ho => Q.2.1 _ _ (by omega)) (fun o k ho _ => Q.2.1 _ _ (by omega)) (fun k _ j _ => Q.2.1 _ _ (by omega)) (Nat.le_refl _) lim, EXg_of R.2.2.2.2.2 (fun _ _ _ => rfl) (fun o k ho => by
        by_cases w : o = 226
        · subst w; exact Q.2.2.1 k (by omega) (by omega) (by omega) (by omega) (by omega) (by omega)
        · exact Q.2.1 o k w)⟩
      have irrQ : ∀ o k, irr o k = false → hI m2 o k = hI m o k := by
        intro o k g
        have gf := irr_f g
        by_cases w : o = 226
        · subst w; exact Q.2.2.1 k (by omega) (by omega) (by omega) (by omega) (by omega) (by omega)
        · exact Q.2.1 o k w
      exact Rel_up (Rel_x R rfl (fun _ _ _ => rfl) Q.1 irrQ X2 (Nat.le_refl _) (by omega)) (by omega) hb
  · have g0 : ¬ nI f = 0 := fun w => g ((nIf f8' (show 0 < 2 ^ 31 by omega)).mp w)
    rw [if_neg g0, if_neg g0, y_gs, if_pos (lk_S34 L c16)]
    exact J_some (J_stop (why := 2) K (by omega))
theorem Rel_Q {h m m2 : AH} {s : St} {e : Ex} {b d : Nat} {w : Int32} (R : Rel h m s e b) (Q : Q2 m m2 w d) : Rel h m2 s e b := by
  have lim := Rel_lim R
  have irrQ : ∀ o k, irr o k = false → hI m2 o k = hI m o k := by
    intro o k g
    have gf := irr_f g
    by_cases w : o = 226
    · subst w; exact Q.2.2.1 k (by omega) (by omega) (by omega) (by omega) (by omega) (by omega)
    · exact Q.2.1 o k w
  refine Rel_x R rfl (fun _ _ _ => rfl) Q.1 irrQ ?_ (Nat.le_refl _) R.2.2.1.1.2
  exact ⟨fun j hj => EXc_of (R.2.2.2.2.1 j hj) hj (fun _ _ _ => rfl) (fun k => Or.inl (Q.2.1 _ _ (by omega))) (fun o ho => Q.2.1 _ _ (by omega)) (fun o k ho _ => Q.2.1 _ _ (by omega)) (fun k _ j _ => Q.2.1 _ _ (by omega)) (Nat.le_refl _) lim, EXg_of R.2.2.2.2.2 (fun _ _ _ => rfl) (fun o k ho => by
    by_cases w : o = 226
    · subst w; exact Q.2.2.1 k (by omega) (by omega) (by omega) (by omega) (by omega) (by omega)
    · exact Q.2.1 o k w)⟩
def bv (f : Nat) (x y : Int32) : Bool := if f = 0 then decide (x = y) else if f = 1 then !decide (x = y) else if f = 4 then !decide (y ≤ x) else if f = 5 then decide (y ≤ x) else if f = 6 then !decide ((y ^^^ (-2147483648 : Int32)) ≤ (x ^^^ (-2147483648 : Int32))) else decide ((y ^^^ (-2147483648 : Int32)) ≤ (x ^^^ (-2147483648 : Int32)))
theorem c_branches (h : AH) {w x y : Int32} {f : Nat} (hf : (w >>> ((12 : Int32) &&& 31)) &&& (7 : Int32) = nI f) (h8 : f < 8) (h2 : f ≠ 2) (h3 : f ≠ 3) : ∃ v, f_X0_branches h w x y = some v ∧ (v = 0 ↔ bv f x y = false) := by
  unfold f_X0_branches f_X0_isBelow bv
  rw [c_variant h hf, y_bds]
  have b1 : ¬ (1 : Int32) = 0 := by decide
  rcases f8 h8 with rfl | rfl | rfl | rfl | rfl | rfl | rfl | rfl
  · rw [if_pos (by decide), if_pos rfl]
    by_cases g : x = y
    · exact ⟨1, by rw [if_neg (fun w => w g)], by simp [g]⟩
    · exact ⟨0, by rw [if_pos g], by simp [g]⟩
  · rw [if_neg (by decide), if_pos (by decide)]
    show ∃ v, _ ∧ (v = 0 ↔ (!decide (x = y)) = false)
    by_cases g : x = y
    · exact ⟨0, by rw [if_pos g], by simp [g]⟩
    · exact ⟨1, by rw [if_neg g], by simp [g]⟩
  · exact absurd rfl h2
  · exact absurd rfl h3
  · rw [if_neg (by decide), if_neg (by decide), if_pos (by decide)]
    show ∃ v, _ ∧ (v = 0 ↔ (!decide (y ≤ x)) = false)
    by_cases g : y ≤ x
    · exact ⟨0, by rw [if_pos g], by simp [g]⟩
    · exact ⟨1, by rw [if_neg g], by simp [g]⟩
  · rw [if_neg (by decide), if_neg (by decide), if_neg (by decide), if_pos (by decide)]
    show ∃ v, _ ∧ (v = 0 ↔ decide (y ≤ x) = false)
    by_cases g : x < y
    · exact ⟨0, by rw [if_pos g], by simp [Int32.not_le.mpr g]⟩
    · exact ⟨1, by rw [if_neg g], by simp [Int32.not_lt.mp g]⟩
  · rw [if_neg (by decide), if_neg (by decide), if_neg (by decide), if_neg (by decide), if_pos (by decide)]
    show ∃ v, _ ∧ (v = 0 ↔ (!decide ((y ^^^ (-2147483648 : Int32)) ≤ (x ^^^ (-2147483648 : Int32)))) = false)
    by_cases g : (y ^^^ (-2147483648 : Int32)) ≤ (x ^^^ (-2147483648 : Int32))
    · exact ⟨0, by rw [if_pos g, y_bds, y_gb, if_pos (by decide)], by simp [g]⟩
    · exact ⟨1, by rw [if_neg g, y_bds, y_gb, if_pos (by decide)], by simp [g]⟩
  · rw [if_neg (by decide), if_neg (by decide), if_neg (by decide), if_neg (by decide), if_neg (by decide)]
    show ∃ v, _ ∧ (v = 0 ↔ decide ((y ^^^ (-2147483648 : Int32)) ≤ (x ^^^ (-2147483648 : Int32))) = false)
    by_cases g : (y ^^^ (-2147483648 : Int32)) ≤ (x ^^^ (-2147483648 : Int32))
    · exact ⟨1, by rw [if_pos g, y_bds, if_neg (fun w => w rfl)], by simp [g]⟩
    · exact ⟨0, by rw [if_neg g, y_bds, if_pos (by decide)], by simp [g]⟩
theorem r_65 (m : AH) {c w s0 : Int32} {f : Nat} (h8 : f < 8) (B : Bool) (hs : s0 = 0 ↔ B = false) : ∃ a6, f_X11_branch_L65 m 226 c w (nI f) s0 = f_X11_branch_L86 m 226 c w a6 ∧ (a6 = 0 ↔ (if f % 2 = 1 then !B else B) = false) := by
  unfold f_X11_branch_L65 f_X11_branch_L84
  have e : nI f - nI f / (2 : Int32) * (2 : Int32) = nI (f % 2) := q_rem (d := 2) (by omega) (by omega)
  rw [e]
  by_cases g : f % 2 = 1
  · rw [if_neg (fun w => w (by rw [g]; rfl)), if_pos g]
    by_cases z : s0 = 0
    · refine ⟨1, by rw [if_neg (fun w => w z)], ?_⟩
      rw [hs.mp z]; exact ⟨fun w => absurd w (by decide), fun w => by cases w⟩
    · refine ⟨0, by rw [if_pos z], ?_⟩
      have : B = true := by cases B; exact absurd (hs.mpr rfl) z; rfl
      rw [this]; exact ⟨fun _ => rfl, fun _ => rfl⟩
  · have g0 : f % 2 = 0 := by omega
    rw [g0, if_pos (by decide)]
    exact ⟨s0, rfl, hs⟩
theorem r_branch (m : AH) {c w x y : Int32} {f : Nat} (h8 : f < 8) : (f = 2 ∨ f = 3 → f_X11_branch m 226 c w (nI f) x y = f_X11_branch_L10 m 226 c) ∧ (f ≠ 2 → f ≠ 3 → ∃ a6, f_X11_branch m 226 c w (nI f) x y = f_X11_branch_L86 m 226 c w a6 ∧ (a6 = 0 ↔ bv f x y = false)) := by
  unfold f_X11_branch f_X11_isLessPlain
  refine ⟨fun g => ?_, fun g2 g3 => ?_⟩
  · rcases g with rfl | rfl
    · rw [if_pos (by decide)]
    · rw [if_neg (by decide), if_neg (fun w => w (by decide))]
  · rw [if_neg (show ¬ nI f = (2 : Int32) from fun w => g2 ((nIf h8 (show 2 < 2 ^ 31 by omega)).mp w)), if_pos (show ¬ nI f = (3 : Int32) from fun w => g3 ((nIf h8 (show 3 < 2 ^ 31 by omega)).mp w))]
    have t := fun (s0 : Int32) (B : Bool) (h : s0 = 0 ↔ B = false) => r_65 m (c := c) (w := w) h8 B h
    rcases f8 h8 with rfl | rfl | rfl | rfl | rfl | rfl | rfl | rfl
    · rw [if_neg (by decide)]
      by_cases g : x = y
      · obtain ⟨a6, h1, h2⟩ := t 1 true ⟨fun w => absurd w (by decide), fun w => by cases w⟩
        refine ⟨a6, by rw [if_neg (fun w => w g)]; exact h1, h2.trans ?_⟩
        unfold bv; simp [g]
      · obtain ⟨a6, h1, h2⟩ := t 0 false ⟨fun _ => rfl, fun _ => rfl⟩
        refine ⟨a6, by rw [if_pos g]; exact h1, h2.trans ?_⟩
        unfold bv; simp [g]
    · rw [if_neg (by decide)]
      by_cases g : x = y
      · obtain ⟨a6, h1, h2⟩ := t 1 true ⟨fun w => absurd w (by decide), fun w => by cases w⟩
        refine ⟨a6, by rw [if_neg (fun w => w g)]; exact h1, h2.trans ?_⟩
        unfold bv; simp [g]
      · obtain ⟨a6, h1, h2⟩ := t 0 false ⟨fun _ => rfl, fun _ => rfl⟩
        refine ⟨a6, by rw [if_pos g]; exact h1, h2.trans ?_⟩
        unfold bv; simp [g]
    · exact absurd rfl g2
    · exact absurd rfl g3
    · rw [if_pos (by decide), if_neg (by decide)]
      by_cases g : y ≤ x
      · obtain ⟨a6, h1, h2⟩ := t 0 false ⟨fun _ => rfl, fun _ => rfl⟩
        refine ⟨a6, by rw [if_pos g]; exact h1, h2.trans ?_⟩
        unfold bv; simp [g]
      · obtain ⟨a6, h1, h2⟩ := t 1 true ⟨fun w => absurd w (by decide), fun w => by cases w⟩
        refine ⟨a6, by rw [if_neg g]; exact h1, h2.trans ?_⟩
        unfold bv; simp [g]
    · rw [if_pos (by decide), if_neg (by decide)]
      by_cases g : y ≤ x
      · obtain ⟨a6, h1, h2⟩ := t 0 false ⟨fun _ => rfl, fun _ => rfl⟩
        refine ⟨a6, by rw [if_pos g]; exact h1, h2.trans ?_⟩
        unfold bv; simp [g]
      · obtain ⟨a6, h1, h2⟩ := t 1 true ⟨fun w => absurd w (by decide), fun w => by cases w⟩
        refine ⟨a6, by rw [if_neg g]; exact h1, h2.trans ?_⟩
        unfold bv; simp [g]
    · rw [if_pos (by decide), if_pos (by decide)]
      by_cases g : (y ^^^ (-2147483648 : Int32)) ≤ (x ^^^ (-2147483648 : Int32))
      · obtain ⟨a6, h1, h2⟩ := t 0 false ⟨fun _ => rfl, fun _ => rfl⟩
        refine ⟨a6, by rw [if_pos g, y_bds]; exact h1, h2.trans ?_⟩
        unfold bv; simp [g]
      · obtain ⟨a6, h1, h2⟩ := t 1 true ⟨fun w => absurd w (by decide), fun w => by cases w⟩
        refine ⟨a6, by rw [if_neg g, y_bds]; exact h1, h2.trans ?_⟩
        unfold bv; simp [g]
    · rw [if_pos (by decide), if_pos (by decide)]
      by_cases g : (y ^^^ (-2147483648 : Int32)) ≤ (x ^^^ (-2147483648 : Int32))
      · obtain ⟨a6, h1, h2⟩ := t 0 false ⟨fun _ => rfl, fun _ => rfl⟩
        refine ⟨a6, by rw [if_pos g, y_bds]; exact h1, h2.trans ?_⟩
        unfold bv; simp [g]
      · obtain ⟨a6, h1, h2⟩ := t 1 true ⟨fun w => absurd w (by decide), fun w => by cases w⟩
        refine ⟨a6, by rw [if_neg g, y_bds]; exact h1, h2.trans ?_⟩
        unfold bv; simp [g]
theorem J_branch {h m m2 : AH} {s : St} {e : Ex} {b c d f : Nat} {w x y : Int32} (K : Ctx h m m2 s e b c d f w) : Jn h m s e (b + 2) (f_X3_branched h (34 + 12 * c) w x y) (f_X11_branch m2 226 (nI c) w (nI f) x y) := by
  have c16 := Ctx_16 K
  have L := RC_L K.1.1.1
  have L2 := Ctx_L K
  have p := Ctx_p K
  obtain ⟨R, hc, Q, hd, f8', _, hf, hb⟩ := id K
  have J2 : Jn h m s e (b + 2) (f_X3_stopped h (34 + 12 * c) w (2 : Int32)) (f_X11_stops m2 226 (nI c) (2 : Int32)) := J_stop (why := 2) K (by omega)
  have r := r_branch m2 (c := nI c) (w := w) (x := x) (y := y) f8'
  unfold f_X3_branched f_X0_knowsBranch
  rw [c_variant h hf, y_bds]
  by_cases g2 : f = 2
  · rw [if_pos (show nI f = (2 : Int32) from by rw [g2]; rfl), y_bds, if_neg (fun w => w rfl), y_gs, if_pos (lk_S34 L c16), r.1 (Or.inl g2)]
    unfold f_X11_branch_L10
    rw [y_gs, if_pos (lm_S226 L2)]
    exact J_some J2
  · rw [if_neg (show ¬ nI f = (2 : Int32) from fun w => g2 ((nIf f8' (show 2 < 2 ^ 31 by omega)).mp w))]
    by_cases g3 : f = 3
    · rw [if_pos (show nI f = (3 : Int32) from by rw [g3]; rfl), y_bds, if_neg (fun w => w rfl), y_gs, if_pos (lk_S34 L c16), r.1 (Or.inr g3)]
      unfold f_X11_branch_L10
      rw [y_gs, if_pos (lm_S226 L2)]
      exact J_some J2
    · rw [if_neg (show ¬ nI f = (3 : Int32) from fun w => g3 ((nIf f8' (show 3 < 2 ^ 31 by omega)).mp w)), y_bds, if_pos (by decide)]
      obtain ⟨v, v1, v2⟩ := c_branches h (x := x) (y := y) hf f8' g2 g3
      obtain ⟨a6, u1, u2⟩ := r.2 g2 g3
      rw [v1, y_bds, u1]
      unfold f_X11_branch_L86 f_X11_branch_L149
      have L3 : LM (sI m2 226 40 (0 : Int32)) := L2
      have e4 : hI (sI m2 226 40 (0 : Int32)) 244 c = nI (e 0 c) := by rw [x_ne (by omega)]; exact p.2
      rw [y_gs, if_pos (lm_S226 L2), y_lt, y_lt, lm_R26 L3, y_gs, if_pos (lm_S244 L3), lm_N244 L3, y_gb, if_pos (q_ib c16 (by omega)), q_cl (by omega), e4]
      by_cases z : bv f x y = false
      · unfold f_X3_branched_L31
        rw [if_pos (v2.mpr z), if_pos (u2.mpr z), y_gs, if_pos (lk_S34 L c16), p.1, y_gs, if_pos (lm_S226 L3)]
        exact J_some (J_fin0 K)
      · rw [if_neg (fun w => z (v2.mp w)), if_neg (fun w => z (u2.mp w)), b_far, y_bds]
        unfold f_X3_branched_L31
        rw [y_gs, if_pos (lk_S34 L c16), p.1, y_gs, if_pos (lm_S226 L3)]
        exact J_some (J_fin0 K)
