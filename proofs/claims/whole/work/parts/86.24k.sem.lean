/-! The reference's parts of an instruction are the operands in their order. -/
def opl (how : Nat) : List Nat :=
  if how = 0 then [100, 44, 97, 44, 98] else if how = 1 then [100, 44, 97, 44, 78] else if how = 2 then [100, 44, 78, 40, 97, 41] else if how = 3 then [98, 44, 78, 40, 97, 41] else if how = 4 then [97, 44, 98, 44, 78] else if how = 5 then [100, 44, 78] else if how = 6 then [100, 44, 78] else if how = 7 then [100, 44, 98, 44, 40, 97, 41] else if how = 8 then [] else if how = 9 then [100, 44, 97] else if how = 10 then [100, 44, 98] else if how = 11 then [78] else if how = 12 then [97, 44, 78] else if how = 13 then [100, 44, 78] else if how = 14 then [78] else if how = 15 then [110] else if how = 16 then [110] else []
/-- how a word's number goes in -/
def hnO (how op : Nat) : Nat := if how = 1 then (if 16 ≤ op ∧ op ≤ 18 then 6 else 0) else if how = 3 then 1 else if how = 4 ∨ how = 12 then 2 else if how = 5 then 3 else if how = 6 ∨ how = 11 then 4 else if how = 13 ∨ how = 14 then 5 else 0
def moO (how : Nat) : Int64 := if how = 16 then 15 else 8188
def muO (how : Nat) : Int32 := if how = 16 then 1 else 4
def fpO (how : Nat) : Nat := if how = 16 then 10 else 9
theorem op_t : ∀ op, op < 61 → tHow.getD op 0 ≤ 16 ∧ 0 < mOps.getD op 0 ∧ mOps.getD op 0 < 75 ∧ (opl (tHow.getD op 0)).length = sLen.getD (mOps.getD op 0 - 1) 0 ∧ (∀ t, t < (opl (tHow.getD op 0)).length → tx (mOps.getD op 0) t = nI ((opl (tHow.getD op 0)).getD t 0)) ∧ nNu (opl (tHow.getD op 0)) ≤ 1 ∧ (∀ ch, ch ∈ opl (tHow.getD op 0) → isRg ch = true ∨ isSg ch = true ∨ isNu ch = true) := by decide +kernel
theorem r_comma {m q : AH} {r : Int32} (L : LM m) (e : f_X11_wantSign m 226 (44 : Int32) = some (r, q)) (hr : r = 0 ∨ r = 1) : f_X11_wantComma m 226 = some (r, q) := by
  unfold f_X11_wantComma
  rw [y_gs, if_pos (lm_S226 L), e, y_bds, gb01 hr]
theorem n10 : ¬ (1 : Int32) = 0 := by decide
theorem r_base {m : AH} {hn : Nat} {mo : Int64} {mu : Int32} (H : Rch hn mo mu [40, 97, 41] m) : f_X11_wantBase m 226 = rsq hn mo mu [40, 97, 41] m ∧ ∃ r q, rsq hn mo mu [40, 97, 41] m = some (r, q) ∧ (r = 0 ∨ r = 1) := by
  obtain ⟨L0, r1, q1, e1, H1⟩ := H
  have e1' : f_X11_wantSign m 226 (40 : Int32) = some (r1, q1) := e1
  unfold f_X11_wantBase rsq
  rw [y_gs, if_pos (lm_S226 L0), e1, e1', y_bds, y_bds]
  rcases H1 with rfl | ⟨rfl, L1, L1', r2, q2, e2, H2⟩
  · rw [if_pos rfl, if_pos rfl]; exact ⟨rfl, _, _, rfl, Or.inl rfl⟩
  rw [if_neg n10, if_neg n10]
  have e2' : f_X11_wantRegister q1 226 (15 : Int32) = some (r2, q2) := e2
  unfold rsq
  rw [y_gs, if_pos (lm_S226 L1), e2, e2', y_bds, y_bds]
  rcases H2 with rfl | ⟨rfl, L2, L2', r3, q3, e3, H3⟩
  · rw [if_pos rfl, if_pos rfl]; exact ⟨rfl, _, _, rfl, Or.inl rfl⟩
  rw [if_neg n10, if_neg n10]
  have e3' : f_X11_wantSign q2 226 (41 : Int32) = some (r3, q3) := e3
  unfold rsq
  rw [y_gs, if_pos (lm_S226 L2), e3, e3', y_bds, y_bds]
  rcases H3 with rfl | ⟨rfl, L3, _⟩
  · rw [if_pos rfl, if_pos rfl]; exact ⟨rfl, _, _, rfl, Or.inl rfl⟩
  rw [if_neg n10, if_neg n10]
  exact ⟨rfl, _, _, rfl, Or.inr rfl⟩
theorem parts_0 {m : AH} {hn : Nat} {mo : Int64} {mu : Int32} (s0 : Int32) (H : Rch hn mo mu [100, 44, 97, 44, 98] m) : f_X11_wantParts_L18 m 226 (nI 0) s0 = rsq hn mo mu [100, 44, 97, 44, 98] m := by
  unfold f_X11_wantParts_L18
  rw [if_pos (show nI 0 = (0 : Int32) from rfl)]
  obtain ⟨L0, r1, q1, e1, H1⟩ := H
  have e1' : f_X11_wantRegister m 226 (7 : Int32) = some (r1, q1) := e1
  unfold rsq
  rw [y_gs, if_pos (lm_S226 L0), e1', e1, y_bds, y_bds]
  rcases H1 with rfl | ⟨rfl, L1, _, r2, q2, e2, H2⟩
  · rw [if_pos rfl, if_pos rfl]
  rw [if_neg n10, if_neg n10]
  have e2' : f_X11_wantSign q1 226 (44 : Int32) = some (r2, q2) := e2
  have h01 : r2 = 0 ∨ r2 = 1 := by rcases H2 with q | q; exact Or.inl q; exact Or.inr q.1
  have e2'' := r_comma L1 e2' h01
  unfold rsq
  rw [y_gs, if_pos (lm_S226 L1), e2'', e2, y_bds, y_bds]
  rcases H2 with rfl | ⟨rfl, L2, _, r3, q3, e3, H3⟩
  · rw [if_pos rfl, if_pos rfl]
  rw [if_neg n10, if_neg n10]
  have e3' : f_X11_wantRegister q2 226 (15 : Int32) = some (r3, q3) := e3
  unfold rsq
  rw [y_gs, if_pos (lm_S226 L2), e3', e3, y_bds, y_bds]
  rcases H3 with rfl | ⟨rfl, L3, _, r4, q4, e4, H4⟩
  · rw [if_pos rfl, if_pos rfl]
  rw [if_neg n10, if_neg n10]
  have e4' : f_X11_wantSign q3 226 (44 : Int32) = some (r4, q4) := e4
  have h01 : r4 = 0 ∨ r4 = 1 := by rcases H4 with q | q; exact Or.inl q; exact Or.inr q.1
  have e4'' := r_comma L3 e4' h01
  unfold rsq
  rw [y_gs, if_pos (lm_S226 L3), e4'', e4, y_bds, y_bds]
  rcases H4 with rfl | ⟨rfl, L4, _, r5, q5, e5, H5⟩
  · rw [if_pos rfl, if_pos rfl]
  rw [if_neg n10, if_neg n10]
  have e5' : f_X11_wantRegister q4 226 (20 : Int32) = some (r5, q5) := e5
  unfold rsq
  rw [y_gs, if_pos (lm_S226 L4), e5', e5, y_bds, y_bds]
  rcases H5 with rfl | ⟨rfl, _, _⟩
  · rw [if_pos rfl, if_pos rfl]
  · rw [if_neg n10, if_neg n10]; rfl
theorem parts_1 {m : AH} {hn : Nat} {mo : Int64} {mu : Int32} (s0 : Int32) (hs : s0 = nI hn) (H : Rch hn mo mu [100, 44, 97, 44, 78] m) : f_X11_wantParts_L18 m 226 (nI 1) s0 = rsq hn mo mu [100, 44, 97, 44, 78] m := by
  subst hs
  unfold f_X11_wantParts_L18
  rw [if_neg (show ¬ nI 1 = (0 : Int32) from by decide), if_pos (show nI 1 = (1 : Int32) from rfl)]
  obtain ⟨L0, r1, q1, e1, H1⟩ := H
  have e1' : f_X11_wantRegister m 226 (7 : Int32) = some (r1, q1) := e1
  unfold rsq
  rw [y_gs, if_pos (lm_S226 L0), e1', e1, y_bds, y_bds]
  rcases H1 with rfl | ⟨rfl, L1, _, r2, q2, e2, H2⟩
  · rw [if_pos rfl, if_pos rfl]
  rw [if_neg n10, if_neg n10]
  have e2' : f_X11_wantSign q1 226 (44 : Int32) = some (r2, q2) := e2
  have h01 : r2 = 0 ∨ r2 = 1 := by rcases H2 with q | q; exact Or.inl q; exact Or.inr q.1
  have e2'' := r_comma L1 e2' h01
  unfold rsq
  rw [y_gs, if_pos (lm_S226 L1), e2'', e2, y_bds, y_bds]
  rcases H2 with rfl | ⟨rfl, L2, _, r3, q3, e3, H3⟩
  · rw [if_pos rfl, if_pos rfl]
  rw [if_neg n10, if_neg n10]
  have e3' : f_X11_wantRegister q2 226 (15 : Int32) = some (r3, q3) := e3
  unfold rsq
  rw [y_gs, if_pos (lm_S226 L2), e3', e3, y_bds, y_bds]
  rcases H3 with rfl | ⟨rfl, L3, _, r4, q4, e4, H4⟩
  · rw [if_pos rfl, if_pos rfl]
  rw [if_neg n10, if_neg n10]
  have e4' : f_X11_wantSign q3 226 (44 : Int32) = some (r4, q4) := e4
  have h01 : r4 = 0 ∨ r4 = 1 := by rcases H4 with q | q; exact Or.inl q; exact Or.inr q.1
  have e4'' := r_comma L3 e4' h01
  unfold rsq
  rw [y_gs, if_pos (lm_S226 L3), e4'', e4, y_bds, y_bds]
  rcases H4 with rfl | ⟨rfl, L4, _, r5, q5, e5, H5⟩
  · rw [if_pos rfl, if_pos rfl]
  rw [if_neg n10, if_neg n10]
  have e5' : f_X11_wantN q4 226 (nI hn) = some (r5, q5) := e5
  unfold rsq
  rw [y_gs, if_pos (lm_S226 L4), e5', e5, y_bds, y_bds]
  rcases H5 with rfl | ⟨rfl, _, _⟩
  · rw [if_pos rfl, if_pos rfl]
  · rw [if_neg n10, if_neg n10]; rfl
theorem parts_2 {m : AH} {hn : Nat} {mo : Int64} {mu : Int32} (s0 : Int32) (hh : hn = 0) (H : Rch hn mo mu [100, 44, 78, 40, 97, 41] m) : f_X11_wantParts_L18 m 226 (nI 2) s0 = rsq hn mo mu [100, 44, 78, 40, 97, 41] m := by
  subst hh
  unfold f_X11_wantParts_L18
  rw [if_neg (show ¬ nI 2 = (0 : Int32) from by decide), if_neg (show ¬ nI 2 = (1 : Int32) from by decide), if_pos (show nI 2 = (2 : Int32) from rfl)]
  obtain ⟨L0, r1, q1, e1, H1⟩ := H
  have e1' : f_X11_wantRegister m 226 (7 : Int32) = some (r1, q1) := e1
  unfold rsq
  rw [y_gs, if_pos (lm_S226 L0), e1', e1, y_bds, y_bds]
  rcases H1 with rfl | ⟨rfl, L1, _, r2, q2, e2, H2⟩
  · rw [if_pos rfl, if_pos rfl]
  rw [if_neg n10, if_neg n10]
  have e2' : f_X11_wantSign q1 226 (44 : Int32) = some (r2, q2) := e2
  have h01 : r2 = 0 ∨ r2 = 1 := by rcases H2 with q | q; exact Or.inl q; exact Or.inr q.1
  have e2'' := r_comma L1 e2' h01
  unfold rsq
  rw [y_gs, if_pos (lm_S226 L1), e2'', e2, y_bds, y_bds]
  rcases H2 with rfl | ⟨rfl, L2, _, r3, q3, e3, H3⟩
  · rw [if_pos rfl, if_pos rfl]
  rw [if_neg n10, if_neg n10]
  have e3' : f_X11_wantN q2 226 (nI 0) = some (r3, q3) := e3
  have e3' : f_X11_wantN q2 226 (0 : Int32) = some (r3, q3) := e3'
  unfold rsq
  rw [y_gs, if_pos (lm_S226 L2), e3', e3, y_bds, y_bds]
  rcases H3 with rfl | ⟨rfl, L3, H'⟩
  · rw [if_pos rfl, if_pos rfl]
  rw [if_neg n10, if_neg n10]
  obtain ⟨b1, r, q, b2, b3⟩ := r_base H'
  rw [y_gs, if_pos (lm_S226 L3), b1, b2, y_bds]
  unfold f_X11_wantParts_L225
  rcases b3 with rfl | rfl
  · rw [if_pos rfl]
  · rw [if_neg n10]
theorem parts_3 {m : AH} {hn : Nat} {mo : Int64} {mu : Int32} (s0 : Int32) (hh : hn = 1) (H : Rch hn mo mu [98, 44, 78, 40, 97, 41] m) : f_X11_wantParts_L18 m 226 (nI 3) s0 = rsq hn mo mu [98, 44, 78, 40, 97, 41] m := by
  subst hh
  unfold f_X11_wantParts_L18
  rw [if_neg (show ¬ nI 3 = (0 : Int32) from by decide), if_neg (show ¬ nI 3 = (1 : Int32) from by decide), if_neg (show ¬ nI 3 = (2 : Int32) from by decide), if_pos (show nI 3 = (3 : Int32) from rfl)]
  obtain ⟨L0, r1, q1, e1, H1⟩ := H
  have e1' : f_X11_wantRegister m 226 (20 : Int32) = some (r1, q1) := e1
  unfold rsq
  rw [y_gs, if_pos (lm_S226 L0), e1', e1, y_bds, y_bds]
  rcases H1 with rfl | ⟨rfl, L1, _, r2, q2, e2, H2⟩
  · rw [if_pos rfl, if_pos rfl]
  rw [if_neg n10, if_neg n10]
  have e2' : f_X11_wantSign q1 226 (44 : Int32) = some (r2, q2) := e2
  have h01 : r2 = 0 ∨ r2 = 1 := by rcases H2 with q | q; exact Or.inl q; exact Or.inr q.1
  have e2'' := r_comma L1 e2' h01
  unfold rsq
  rw [y_gs, if_pos (lm_S226 L1), e2'', e2, y_bds, y_bds]
  rcases H2 with rfl | ⟨rfl, L2, _, r3, q3, e3, H3⟩
  · rw [if_pos rfl, if_pos rfl]
  rw [if_neg n10, if_neg n10]
  have e3' : f_X11_wantN q2 226 (nI 1) = some (r3, q3) := e3
  have e3' : f_X11_wantN q2 226 (1 : Int32) = some (r3, q3) := e3'
  unfold rsq
  rw [y_gs, if_pos (lm_S226 L2), e3', e3, y_bds, y_bds]
  rcases H3 with rfl | ⟨rfl, L3, H'⟩
  · rw [if_pos rfl, if_pos rfl]
  rw [if_neg n10, if_neg n10]
  obtain ⟨b1, r, q, b2, b3⟩ := r_base H'
  rw [y_gs, if_pos (lm_S226 L3), b1, b2, y_bds]
  rcases b3 with rfl | rfl
  · rw [if_pos rfl]
  · rw [if_neg n10]
theorem parts_4 {m : AH} {hn : Nat} {mo : Int64} {mu : Int32} (s0 : Int32) (hh : hn = 2) (H : Rch hn mo mu [97, 44, 98, 44, 78] m) : f_X11_wantParts_L18 m 226 (nI 4) s0 = rsq hn mo mu [97, 44, 98, 44, 78] m := by
  subst hh
  unfold f_X11_wantParts_L18
  rw [if_neg (show ¬ nI 4 = (0 : Int32) from by decide), if_neg (show ¬ nI 4 = (1 : Int32) from by decide), if_neg (show ¬ nI 4 = (2 : Int32) from by decide), if_neg (show ¬ nI 4 = (3 : Int32) from by decide), if_pos (show nI 4 = (4 : Int32) from rfl)]
  obtain ⟨L0, r1, q1, e1, H1⟩ := H
  have e1' : f_X11_wantRegister m 226 (15 : Int32) = some (r1, q1) := e1
  unfold rsq
  rw [y_gs, if_pos (lm_S226 L0), e1', e1, y_bds, y_bds]
  rcases H1 with rfl | ⟨rfl, L1, _, r2, q2, e2, H2⟩
  · rw [if_pos rfl, if_pos rfl]
  rw [if_neg n10, if_neg n10]
  have e2' : f_X11_wantSign q1 226 (44 : Int32) = some (r2, q2) := e2
  have h01 : r2 = 0 ∨ r2 = 1 := by rcases H2 with q | q; exact Or.inl q; exact Or.inr q.1
  have e2'' := r_comma L1 e2' h01
  unfold rsq
  rw [y_gs, if_pos (lm_S226 L1), e2'', e2, y_bds, y_bds]
  rcases H2 with rfl | ⟨rfl, L2, _, r3, q3, e3, H3⟩
  · rw [if_pos rfl, if_pos rfl]
  rw [if_neg n10, if_neg n10]
  have e3' : f_X11_wantRegister q2 226 (20 : Int32) = some (r3, q3) := e3
  unfold rsq
  rw [y_gs, if_pos (lm_S226 L2), e3', e3, y_bds, y_bds]
  rcases H3 with rfl | ⟨rfl, L3, _, r4, q4, e4, H4⟩
  · rw [if_pos rfl, if_pos rfl]
  rw [if_neg n10, if_neg n10]
  have e4' : f_X11_wantSign q3 226 (44 : Int32) = some (r4, q4) := e4
  have h01 : r4 = 0 ∨ r4 = 1 := by rcases H4 with q | q; exact Or.inl q; exact Or.inr q.1
  have e4'' := r_comma L3 e4' h01
  unfold rsq
  rw [y_gs, if_pos (lm_S226 L3), e4'', e4, y_bds, y_bds]
  rcases H4 with rfl | ⟨rfl, L4, _, r5, q5, e5, H5⟩
  · rw [if_pos rfl, if_pos rfl]
  rw [if_neg n10, if_neg n10]
  have e5' : f_X11_wantN q4 226 (nI 2) = some (r5, q5) := e5
  have e5' : f_X11_wantN q4 226 (2 : Int32) = some (r5, q5) := e5'
  unfold rsq
  rw [y_gs, if_pos (lm_S226 L4), e5', e5, y_bds, y_bds]
  rcases H5 with rfl | ⟨rfl, _, _⟩
  · rw [if_pos rfl, if_pos rfl]
  · rw [if_neg n10, if_neg n10]; rfl
theorem parts_5 {m : AH} {hn : Nat} {mo : Int64} {mu : Int32} (s0 : Int32) (hh : hn = 3) (H : Rch hn mo mu [100, 44, 78] m) : f_X11_wantParts_L18 m 226 (nI 5) s0 = rsq hn mo mu [100, 44, 78] m := by
  subst hh
  unfold f_X11_wantParts_L18
  rw [if_neg (show ¬ nI 5 = (0 : Int32) from by decide), if_neg (show ¬ nI 5 = (1 : Int32) from by decide), if_neg (show ¬ nI 5 = (2 : Int32) from by decide), if_neg (show ¬ nI 5 = (3 : Int32) from by decide), if_neg (show ¬ nI 5 = (4 : Int32) from by decide), if_pos (show nI 5 = (5 : Int32) from rfl)]
  obtain ⟨L0, r1, q1, e1, H1⟩ := H
  have e1' : f_X11_wantRegister m 226 (7 : Int32) = some (r1, q1) := e1
  unfold rsq
  rw [y_gs, if_pos (lm_S226 L0), e1', e1, y_bds, y_bds]
  rcases H1 with rfl | ⟨rfl, L1, _, r2, q2, e2, H2⟩
  · rw [if_pos rfl, if_pos rfl]
  rw [if_neg n10, if_neg n10]
  have e2' : f_X11_wantSign q1 226 (44 : Int32) = some (r2, q2) := e2
  have h01 : r2 = 0 ∨ r2 = 1 := by rcases H2 with q | q; exact Or.inl q; exact Or.inr q.1
  have e2'' := r_comma L1 e2' h01
  unfold rsq
  rw [y_gs, if_pos (lm_S226 L1), e2'', e2, y_bds, y_bds]
  rcases H2 with rfl | ⟨rfl, L2, _, r3, q3, e3, H3⟩
  · rw [if_pos rfl, if_pos rfl]
  rw [if_neg n10, if_neg n10]
  have e3' : f_X11_wantN q2 226 (nI 3) = some (r3, q3) := e3
  have e3' : f_X11_wantN q2 226 (3 : Int32) = some (r3, q3) := e3'
  unfold rsq
  rw [y_gs, if_pos (lm_S226 L2), e3', e3, y_bds, y_bds]
  rcases H3 with rfl | ⟨rfl, _, _⟩
  · rw [if_pos rfl, if_pos rfl]
  · rw [if_neg n10, if_neg n10]; rfl
theorem parts_6 {m : AH} {hn : Nat} {mo : Int64} {mu : Int32} (s0 : Int32) (hh : hn = 4) (H : Rch hn mo mu [100, 44, 78] m) : f_X11_wantParts_L18 m 226 (nI 6) s0 = rsq hn mo mu [100, 44, 78] m := by
  subst hh
  unfold f_X11_wantParts_L18
  rw [if_neg (show ¬ nI 6 = (0 : Int32) from by decide), if_neg (show ¬ nI 6 = (1 : Int32) from by decide), if_neg (show ¬ nI 6 = (2 : Int32) from by decide), if_neg (show ¬ nI 6 = (3 : Int32) from by decide), if_neg (show ¬ nI 6 = (4 : Int32) from by decide), if_neg (show ¬ nI 6 = (5 : Int32) from by decide), if_pos (show nI 6 = (6 : Int32) from rfl)]
  obtain ⟨L0, r1, q1, e1, H1⟩ := H
  have e1' : f_X11_wantRegister m 226 (7 : Int32) = some (r1, q1) := e1
  unfold rsq
  rw [y_gs, if_pos (lm_S226 L0), e1', e1, y_bds, y_bds]
  unfold f_X11_wantParts_L353
  rcases H1 with rfl | ⟨rfl, L1, _, r2, q2, e2, H2⟩
  · rw [if_pos rfl, if_pos rfl]
  rw [if_neg n10, if_neg n10]
  have e2' : f_X11_wantSign q1 226 (44 : Int32) = some (r2, q2) := e2
  have h01 : r2 = 0 ∨ r2 = 1 := by rcases H2 with q | q; exact Or.inl q; exact Or.inr q.1
  have e2'' := r_comma L1 e2' h01
  unfold rsq
  rw [y_gs, if_pos (lm_S226 L1), e2'', e2, y_bds, y_bds]
  rcases H2 with rfl | ⟨rfl, L2, _, r3, q3, e3, H3⟩
  · rw [if_pos rfl, if_pos rfl]
  rw [if_neg n10, if_neg n10]
  have e3' : f_X11_wantN q2 226 (nI 4) = some (r3, q3) := e3
  have e3' : f_X11_wantN q2 226 (4 : Int32) = some (r3, q3) := e3'
  unfold rsq
  rw [y_gs, if_pos (lm_S226 L2), e3', e3, y_bds, y_bds]
  rcases H3 with rfl | ⟨rfl, _, _⟩
  · rw [if_pos rfl, if_pos rfl]
  · rw [if_neg n10, if_neg n10]; rfl
theorem parts_7 {m : AH} {hn : Nat} {mo : Int64} {mu : Int32} (s0 : Int32) (H : Rch hn mo mu [100, 44, 98, 44, 40, 97, 41] m) : f_X11_wantParts_L18 m 226 (nI 7) s0 = rsq hn mo mu [100, 44, 98, 44, 40, 97, 41] m := by
  unfold f_X11_wantParts_L18
  rw [if_neg (show ¬ nI 7 = (0 : Int32) from by decide), if_neg (show ¬ nI 7 = (1 : Int32) from by decide), if_neg (show ¬ nI 7 = (2 : Int32) from by decide), if_neg (show ¬ nI 7 = (3 : Int32) from by decide), if_neg (show ¬ nI 7 = (4 : Int32) from by decide), if_neg (show ¬ nI 7 = (5 : Int32) from by decide), if_neg (show ¬ nI 7 = (6 : Int32) from by decide), if_pos (show nI 7 = (7 : Int32) from rfl)]
  obtain ⟨L0, r1, q1, e1, H1⟩ := H
  have e1' : f_X11_wantRegister m 226 (7 : Int32) = some (r1, q1) := e1
  unfold rsq
  rw [y_gs, if_pos (lm_S226 L0), e1', e1, y_bds, y_bds]
  rcases H1 with rfl | ⟨rfl, L1, _, r2, q2, e2, H2⟩
  · rw [if_pos rfl, if_pos rfl]
  rw [if_neg n10, if_neg n10]
  have e2' : f_X11_wantSign q1 226 (44 : Int32) = some (r2, q2) := e2
  have h01 : r2 = 0 ∨ r2 = 1 := by rcases H2 with q | q; exact Or.inl q; exact Or.inr q.1
  have e2'' := r_comma L1 e2' h01
  unfold rsq
  rw [y_gs, if_pos (lm_S226 L1), e2'', e2, y_bds, y_bds]
  rcases H2 with rfl | ⟨rfl, L2, _, r3, q3, e3, H3⟩
  · rw [if_pos rfl, if_pos rfl]
  rw [if_neg n10, if_neg n10]
  have e3' : f_X11_wantRegister q2 226 (20 : Int32) = some (r3, q3) := e3
  unfold rsq
  rw [y_gs, if_pos (lm_S226 L2), e3', e3, y_bds, y_bds]
  rcases H3 with rfl | ⟨rfl, L3, _, r4, q4, e4, H4⟩
  · rw [if_pos rfl, if_pos rfl]
  rw [if_neg n10, if_neg n10]
  have e4' : f_X11_wantSign q3 226 (44 : Int32) = some (r4, q4) := e4
  have h01 : r4 = 0 ∨ r4 = 1 := by rcases H4 with q | q; exact Or.inl q; exact Or.inr q.1
  have e4'' := r_comma L3 e4' h01
  unfold rsq
  rw [y_gs, if_pos (lm_S226 L3), e4'', e4, y_bds, y_bds]
  rcases H4 with rfl | ⟨rfl, L4, H'⟩
  · rw [if_pos rfl, if_pos rfl]
  rw [if_neg n10, if_neg n10]
  obtain ⟨b1, r, q, b2, b3⟩ := r_base H'
  rw [y_gs, if_pos (lm_S226 L4), b1, b2, y_bds]
  rcases b3 with rfl | rfl
  · rw [if_pos rfl]
  · rw [if_neg n10]
theorem parts_8 {m : AH} {hn : Nat} {mo : Int64} {mu : Int32} (s0 : Int32) (H : Rch hn mo mu [] m) : f_X11_wantParts_L18 m 226 (nI 8) s0 = rsq hn mo mu [] m := by
  unfold f_X11_wantParts_L18
  rw [if_neg (show ¬ nI 8 = (0 : Int32) from by decide), if_neg (show ¬ nI 8 = (1 : Int32) from by decide), if_neg (show ¬ nI 8 = (2 : Int32) from by decide), if_neg (show ¬ nI 8 = (3 : Int32) from by decide), if_neg (show ¬ nI 8 = (4 : Int32) from by decide), if_neg (show ¬ nI 8 = (5 : Int32) from by decide), if_neg (show ¬ nI 8 = (6 : Int32) from by decide), if_neg (show ¬ nI 8 = (7 : Int32) from by decide), if_neg (show ¬ nI 8 = (9 : Int32) from by decide), if_neg (show ¬ nI 8 = (10 : Int32) from by decide), if_neg (show ¬ nI 8 = (11 : Int32) from by decide), if_neg (show ¬ nI 8 = (12 : Int32) from by decide), if_neg (show ¬ nI 8 = (13 : Int32) from by decide), if_neg (show ¬ nI 8 = (14 : Int32) from by decide), if_neg (show ¬ nI 8 = (15 : Int32) from by decide), if_neg (show ¬ nI 8 = (16 : Int32) from by decide)]
  rfl
theorem parts_9 {m : AH} {hn : Nat} {mo : Int64} {mu : Int32} (s0 : Int32) (H : Rch hn mo mu [100, 44, 97] m) : f_X11_wantParts_L18 m 226 (nI 9) s0 = rsq hn mo mu [100, 44, 97] m := by
  unfold f_X11_wantParts_L18
  rw [if_neg (show ¬ nI 9 = (0 : Int32) from by decide), if_neg (show ¬ nI 9 = (1 : Int32) from by decide), if_neg (show ¬ nI 9 = (2 : Int32) from by decide), if_neg (show ¬ nI 9 = (3 : Int32) from by decide), if_neg (show ¬ nI 9 = (4 : Int32) from by decide), if_neg (show ¬ nI 9 = (5 : Int32) from by decide), if_neg (show ¬ nI 9 = (6 : Int32) from by decide), if_neg (show ¬ nI 9 = (7 : Int32) from by decide), if_pos (show nI 9 = (9 : Int32) from rfl)]
  obtain ⟨L0, r1, q1, e1, H1⟩ := H
  have e1' : f_X11_wantRegister m 226 (7 : Int32) = some (r1, q1) := e1
  unfold rsq
  rw [y_gs, if_pos (lm_S226 L0), e1', e1, y_bds, y_bds]
  rcases H1 with rfl | ⟨rfl, L1, _, r2, q2, e2, H2⟩
  · rw [if_pos rfl, if_pos rfl]
  rw [if_neg n10, if_neg n10]
  have e2' : f_X11_wantSign q1 226 (44 : Int32) = some (r2, q2) := e2
  have h01 : r2 = 0 ∨ r2 = 1 := by rcases H2 with q | q; exact Or.inl q; exact Or.inr q.1
  have e2'' := r_comma L1 e2' h01
  unfold rsq
  rw [y_gs, if_pos (lm_S226 L1), e2'', e2, y_bds, y_bds]
  rcases H2 with rfl | ⟨rfl, L2, _, r3, q3, e3, H3⟩
  · rw [if_pos rfl, if_pos rfl]
  rw [if_neg n10, if_neg n10]
  have e3' : f_X11_wantRegister q2 226 (15 : Int32) = some (r3, q3) := e3
  unfold rsq
  rw [y_gs, if_pos (lm_S226 L2), e3', e3, y_bds, y_bds]
  rcases H3 with rfl | ⟨rfl, _, _⟩
  · rw [if_pos rfl, if_pos rfl]
  · rw [if_neg n10, if_neg n10]; rfl
theorem parts_10 {m : AH} {hn : Nat} {mo : Int64} {mu : Int32} (s0 : Int32) (H : Rch hn mo mu [100, 44, 98] m) : f_X11_wantParts_L18 m 226 (nI 10) s0 = rsq hn mo mu [100, 44, 98] m := by
  unfold f_X11_wantParts_L18
  rw [if_neg (show ¬ nI 10 = (0 : Int32) from by decide), if_neg (show ¬ nI 10 = (1 : Int32) from by decide), if_neg (show ¬ nI 10 = (2 : Int32) from by decide), if_neg (show ¬ nI 10 = (3 : Int32) from by decide), if_neg (show ¬ nI 10 = (4 : Int32) from by decide), if_neg (show ¬ nI 10 = (5 : Int32) from by decide), if_neg (show ¬ nI 10 = (6 : Int32) from by decide), if_neg (show ¬ nI 10 = (7 : Int32) from by decide), if_neg (show ¬ nI 10 = (9 : Int32) from by decide), if_pos (show nI 10 = (10 : Int32) from rfl)]
  obtain ⟨L0, r1, q1, e1, H1⟩ := H
  have e1' : f_X11_wantRegister m 226 (7 : Int32) = some (r1, q1) := e1
  unfold rsq
  rw [y_gs, if_pos (lm_S226 L0), e1', e1, y_bds, y_bds]
  rcases H1 with rfl | ⟨rfl, L1, _, r2, q2, e2, H2⟩
  · rw [if_pos rfl, if_pos rfl]
  rw [if_neg n10, if_neg n10]
  have e2' : f_X11_wantSign q1 226 (44 : Int32) = some (r2, q2) := e2
  have h01 : r2 = 0 ∨ r2 = 1 := by rcases H2 with q | q; exact Or.inl q; exact Or.inr q.1
  have e2'' := r_comma L1 e2' h01
  unfold rsq
  rw [y_gs, if_pos (lm_S226 L1), e2'', e2, y_bds, y_bds]
  rcases H2 with rfl | ⟨rfl, L2, _, r3, q3, e3, H3⟩
  · rw [if_pos rfl, if_pos rfl]
  rw [if_neg n10, if_neg n10]
  have e3' : f_X11_wantRegister q2 226 (20 : Int32) = some (r3, q3) := e3
  unfold rsq
  rw [y_gs, if_pos (lm_S226 L2), e3', e3, y_bds, y_bds]
  rcases H3 with rfl | ⟨rfl, _, _⟩
  · rw [if_pos rfl, if_pos rfl]
  · rw [if_neg n10, if_neg n10]; rfl
theorem parts_11 {m : AH} {hn : Nat} {mo : Int64} {mu : Int32} (s0 : Int32) (hh : hn = 4) (H : Rch hn mo mu [78] m) : f_X11_wantParts_L18 m 226 (nI 11) s0 = rsq hn mo mu [78] m := by
  subst hh
  unfold f_X11_wantParts_L18
  rw [if_neg (show ¬ nI 11 = (0 : Int32) from by decide), if_neg (show ¬ nI 11 = (1 : Int32) from by decide), if_neg (show ¬ nI 11 = (2 : Int32) from by decide), if_neg (show ¬ nI 11 = (3 : Int32) from by decide), if_neg (show ¬ nI 11 = (4 : Int32) from by decide), if_neg (show ¬ nI 11 = (5 : Int32) from by decide), if_neg (show ¬ nI 11 = (6 : Int32) from by decide), if_neg (show ¬ nI 11 = (7 : Int32) from by decide), if_neg (show ¬ nI 11 = (9 : Int32) from by decide), if_neg (show ¬ nI 11 = (10 : Int32) from by decide), if_pos (show nI 11 = (11 : Int32) from rfl)]
  obtain ⟨L0, r1, q1, e1, H1⟩ := H
  have e1' : f_X11_wantN m 226 (nI 4) = some (r1, q1) := e1
  have e1' : f_X11_wantN m 226 (4 : Int32) = some (r1, q1) := e1'
  unfold rsq
  rw [y_gs, if_pos (lm_S226 L0), e1', e1, y_bds, y_bds]
  unfold f_X11_wantParts_L489
  rcases H1 with rfl | ⟨rfl, _, _⟩
  · rw [gb01 (Or.inl rfl), if_pos rfl]
  · rw [gb01 (Or.inr rfl), if_neg n10]; rfl
theorem parts_12 {m : AH} {hn : Nat} {mo : Int64} {mu : Int32} (s0 : Int32) (hh : hn = 2) (H : Rch hn mo mu [97, 44, 78] m) : f_X11_wantParts_L18 m 226 (nI 12) s0 = rsq hn mo mu [97, 44, 78] m := by
  subst hh
  unfold f_X11_wantParts_L18
  rw [if_neg (show ¬ nI 12 = (0 : Int32) from by decide), if_neg (show ¬ nI 12 = (1 : Int32) from by decide), if_neg (show ¬ nI 12 = (2 : Int32) from by decide), if_neg (show ¬ nI 12 = (3 : Int32) from by decide), if_neg (show ¬ nI 12 = (4 : Int32) from by decide), if_neg (show ¬ nI 12 = (5 : Int32) from by decide), if_neg (show ¬ nI 12 = (6 : Int32) from by decide), if_neg (show ¬ nI 12 = (7 : Int32) from by decide), if_neg (show ¬ nI 12 = (9 : Int32) from by decide), if_neg (show ¬ nI 12 = (10 : Int32) from by decide), if_neg (show ¬ nI 12 = (11 : Int32) from by decide), if_pos (show nI 12 = (12 : Int32) from rfl)]
  obtain ⟨L0, r1, q1, e1, H1⟩ := H
  have e1' : f_X11_wantRegister m 226 (15 : Int32) = some (r1, q1) := e1
  unfold rsq
  rw [y_gs, if_pos (lm_S226 L0), e1', e1, y_bds, y_bds]
  rcases H1 with rfl | ⟨rfl, L1, _, r2, q2, e2, H2⟩
  · rw [if_pos rfl, if_pos rfl]
  rw [if_neg n10, if_neg n10]
  have e2' : f_X11_wantSign q1 226 (44 : Int32) = some (r2, q2) := e2
  have h01 : r2 = 0 ∨ r2 = 1 := by rcases H2 with q | q; exact Or.inl q; exact Or.inr q.1
  have e2'' := r_comma L1 e2' h01
  unfold rsq
  rw [y_gs, if_pos (lm_S226 L1), e2'', e2, y_bds, y_bds]
  rcases H2 with rfl | ⟨rfl, L2, _, r3, q3, e3, H3⟩
  · rw [if_pos rfl, if_pos rfl]
  rw [if_neg n10, if_neg n10]
  have e3' : f_X11_wantN q2 226 (nI 2) = some (r3, q3) := e3
  have e3' : f_X11_wantN q2 226 (2 : Int32) = some (r3, q3) := e3'
  unfold rsq
  rw [y_gs, if_pos (lm_S226 L2), e3', e3, y_bds, y_bds]
  rcases H3 with rfl | ⟨rfl, _, _⟩
  · rw [if_pos rfl, if_pos rfl]
  · rw [if_neg n10, if_neg n10]; rfl
theorem parts_13 {m : AH} {hn : Nat} {mo : Int64} {mu : Int32} (s0 : Int32) (hh : hn = 5) (H : Rch hn mo mu [100, 44, 78] m) : f_X11_wantParts_L18 m 226 (nI 13) s0 = rsq hn mo mu [100, 44, 78] m := by
  subst hh
  unfold f_X11_wantParts_L18
  rw [if_neg (show ¬ nI 13 = (0 : Int32) from by decide), if_neg (show ¬ nI 13 = (1 : Int32) from by decide), if_neg (show ¬ nI 13 = (2 : Int32) from by decide), if_neg (show ¬ nI 13 = (3 : Int32) from by decide), if_neg (show ¬ nI 13 = (4 : Int32) from by decide), if_neg (show ¬ nI 13 = (5 : Int32) from by decide), if_neg (show ¬ nI 13 = (6 : Int32) from by decide), if_neg (show ¬ nI 13 = (7 : Int32) from by decide), if_neg (show ¬ nI 13 = (9 : Int32) from by decide), if_neg (show ¬ nI 13 = (10 : Int32) from by decide), if_neg (show ¬ nI 13 = (11 : Int32) from by decide), if_neg (show ¬ nI 13 = (12 : Int32) from by decide), if_pos (show nI 13 = (13 : Int32) from rfl)]
  obtain ⟨L0, r1, q1, e1, H1⟩ := H
  have e1' : f_X11_wantRegister m 226 (7 : Int32) = some (r1, q1) := e1
  unfold rsq
  rw [y_gs, if_pos (lm_S226 L0), e1', e1, y_bds, y_bds]
  rcases H1 with rfl | ⟨rfl, L1, _, r2, q2, e2, H2⟩
  · rw [if_pos rfl, if_pos rfl]
  rw [if_neg n10, if_neg n10]
  have e2' : f_X11_wantSign q1 226 (44 : Int32) = some (r2, q2) := e2
  have h01 : r2 = 0 ∨ r2 = 1 := by rcases H2 with q | q; exact Or.inl q; exact Or.inr q.1
  have e2'' := r_comma L1 e2' h01
  unfold rsq
  rw [y_gs, if_pos (lm_S226 L1), e2'', e2, y_bds, y_bds]
  rcases H2 with rfl | ⟨rfl, L2, _, r3, q3, e3, H3⟩
  · rw [if_pos rfl, if_pos rfl]
  rw [if_neg n10, if_neg n10]
  have e3' : f_X11_wantN q2 226 (nI 5) = some (r3, q3) := e3
  have e3' : f_X11_wantN q2 226 (5 : Int32) = some (r3, q3) := e3'
  unfold rsq
  rw [y_gs, if_pos (lm_S226 L2), e3', e3, y_bds, y_bds]
  rcases H3 with rfl | ⟨rfl, _, _⟩
  · rw [if_pos rfl, if_pos rfl]
  · rw [if_neg n10, if_neg n10]; rfl
theorem parts_14 {m : AH} {hn : Nat} {mo : Int64} {mu : Int32} (s0 : Int32) (hh : hn = 5) (H : Rch hn mo mu [78] m) : f_X11_wantParts_L18 m 226 (nI 14) s0 = rsq hn mo mu [78] m := by
  subst hh
  unfold f_X11_wantParts_L18
  rw [if_neg (show ¬ nI 14 = (0 : Int32) from by decide), if_neg (show ¬ nI 14 = (1 : Int32) from by decide), if_neg (show ¬ nI 14 = (2 : Int32) from by decide), if_neg (show ¬ nI 14 = (3 : Int32) from by decide), if_neg (show ¬ nI 14 = (4 : Int32) from by decide), if_neg (show ¬ nI 14 = (5 : Int32) from by decide), if_neg (show ¬ nI 14 = (6 : Int32) from by decide), if_neg (show ¬ nI 14 = (7 : Int32) from by decide), if_neg (show ¬ nI 14 = (9 : Int32) from by decide), if_neg (show ¬ nI 14 = (10 : Int32) from by decide), if_neg (show ¬ nI 14 = (11 : Int32) from by decide), if_neg (show ¬ nI 14 = (12 : Int32) from by decide), if_neg (show ¬ nI 14 = (13 : Int32) from by decide), if_pos (show nI 14 = (14 : Int32) from rfl)]
  obtain ⟨L0, r1, q1, e1, H1⟩ := H
  have e1' : f_X11_wantN m 226 (nI 5) = some (r1, q1) := e1
  have e1' : f_X11_wantN m 226 (5 : Int32) = some (r1, q1) := e1'
  unfold rsq
  rw [y_gs, if_pos (lm_S226 L0), e1', e1, y_bds, y_bds]
  rcases H1 with rfl | ⟨rfl, _, _⟩
  · rw [gb01 (Or.inl rfl), if_pos rfl]
  · rw [gb01 (Or.inr rfl), if_neg n10]; rfl
theorem parts_15 {m : AH} {hn : Nat} {mo : Int64} {mu : Int32} (s0 : Int32) (hmo : mo = 8188 ∧ mu = 4) (H : Rch hn mo mu [110] m) : f_X11_wantParts_L18 m 226 (nI 15) s0 = rsq hn mo mu [110] m := by
  obtain ⟨rfl, rfl⟩ := hmo
  unfold f_X11_wantParts_L18
  rw [if_neg (show ¬ nI 15 = (0 : Int32) from by decide), if_neg (show ¬ nI 15 = (1 : Int32) from by decide), if_neg (show ¬ nI 15 = (2 : Int32) from by decide), if_neg (show ¬ nI 15 = (3 : Int32) from by decide), if_neg (show ¬ nI 15 = (4 : Int32) from by decide), if_neg (show ¬ nI 15 = (5 : Int32) from by decide), if_neg (show ¬ nI 15 = (6 : Int32) from by decide), if_neg (show ¬ nI 15 = (7 : Int32) from by decide), if_neg (show ¬ nI 15 = (9 : Int32) from by decide), if_neg (show ¬ nI 15 = (10 : Int32) from by decide), if_neg (show ¬ nI 15 = (11 : Int32) from by decide), if_neg (show ¬ nI 15 = (12 : Int32) from by decide), if_neg (show ¬ nI 15 = (13 : Int32) from by decide), if_neg (show ¬ nI 15 = (14 : Int32) from by decide), if_pos (show nI 15 = (15 : Int32) from rfl)]
  obtain ⟨L0, r1, q1, e1, H1⟩ := H
  have e1' : f_X11_wantNumber m 226 (1 : Int32) (0 : Int64) (8188 : Int64) (4 : Int32) = some (r1, q1) := e1
  unfold rsq
  rw [y_gs, if_pos (lm_S226 L0), e1', e1, y_bds, y_bds]
  rcases H1 with rfl | ⟨rfl, _, _⟩
  · rw [gb01 (Or.inl rfl), if_pos rfl]
  · rw [gb01 (Or.inr rfl), if_neg n10]; rfl
theorem parts_16 {m : AH} {hn : Nat} {mo : Int64} {mu : Int32} (s0 : Int32) (hmo : mo = 15 ∧ mu = 1) (H : Rch hn mo mu [110] m) : f_X11_wantParts_L18 m 226 (nI 16) s0 = rsq hn mo mu [110] m := by
  obtain ⟨rfl, rfl⟩ := hmo
  unfold f_X11_wantParts_L18
  rw [if_neg (show ¬ nI 16 = (0 : Int32) from by decide), if_neg (show ¬ nI 16 = (1 : Int32) from by decide), if_neg (show ¬ nI 16 = (2 : Int32) from by decide), if_neg (show ¬ nI 16 = (3 : Int32) from by decide), if_neg (show ¬ nI 16 = (4 : Int32) from by decide), if_neg (show ¬ nI 16 = (5 : Int32) from by decide), if_neg (show ¬ nI 16 = (6 : Int32) from by decide), if_neg (show ¬ nI 16 = (7 : Int32) from by decide), if_neg (show ¬ nI 16 = (9 : Int32) from by decide), if_neg (show ¬ nI 16 = (10 : Int32) from by decide), if_neg (show ¬ nI 16 = (11 : Int32) from by decide), if_neg (show ¬ nI 16 = (12 : Int32) from by decide), if_neg (show ¬ nI 16 = (13 : Int32) from by decide), if_neg (show ¬ nI 16 = (14 : Int32) from by decide), if_neg (show ¬ nI 16 = (15 : Int32) from by decide), if_pos (show nI 16 = (16 : Int32) from rfl)]
  obtain ⟨L0, r1, q1, e1, H1⟩ := H
  have e1' : f_X11_wantNumber m 226 (1 : Int32) (0 : Int64) (15 : Int64) (1 : Int32) = some (r1, q1) := e1
  unfold rsq
  rw [y_gs, if_pos (lm_S226 L0), e1', e1, y_bds, y_bds]
  rcases H1 with rfl | ⟨rfl, _, _⟩
  · rw [gb01 (Or.inl rfl), if_pos rfl]
  · rw [gb01 (Or.inr rfl), if_neg n10]; rfl
