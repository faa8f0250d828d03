theorem uN_uN (s : St) (F i v w : Nat) : uN (uN s F i v) F i w = uN s F i w := by
  unfold uN; congr 1
  funext a b; unfold up2; simp only; split <;> rfl
/-- a way without a line: its other fields aren't looked at -/
theorem RC_free {h : AH} {s : St} (R : RC h s) (B : Bz s) {k F v : Nat} (u : uw s k) (h4 : N s 4 k = 0) (hF : F = 5 ∨ F = 6 ∨ F = 7 ∨ F = 9 ∨ F = 10 ∨ F = 11) : RC h (uN s F k v) := by
  obtain ⟨r1, r2, r3, r4⟩ := RC_w R u
  obtain ⟨s1, s2, s3, s4⟩ := RC_s R
  refine RC_H R B u (FrW_rfl h _) ?_ (fun G j => Or.inl rfl) rfl rfl (by rw [N_ne (by omega)]; exact s3) (by rw [N_ne (by omega)]; exact s4) R.2.2.2.2.2.1 ⟨by rw [N_ne (by omega)]; exact r1, by rw [N_ne (by omega)]; exact r2, by rw [N_ne (by omega)]; exact r3, fun g => ?_⟩
  · intro G j
    simp only [N_uN]
    (repeat' split) <;> omega
  · rw [N_ne (by omega)] at g; exact absurd h4 g
/-- the words of a way go to memory, if they are changed -/
def sWm (s : St) (k : Nat) : St := if N s 5 k = 0 then s else uW s 1 (N s 4 k - 1) (Wda s 2 k)
theorem sWb_m (s : St) (k : Nat) : sWb s k = uN (sWm s k) 5 k 0 := by
  unfold sWb sWm
  split
  · next e => rw [uN_id e]
  · rfl
theorem sWm_N (s : St) (k F i : Nat) : N (sWm s k) F i = N s F i := by unfold sWm; split <;> rfl
theorem sWm_W (s : St) (k F i : Nat) (h : F ≠ 1) : Wda (sWm s k) F i = Wda s F i := by
  unfold sWm; split
  · rfl
  · rw [W_ne (by omega)]
theorem sWm_P (s : St) (k : Nat) : Pl (sWm s k) = Pl s := by unfold sWm; split <;> rfl
theorem sWm_Q (s : St) (k : Nat) : Ql (sWm s k) = Ql s := by unfold sWm; split <;> rfl
theorem c_writeBack {h : AH} {s : St} (R : RC h s) (B : Bz s) {k l : Nat} (u : uw s k) (h4 : N s 4 k = l + 1) (hl : l < 512) (h5 : N s 5 k ≤ 1) :
    ∃ h', f_X4_writeBack h 19 (nI (cw s k)) = some h' ∧ RC h' (sWm s k) ∧ FrW h h' (cw s k) := by
  have L := RC_L R
  have wl := cw_lt B u
  obtain ⟨r1, r2, r3, r4⟩ := RC_w R u
  obtain ⟨b1, b2, b3, b4, b5⟩ := r4 (by omega)
  obtain ⟨s1, s2, s3, s4⟩ := RC_s R
  unfold f_X4_writeBack sWm
  rw [y_gs, if_pos (lc_S19 L), lc_R19_8 L, y_gs, if_pos (lc_S27 L), lc_N27 L, y_gb, if_pos (q_ib wl (by omega)), q_cl (show cw s k < 2 ^ 31 by omega), b3]
  by_cases e : N s 5 k = 0
  · rw [if_pos (show nI (N s 5 k) = 0 from by rw [e]; rfl), if_pos e]
    exact ⟨h, rfl, R, FrW_rfl h _⟩
  · rw [if_neg (show ¬ nI (N s 5 k) = 0 from fun h => e ((q_eq (b := 0) (by omega) (by omega)).mp h)), if_neg e, h4, Nat.add_sub_cancel]
    simp (disch := omega) only [↓y_gs, ↓y_gb, ↓y_lt, ↓y_bds, q_lit, q_cl, q_ib, q_add, q_mul, ↓reduceIte, decide_true, Nat.reduceAdd, Nat.reduceMul, lc_R19_2 L, lc_S21 L, lc_N21 L, r1, h4, pI_s, lc_R19_10 L, lc_S29 L, lc_N29 L, lc_R19_1 L, lc_S20 L, lc_N20 L, cpok_t]
    have Fw : FrW h (sA h 20 (va_cpy (hI h 29) (hI h 20) (cw s k * 4) (l * 4) 4)) (cw s k) := by
      refine ⟨rfl, fun o q e1 e2 e3 e4 => ?_⟩
      rw [x_neA e4]
    refine ⟨_, rfl, RC_H R B u Fw (fun G j => Or.inl rfl) ?_ rfl rfl ?_ ?_ ?_ ?_, Fw⟩
    · intro G j
      rw [W_uW]
      split
      · omega
      · exact Or.inl rfl
    · rw [x_neA (by omega)]; exact s3
    · rw [x_neA (by omega)]; exact s4
    · intro l' j hl' hj
      rw [x_eqA, W_uW]
      unfold va_cpy
      by_cases c : l' = l
      · subst c
        rw [if_pos (by omega), if_pos ⟨rfl, rfl⟩, show cw s k * 4 + (4 * l' + j - l' * 4) = 4 * cw s k + j by omega]
        exact b4 j hj
      · rw [if_neg (by omega), if_neg (by omega)]; exact R.2.2.2.2.2.1 l' j hl' hj
    · refine ⟨by rw [x_neA (by omega)]; exact r1, by rw [x_neA (by omega)]; exact r2, by rw [x_neA (by omega)]; exact r3, fun g => ?_⟩
      refine ⟨by rw [x_neA (by omega)]; exact b1, by rw [x_neA (by omega)]; exact b2, by rw [x_neA (by omega)]; exact b3, fun j hj => by rw [x_neA (by omega)]; exact b4 j hj, by rw [x_neA (by omega), x_neA (by omega)]; exact b5⟩
theorem c_fill {h : AH} {s : St} (R : RC h s) (B : Bz s) {k l : Nat} (u : uw s k) (h8 : N s 8 k = 0) (hl : l < 512) :
    ∃ h', f_X4_makeRoom_L89 h 19 (nI l) (nI (cw s k)) = some (nI (cw s k), h') ∧ RC h' (sFill s k l) ∧ FrW h h' (cw s k) := by
  have L := RC_L R
  have wl := cw_lt B u
  obtain ⟨r1, r2, r3, r4⟩ := RC_w R u
  obtain ⟨s1, s2, s3, s4⟩ := RC_s R
  unfold f_X4_makeRoom_L89
  simp (disch := omega) only [↓y_gs, ↓y_gb, ↓y_lt, ↓y_bds, q_lit, q_cl, q_ib, q_add, q_mul, ↓reduceIte, decide_true, Nat.reduceAdd, Nat.reduceMul, x_hI_sI, x_hR_sI, x_hS_sI, x_hN_sI, lc_S19 L, lc_R19_2 L, lc_S21 L, lc_N21 L, lc_R19_1 L, lc_S20 L, lc_N20 L, lc_R19_10 L, lc_S29 L, lc_N29 L, cpok_t, x_hR_sA, x_hS_sA, x_hN_sA, lc_R19_8 L, lc_S27 L, lc_N27 L, lc_R19_3 L, lc_S22 L, lc_N22 L, lc_R19_4 L, lc_S23 L, lc_N23 L, q_00, q_nN]
  generalize hg : va_cpy (hI (sI h 21 (cw s k) (nI l)) 20) (hI (sI h 21 (cw s k) (nI l)) 29) (l * 4) (cw s k * 4) 4 = g
  have hgq : ∀ q, g q = if cw s k * 4 ≤ q ∧ q < cw s k * 4 + 4 then w4 (Wda s 1 l) (q - cw s k * 4) else hI h 29 q := by
    intro q
    rw [← hg]; unfold va_cpy
    split
    · rw [x_ne (by omega), show l * 4 + (q - cw s k * 4) = 4 * l + (q - cw s k * 4) by omega]; exact R.2.2.2.2.2.1 l _ hl (by omega)
    · rw [x_ne (by omega)]
  have Fw : FrW h (sI (sI (sI (sA (sI h 21 (cw s k) (nI l)) 29 g) 27 (cw s k) (nI 0)) 22 (cw s k) nN) 23 (cw s k) (nI 0)) (cw s k) := by
    refine FrW_sI (FrW_sI (FrW_sI ?_ _ (by omega)) _ (by omega)) _ (by omega)
    refine ⟨rfl, fun o q e1 e2 e3 e4 => ?_⟩
    by_cases e : o = 29
    · subst e; rw [x_eqA, hgq, if_neg (by omega)]
    · rw [x_neA e, x_ne (by omega)]
  refine ⟨_, rfl, RC_H R B u Fw ?_ ?_ rfl rfl ?_ ?_ ?_ ?_, Fw⟩
  · intro G j
    unfold sFill
    simp only [N_uN, N_uW]
    (repeat' split) <;> omega
  · intro G j
    unfold sFill
    rw [W_uW]
    split
    · omega
    · exact Or.inl rfl
  · rw [x_ne (by omega), x_ne (by omega), x_ne (by omega), x_neA (by omega), x_ne (by omega)]; exact s3
  · rw [x_ne (by omega), x_ne (by omega), x_ne (by omega), x_neA (by omega), x_ne (by omega)]; exact s4
  · intro l' j hl' hj
    rw [x_ne (by omega), x_ne (by omega), x_ne (by omega), x_neA (by omega), x_ne (by omega)]; exact R.2.2.2.2.2.1 l' j hl' hj
  · unfold sFill
    refine ⟨?_, ?_, ?_, fun g => ?_⟩
    · rw [x_ne (by omega), x_ne (by omega), x_ne (by omega), x_neA (by omega), x_eq, N_uW, N_ne (by omega), N_ne (by omega), N_ne (by omega), N_ne (by omega), N_ne (by omega), N_eq, pI_s]
    · rw [x_ne (by omega), x_ne (by omega), x_ne (by omega), x_neA (by omega), x_ne (by omega), N_uW, N_ne (by omega), N_eq, r2, h8]
    · rw [x_ne (by omega), x_ne (by omega), x_ne (by omega), x_neA (by omega), x_ne (by omega)]; exact r3
    · refine ⟨?_, ?_, ?_, fun j hj => ?_, fun g2 => ?_⟩
      · rw [x_ne (by omega), x_eq, N_uW, N_ne (by omega), N_ne (by omega), N_ne (by omega), N_eq, pI_0]
      · rw [x_eq, N_uW, N_ne (by omega), N_ne (by omega), N_eq]
      · rw [x_ne (by omega), x_ne (by omega), x_eq, N_uW, N_ne (by omega), N_ne (by omega), N_ne (by omega), N_ne (by omega), N_eq]
      · rw [x_ne (by omega), x_ne (by omega), x_ne (by omega), x_eqA, hgq, if_pos (by omega), W_uW, if_pos ⟨rfl, rfl⟩, show 4 * cw s k + j - cw s k * 4 = j by omega]
      · rw [N_uW, N_ne (by omega), N_eq] at g2; exact absurd rfl g2
theorem sFill_5 (s : St) (k l : Nat) : sFill (uN s 5 k 0) k l = sFill s k l := by
  unfold sFill
  rw [uN_comm s (F := 5) (G := 4) (by omega), uN_uN]
  rfl
theorem c_recall {h : AH} {s : St} (R : RC h s) (B : Bz s) {k l : Nat} (u : uw s k) (h4 : N s 4 k = l + 1) (hl : l < 512) (h6 : N s 6 k ≤ N s 0 0) (h7 : N s 7 k < 2 ^ N s 0 0) (hp : (Pl s).length + 17 < 8400) :
    ∃ h', f_X4_makeRoom_L41 h 19 (nI (cw s k)) = some (nN, h') ∧ RC h' (sRecall s k) ∧ FrE h h' (cw s k) := by
  have L := RC_L R
  have wl := cw_lt B u
  obtain ⟨r1, r2, r3, r4⟩ := RC_w R u
  obtain ⟨b1, b2, b3, b4, b5⟩ := r4 (by omega)
  obtain ⟨s1, s2, s3, s4⟩ := RC_s R
  have Fw : FrW h (sI (sI (sI h 24 (cw s k) (nI 16)) 26 (cw s k) (nI 0)) 19 16 (nI (N s 20 0 + 1))) (cw s k) := FrW_sI (FrW_sI (FrW_sI (FrW_rfl h _) _ (by omega)) _ (by omega)) _ (by omega)
  have R1 : RC (sI (sI (sI h 24 (cw s k) (nI 16)) 26 (cw s k) (nI 0)) 19 16 (nI (N s 20 0 + 1))) (uN (uN (uN s 20 0 (N s 20 0 + 1)) 8 k 17) 10 k 0) := by
    refine RC_H R B u Fw ?_ (fun G j => Or.inl rfl) rfl rfl ?_ ?_ ?_ ?_
    · intro G j
      simp only [N_uN]
      (repeat' split) <;> omega
    · rw [x_ne (by omega), x_ne (by omega), x_ne (by omega)]; exact s3
    · rw [x_eq, N_ne (by omega), N_ne (by omega), N_eq]
    · intro l' j hl' hj
      rw [x_ne (by omega), x_ne (by omega), x_ne (by omega)]; exact R.2.2.2.2.2.1 l' j hl' hj
    · refine ⟨?_, ?_, ?_, fun g => ?_⟩
      · rw [x_ne (by omega), x_ne (by omega), x_ne (by omega)]; exact r1
      · rw [x_ne (by omega), x_ne (by omega), x_eq, N_ne (by omega), N_eq]; rfl
      · rw [x_ne (by omega), x_ne (by omega), x_ne (by omega)]; exact r3
      · refine ⟨?_, ?_, ?_, fun j hj => ?_, fun g2 => ⟨?_, fun g3 => ?_⟩⟩
        · rw [x_ne (by omega), x_ne (by omega), x_ne (by omega)]; exact b1
        · rw [x_ne (by omega), x_ne (by omega), x_ne (by omega)]; exact b2
        · rw [x_ne (by omega), x_ne (by omega), x_ne (by omega)]; exact b3
        · rw [x_ne (by omega), x_ne (by omega), x_ne (by omega)]; exact b4 j hj
        · rw [x_ne (by omega), x_eq, N_eq]
        · rw [N_ne (by omega), N_eq] at g3; exact absurd rfl g3
  obtain ⟨a, ea, Ra, Fa⟩ := c_invite R1 B (k := k) (l := l) (sp := 0) u h4 hl h6 h7 (by rw [N_ne (by omega), N_eq]; omega) (by omega) hp
  refine ⟨a, ?_, ?_, FrE_tr (FrE_W Fw) Fa⟩
  · unfold f_X4_makeRoom_L41
    simp (disch := omega) only [↓y_gs, ↓y_gb, ↓y_lt, ↓y_bds, q_lit, q_cl, q_ib, q_add, q_mul, ↓reduceIte, decide_true, Nat.reduceAdd, Nat.reduceMul, x_hI_sI, x_hR_sI, x_hS_sI, x_hN_sI, lc_S19 L, lc_R19_5 L, lc_S24 L, lc_N24 L, lc_R19_7 L, lc_S26 L, lc_N26 L, s4, q_nN, Nat.reduceEqDiff, false_and]
    rw [pI_0] at ea
    have ea' : f_X4_invite (sI (sI (sI h 24 (cw s k) (nI 16)) 26 (cw s k) (nI 0)) 19 16 (nI (N s 20 0 + 1))) 19 (nI (cw s k)) nN = some a := ea
    rw [ea']; rfl
  · unfold sRecall
    rw [h4, Nat.add_sub_cancel]; exact Ra
/-- ways with a line and about nothing are as they were, but for one -/
def DQ (h : AH) (s : St) (h' : AH) (t : St) (e : Option Nat) : Prop := ∀ k, uw s k → e ≠ some k → N t 4 k ≠ 0 → N t 8 k = 0 → N s 4 k ≠ 0 ∧ N s 8 k = 0 ∧ hI h' 26 (cw s k) = hI h 26 (cw s k)
theorem DQ_E {h h' : AH} {s t : St} {k : Nat} {e : Option Nat} (u : uw s k) (F : FrE h h' (cw s k)) (n : ∀ j, j ≠ k → N t 4 j = N s 4 j ∧ N t 8 j = N s 8 j) (hk : e = some k ∨ N t 4 k = 0 ∨ N t 8 k ≠ 0) : DQ h s h' t e := by
  intro j uj hj g4 g8
  have hjk : j ≠ k := by
    rintro rfl
    rcases hk with hk | hk | hk
    · exact hj hk
    · exact g4 hk
    · exact hk g8
  obtain ⟨n4, n8⟩ := n j hjk
  rw [n4] at g4; rw [n8] at g8
  exact ⟨g4, g8, F.2 _ (fun e => hjk (cw_inj uj u e))⟩
theorem sFill_N (s : St) {k l F j : Nat} (h : j ≠ k) : N (sFill s k l) F j = N s F j := by
  unfold sFill
  rw [N_uW, N_ne (by omega), N_ne (by omega), N_ne (by omega), N_ne (by omega), N_ne (by omega), N_ne (by omega)]
theorem c_room {h : AH} {s : St} (R : RC h s) (B : Bz s) (H : Hr s) (G23 : ∀ k, k < 512 → N s 4 k ≠ 0 → N s 23 k < 2 ^ 30) (h6 : ∀ k, uw s k → N s 4 k ≠ 0 → N s 6 k ≤ N s 0 0 ∧ N s 7 k < 2 ^ N s 0 0) (h8 : ∀ k, uw s k → N s 4 k = 0 → N s 8 k = 0) {l : Nat} (hl : l < 512) (hp : (Pl s).length + 17 < 8400)
    (ho : sEmpty s l = none → bmin (N s 23) (N s 8) none (hSet s l) (N s 0 5) = sOld s l) :
    ∃ h', f_X4_makeRoom h 19 (nI l) = some (oI ((sFind s l).1.map (cw s)), h') ∧ RC h' (sFind s l).2 ∧ FrC h h' ∧ DQ h s h' (sFind s l).2 (sFind s l).1 := by
  have L := RC_L R
  have b5 := bz_hways B
  have hs5 := hSet_le B l
  unfold f_X4_makeRoom
  rw [y_gs, if_pos (lc_S19 L), c_wayToFree R B H G23 hl, y_bds]
  cases e : sEmpty s l with
  | some k =>
    have er : sRoom s l = some k := by unfold sRoom; rw [e]; rfl
    have ef : sFind s l = (some k, sFill s k l) := by unfold sFind; rw [e]
    rw [er, ef]
    obtain ⟨g1, g2, g3, _⟩ := fst_some e
    have u := (set_u B g1 g2).1
    have wl := cw_lt B u
    have k4 : N s 4 k = 0 := by simpa using g3
    obtain ⟨r1, r2, r3, r4⟩ := RC_w R u
    rw [show oI ((some k).map (cw s)) = nI (cw s k) from rfl, if_pos (ge0 (show cw s k < 2 ^ 31 by omega)), lc_R19_2 L, y_gs, if_pos (lc_S21 L), lc_N21 L, y_gb, if_pos (q_ib wl (by omega)), q_cl (show cw s k < 2 ^ 31 by omega), r1, if_pos (show pI (N s 4 k) = (-1 : Int32) from (pI_nN (by omega)).mpr k4)]
    unfold f_X4_makeRoom_L74
    rw [y_gs, if_pos (lc_S19 L), lc_R19_2 L, y_gs, if_pos (lc_S21 L), lc_N21 L, y_gb, if_pos (q_ib wl (by omega)), q_cl (show cw s k < 2 ^ 31 by omega), r1, if_pos (show pI (N s 4 k) = (-1 : Int32) from (pI_nN (by omega)).mpr k4)]
    obtain ⟨a, ea, Ra, Fa⟩ := c_fill R B u (h8 k u k4) hl
    rw [ea]
    exact ⟨a, rfl, Ra, FrC_W Fa, DQ_E u (FrE_W Fa) (fun j hj => ⟨sFill_N s hj, sFill_N s hj⟩) (Or.inl rfl)⟩
  | none =>
    have em := fst_none.mp e
    have er : sRoom s l = sOld s l := by unfold sRoom; rw [e]; exact ho e
    rw [er]
    cases e2 : sOld s l with
    | none =>
      have ef : sFind s l = (none, s) := by unfold sFind; rw [e]; simp only; rw [e2]
      rw [ef, show oI ((none : Option Nat).map (cw s)) = nN from rfl, if_neg (show ¬ 0 ≤ nN from by decide)]
      exact ⟨h, rfl, R, FrC_rfl h, fun k _ _ g4 g8 => ⟨g4, g8, rfl⟩⟩
    | some k =>
      rcases bmin_in e2 with h' | ⟨g1, g2, g3⟩
      · cases h'
      have u := (set_u B g1 g2).1
      have wl := cw_lt B u
      have k4 : N s 4 k ≠ 0 := by have := em k g1 g2; simpa using this
      obtain ⟨m4, m5, m6, m7, m8, m9, m10, m11⟩ := H k (by omega)
      obtain ⟨l', hl'⟩ : ∃ l', N s 4 k = l' + 1 := ⟨N s 4 k - 1, by omega⟩
      obtain ⟨r1, r2, r3, r4⟩ := RC_w R u
      obtain ⟨b1, b2, b3, b4, b5⟩ := r4 k4
      rw [show oI ((some k).map (cw s)) = nI (cw s k) from rfl, if_pos (ge0 (show cw s k < 2 ^ 31 by omega)), lc_R19_2 L, y_gs, if_pos (lc_S21 L), lc_N21 L, y_gb, if_pos (q_ib wl (by omega)), q_cl (show cw s k < 2 ^ 31 by omega), r1, if_neg (show ¬ pI (N s 4 k) = (-1 : Int32) from fun h => k4 ((pI_nN (by omega)).mp h)), lc_R19_3 L, y_gs, if_pos (lc_S22 L), lc_N22 L, y_gb, if_pos (q_ib wl (by omega)), b1]
      have recl : ¬ (N s 6 k = 0 ∧ N s 7 k = 0) → ∃ h', f_X4_makeRoom_L41 h 19 (nI (cw s k)) = some (oI ((sFind s l).1.map (cw s)), h') ∧ RC h' (sFind s l).2 ∧ FrC h h' ∧ DQ h s h' (sFind s l).2 (sFind s l).1 := by
        intro hn
        have ef : sFind s l = (none, sRecall s k) := by unfold sFind; rw [e]; simp only; rw [e2]; simp only; rw [if_neg hn]
        rw [ef]
        obtain ⟨a, ea, Ra, Fa⟩ := c_recall R B u hl' (by omega) (h6 k u k4).1 (h6 k u k4).2 hp
        refine ⟨a, ea, Ra, Fa.1, DQ_E u Fa (fun j hj => ⟨?_, ?_⟩) (Or.inr (Or.inr ?_))⟩
        · unfold sRecall; rw [sCall_N _ _ _ _ _ _ _ _ (by omega), N_ne (by omega), N_ne (by omega), N_ne (by omega)]
        · unfold sRecall; rw [sCall_N _ _ _ _ _ _ _ _ (by omega), N_ne (by omega), N_ne (by omega), N_ne (by omega)]
        · unfold sRecall; rw [sCall_N _ _ _ _ _ _ _ _ (by omega), N_ne (by omega), N_eq]; omega
      by_cases c6 : N s 6 k = 0
      · rw [if_neg (show ¬ ¬ pI (N s 6 k) = (-1 : Int32) from fun h => h ((pI_nN (by omega)).mpr c6)), lc_R19_4 L, y_gs, if_pos (lc_S23 L), lc_N23 L, y_gb, if_pos (q_ib wl (by omega)), b2]
        by_cases c7 : N s 7 k = 0
        · rw [if_pos (show nI (N s 7 k) = 0 from by rw [c7]; rfl)]
          have ef : sFind s l = (some k, sFill (sWb s k) k l) := by unfold sFind; rw [e]; simp only; rw [e2]; simp only; rw [if_pos ⟨c6, c7⟩]
          rw [ef, sWb_m, sFill_5]
          unfold f_X4_makeRoom_L74
          rw [y_gs, if_pos (lc_S19 L), lc_R19_2 L, y_gs, if_pos (lc_S21 L), lc_N21 L, y_gb, if_pos (q_ib wl (by omega)), q_cl (show cw s k < 2 ^ 31 by omega), r1, if_neg (show ¬ pI (N s 4 k) = (-1 : Int32) from fun h => k4 ((pI_nN (by omega)).mp h))]
          obtain ⟨a, ea, Ra, Fa⟩ := c_writeBack R B u hl' (by omega) m5
          have Bm : Bz (sWm s k) := by unfold Bz; simp only [sWm_N]; exact B
          have um : uw (sWm s k) k := uw_N (fun i => sWm_N s k 0 i) u
          have cm : cw (sWm s k) k = cw s k := cw_N (sWm_N s k 0 5) k
          obtain ⟨b, eb, Rb, Fb⟩ := c_fill Ra Bm (l := l) um (by rw [sWm_N]; exact g3) hl
          rw [cm] at eb Fb
          rw [ea, y_bds, eb]
          refine ⟨b, rfl, Rb, FrC_W (FrW_tr Fa Fb), DQ_E u (FrE_W (FrW_tr Fa Fb)) (fun j hj => ⟨?_, ?_⟩) (Or.inl rfl)⟩
          · rw [sFill_N _ hj, sWm_N]
          · rw [sFill_N _ hj, sWm_N]
        · rw [if_neg (show ¬ nI (N s 7 k) = 0 from fun h => c7 ((q_eq (b := 0) (by omega) (by omega)).mp h))]
          exact recl (fun h => c7 h.2)
      · rw [if_pos (show ¬ pI (N s 6 k) = (-1 : Int32) from fun h => c6 ((pI_nN (by omega)).mp h))]
        exact recl (fun h => c6 h.1)
