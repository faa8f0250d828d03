/-- what a message's words are told from: nothing (0), or four places of a row -/
def Src (h : AH) (wid idx fi : Nat) (ws : W4) : Prop := (wid = 0 ∧ fi = 0 ∧ ws = w0) ∨ (0 < wid ∧ wid ≤ 225 ∧ wid ≠ 16 ∧ wid ≠ 17 ∧ fi = 1 ∧ hS h wid = 21 ∧ idx + 4 ≤ hN h wid ∧ hN h wid < 2 ^ 31 ∧ ∀ j, j < 4 → hI h wid (idx + j) = w4 ws j)
/-- the rows behind a message at place 9 n -/
def wrM (h : AH) (r n : Nat) (x : Msg) : AH := sI (sI (sI (sI (sI (sI (sI (sI (sI (sI h r (n * 9 + 0) (nI (mKi x))) r (n * 9 + 1) (nI (mFr x))) r (n * 9 + 2) (nI (mTo x))) r (n * 9 + 3) (nI (mLi x))) r (n * 9 + 4) (nI (mFi x))) r (n * 9 + 5 + 0) (w4 (mWo x) 0)) r (n * 9 + 5 + 1) (w4 (mWo x) 1)) r (n * 9 + 5 + 2) (w4 (mWo x) 2)) r (n * 9 + 5 + 3) (w4 (mWo x) 3)) 16 1 (nI (n + 1))
theorem c_send40 {h : AH} {s : St} (L : LC h) (Rp : RCp h s) {kd fr to l wid idx fi : Nat} {ws : W4} (S : Src h wid idx fi ws) (hp : 9 * (Pl s).length + 9 ≤ hN h (hR h 16 0)) :
    f_X6_send_L40 h 16 (nI kd) (nI fr) (nI to) (nI l) wid (nI idx) (nI ((Pl s).length * 9)) = some (wrM h (hR h 16 0) (Pl s).length (kd, fr, to, l, fi, ws)) := by
  obtain ⟨a1, a2, a3, a4, a5, a6, a7, a8⟩ := Rp
  have s16 := lc_S16 L
  have r16 : ¬ 16 = hR h 16 0 := by omega
  generalize hr : hR h 16 0 = r at *
  generalize (Pl s).length = n at *
  unfold f_X6_send_L40
  obtain ⟨f, hf⟩ : ∃ f, FU = f + 5 := ⟨4294967291, rfl⟩
  rcases S with ⟨rfl, rfl, rfl⟩ | ⟨b0, b1, b2, b3, rfl, b4, b5, b6, b7⟩
  · simp (disch := omega) only [↓y_gs, ↓y_gb, ↓y_lt, ↓y_bds, q_lit, q_cl, q_ib, q_add, q_mul, ↓reduceIte, decide_true, Nat.reduceAdd, Nat.reduceMul, x_hI_sI, x_hR_sI, x_hS_sI, x_hN_sI, s16, hr, a2]
    simp (disch := omega) only [f_X6_send_L99, ↓y_gs, ↓y_gb, ↓y_lt, ↓y_bds, q_lit, q_cl, q_ib, q_add, q_mul, ↓reduceIte, decide_true, Nat.reduceAdd, Nat.reduceMul, x_hI_sI, x_hR_sI, x_hS_sI, x_hN_sI, s16, hr, a2]
    rw [hf]
    simp (disch := omega) only [f_X6_send_L103, f_X6_send_L137, ↓y_gs, ↓y_gb, ↓y_lt, ↓y_bds, q_lit, q_cl, q_ib, q_add, q_mul, ↓reduceIte, decide_true, Nat.reduceAdd, Nat.reduceMul, x_hI_sI, x_hR_sI, x_hS_sI, x_hN_sI, s16, hr, a2, a1, q_le, Nat.reduceLeDiff, Nat.reduceEqDiff, r16, false_and]
    simp only [wrM, mKi, mFr, mTo, mLi, mFi, mWo, w4_w0]
    rfl
  · have w0' : ¬ wid = 0 := by omega
    have wr : ¬ wid = r := by omega
    have c0 := b7 0 (by omega); have c1 := b7 1 (by omega); have c2 := b7 2 (by omega); have c3 := b7 3 (by omega)
    simp (disch := omega) only [↓y_gs, ↓y_gb, ↓y_lt, ↓y_bds, q_lit, q_cl, q_ib, q_add, q_mul, ↓reduceIte, decide_true, Nat.reduceAdd, Nat.reduceMul, x_hI_sI, x_hR_sI, x_hS_sI, x_hN_sI, s16, hr, a2, w0']
    simp (disch := omega) only [f_X6_send_L99, ↓y_gs, ↓y_gb, ↓y_lt, ↓y_bds, q_lit, q_cl, q_ib, q_add, q_mul, ↓reduceIte, decide_true, Nat.reduceAdd, Nat.reduceMul, x_hI_sI, x_hR_sI, x_hS_sI, x_hN_sI, s16, hr, a2]
    rw [hf]
    simp (disch := omega) only [f_X6_send_L103, f_X6_send_L137, ↓y_gs, ↓y_gb, ↓y_lt, ↓y_bds, q_lit, q_cl, q_ib, q_add, q_mul, ↓reduceIte, decide_true, Nat.reduceAdd, Nat.reduceMul, x_hI_sI, x_hR_sI, x_hS_sI, x_hN_sI, s16, hr, a2, a1, q_le, Nat.reduceLeDiff, Nat.reduceEqDiff, r16, false_and, w0', wr, b4, c0, c1, c2, c3]
    rfl
theorem wrM_FrP {h : AH} {s : St} (Rp : RCp h s) (n : Nat) (x : Msg) : FrP h (wrM h (hR h 16 0) n x) := by
  obtain ⟨a1, a2, a3, a4, a5, a6, a7, a8⟩ := Rp
  refine ⟨?_, ?_, fun _ _ _ => rfl, fun _ _ _ _ => rfl, fun _ _ => ⟨rfl, rfl⟩, rfl, Nat.le_refl _, Nat.le_refl _⟩
  · intro o k e e2 e3
    unfold wrM
    simp only [x_hI_sI]
    rw [if_neg (by omega), if_neg (by omega), if_neg (by omega), if_neg (by omega), if_neg (by omega), if_neg (by omega), if_neg (by omega), if_neg (by omega), if_neg (by omega), if_neg (by omega)]
  · unfold wrM
    simp only [x_hI_sI]
    rw [if_neg (by omega), if_neg (by omega), if_neg (by omega), if_neg (by omega), if_neg (by omega), if_neg (by omega), if_neg (by omega), if_neg (by omega), if_neg (by omega), if_neg (by omega)]
theorem wrM_RCp {h : AH} {s : St} (Rp : RCp h s) (x : Msg) (hp : 9 * (Pl s).length + 9 ≤ hN h (hR h 16 0)) : RCp (wrM h (hR h 16 0) (Pl s).length x) (sPost s x) := by
  obtain ⟨a1, a2, a3, a4, a5, a6, a7, a8⟩ := Rp
  refine ⟨?_, a2, a3, a4, a5, a6, ?_, ?_⟩
  · show _ = nI (Pl s ++ [x]).length
    unfold wrM
    rw [x_hI_sI, if_pos ⟨rfl, rfl⟩, List.length_append]; rfl
  · show 9 * (Pl s ++ [x]).length ≤ hN h (hR h 16 0)
    rw [List.length_append]; simp; omega
  · intro i j hi hj
    have hi' : i < (Pl s).length + 1 := by
      have : i < (Pl s ++ [x]).length := hi
      rw [List.length_append] at this; exact this
    show hI (wrM h (hR h 16 0) (Pl s).length x) (hR h 16 0) (9 * i + j) = mp ((Pl s ++ [x]).getD i x0) j
    have r16 : ¬ hR h 16 0 = 16 := by omega
    unfold wrM
    simp only [x_hI_sI]
    by_cases c : i = (Pl s).length
    · subst c
      rw [getD_append_r]
      rcases lt9 hj with rfl | rfl | rfl | rfl | rfl | rfl | rfl | rfl | rfl
      · rw [if_neg (by omega), if_neg (by omega), if_neg (by omega), if_neg (by omega), if_neg (by omega), if_neg (by omega), if_neg (by omega), if_neg (by omega), if_neg (by omega), if_pos ⟨trivial, by omega⟩]; rfl
      · rw [if_neg (by omega), if_neg (by omega), if_neg (by omega), if_neg (by omega), if_neg (by omega), if_neg (by omega), if_neg (by omega), if_neg (by omega), if_pos ⟨trivial, by omega⟩]; rfl
      · rw [if_neg (by omega), if_neg (by omega), if_neg (by omega), if_neg (by omega), if_neg (by omega), if_neg (by omega), if_neg (by omega), if_pos ⟨trivial, by omega⟩]; rfl
      · rw [if_neg (by omega), if_neg (by omega), if_neg (by omega), if_neg (by omega), if_neg (by omega), if_neg (by omega), if_pos ⟨trivial, by omega⟩]; rfl
      · rw [if_neg (by omega), if_neg (by omega), if_neg (by omega), if_neg (by omega), if_neg (by omega), if_pos ⟨trivial, by omega⟩]; rfl
      · rw [if_neg (by omega), if_neg (by omega), if_neg (by omega), if_neg (by omega), if_pos ⟨trivial, by omega⟩]; rfl
      · rw [if_neg (by omega), if_neg (by omega), if_neg (by omega), if_pos ⟨trivial, by omega⟩]; rfl
      · rw [if_neg (by omega), if_neg (by omega), if_pos ⟨trivial, by omega⟩]; rfl
      · rw [if_neg (by omega), if_pos ⟨trivial, by omega⟩]; rfl
    · have hi2 : i < (Pl s).length := by omega
      rw [getD_append_l hi2, ← a8 i j hi2 hj]
      rw [if_neg (by omega), if_neg (by omega), if_neg (by omega), if_neg (by omega), if_neg (by omega), if_neg (by omega), if_neg (by omega), if_neg (by omega), if_neg (by omega), if_neg (by omega)]
theorem Src_P {h h' : AH} (F : FrP h h') {wid idx fi : Nat} {ws : W4} (S : Src h wid idx fi ws) : Src h' wid idx fi ws := by
  rcases S with S | ⟨b0, b1, b2, b3, rfl, b4, b5, b6, b7⟩
  · exact Or.inl S
  · obtain ⟨a1, a0, a2, a3, a4, a5, a6, a7⟩ := F
    refine Or.inr ⟨b0, b1, b2, b3, rfl, ?_, ?_, ?_, ?_⟩
    · rw [(a4 wid b1).1]; exact b4
    · rw [(a4 wid b1).2]; exact b5
    · rw [(a4 wid b1).2]; exact b6
    · intro j hj; rw [a1 _ _ b1 b2 b3]; exact b7 j hj
theorem c_send {h : AH} {s : St} (R : RC h s) {kd fr to l wid idx fi : Nat} {ws : W4} (S : Src h wid idx fi ws) (hp : (Pl s).length < 8400) :
    ∃ h', f_X6_send h 16 (nI kd) (nI fr) (nI to) (nI l) wid (nI idx) = some h' ∧ RC h' (sPost s (kd, fr, to, l, fi, ws)) ∧ FrP h h' := by
  have L := R.1.1
  have Rp := R.2.2.2.2.2.2.1
  obtain ⟨a1, a2, a3, a4, a5, a6, a7, a8⟩ := Rp
  have s16 := lc_S16 L
  unfold f_X6_send
  by_cases c : 9 * (Pl s).length + 9 ≤ hN h (hR h 16 0)
  · have e : nI ((Pl s).length * 9 + 9) ≤ nI (hN h (hR h 16 0)) := (q_le (by omega) (by omega)).mpr (by omega)
    rw [y_gs, if_pos s16, y_lt, a1, show (9 : Int32) = nI 9 from rfl, q_mul, y_gs, if_pos a2, q_add, if_pos e]
    rw [c_send40 L R.2.2.2.2.2.2.1 S c]
    exact ⟨_, rfl, RC_P R (wrM_FrP R.2.2.2.2.2.2.1 _ _) (wrM_RCp R.2.2.2.2.2.2.1 _ c), wrM_FrP R.2.2.2.2.2.2.1 _ _⟩
  · have e : ¬ nI ((Pl s).length * 9 + 9) ≤ nI (hN h (hR h 16 0)) := by rw [q_le (by omega) (by omega)]; omega
    rw [y_gs, if_pos s16, y_lt, a1, show (9 : Int32) = nI 9 from rfl, q_mul, y_gs, if_pos a2, q_add, if_neg e, show (2 : Int32) = nI 2 from rfl]
    obtain ⟨hg, eg, Rg, Fg, sg, ng⟩ := c_grow R.2.2.2.2.2.2.1 R.1.2 (by omega)
    rw [eg, y_bds, y_gs, if_pos (sg.trans s16), y_lt]
    have R1 : RC (sR hg 16 0 (hZ h + 1)) s := RC_P (p := Pl s) R Fg Rg
    rw [c_send40 R1.1.1 Rg (Src_P Fg S) (by omega)]
    exact ⟨_, rfl, RC_P R1 (wrM_FrP Rg _ _) (wrM_RCp Rg _ (by omega)), FrP_tr Fg (wrM_FrP Rg _ _)⟩
