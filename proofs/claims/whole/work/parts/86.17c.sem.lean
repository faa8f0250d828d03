theorem r_L243 {m : AH} {s : St} {k l c o : Nat} (K : AH → Nat → Int32 → Int32 → Int32 → Int32 → Option (Int32 × AH)) (R : RM m s) (hk : k < 512) (hp : (Pl s).length < 8400) :
    ∃ m', f_X11_take_L243 K m 226 (nI c) (nI l) (nI k) (nI o) = K m' 226 (nI c) (nI l) (nI k) (nI (o + 1)) ∧ RM m' (uN (sSend s 3 16 o l) 10 k (N s 10 k + 1)) ∧ Fr m m' := by
  have L := rm_L R
  obtain ⟨a, ea, Ra, Fa⟩ := r_send R 3 16 o l hp
  have La := rm_L Ra
  have R1 := ru_10 (v := N s 10 k + 1) Ra hk
  unfold f_X11_take_L243 f_X11_take_L264
  simp (disch := omega) only [↓y_gs, ↓y_gb, ↓y_lt, ↓y_bds, q_lit, q_cl, q_ib, q_add, q_mul, ↓reduceIte, decide_true, Nat.reduceAdd, Nat.reduceMul, lm_S226 L, lm_R48 L, lm_S261 L, lm_N261 L, rm_4 R]
  rw [ea]
  simp (disch := omega) only [↓y_gs, ↓y_gb, ↓y_lt, ↓y_bds, q_lit, q_cl, q_ib, q_add, q_mul, ↓reduceIte, decide_true, Nat.reduceAdd, Nat.reduceMul, lm_S226 La, lm_R55 La, lm_S268 La, lm_N268 La, rm_10 Ra]
  exact ⟨_, rfl, R1, Fr_sI Fa _ rfl⟩
theorem r_takeLoop {k l c : Nat} (hk : k < 512) (hl : l < 512) (hc : c < 16) (n : Nat) : ∀ (m : AH) (s : St) (o f : Nat), RM m s → N s 6 k ≤ 16 → N s 7 k < 65536 → N s 0 0 ≤ 16 → o + n = N s 0 0 → (Pl s).length + n < 8400 →
    ∃ m', f_X11_take_L196 (f + n) m 226 (nI c) (nI l) (nI k) (nI o) = f_X11_take_L196 f m' 226 (nI c) (nI l) (nI k) (nI (N s 0 0)) ∧ RM m' (sCall s k l (c + 1) o n) ∧ Fr m m' := by
  induction n with
  | zero =>
    intro m s o f R h6 h7 h0 ho hp
    rw [show o = N s 0 0 by omega]
    exact ⟨m, rfl, R, Fr_rfl m⟩
  | succ n ih =>
    intro m s o f R h6 h7 h0 ho hp
    have L := rm_L R
    have c0 : ¬ N s 0 0 ≤ o := by omega
    obtain ⟨a, ea, Ra, Fa⟩ := r_L243 (c := c) (l := l) (o := o) (f_X11_take_L196 (f + n)) R hk (by omega)
    have j1 := fun h => ih a _ (o + 1) f Ra h6 h7 h0 (by show o + 1 + n = N s 0 0; omega) h
    replace j1 := j1 (by show (Pl s ++ [_]).length + n < 8400; rw [List.length_append]; simp; omega)
    obtain ⟨b, eb, Rb, Fb⟩ := j1
    have j2 := ih m s (o + 1) f R h6 h7 h0 (by omega) (by omega)
    rw [← Nat.add_assoc]
    simp (disch := omega) only [f_X11_take_L196, ↓y_gs, ↓y_gb, ↓y_lt, ↓y_bds, q_lit, q_cl, q_ib, q_add, q_mul, ↓reduceIte, decide_true, Nat.reduceAdd, Nat.reduceMul, lm_S226 L, lm_R21 L, lm_S239 L, lm_N239 L, lm_R51 L, lm_S264 L, lm_N264 L, lm_R52 L, lm_S265 L, lm_N265 L, rm_0 R, rm_6 R, rm_7 R, q_le, c0, pI_nI, q_bit, q_eq]
    by_cases cc : o = c
    · rw [if_pos cc, sCall_0 (Or.inl (by omega))]
      simp only [f_X11_take_L264, y_lt, q_lit, q_add]
      exact j2
    · rw [if_neg cc]
      by_cases c1 : N s 6 k = o + 1
      · rw [if_pos c1, ea, eb, sCall_1 (by omega) (Or.inl c1)]
        exact ⟨b, rfl, Rb, Fr_tr Fa Fb⟩
      · rw [if_neg c1]
        by_cases c2 : (N s 7 k).testBit o = true
        · rw [if_pos (by rw [c2]; simp), ea, eb, sCall_1 (by omega) (Or.inr c2)]
          exact ⟨b, rfl, Rb, Fr_tr Fa Fb⟩
        · have c3 : (N s 7 k).testBit o = false := by simpa using c2
          rw [if_neg (by rw [c3]; simp), sCall_0 (Or.inr ⟨c1, c3⟩)]
          simp only [f_X11_take_L264, y_lt, q_lit, q_add]
          exact j2
theorem sCall_due (k l sp n : Nat) : ∀ (s : St) (o : Nat), N (sCall s k l sp o n) 10 k ≤ N s 10 k + n := by
  induction n with
  | zero => intro s o; exact Nat.le_refl _
  | succ n ih =>
    intro s o
    unfold sCall
    split
    · refine Nat.le_trans (ih _ _) ?_
      rw [N_uN, if_pos ⟨rfl, rfl⟩]; omega
    · exact Nat.le_trans (ih _ _) (by omega)
theorem r_serve {m : AH} {s : St} (R : RM m s) (B : Bz s) {k c l kd : Nat} (hk : k < 512) (h4 : N s 4 k = l + 1) (hl : l < 512) (h6 : N s 6 k ≤ 16) (h7 : N s 7 k < 65536) (hc : c < 16) (hkd : kd < 2) (hp : (Pl s).length + 17 < 8400) :
    ∃ m', f_X11_take_L126 m 226 (nI kd) (nI c) (nI l) (nI k) = some (nI 1, m') ∧ RM m' (sServe s k c l kd) ∧ Fr m m' := by
  have L := rm_L R
  have kn : ¬ nI k = nN := q_nN_ne (by omega)
  have b0 := B.1
  unfold f_X11_take_L126
  have R1 : RM (sI (sI (sI (sI (sI m 226 79 (nI (N s 17 0 + 1))) 269 k (nI (N s 17 0 + 1))) 266 k (nI c)) 267 k (nI kd)) 268 k (nI 0)) (sAbout s k c kd) := ru_10 (ru_9 (ru_8 (v := c + 1) (RM_g (RM_g (ru_11 (ru_17 R) hk) (by omega)) (by omega)) hk) hk) hk
  have F1 : Fr m (sI (sI (sI (sI (sI m 226 79 (nI (N s 17 0 + 1))) 269 k (nI (N s 17 0 + 1))) 266 k (nI c)) 267 k (nI kd)) 268 k (nI 0)) := by
    iterate 5 refine Fr_sI ?_ _ rfl
    exact Fr_rfl m
  simp (disch := omega) only [↓y_gs, ↓y_gb, ↓y_lt, ↓y_bds, q_lit, q_cl, q_ib, q_add, q_mul, ↓reduceIte, decide_true, Nat.reduceAdd, Nat.reduceMul, x_hI_sI, x_hR_sI, x_hS_sI, x_hN_sI, lm_S226 L, lm_R56 L, lm_S269 L, lm_N269 L, lm_R53 L, lm_S266 L, lm_N266 L, lm_R54 L, lm_S267 L, lm_N267 L, lm_R55 L, lm_S268 L, lm_N268 L, rm_17 R, q_nN, kn, not_false_eq_true, q_eq, and_self]
  generalize hm1 : sI (sI (sI (sI (sI m 226 79 (nI (N s 17 0 + 1))) 269 k (nI (N s 17 0 + 1))) 266 k (nI c)) 267 k (nI kd)) 268 k (nI 0) = m1 at *
  unfold sServe
  by_cases e : kd = 0
  · subst e
    simp only [not_true_eq_false, ↓reduceIte]
    obtain ⟨a, ea, Ra, Fa⟩ := r_shares (c := c) (l := l) R1 hk (Nat.lt_of_le_of_lt h6 (by omega)) h7 hc hl (show (Pl s).length < 8400 by omega)
    rw [ea]
    exact ⟨a, rfl, Ra, Fr_tr F1 Fa⟩
  · simp only [e, not_false_eq_true, ↓reduceIte]
    obtain ⟨f, hf⟩ := FU_ex (n := N s 0 0) (by omega)
    obtain ⟨a, ea, Ra, Fa⟩ := r_takeLoop hk hl hc (N s 0 0) m1 _ 0 (f + 1) R1 h6 h7 b0.2 (Nat.zero_add _) (show (Pl s).length + N s 0 0 < 8400 by omega)
    rw [hf, ea]
    have La := rm_L Ra
    have d0 : N (sCall (sAbout s k c kd) k l (c + 1) 0 (N s 0 0)) 0 0 = N s 0 0 := sCall_N _ _ _ _ _ _ _ _ (by omega)
    have d4 : N (sCall (sAbout s k c kd) k l (c + 1) 0 (N s 0 0)) 4 k = l + 1 := (sCall_N _ _ _ _ _ _ _ _ (by omega)).trans h4
    have d8 : N (sCall (sAbout s k c kd) k l (c + 1) 0 (N s 0 0)) 8 k = c + 1 := by
      rw [sCall_N _ _ _ _ _ _ _ _ (by omega)]
      unfold sAbout; simp [N_uN]
    have dp : (Pl (sCall (sAbout s k c kd) k l (c + 1) 0 (N s 0 0))).length ≤ (Pl s).length + N s 0 0 := sCall_P _ _ _ _ _ _
    have dd : N (sCall (sAbout s k c kd) k l (c + 1) 0 (N s 0 0)) 10 k ≤ 16 := by
      refine Nat.le_trans (sCall_due _ _ _ _ _ _) ?_
      have : N (sAbout s k c kd) 10 k = 0 := by unfold sAbout; simp [N_uN]
      omega
    have e0 : N (sAbout s k c kd) 0 0 = N s 0 0 := rfl
    rw [e0]
    generalize hs1 : sCall (sAbout s k c kd) k l (c + 1) 0 (N s 0 0) = s1 at *
    simp (disch := omega) only [f_X11_take_L196, ↓y_gs, ↓y_gb, ↓y_lt, ↓y_bds, q_lit, q_cl, q_ib, q_add, q_mul, ↓reduceIte, decide_true, Nat.reduceAdd, Nat.reduceMul, lm_S226 La, lm_R21 La, lm_S239 La, lm_N239 La, lm_R55 La, lm_S268 La, lm_N268 La, rm_0 Ra, rm_10 Ra, d0, q_le, Nat.le_refl, q_eq]
    by_cases g : N s1 10 k = 0
    · simp only [g, not_true_eq_false, ↓reduceIte]
      obtain ⟨b, eb, Rb, Fb⟩ := r_lend Ra hk d4 hl d8 (by omega)
      rw [eb]
      exact ⟨b, rfl, Rb, Fr_tr F1 (Fr_tr Fa Fb)⟩
    · simp only [g, not_false_eq_true, ↓reduceIte]
      exact ⟨a, rfl, Ra, Fr_tr F1 Fa⟩
theorem oI_s (k : Nat) : oI (some k) = nI k := rfl
theorem oI_n : oI none = nN := rfl
theorem r_putBack {m : AH} {s : St} (R : RM m s) (B : Bz s) (H : Hr s) {i : Nat} (hi : i < (Ql s).length) (hq : (Ql s).length ≤ 40) (hk2 : mKi ((Ql s).getD i x0) = 2) (hc : mFr ((Ql s).getD i x0) < 16) (hl : mLi ((Ql s).getD i x0) < 512) (hp : (Pl s).length + 17 < 8400) :
    ∃ m', f_X11_take_L26 m 226 (nI 2) (nI (mFr ((Ql s).getD i x0))) (nI (mLi ((Ql s).getD i x0))) (nI (7 * i + 3)) (oI (hWay s (mLi ((Ql s).getD i x0)))) = some (nI 1, m') ∧ RM m' (sPut s (mFr ((Ql s).getD i x0)) (mLi ((Ql s).getD i x0)) (mWo ((Ql s).getD i x0))) ∧ Fr m m' := by
  have L := rm_L R
  generalize hx : (Ql s).getD i x0 = x at *
  have hs := hSet_le B (mLi x)
  unfold f_X11_take_L26 sPut
  have key : ∀ (m : AH) (s : St), RM m s → (Pl s).length < 8400 → ∃ m', f_X11_take_L101 m 226 (nI (mFr x)) (nI (mLi x)) = some (nI 1, m') ∧ RM m' (sSend s 9 16 (mFr x) (mLi x)) ∧ Fr m m' := by
    intro m s R hp
    have L := rm_L R
    obtain ⟨a, ea, Ra, Fa⟩ := r_send R 9 16 (mFr x) (mLi x) hp
    refine ⟨a, ?_, Ra, Fa⟩
    unfold f_X11_take_L101
    simp (disch := omega) only [↓y_gs, ↓y_gb, ↓y_lt, ↓y_bds, q_lit, q_cl, q_ib, q_add, q_mul, ↓reduceIte, decide_true, Nat.reduceAdd, Nat.reduceMul, lm_S226 L]
    rw [ea]; rfl
  cases e : hWay s (mLi x) with
  | none =>
    simp (disch := omega) only [↓y_gs, ↓y_gb, ↓y_lt, ↓y_bds, q_lit, q_cl, q_ib, q_add, q_mul, ↓reduceIte, decide_true, Nat.reduceAdd, Nat.reduceMul, q_eq, oI_n, q_nN, not_true_eq_false]
    exact key m s R (by omega)
  | some k =>
    obtain ⟨g1, g2, _, _⟩ := fst_some e
    have hk : k < 512 := by omega
    have kn : ¬ nI k = nN := q_nN_ne (by omega)
    have h6 := (H k hk).2.2.1
    simp (disch := omega) only [↓y_gs, ↓y_gb, ↓y_lt, ↓y_bds, q_lit, q_cl, q_ib, q_add, q_mul, ↓reduceIte, decide_true, Nat.reduceAdd, Nat.reduceMul, lm_S226 L, lm_R51 L, lm_S264 L, lm_N264 L, q_eq, oI_s, q_nN, not_true_eq_false, kn, rm_6 R, pI_nI]
    by_cases c6 : N s 6 k = mFr x + 1
    · simp only [c6, not_true_eq_false, ↓reduceIte]
      obtain ⟨f, hf⟩ : ∃ f, FU = f + 5 := ⟨4294967291, rfl⟩
      rw [hf]
      have q3 := rm_qi R hi (show 3 < 7 by omega)
      have q4 := rm_qi R hi (show 4 < 7 by omega)
      have q5 := rm_qi R hi (show 5 < 7 by omega)
      have q6 := rm_qi R hi (show 6 < 7 by omega)
      rw [hx] at q3 q4 q5 q6
      simp (disch := omega) only [f_X11_take_L51, ↓y_gs, ↓y_gb, ↓y_lt, ↓y_bds, q_lit, q_cl, q_ib, q_add, q_mul, ↓reduceIte, decide_true, Nat.reduceAdd, Nat.reduceMul, x_hI_sI, x_hR_sI, x_hS_sI, x_hN_sI, lm_S226 L, lm_R58 L, lm_S270 L, lm_N270 L, lm_R49 L, lm_S262 L, lm_N262 L, lm_R50 L, lm_S263 L, lm_N263 L, lm_R51 L, lm_S264 L, lm_N264 L, q_le, Nat.reduceLeDiff, Nat.reduceEqDiff, false_and, q_11, q_nN, Nat.add_assoc, q3, q4, q5, q6]
      have R1 := ru_6 (v := 0) (ru_5 (v := 1) (RM_W4 (F := 2) R (mWo x) (by decide) hk) hk) hk
      obtain ⟨a, ea, Ra, Fa⟩ := key _ _ R1 (show (Pl s).length < 8400 by omega)
      refine ⟨a, ?_, Ra, Fr_tr ?_ Fa⟩
      · rw [← ea]; rfl
      · refine Fr_sI (Fr_sI (Fr_W4 (F := 2) (i := k) (Fr_rfl m) (mWo x) (by decide)) _ rfl) _ rfl
    · simp only [c6, not_false_eq_true, ↓reduceIte]
      exact key m s R (by omega)
