theorem bI_t : bI true = nI 1 := rfl
theorem bI_f : bI false = nI 0 := rfl
theorem qp_0 (x : Msg) : qp x 0 = nI (mLi x) := rfl
theorem qp_1 (x : Msg) : qp x 1 = nI (mKi x) := rfl
theorem qp_2 (x : Msg) : qp x 2 = nI (mFr x) := rfl
theorem goOn_0 (f n : Nat) (h : AH) (a : Nat) (b : Int32) : f_X11_goOn_L2 (f + (n + 1)) h a b (nI 0) = some h := by
  rw [← Nat.add_assoc, f_X11_goOn_L2, if_pos (show nI 0 = 0 from rfl)]
theorem r_goOnLoop (I : St → Prop) (hO : ∀ s, I s → Ok s) {set : Nat} (hset : set < 64)
    (hT : ∀ s i, I s → qFirst s set = some i → (sTake s ((Ql s).getD i x0)).1 = true → I (uQ (sTake s ((Ql s).getD i x0)).2 ((Ql s).eraseIdx i)))
    (hQ : ∀ s i, I s → Ql (sTake s ((Ql s).getD i x0)).2 = Ql s) (n : Nat) : ∀ (m : AH) (s : St) (f : Nat), I s → RM m s → (Ql s).length < n →
    ∃ m', f_X11_goOn_L2 (f + (n + 1)) m 226 (nI set) (nI 1) = some m' ∧ RM m' (sGo set n s) ∧ Fr m m' := by
  induction n with
  | zero => intro m s f iI R hn; omega
  | succ n ih =>
    intro m s f iI R hn
    have L := rm_L R
    obtain ⟨B, H, Q, q40, hp⟩ := hO s iI
    have hs := bz_hsets B
    rw [← Nat.add_assoc, f_X11_goOn_L2]
    simp (disch := omega) only [↓y_gs, ↓y_gb, ↓y_lt, ↓y_bds, q_lit, q_cl, q_ib, q_add, q_mul, ↓reduceIte, decide_true, Nat.reduceAdd, Nat.reduceMul, q_eq, Nat.reduceEqDiff]
    have key : f_X11_goOn_L8 (f_X11_goOn_L2 (f + (n + 1))) FU m 226 (nI set) (nI 0) = (qFirst s set).elim (f_X11_goOn_L42 (f_X11_goOn_L2 (f + (n + 1))) m 226 (nI set) (nI (0 + (Ql s).length))) (fun i => f_X11_goOn_L42 (f_X11_goOn_L2 (f + (n + 1))) m 226 (nI set) (nI i)) := by
      refine lp_find2 (fun f' i => f_X11_goOn_L8 (f_X11_goOn_L2 (f + (n + 1))) f' m 226 (nI set) i) _ _ _ 0 (Ql s).length ?_ ?_ FU (FU_gt (by omega))
      · intro f' j hj1 hj2
        have hj : j < (Ql s).length := by omega
        have hl := (Q j hj).2.2
        have q0 : hI m 270 (7 * j) = nI (mLi ((Ql s).getD j x0)) := rm_qi R hj (show 0 < 7 by omega)
        have c : ¬ (Ql s).length ≤ j := by omega
        have c0 : ¬ N s 0 4 = 0 := by omega
        have hm : mLi ((Ql s).getD j x0) % N s 0 4 < 512 := Nat.lt_of_le_of_lt (Nat.mod_le _ _) hl
        simp (disch := omega) only [f_X11_goOn_L8, ↓y_gs, ↓y_gb, ↓y_lt, ↓y_bds, q_lit, q_cl, q_ib, q_add, q_mul, ↓reduceIte, decide_true, Nat.reduceAdd, Nat.reduceMul, lm_S226 L, lm_R58 L, lm_S270 L, lm_N270 L, lm_R21 L, lm_S239 L, lm_N239 L, rm_q R, q_le, c, q0, rm_0 R, q_eq, q_rem, decide_not, c0, decide_false, Bool.not_false]
        by_cases c2 : mLi ((Ql s).getD j x0) % N s 0 4 = set
        · simp only [c2, ↓reduceIte, decide_true]
        · simp only [c2, ↓reduceIte, decide_false, Bool.false_eq_true]
      · intro f'
        have c : (Ql s).length ≤ 0 + (Ql s).length := by omega
        simp (disch := omega) only [f_X11_goOn_L8, ↓y_gs, ↓y_gb, ↓y_lt, ↓y_bds, q_lit, q_cl, q_ib, q_add, q_mul, ↓reduceIte, decide_true, Nat.reduceAdd, Nat.reduceMul, lm_S226 L, rm_q R, q_le, c]
    rw [key]
    unfold sGo
    cases e : qFirst s set with
    | none =>
      have c : (Ql s).length ≤ 0 + (Ql s).length := by omega
      simp (disch := omega) only [Option.elim, f_X11_goOn_L42, f_X11_goOn_L98, f_X11_goOn_L99, ↓y_gs, ↓y_gb, ↓y_lt, ↓y_bds, q_lit, q_cl, q_ib, q_add, q_mul, ↓reduceIte, decide_true, Nat.reduceAdd, Nat.reduceMul, lm_S226 L, rm_q R, q_le, c, not_true_eq_false, goOn_0]
      exact ⟨m, rfl, R, Fr_rfl m⟩
    | some i =>
      obtain ⟨_, g2, _, _⟩ := fst_some e
      have hi : i < (Ql s).length := by omega
      have c : ¬ (Ql s).length ≤ i := by omega
      have q0 : hI m 270 (7 * i) = nI (mLi ((Ql s).getD i x0)) := rm_qi R hi (show 0 < 7 by omega)
      have q1 : hI m 270 (7 * i + 1) = nI (mKi ((Ql s).getD i x0)) := rm_qi R hi (show 1 < 7 by omega)
      have q2 : hI m 270 (7 * i + 2) = nI (mFr ((Ql s).getD i x0)) := rm_qi R hi (show 2 < 7 by omega)
      obtain ⟨a, ea, Ra, Fa⟩ := r_take R (hO s iI) hi
      have La := rm_L Ra
      have hq := hQ s i iI
      have tk := hT s i iI e
      simp (disch := omega) only [Option.elim, f_X11_goOn_L42, ↓y_gs, ↓y_gb, ↓y_lt, ↓y_bds, q_lit, q_cl, q_ib, q_add, q_mul, ↓reduceIte, decide_true, Nat.reduceAdd, Nat.reduceMul, lm_S226 L, lm_R58 L, lm_S270 L, lm_N270 L, rm_q R, q_le, c, q0, q1, q2]
      rw [ea]
      simp only [y_bds]
      cases e1 : (sTake s ((Ql s).getD i x0)).1 with
      | false =>
        simp (disch := omega) only [bI_f, f_X11_goOn_L98, f_X11_goOn_L99, ↓y_gs, ↓y_gb, ↓y_lt, ↓y_bds, q_lit, q_cl, q_ib, q_add, q_mul, ↓reduceIte, decide_true, Nat.reduceAdd, Nat.reduceMul, not_true_eq_false, goOn_0, Bool.false_eq_true]
        exact ⟨a, rfl, Ra, Fa⟩
      | true =>
        have tk := tk e1
        obtain ⟨b, eb, Rb, Fb⟩ := r_shift (f_X11_goOn_L2 (f + (n + 1))) (nI set) (nI 1) Ra (i := i) (by rw [hq]; exact hi) (by rw [hq]; exact q40)
        rw [hq] at eb Rb
        obtain ⟨d, ed, Rd, Fd⟩ := ih b _ f tk Rb (by rw [Q_uQ, List.length_eraseIdx_of_lt hi]; omega)
        have n10 : ¬ nI 1 = nI 0 := by rw [q_eq (by omega) (by omega)]; omega
        have ql : hI a 226 57 = nI (Ql s).length := by rw [← hq]; exact rm_q Ra
        simp (disch := omega) only [bI_t, f_X11_goOn_L99, ↓y_gs, ↓y_gb, ↓y_lt, ↓y_bds, q_lit, q_cl, q_ib, q_add, q_mul, ↓reduceIte, decide_true, Nat.reduceAdd, Nat.reduceMul, lm_S226 La, n10, not_false_eq_true, ql, q_sub]
        rw [eb, ed]
        exact ⟨d, rfl, Rd, Fr_tr Fa (Fr_tr Fb Fd)⟩
theorem sServe_Q (s : St) (k c l kd : Nat) : Ql (sServe s k c l kd) = Ql s := by
  unfold sServe
  split
  · unfold sShares; split
    · rfl
    · split <;> rfl
  · split
    · show Ql (sCall _ _ _ _ _ _) = _; rw [sCall_Q]; rfl
    · rw [sCall_Q]; rfl
theorem sFind_Q (s : St) (l : Nat) : Ql (sFind s l).2 = Ql s := by
  unfold sFind
  split
  · rfl
  · split
    · rfl
    · split
      · show Ql (sWb _ _) = _; unfold sWb; split <;> rfl
      · show Ql (sCall _ _ _ _ _ _) = _; rw [sCall_Q]; rfl
theorem sTake_Q (s : St) (x : Msg) : Ql (sTake s x).2 = Ql s := by
  have hp : Ql (sPut s (mFr x) (mLi x) (mWo x)) = Ql s := by
    unfold sPut; split
    · rfl
    · split <;> rfl
  unfold sTake
  split
  · split
    · rfl
    · split
      · exact hp
      · exact sServe_Q _ _ _ _ _
  · split
    · exact hp
    · have h := sFind_Q s (mLi x)
      split
      · next e => rw [e] at h; exact (sServe_Q _ _ _ _ _).trans h
      · next e => rw [e] at h; exact h
theorem r_goOn (I : St → Prop) (hO : ∀ s, I s → Ok s) {set : Nat} (hset : set < 64)
    (hT : ∀ s i, I s → qFirst s set = some i → (sTake s ((Ql s).getD i x0)).1 = true → I (uQ (sTake s ((Ql s).getD i x0)).2 ((Ql s).eraseIdx i)))
    {m : AH} {s : St} (iI : I s) (R : RM m s) : ∃ m', f_X11_goOn m 226 (nI set) = some m' ∧ RM m' (sGoOn s set) ∧ Fr m m' := by
  have q40 := (hO s iI).2.2.2.1
  obtain ⟨f, hf⟩ := FU_ex (n := (Ql s).length + 1) (by omega)
  obtain ⟨a, ea, Ra, Fa⟩ := r_goOnLoop I hO hset hT (fun s i _ => sTake_Q s _) ((Ql s).length + 1) m s f iI R (by omega)
  refine ⟨a, ?_, Ra, Fa⟩
  unfold f_X11_goOn
  simp only [y_lt, q_lit]
  rw [hf, show f + 1 + ((Ql s).length + 1) = f + ((Ql s).length + 1 + 1) by omega, ea]
