/-- what came, in the reference's row -/
def CM (m : AH) (x : Msg) : Prop := ∀ j, j < 9 → hI m 276 j = mp x j
theorem mp_0 (x : Msg) : mp x 0 = nI (mKi x) := rfl
theorem mp_1 (x : Msg) : mp x 1 = nI (mFr x) := rfl
theorem mp_2 (x : Msg) : mp x 2 = nI (mTo x) := rfl
theorem mp_3 (x : Msg) : mp x 3 = nI (mLi x) := rfl
theorem mp_4 (x : Msg) : mp x 4 = nI (mFi x) := rfl
theorem hset_lt {s : St} (B : Bz s) (l : Nat) : l % N s 0 4 < 64 := by
  have := bz_hsets B
  rcases this with e | e | e | e | e | e | e <;> rw [e] <;> omega
theorem pI_c16 {a : Nat} (h : a ≤ 17) : pI a = nI 16 ↔ a = 17 := pI_nI (by omega) (by omega)
def sEnd (s : St) (k : Nat) : St := uN (uN (uN (uN (sWb s k) 4 k 0) 8 k 0) 6 k 0) 7 k 0
def HT (I : St → Prop) (set : Nat) : Prop := ∀ s i, I s → qFirst s set = some i → (sTake s ((Ql s).getD i x0)).1 = true → I (uQ (sTake s ((Ql s).getD i x0)).2 ((Ql s).eraseIdx i))
theorem r_ackE (I : St → Prop) (hO : ∀ s, I s → Ok s) {m : AH} {s : St} (R : RM m s) (B : Bz s) (H : Hr s) {k l : Nat} (hT : HT I (l % N s 0 4)) (hk : k < 512) (h4 : N s 4 k = l + 1) (hd : 1 ≤ N s 10 k) (h8 : 1 ≤ N s 8 k)
    (h9 : N s 10 k = 1 → N s 8 k ≠ 17 → N s 9 k ≠ 1 → 1 ≤ N s 6 k) (hI : N s 10 k = 1 → N s 8 k = 17 → I (sEnd (sAckD s k) k)) (hp : (Pl s).length + 17 < 8400) :
    ∃ m', f_X11_ack_L54 m 226 (nI l) (nI k) = some m' ∧ RM m' (sAckE (sAckD s k) k l) ∧ Fr m m' := by
  obtain ⟨k4, k5, k6, k7, k8, k9, k10, k11⟩ := H k hk
  have L := rm_L R
  have R1 := ru_10 (v := N s 10 k - 1) R hk
  have F1 : Fr m (sI m 268 k (nI (N s 10 k - 1))) := Fr_sI (Fr_rfl m) _ rfl
  have L1 : LM (sI m 268 k (nI (N s 10 k - 1))) := L
  have n10 : N (sAckD s k) 10 k = N s 10 k - 1 := by unfold sAckD; rw [N_uN, if_pos ⟨rfl, rfl⟩]
  have nn : ∀ F, F ≠ 10 → ∀ i, N (sAckD s k) F i = N s F i := by intro F hF i; unfold sAckD; rw [N_uN, if_neg (by omega)]
  unfold f_X11_ack_L54
  have ibk : ib (nI k) 512 = true := q_ib hk (by omega)
  rw [y_gs, if_pos (lm_S226 L), lm_R55 L, y_gs, if_pos (lm_S268 L), lm_N268 L, y_gb, if_pos ibk, y_gb, if_pos ibk, y_lt, q_cl (show k < 2 ^ 31 by omega), rm_10 R hk, show (1 : Int32) = nI 1 from rfl, q_sub hd]
  have R1' : RM (sI m 268 k (nI (N s 10 k - 1))) (sAckD s k) := R1
  have P1 : Pl (sAckD s k) = Pl s := rfl
  generalize hm1 : sI m 268 k (nI (N s 10 k - 1)) = m1 at *
  generalize hs1 : sAckD s k = s1 at *
  rw [lm_R55 L1, y_gs, if_pos (lm_S268 L1), lm_N268 L1, y_gb, if_pos ibk, rm_10 R1' hk, n10]
  unfold sAckE
  rw [n10, nn 8 (by omega), nn 9 (by omega), nn 0 (by omega)]
  by_cases c : N s 10 k = 1
  · have c1 : N s 10 k - 1 ≤ 0 := by omega
    have c2 : ¬ 0 < N s 10 k - 1 := by omega
    rw [if_pos (show nI (N s 10 k - 1) ≤ 0 from (q_le (b := 0) (by omega) (by omega)).mpr c1), if_neg c2]
    rw [lm_R53 L1, y_gs, if_pos (lm_S266 L1), lm_N266 L1, y_gb, if_pos ibk, rm_8 R1' hk, nn 8 (by omega)]
    by_cases c8 : N s 8 k = 17
    · rw [if_neg (show ¬ ¬ pI (N s 8 k) = (16 : Int32) from fun h => h ((pI_c16 k8).mpr c8)), if_pos c8]
      obtain ⟨a, ea, Ra, Fa⟩ := r_writeBack R1' hk (by rw [nn 5 (by omega)]; omega) ((nn 4 (by omega) k).trans h4) (by omega)
      have La := rm_L Ra
      rw [ea]
      have wb0 : ∀ i, N (sWb s1 k) 0 i = N s 0 i := by intro i; unfold sWb; split <;> exact nn 0 (by omega) i
      have R2 := ru_7 (v := 0) (ru_6 (v := 0) (ru_8 (v := 0) (ru_4 (v := 0) Ra hk) hk) hk) hk
      have e0 : ¬ N s 0 4 = 0 := by have := bz_hsets B; omega
      obtain ⟨b, eb, Rb, Fb⟩ := r_goOn I hO (hset_lt B l) hT (hI c c8) R2
      have bz := bz_hsets B
      simp (disch := omega) only [↓y_gs, ↓y_gb, ↓y_lt, ↓y_bds, q_lit, q_cl, q_ib, q_add, q_mul, ↓reduceIte, decide_true, Nat.reduceAdd, Nat.reduceMul, x_hI_sI, x_hR_sI, x_hS_sI, x_hN_sI, lm_S226 La, lm_R48 La, lm_S261 La, lm_N261 La, lm_R53 La, lm_S266 La, lm_N266 La, lm_R51 La, lm_S264 La, lm_N264 La, lm_R52 La, lm_S265 La, lm_N265 La, lm_R21 La, lm_S239 La, lm_N239 La, q_nN, rm_0 Ra, Nat.reduceEqDiff, false_and, wb0, q_eq, decide_not, e0, decide_false, Bool.not_false, q_rem]
      refine ⟨b, ?_, Rb, Fr_tr F1 (Fr_tr Fa (Fr_tr ?_ Fb))⟩
      · rw [pI_0] at eb; rw [eb]; rfl
      · iterate 4 refine Fr_sI ?_ _ rfl
        exact Fr_rfl a
    · rw [if_pos (show ¬ pI (N s 8 k) = (16 : Int32) from fun h => c8 ((pI_c16 k8).mp h)), if_neg c8]
      rw [lm_R54 L1, y_gs, if_pos (lm_S267 L1), lm_N267 L1, y_gb, if_pos ibk, rm_9 R1' hk, nn 9 (by omega)]
      by_cases c9 : N s 9 k = 1
      · rw [if_neg (show ¬ ¬ nI (N s 9 k) = nI 1 from fun h => h (by rw [c9])), if_pos c9]
        obtain ⟨a, ha⟩ : ∃ a, N s 8 k = a + 1 := ⟨N s 8 k - 1, by omega⟩
        obtain ⟨b, eb, Rb, Fb⟩ := r_lend R1' hk ((nn 4 (by omega) k).trans h4) (by omega) ((nn 8 (by omega) k).trans ha) (by rw [P1]; omega)
        rw [eb]
        exact ⟨b, rfl, Rb, Fr_tr F1 Fb⟩
      · rw [if_pos (show ¬ nI (N s 9 k) = nI 1 from fun h => c9 ((q_eq (b := 1) (by omega) (by omega)).mp h)), if_neg c9]
        obtain ⟨a, ha⟩ : ∃ a, N s 8 k = a + 1 := ⟨N s 8 k - 1, by omega⟩
        obtain ⟨o, ho⟩ : ∃ o, N s 6 k = o + 1 := ⟨N s 6 k - 1, by have := h9 c c8 c9; omega⟩
        have p1 : 2 ^ o < 2 ^ 31 := Nat.pow_lt_pow_right (by omega) (by omega)
        have p2 : 2 ^ a < 2 ^ 31 := Nat.pow_lt_pow_right (by omega) (by omega)
        simp (disch := omega) only [q_lit, q_cl, rm_6 R1', ha, ho, pI_s, x_hI_sI, x_hR_sI, x_hS_sI, x_hN_sI, lm_S226 L1, lm_R51 L1, lm_S264 L1, lm_N264 L1, lm_R52 L1, lm_S265 L1, lm_N265 L1, lm_R53 L1, lm_S266 L1, lm_N266 L1, ↓y_lt, ↓y_gs, ↓y_gb, q_ib, ↓reduceIte, q_nN, Nat.reduceEqDiff, false_and, q_shl1, q_or, Nat.add_sub_cancel, rm_8 R1', nn 8 (by omega), nn 6 (by omega)]
        have R2 := ru_6 (v := 0) (ru_7 (v := 2 ^ o ||| 2 ^ a) R1' hk) hk
        obtain ⟨b, eb, Rb, Fb⟩ := r_give R2 6 a l (by omega) (show (Pl s1).length < 8400 by rw [P1]; omega)
        rw [pI_0] at eb
        rw [eb]
        refine ⟨b, rfl, Rb, Fr_tr F1 (Fr_tr ?_ Fb)⟩
        iterate 2 refine Fr_sI ?_ _ rfl
        exact Fr_rfl m1
  · have c1 : ¬ N s 10 k - 1 ≤ 0 := by omega
    have c2 : 0 < N s 10 k - 1 := by omega
    rw [if_neg (show ¬ nI (N s 10 k - 1) ≤ 0 from fun h => c1 ((q_le (b := 0) (by omega) (by omega)).mp h)), if_pos c2]
    exact ⟨m1, rfl, R1', F1⟩
