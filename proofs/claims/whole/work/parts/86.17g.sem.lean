theorem r_ack (I : St → Prop) (hO : ∀ s, I s → Ok s) {m : AH} {s : St} (R : RM m s) (B : Bz s) (H : Hr s) {x : Msg} (C : CM m x) {k : Nat} (e : hWay s (mLi x) = some k) (hl : mLi x < 512) (hf : mFi x ≤ 1) (hT : HT I (mLi x % N s 0 4)) (hd : 1 ≤ N s 10 k) (h8 : 1 ≤ N s 8 k)
    (h9 : N s 10 k = 1 → N s 8 k ≠ 17 → N s 9 k ≠ 1 → 1 ≤ N s 6 k) (hE : N s 10 k = 1 → N s 8 k = 17 → I (sEnd (sAckD (sAckW s k x) k) k)) (hp : (Pl s).length + 17 < 8400) :
    ∃ m', f_X11_ack m 226 (nI (mLi x)) = some m' ∧ RM m' (sAck s x) ∧ Fr m m' := by
  obtain ⟨hk, h4, _, _⟩ := hWay_lt B e
  have L := rm_L R
  have c4 := C 4 (by omega)
  unfold f_X11_ack sAck
  rw [e]
  have ib4 : ib (4 : Int32) 9 = true := rfl
  rw [y_gs, if_pos (lm_S226 L), r_homeWay' R B H hl, y_bds, lm_R80 L, y_gs, if_pos (lm_S276 L), lm_N276 L, y_gb, if_pos ib4, show (4 : Int32).toNatClampNeg = 4 from rfl, c4, mp_4, e, oI_s]
  change ∃ m', _ = some m' ∧ RM m' (sAckE (sAckD (sAckW s k x) k) k (mLi x)) ∧ Fr m m'
  by_cases c : mFi x = 1
  · rw [if_neg (show ¬ ¬ nI (mFi x) = (1 : Int32) from fun h => h (by rw [c]; rfl)), y_lt]
    have e1 : sAckW s k x = uN (uW s 2 k (mWo x)) 5 k 1 := by unfold sAckW; rw [if_pos c]
    rw [e1] at hE ⊢
    obtain ⟨f, hf⟩ : ∃ f, FU = f + 5 := ⟨4294967291, rfl⟩
    rw [hf]
    have q5 : hI m 276 5 = w4 (mWo x) 0 := C 5 (by omega)
    have q6 : hI m 276 6 = w4 (mWo x) 1 := C 6 (by omega)
    have q7 : hI m 276 7 = w4 (mWo x) 2 := C 7 (by omega)
    have q8 : hI m 276 8 = w4 (mWo x) 3 := C 8 (by omega)
    have R1 : RM (sI (sI (sI (sI (sI m 262 (4 * k + 0) (w4 (mWo x) 0)) 262 (4 * k + 1) (w4 (mWo x) 1)) 262 (4 * k + 2) (w4 (mWo x) 2)) 262 (4 * k + 3) (w4 (mWo x) 3)) 263 k (nI 1)) (uN (uW s 2 k (mWo x)) 5 k 1) := ru_5 (v := 1) (RM_W4 (F := 2) R (mWo x) (by decide) hk) hk
    have B1 : Bz (uN (uW s 2 k (mWo x)) 5 k 1) := B
    have H1 : Hr (uN (uW s 2 k (mWo x)) 5 k 1) := by
      intro j hj
      have := H j hj
      simp only [N_uN, N_uW]
      simp only [Nat.reduceEqDiff, false_and, ↓reduceIte, true_and]
      split <;> omega
    have hn : ∀ F, F ≠ 5 → ∀ i, N (uN (uW s 2 k (mWo x)) 5 k 1) F i = N s F i := by intro F hF i; rw [N_uN, if_neg (by omega), N_uW]
    obtain ⟨a, ea, Ra, Fa⟩ := r_ackE I hO R1 B1 H1 (l := mLi x) (by rw [hn 0 (by omega)]; exact hT) hk (by rw [hn 4 (by omega)]; exact h4) (by rw [hn 10 (by omega)]; exact hd) (by rw [hn 8 (by omega)]; exact h8) (by rw [hn 10 (by omega), hn 8 (by omega), hn 9 (by omega), hn 6 (by omega)]; exact h9) (by rw [hn 10 (by omega), hn 8 (by omega)]; exact hE) hp
    simp (disch := omega) only [f_X11_ack_L18, ↓y_gs, ↓y_gb, ↓y_lt, ↓y_bds, q_lit, q_cl, q_ib, q_add, q_mul, ↓reduceIte, decide_true, Nat.reduceAdd, Nat.reduceMul, x_hI_sI, x_hR_sI, x_hS_sI, x_hN_sI, lm_S226 L, lm_R80 L, lm_S276 L, lm_N276 L, lm_R49 L, lm_S262 L, lm_N262 L, lm_R50 L, lm_S263 L, lm_N263 L, q_le, Nat.reduceLeDiff, Nat.reduceEqDiff, false_and, q_11, q5, q6, q7, q8]
    rw [ea]
    refine ⟨a, rfl, Ra, Fr_tr ?_ Fa⟩
    exact Fr_sI (Fr_W4 (F := 2) (i := k) (Fr_rfl m) (mWo x) (by decide)) _ rfl
  · have e1 : sAckW s k x = s := by unfold sAckW; rw [if_neg c]
    rw [e1] at hE ⊢
    rw [if_pos (show ¬ nI (mFi x) = (1 : Int32) from fun h => c ((q_eq (b := 1) (by omega) (by omega)).mp h))]
    exact r_ackE I hO R B H hT hk h4 hd h8 h9 hE hp
theorem RM_q {m : AH} {s : St} (R : RM m s) (x : Msg) : RM (sI (sI (sI (sI (sI (sI (sI (sI m 270 (7 * (Ql s).length) (nI (mLi x))) 270 (7 * (Ql s).length + 1) (nI (mKi x))) 270 (7 * (Ql s).length + 2) (nI (mFr x))) 270 (7 * (Ql s).length + 3) (w4 (mWo x) 0)) 270 (7 * (Ql s).length + 4) (w4 (mWo x) 1)) 270 (7 * (Ql s).length + 5) (w4 (mWo x) 2)) 270 (7 * (Ql s).length + 6) (w4 (mWo x) 3)) 226 57 (nI ((Ql s).length + 1))) (uQ s (Ql s ++ [x])) := by
  obtain ⟨L, g1, g2, g3, g4, g5, g6⟩ := R
  refine ⟨L, ?_, ?_, ?_, ?_, ?_, ?_⟩
  · intro F i hF hi
    have a1 := (ad_ne F hF).2.2
    simp only [x_hI_sI]
    rw [if_neg, if_neg (fun c => a1 c.1), if_neg (fun c => a1 c.1), if_neg (fun c => a1 c.1), if_neg (fun c => a1 c.1), if_neg (fun c => a1 c.1), if_neg (fun c => a1 c.1), if_neg (fun c => a1 c.1)]
    · exact g1 F i hF hi
    · intro c
      have := (ad_226 F hF).mpr c.1
      have f1 := fl_16 F hF this
      exact (ad_59 F hF c.1 i (by omega)).2 c.2
  · intro F i j hF hi hj
    have a1 := wO_ne F hF
    simp only [x_hI_sI]
    rw [if_neg (fun c => a1.2.2 c.1), if_neg (fun c => a1.2.1 c.1), if_neg (fun c => a1.2.1 c.1), if_neg (fun c => a1.2.1 c.1), if_neg (fun c => a1.2.1 c.1), if_neg (fun c => a1.2.1 c.1), if_neg (fun c => a1.2.1 c.1), if_neg (fun c => a1.2.1 c.1)]
    exact g2 F i j hF hi hj
  · exact g3
  · intro i j hi hj
    exact g4 i j hi hj
  · rw [x_hI_sI, if_pos ⟨rfl, rfl⟩, Q_uQ, List.length_append]; rfl
  · intro i j hi hj
    have hi' : i < (Ql s).length + 1 := by
      have : i < (Ql s ++ [x]).length := hi
      rw [List.length_append] at this; exact this
    rw [Q_uQ]
    by_cases e : i = (Ql s).length
    · subst e
      rw [getD_append_r]
      rcases lt7 hj with rfl | rfl | rfl | rfl | rfl | rfl | rfl <;> simp [x_hI_sI] <;> rfl
    · have hi2 : i < (Ql s).length := by omega
      rw [getD_append_l hi2, ← g6 i j hi2 hj]
      simp only [x_hI_sI]
      rw [if_neg (by omega), if_neg (by omega), if_neg (by omega), if_neg (by omega), if_neg (by omega), if_neg (by omega), if_neg (by omega), if_neg (by omega)]
/-- what the home needs of what comes -/
def HomeOk (I : St → Prop) (s : St) (x : Msg) : Prop :=
  (mKi x = 5 → ∃ k, hWay s (mLi x) = some k ∧ 1 ≤ N s 10 k ∧ 1 ≤ N s 8 k ∧ (N s 10 k = 1 → N s 8 k ≠ 17 → N s 9 k ≠ 1 → 1 ≤ N s 6 k) ∧ (N s 10 k = 1 → N s 8 k = 17 → I (sEnd (sAckD (sAckW s k x) k) k))) ∧
  (mKi x = 10 → ∃ k, hWay s (mLi x) = some k ∧ I (uN s 8 k 0)) ∧
  (mKi x ≠ 5 → mKi x ≠ 10 → I (uQ s (Ql s ++ [x])))
theorem r_atHome (I : St → Prop) (hO : ∀ s, I s → Ok s) (hT : ∀ set, HT I set) {m : AH} {s : St} (R : RM m s) (B : Bz s) (H : Hr s) {x : Msg} (C : CM m x) (hK : mKi x ≤ 10) (hl : mLi x < 512) (hf : mFi x ≤ 1) (hx : HomeOk I s x) (hp : (Pl s).length + 17 < 8400) (hq : (Ql s).length ≤ 39) :
    ∃ m', f_X11_atHome m 226 = some m' ∧ RM m' (sHome s x) ∧ Fr m m' := by
  have L := rm_L R
  have c0 : hI m 276 0 = nI (mKi x) := C 0 (by omega)
  have c1 : hI m 276 1 = nI (mFr x) := C 1 (by omega)
  have c3 : hI m 276 3 = nI (mLi x) := C 3 (by omega)
  unfold f_X11_atHome sHome
  have e0 : ¬ N s 0 4 = 0 := by have := bz_hsets B; omega
  have bz := bz_hsets B
  rw [y_gs, if_pos (lm_S226 L), lm_R80 L, y_gs, if_pos (lm_S276 L), lm_N276 L, y_gb, if_pos (show ib (3 : Int32) 9 = true from rfl), y_lt, y_gb, if_pos (show ib (0 : Int32) 9 = true from rfl), show (3 : Int32).toNatClampNeg = 3 from rfl, c3, show (0 : Int32).toNatClampNeg = 0 from rfl, c0]
  by_cases k5 : mKi x = 5
  · rw [if_neg (show ¬ ¬ nI (mKi x) = (5 : Int32) from fun h => h (by rw [k5]; rfl)), if_pos k5]
    obtain ⟨k, e, a1, a2, a3, a4⟩ := hx.1 k5
    obtain ⟨a, ea, Ra, Fa⟩ := r_ack I hO R B H C e hl hf (hT _) a1 a2 a3 a4 hp
    rw [ea]
    exact ⟨a, rfl, Ra, Fa⟩
  · rw [if_pos (show ¬ nI (mKi x) = (5 : Int32) from fun h => k5 ((q_eq (b := 5) (by omega) (by omega)).mp h)), if_neg k5, y_gb, if_pos (show ib (0 : Int32) 9 = true from rfl)]
    by_cases k10 : mKi x = 10
    · rw [if_neg (show ¬ ¬ nI (mKi x) = (10 : Int32) from fun h => h (by rw [k10]; rfl)), if_pos k10]
      obtain ⟨k, e, a1⟩ := hx.2.1 k10
      obtain ⟨hk, h4, _, _⟩ := hWay_lt B e
      rw [e, r_homeWay' R B H hl, y_bds, e, oI_s]
      have R1 := ru_8 (v := 0) R hk
      obtain ⟨a, ea, Ra, Fa⟩ := r_goOn I hO (hset_lt B (mLi x)) (hT _) a1 R1
      simp (disch := omega) only [↓y_gs, ↓y_gb, ↓y_lt, ↓y_bds, q_lit, q_cl, q_ib, q_add, q_mul, ↓reduceIte, decide_true, Nat.reduceAdd, Nat.reduceMul, x_hI_sI, x_hR_sI, x_hS_sI, x_hN_sI, lm_S226 L, lm_R53 L, lm_S266 L, lm_N266 L, lm_R21 L, lm_S239 L, lm_N239 L, q_nN, rm_0 R, Nat.reduceEqDiff, false_and, q_eq, decide_not, e0, decide_false, Bool.not_false, q_rem]
      rw [pI_0] at ea; rw [ea]
      exact ⟨a, rfl, Ra, Fr_tr (Fr_sI (Fr_rfl m) _ rfl) Fa⟩
    · rw [if_pos (show ¬ nI (mKi x) = (10 : Int32) from fun h => k10 ((q_eq (b := 10) (by omega) (by omega)).mp h)), if_neg k10]
      have a1 := hx.2.2 k5 k10
      obtain ⟨f, hf⟩ : ∃ f, FU = f + 5 := ⟨4294967291, rfl⟩
      have q5 : hI m 276 5 = w4 (mWo x) 0 := C 5 (by omega)
      have q6 : hI m 276 6 = w4 (mWo x) 1 := C 6 (by omega)
      have q7 : hI m 276 7 = w4 (mWo x) 2 := C 7 (by omega)
      have q8 : hI m 276 8 = w4 (mWo x) 3 := C 8 (by omega)
      obtain ⟨a, ea, Ra, Fa⟩ := r_goOn I hO (hset_lt B (mLi x)) (hT _) a1 (RM_q R x)
      simp (disch := omega) only [f_X11_atHome_L115, ↓y_gs, ↓y_gb, ↓y_lt, ↓y_bds, q_lit, q_cl, q_ib, q_add, q_mul, ↓reduceIte, decide_true, Nat.reduceAdd, Nat.reduceMul, x_hI_sI, x_hR_sI, x_hS_sI, x_hN_sI, lm_S226 L, lm_R58 L, lm_S270 L, lm_N270 L, lm_R80 L, lm_S276 L, lm_N276 L, c0, c1, rm_q R, Nat.reduceEqDiff, false_and]
      rw [hf]
      simp (disch := omega) only [f_X11_atHome_L117, ↓y_gs, ↓y_gb, ↓y_lt, ↓y_bds, q_lit, q_cl, q_ib, q_add, q_mul, ↓reduceIte, decide_true, Nat.reduceAdd, Nat.reduceMul, x_hI_sI, x_hR_sI, x_hS_sI, x_hN_sI, lm_S226 L, lm_R80 L, lm_S276 L, lm_N276 L, lm_R58 L, lm_S270 L, lm_N270 L, lm_R21 L, lm_S239 L, lm_N239 L, q_le, Nat.reduceLeDiff, Nat.reduceEqDiff, false_and, rm_q R, q5, q6, q7, q8, rm_0 R, q_eq, decide_not, e0, decide_false, Bool.not_false, q_rem, Nat.add_assoc]
      rw [ea]
      refine ⟨a, rfl, Ra, Fr_tr ?_ Fa⟩
      iterate 8 refine Fr_sI ?_ _ rfl
      exact Fr_rfl m
