/-- ranges of what the caches hold -/
def Cr (s : St) : Prop := (∀ k, k < 512 → N s 1 k < 512 ∧ N s 2 k ≤ 3 ∧ N s 3 k < 2 ^ 30) ∧ (∀ c, c < 16 → N s 12 c ≤ 512 ∧ N s 13 c ≤ 512 ∧ N s 14 c ≤ 1)
theorem Rg_of {s : St} (B : Bz s) (H : Hr s) (C : Cr s) : Rg s := by
  intro F i hF hi
  match F, hF with
  | 0, _ =>
    have h2 := bz_sets B; have h3 := bz_ways B; have h4 := bz_hsets B; have h5 := bz_hways B
    have h0 := B.1; have h1 := B.2.1
    have : i < 6 := hi
    have : i = 0 ∨ i = 1 ∨ i = 2 ∨ i = 3 ∨ i = 4 ∨ i = 5 := by omega
    rcases this with rfl | rfl | rfl | rfl | rfl | rfl <;> omega
  | 1, _ => have := C.1 i hi; omega
  | 2, _ => have := C.1 i hi; omega
  | 3, _ => have := C.1 i hi; omega
  | 4, _ => have := H i hi; omega
  | 5, _ => have := H i hi; omega
  | 6, _ => have := H i hi; omega
  | 7, _ => have := H i hi; omega
  | 8, _ => have := H i hi; omega
  | 9, _ => have := H i hi; omega
  | 10, _ => have := H i hi; omega
  | 11, _ => have := H i hi; omega
  | 12, _ => have := C.2 i hi; omega
  | 13, _ => have := C.2 i hi; omega
  | 14, _ => have := C.2 i hi; omega
theorem sWay_lt {s : St} (B : Bz s) {c l k : Nat} (hc : c < 16) (e : sWay s c l = some k) : k < 512 ∧ 0 < N s 2 k ∧ N s 1 k = l ∧ sSet s c l ≤ k ∧ k < sSet s c l + N s 0 3 := by
  obtain ⟨g1, g2, g3, _⟩ := fst_some e
  have := sSet_le B c l
  simp only [Bool.and_eq_true, decide_eq_true_eq] at g3
  exact ⟨by omega, g3.1, g3.2, g1, g2⟩
theorem sFree_lt {s : St} (B : Bz s) {c l k : Nat} (hc : c < 16) (e : sFree s c l = some k) : k < 512 ∧ N s 2 k = 0 ∧ sSet s c l ≤ k ∧ k < sSet s c l + N s 0 3 := by
  obtain ⟨g1, g2, g3, _⟩ := fst_some e
  have := sSet_le B c l
  simp only [decide_eq_true_eq] at g3
  exact ⟨by omega, g3, g1, g2⟩
theorem r_answer {m : AH} {s : St} (R : RM m s) (B : Bz s) (G : Rg s) {c l : Nat} (hc : c < 16) (hl : l < 512) (hp : (Pl s).length + 17 < 8400) :
    ∃ m', f_X11_answer m 226 (nI c) (nI l) = some m' ∧ RM m' (sAnswer s c l) ∧ Fr m m' := by
  have L := rm_L R
  have g13 := G 13 c (by omega) hc
  have g14 := G 14 c (by omega) hc
  obtain ⟨a, ea, Ra, Fa, Ha⟩ := r_blank R 5 c 16 l
  have La := rm_L Ra
  unfold f_X11_answer
  rw [y_gs, if_pos (lm_S226 L), show (5 : Int32) = nI 5 from rfl, show (16 : Int32) = nI 16 from rfl, ea, y_bds, y_gs, if_pos (lm_S226 La), r_wayOf Ra B G hc hl, y_bds]
  have post : ∀ (b : AH) (t : St) (x : Msg), RM b t → HD b x → (Pl t).length < 8400 → ∃ m', f_X11_answer_L72 b 226 = some m' ∧ RM m' (sPost t x) ∧ Fr b m' := by
    intro b t x Rb Hb hb
    have Lb := rm_L Rb
    obtain ⟨d, ed, Rd, Fd⟩ := r_post Rb Hb hb
    refine ⟨d, ?_, Rd, Fd⟩
    unfold f_X11_answer_L72
    rw [y_gs, if_pos (lm_S226 Lb), ed]; rfl
  have l55 : ∀ (b : AH) (x : Msg), RM b s → HD b x → ∃ m', f_X11_answer_L55 b 226 (nI c) (nI l) = some m' ∧ RM m' (sPost (sGone s c l) x) ∧ Fr b m' := by
    intro b x Rb Hb
    have Lb := rm_L Rb
    unfold f_X11_answer_L55 sGone
    simp (disch := omega) only [↓y_gs, ↓y_gb, ↓y_lt, ↓y_bds, q_lit, q_cl, q_ib, q_add, q_mul, ↓reduceIte, decide_true, Nat.reduceAdd, Nat.reduceMul, lm_S226 Lb, lm_R35 Lb, lm_S253 Lb, lm_N253 Lb, lm_R36 Lb, lm_S254 Lb, lm_N254 Lb, rm_13 Rb, pI_nI, q_11]
    by_cases e : N s 13 c = l + 1
    · simp only [e, not_true_eq_false, ↓reduceIte]
      obtain ⟨d, ed, Rd, Fd⟩ := post _ _ x (ru_14 (v := 1) Rb hc) (fun j hj => Hb j hj) (show (Pl s).length < 8400 by omega)
      exact ⟨d, ed, Rd, Fr_tr (Fr_sI (Fr_rfl b) _ rfl) Fd⟩
    · simp only [e, not_false_eq_true, ↓reduceIte]
      exact post _ _ x Rb Hb (by omega)
  have l50 : ∃ m', f_X11_answer_L50 a 226 (nI c) (nI l) = some m' ∧ RM m' (sPost (sGone s c l) (5, c, 16, l, 1, Wda s 0 l)) ∧ Fr a m' := by
    obtain ⟨b, eb, Rb, Fb, Hb⟩ := r_withWords Ra Ha hl
    obtain ⟨d, ed, Rd, Fd⟩ := l55 b _ Rb Hb
    refine ⟨d, ?_, Rd, Fr_tr Fb Fd⟩
    unfold f_X11_answer_L50
    rw [y_gs, if_pos (lm_S226 La), eb, y_bds, ed]
  have l31 : ∃ m', f_X11_answer_L31 a 226 (nI c) (nI l) = some m' ∧ RM m' (sPost (sGone s c l) (if N s 13 c = l + 1 ∧ N s 14 c = 0 then (5, c, 16, l, 1, Wda s 0 l) else (5, c, 16, l, 0, w0))) ∧ Fr a m' := by
    unfold f_X11_answer_L31
    simp (disch := omega) only [↓y_gs, ↓y_gb, ↓y_lt, ↓y_bds, q_lit, q_cl, q_ib, q_add, q_mul, ↓reduceIte, decide_true, Nat.reduceAdd, Nat.reduceMul, lm_S226 La, lm_R35 La, lm_S253 La, lm_N253 La, lm_R36 La, lm_S254 La, lm_N254 La, rm_13 Ra, rm_14 Ra, pI_nI, q_eq]
    by_cases e : N s 13 c = l + 1
    · simp only [e, not_true_eq_false, ↓reduceIte, true_and]
      by_cases e2 : N s 14 c = 0
      · simp only [e2, not_true_eq_false, ↓reduceIte]; exact l50
      · simp only [e2, not_false_eq_true, ↓reduceIte]; exact l55 a _ Ra Ha
    · simp only [e, not_false_eq_true, ↓reduceIte, false_and]; exact l55 a _ Ra Ha
  unfold sAnswer sHas
  cases e : sWay s c l with
  | none =>
    rw [if_pos (show oI none = (-1 : Int32) from rfl)]
    simp only [Bool.false_or, Bool.and_eq_true, decide_eq_true_eq]
    obtain ⟨d, ed, Rd, Fd⟩ := l31
    exact ⟨d, ed, Rd, Fr_tr Fa Fd⟩
  | some k =>
    obtain ⟨hk, h2, h1, _, _⟩ := sWay_lt B hc e
    have g2 := G 2 k (by omega) hk
    rw [oI_s, if_neg (show ¬ nI k = (-1 : Int32) from q_nN_ne (by omega))]
    simp (disch := omega) only [↓y_gs, ↓y_gb, ↓y_lt, ↓y_bds, q_lit, q_cl, q_ib, q_add, q_mul, ↓reduceIte, decide_true, Nat.reduceAdd, Nat.reduceMul, lm_S226 La, lm_R45 La, lm_S259 La, lm_N259 La, rm_2 Ra, q_lt]
    by_cases e2 : 1 < N s 2 k
    · simp only [e2, ↓reduceIte, decide_true, Bool.true_or]
      obtain ⟨d, ed, Rd, Fd⟩ := l50
      exact ⟨d, ed, Rd, Fr_tr Fa Fd⟩
    · simp only [e2, ↓reduceIte, decide_false, Bool.false_or, Bool.and_eq_true, decide_eq_true_eq]
      obtain ⟨d, ed, Rd, Fd⟩ := l31
      exact ⟨d, ed, Rd, Fr_tr Fa Fd⟩
theorem sWay_congr {s t : St} (h0 : ∀ i, N t 0 i = N s 0 i) (h1 : ∀ i, N t 1 i = N s 1 i) (h2 : ∀ i, N t 2 i = N s 2 i) (c l : Nat) : sWay t c l = sWay s c l := by
  unfold sWay sSet
  rw [h0 3, h0 2]
  exact fst_congr (fun j _ _ => by rw [h1, h2])
theorem sAnswer_N (s : St) (c l F i : Nat) (h : F ≠ 14) : N (sAnswer s c l) F i = N s F i := by
  unfold sAnswer sGone
  show N (if N s 13 c = l + 1 then uN s 14 c 1 else s) F i = _
  split
  · rw [N_uN, if_neg (by omega)]
  · rfl
theorem r_fillC {m : AH} {s : St} (R : RM m s) {c l k kd : Nat} {x : Msg} (C : CM m x) (hk0 : mKi x = kd) (hc : c < 16) (hl : l < 512) (hk : k < 512) (hkd : 6 ≤ kd ∧ kd ≤ 8) (w : W4) (hp : (Pl s).length + 17 < 8400) :
    ∃ m', f_X11_atCore_L72 m 226 (nI c) (nI l) (nI k) = some m' ∧ RM m' (sSend (uN (sUse (uW (uN (uN s 1 k l) 2 k (kd - 5)) 4 k w) k) 12 c 0) 10 c 16 l) ∧ Fr m m' := by
  have L := rm_L R
  have c0 : hI m 276 0 = nI (mKi x) := C 0 (by omega)
  have R1 := RM_gW (F := 4) (i := k) (w := w) (ru_2 (v := kd - 5) (ru_1 (v := l) R hk) hk) (by omega)
  have L1 := rm_L R1
  obtain ⟨a, ea, Ra, Fa⟩ := r_use R1 hk
  have La := rm_L Ra
  have R2 := ru_12 (v := 0) Ra hc
  obtain ⟨b, eb, Rb, Fb⟩ := r_send R2 10 c 16 l (show (Pl s).length < 8400 by omega)
  refine ⟨b, ?_, Rb, Fr_tr (Fr_sI (Fr_sI (Fr_rfl m) _ rfl) _ rfl) (Fr_tr Fa (Fr_tr (Fr_sI (Fr_rfl a) _ rfl) Fb))⟩
  unfold f_X11_atCore_L72
  simp (disch := omega) only [↓y_gs, ↓y_gb, ↓y_lt, ↓y_bds, q_lit, q_cl, q_ib, q_add, q_mul, ↓reduceIte, decide_true, Nat.reduceAdd, Nat.reduceMul, x_hI_sI, x_hR_sI, x_hS_sI, x_hN_sI, lm_S226 L, lm_R44 L, lm_S258 L, lm_N258 L, lm_R80 L, lm_S276 L, lm_N276 L, lm_R45 L, lm_S259 L, lm_N259 L, c0, hk0, q_sub, Nat.reduceEqDiff, false_and]
  rw [show kd - 6 + 1 = kd - 5 by omega, ea]
  simp (disch := omega) only [↓y_gs, ↓y_gb, ↓y_lt, ↓y_bds, q_lit, q_cl, q_ib, q_add, q_mul, ↓reduceIte, decide_true, Nat.reduceAdd, Nat.reduceMul, lm_S226 La, lm_R34 La, lm_S252 La, lm_N252 La, q_nN]
  rw [pI_0] at eb
  rw [eb]; rfl
theorem r_atCore {m : AH} {s : St} (R : RM m s) (B : Bz s) (G : Rg s) {c : Nat} {x : Msg} (C : CM m x) (hc : c < 16) (hl : mLi x < 512) (hK : mKi x = 3 ∨ mKi x = 4 ∨ mKi x = 6 ∨ mKi x = 7 ∨ mKi x = 8 ∨ mKi x = 9) (hf : mKi x = 6 ∨ mKi x = 7 ∨ mKi x = 8 → sWay s c (mLi x) = none → sFree s c (mLi x) ≠ none) (hp : (Pl s).length + 17 < 8400) :
    ∃ m', f_X11_atCore m 226 (nI c) = some m' ∧ RM m' (sCore s c x) ∧ Fr m m' := by
  have L := rm_L R
  have c0 : hI m 276 0 = nI (mKi x) := C 0 (by omega)
  have c3 : hI m 276 3 = nI (mLi x) := C 3 (by omega)
  unfold f_X11_atCore sCore
  rw [y_gs, if_pos (lm_S226 L), lm_R80 L, y_gs, if_pos (lm_S276 L), lm_N276 L, y_gb, if_pos (show ib (3 : Int32) 9 = true from rfl), y_lt, show (3 : Int32).toNatClampNeg = 3 from rfl, c3, r_wayOf R B G hc hl, y_bds, y_gb, if_pos (show ib (0 : Int32) 9 = true from rfl), show (0 : Int32).toNatClampNeg = 0 from rfl, c0]
  have inv : ∀ v, v ≤ 1 → ∃ m', (bd (f_X11_answer m 226 (nI c) (nI (mLi x))) fun q8 => if oI (sWay s c (mLi x)) = (-1 : Int32) then some q8 else gs q8 226 10 <| gs q8 (hR q8 226 45) 21 <| gb (ib (oI (sWay s c (mLi x))) (hN q8 (hR q8 226 45))) <| lt (sI q8 (hR q8 226 45) (oI (sWay s c (mLi x))).toNatClampNeg (nI v)) fun h13 => some h13) = some m' ∧ RM m' (sState (sAnswer s c (mLi x)) c (mLi x) v) ∧ Fr m m' := by
    intro v hv
    obtain ⟨a, ea, Ra, Fa⟩ := r_answer R B G hc hl hp
    have La := rm_L Ra
    rw [ea, y_bds]
    unfold sState
    rw [sWay_congr (fun i => sAnswer_N s c _ 0 i (by omega)) (fun i => sAnswer_N s c _ 1 i (by omega)) (fun i => sAnswer_N s c _ 2 i (by omega))]
    cases e : sWay s c (mLi x) with
    | none =>
      rw [if_pos (show oI none = (-1 : Int32) from rfl)]
      exact ⟨a, rfl, Ra, Fa⟩
    | some k =>
      obtain ⟨hk, _, _, _, _⟩ := sWay_lt B hc e
      rw [oI_s, if_neg (show ¬ nI k = (-1 : Int32) from q_nN_ne (by omega))]
      simp (disch := omega) only [↓y_gs, ↓y_gb, ↓y_lt, ↓y_bds, q_lit, q_cl, q_ib, q_add, q_mul, ↓reduceIte, decide_true, Nat.reduceAdd, Nat.reduceMul, lm_S226 La, lm_R45 La, lm_S259 La, lm_N259 La]
      exact ⟨_, rfl, ru_2 Ra hk, Fr_sI Fa _ rfl⟩
  have lit : ∀ n, n < 16 → (mKi x = n ↔ nI (mKi x) = nI n) := fun n hn => (q_eq (by omega) (by omega)).symm
  have give : mKi x = 6 ∨ mKi x = 7 ∨ mKi x = 8 → ∃ m', (if ¬ oI (sWay s c (mLi x)) = (-1 : Int32) then f_X11_atCore_L72 m 226 (nI c) (nI (mLi x)) (oI (sWay s c (mLi x))) else bd (f_X11_freeWay m 226 (nI c) (nI (mLi x))) fun v23 => f_X11_atCore_L72 m 226 (nI c) (nI (mLi x)) v23) = some m' ∧ RM m' (sFillC s c (mLi x) (mKi x - 5) (mWo x)) ∧ Fr m m' := by
    intro h
    unfold sFillC sAt
    cases e : sWay s c (mLi x) with
    | some k =>
      obtain ⟨hk, _, _, _, _⟩ := sWay_lt B hc e
      rw [oI_s, if_pos (show ¬ nI k = (-1 : Int32) from q_nN_ne (by omega))]
      exact r_fillC R C rfl hc hl hk (by omega) (mWo x) hp
    | none =>
      rw [if_neg (show ¬ ¬ oI none = (-1 : Int32) from fun h => h rfl), r_freeWay R B G hc hl, y_bds]
      cases e2 : sFree s c (mLi x) with
      | none => exact absurd e2 (hf h e)
      | some k =>
        obtain ⟨hk, _, _, _⟩ := sFree_lt B hc e2
        exact r_fillC R C rfl hc hl hk (by omega) (mWo x) hp
  rcases hK with h | h | h | h | h | h
  · rw [if_pos (show nI (mKi x) = (3 : Int32) from by rw [h]; rfl), if_pos h]; exact inv 0 (by omega)
  · rw [if_neg (show ¬ nI (mKi x) = (3 : Int32) from by rw [h]; decide), if_pos (show nI (mKi x) = (4 : Int32) from by rw [h]; rfl), if_neg (by omega), if_pos h]; exact inv 1 (by omega)
  · rw [if_neg (show ¬ nI (mKi x) = (3 : Int32) from by rw [h]; decide), if_neg (show ¬ nI (mKi x) = (4 : Int32) from by rw [h]; decide), if_pos (show nI (mKi x) = (6 : Int32) from by rw [h]; rfl), if_neg (show ¬ mKi x = 3 by omega), if_neg (show ¬ mKi x = 4 by omega), if_neg (show ¬ mKi x = 9 by omega)]; exact give (by omega)
  · rw [if_neg (show ¬ nI (mKi x) = (3 : Int32) from by rw [h]; decide), if_neg (show ¬ nI (mKi x) = (4 : Int32) from by rw [h]; decide), if_neg (show ¬ nI (mKi x) = (6 : Int32) from by rw [h]; decide), if_pos (show nI (mKi x) = (7 : Int32) from by rw [h]; rfl), if_neg (show ¬ mKi x = 3 by omega), if_neg (show ¬ mKi x = 4 by omega), if_neg (show ¬ mKi x = 9 by omega)]; exact give (by omega)
  · rw [if_neg (show ¬ nI (mKi x) = (3 : Int32) from by rw [h]; decide), if_neg (show ¬ nI (mKi x) = (4 : Int32) from by rw [h]; decide), if_neg (show ¬ nI (mKi x) = (6 : Int32) from by rw [h]; decide), if_neg (show ¬ nI (mKi x) = (7 : Int32) from by rw [h]; decide), if_pos (show nI (mKi x) = (8 : Int32) from by rw [h]; rfl), if_neg (show ¬ mKi x = 3 by omega), if_neg (show ¬ mKi x = 4 by omega), if_neg (show ¬ mKi x = 9 by omega)]; exact give (by omega)
  · rw [if_neg (show ¬ nI (mKi x) = (3 : Int32) from by rw [h]; decide), if_neg (show ¬ nI (mKi x) = (4 : Int32) from by rw [h]; decide), if_neg (show ¬ nI (mKi x) = (6 : Int32) from by rw [h]; decide), if_neg (show ¬ nI (mKi x) = (7 : Int32) from by rw [h]; decide), if_neg (show ¬ nI (mKi x) = (8 : Int32) from by rw [h]; decide), if_neg (show ¬ mKi x = 3 by omega), if_neg (show ¬ mKi x = 4 by omega), if_pos h]
    simp (disch := omega) only [f_X11_atCore_L170, ↓y_gs, ↓y_gb, ↓y_lt, ↓y_bds, q_lit, q_cl, q_ib, q_add, q_mul, ↓reduceIte, decide_true, Nat.reduceAdd, Nat.reduceMul, x_hI_sI, x_hR_sI, x_hS_sI, x_hN_sI, lm_S226 L, lm_R35 L, lm_S253 L, lm_N253 L, lm_R36 L, lm_S254 L, lm_N254 L, q_nN, q_00]
    exact ⟨_, rfl, ru_14 (v := 0) (ru_13 (v := 0) R hc) hc, Fr_sI (Fr_sI (Fr_rfl m) _ rfl) _ rfl⟩
