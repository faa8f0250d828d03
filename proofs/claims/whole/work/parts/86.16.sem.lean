/-! Sizes and ranges; the reference's readers. -/
def Bz (s : St) : Prop := (1 ≤ N s 0 0 ∧ N s 0 0 ≤ 16) ∧ (1 ≤ N s 0 1 ∧ N s 0 1 ≤ 16) ∧ (∃ a, a ≤ 3 ∧ N s 0 2 = 2 ^ a) ∧ (∃ a, a ≤ 2 ∧ N s 0 3 = 2 ^ a) ∧ (∃ a, a ≤ 6 ∧ N s 0 4 = 2 ^ a) ∧ (1 ≤ N s 0 5 ∧ N s 0 5 ≤ 8) ∧ N s 0 0 * N s 0 2 * N s 0 3 ≤ N s 0 4 * N s 0 5
def Rg (s : St) : Prop := ∀ F i, F < 15 → i < fl F → N s F i < 2 ^ 30
theorem p2_cases3 {a n : Nat} (h : a ≤ 3) (e : n = 2 ^ a) : n = 1 ∨ n = 2 ∨ n = 4 ∨ n = 8 := by
  have : a = 0 ∨ a = 1 ∨ a = 2 ∨ a = 3 := by omega
  rcases this with rfl | rfl | rfl | rfl <;> simp [e]
theorem p2_cases6 {a n : Nat} (h : a ≤ 6) (e : n = 2 ^ a) : n = 1 ∨ n = 2 ∨ n = 4 ∨ n = 8 ∨ n = 16 ∨ n = 32 ∨ n = 64 := by
  have : a = 0 ∨ a = 1 ∨ a = 2 ∨ a = 3 ∨ a = 4 ∨ a = 5 ∨ a = 6 := by omega
  rcases this with rfl | rfl | rfl | rfl | rfl | rfl | rfl <;> simp [e]
theorem bz_sets {s : St} (B : Bz s) : N s 0 2 = 1 ∨ N s 0 2 = 2 ∨ N s 0 2 = 4 ∨ N s 0 2 = 8 := by
  obtain ⟨a, h, e⟩ := B.2.2.1; exact p2_cases3 h e
theorem bz_ways {s : St} (B : Bz s) : N s 0 3 = 1 ∨ N s 0 3 = 2 ∨ N s 0 3 = 4 := by
  obtain ⟨a, h, e⟩ := B.2.2.2.1; have := p2_cases3 (by omega) e
  rcases this with h | h | h | h <;> simp [h] at e ⊢
  have : a = 0 ∨ a = 1 ∨ a = 2 := by omega
  rcases this with rfl | rfl | rfl <;> simp at e
theorem bz_hsets {s : St} (B : Bz s) : N s 0 4 = 1 ∨ N s 0 4 = 2 ∨ N s 0 4 = 4 ∨ N s 0 4 = 8 ∨ N s 0 4 = 16 ∨ N s 0 4 = 32 ∨ N s 0 4 = 64 := by
  obtain ⟨a, h, e⟩ := B.2.2.2.2.1; exact p2_cases6 h e
theorem bz_hways {s : St} (B : Bz s) : 1 ≤ N s 0 5 ∧ N s 0 5 ≤ 8 := B.2.2.2.2.2.1
theorem sSet_le {s : St} (B : Bz s) (c l : Nat) : 32 * c ≤ sSet s c l ∧ sSet s c l + N s 0 3 ≤ 32 * c + 32 := by
  unfold sSet
  have h1 := bz_sets B; have h2 := bz_ways B
  rcases h1 with e | e | e | e <;> rcases h2 with f | f | f <;> rw [e, f] <;> omega
theorem hSet_le {s : St} (B : Bz s) (l : Nat) : hSet s l + N s 0 5 ≤ 512 := by
  unfold hSet
  have h1 := bz_hsets B; have h2 := bz_hways B
  rcases h1 with e | e | e | e | e | e | e <;> rw [e] <;> omega
theorem nP (n : Nat) : n < 2 ^ 30 → n < 2 ^ 31 := by omega
theorem r_setOf {m : AH} {s : St} (R : RM m s) (B : Bz s) {c l : Nat} (hl : l < 2 ^ 31) : f_X11_setOf m 226 (nI c) (nI l) = some (nI (sSet s c l)) := by
  have L := rm_L R
  have h1 := bz_sets B; have h2 := bz_ways B
  unfold f_X11_setOf
  simp only [x_gs, x_gb, lm_S226 L, lm_R21 L, lm_S239 L, lm_N239 L, q_lit, q_cl, q_ib, rm_0 R, Nat.reduceLT, Nat.reducePow, Nat.zero_lt_succ]
  rw [x_gb, q_rem, q_mul, q_mul, q_add]
  · rfl
  · omega
  · omega
  · apply decide_eq_true
    rw [q_eq] <;> omega
theorem FU_gt {n : Nat} (h : n < 4294967296) : n < FU := h
theorem q_nN : -nI 1 = nN := nr rfl
def oI (o : Option Nat) : Int32 := o.elim nN nI
theorem oI_e (o : Option Nat) : some (oI o) = some (o.elim nN nI) := rfl
theorem r_wayOf {m : AH} {s : St} (R : RM m s) (B : Bz s) (G : Rg s) {c l : Nat} (hc : c < 16) (hl : l < 512) : f_X11_wayOf m 226 (nI c) (nI l) = some (oI (sWay s c l)) := by
  have L := rm_L R
  have h1 := sSet_le B c l
  have h2 := bz_ways B
  unfold f_X11_wayOf
  simp (disch := omega) only [↓y_gs, ↓y_gb, ↓y_lt, ↓y_bds, q_lit, q_cl, q_ib, q_add, q_mul, ↓reduceIte, decide_true, Nat.reduceAdd, Nat.reduceMul, lm_S226 L, lm_R21 L, lm_S239 L, lm_N239 L, r_setOf R B]
  refine lp_find (fun f i => f_X11_wayOf_L7 m f 226 (nI c) (nI l) i) _ nI nN (sSet s c l) (N s 0 3) ?_ ?_ FU (FU_gt (by omega))
  · intro f j hj1 hj2
    have g1 := G 1 j (by omega) (by show j < 512; omega)
    have g2 := G 2 j (by omega) (by show j < 512; omega)
    simp (disch := omega) only [f_X11_wayOf_L7, f_X11_wayOf_L45, ↓y_gs, ↓y_gb, ↓y_lt, ↓y_bds, q_lit, q_cl, q_ib, q_add, q_mul, ↓reduceIte, decide_true, Nat.reduceAdd, Nat.reduceMul, lm_S226 L, lm_R21 L, lm_S239 L, lm_N239 L, lm_R45 L, lm_S259 L, lm_N259 L, lm_R44 L, lm_S258 L, lm_N258 L, r_setOf R B, rm_0 R, rm_1 R, rm_2 R, q_le, q_eq]
    grind
  · intro f
    simp (disch := omega) only [f_X11_wayOf_L7, f_X11_wayOf_L45, ↓y_gs, ↓y_gb, ↓y_lt, ↓y_bds, q_lit, q_cl, q_ib, q_add, q_mul, ↓reduceIte, decide_true, Nat.reduceAdd, Nat.reduceMul, lm_S226 L, lm_R21 L, lm_S239 L, lm_N239 L, lm_R45 L, lm_S259 L, lm_N259 L, lm_R44 L, lm_S258 L, lm_N258 L, r_setOf R B, rm_0 R, rm_1 R, rm_2 R, q_le, q_eq, q_nN]
    grind
theorem r_freeWay {m : AH} {s : St} (R : RM m s) (B : Bz s) (G : Rg s) {c l : Nat} (hc : c < 16) (hl : l < 512) : f_X11_freeWay m 226 (nI c) (nI l) = some (oI (sFree s c l)) := by
  have L := rm_L R
  have h1 := sSet_le B c l
  have h2 := bz_ways B
  unfold f_X11_freeWay
  simp (disch := omega) only [↓y_gs, ↓y_gb, ↓y_lt, ↓y_bds, q_lit, q_cl, q_ib, q_add, q_mul, ↓reduceIte, decide_true, Nat.reduceAdd, Nat.reduceMul, lm_S226 L, lm_R21 L, lm_S239 L, lm_N239 L, r_setOf R B]
  refine lp_find (fun f i => f_X11_freeWay_L7 m f 226 (nI c) (nI l) i) _ nI nN (sSet s c l) (N s 0 3) ?_ ?_ FU (FU_gt (by omega))
  · intro f j hj1 hj2
    have g2 := G 2 j (by omega) (by show j < 512; omega)
    simp (disch := omega) only [f_X11_freeWay_L7, ↓y_gs, ↓y_gb, ↓y_lt, ↓y_bds, q_lit, q_cl, q_ib, q_add, q_mul, ↓reduceIte, decide_true, Nat.reduceAdd, Nat.reduceMul, lm_S226 L, lm_R21 L, lm_S239 L, lm_N239 L, lm_R45 L, lm_S259 L, lm_N259 L, r_setOf R B, rm_0 R, rm_2 R, q_le, q_eq]
    grind
  · intro f
    simp (disch := omega) only [f_X11_freeWay_L7, ↓y_gs, ↓y_gb, ↓y_lt, ↓y_bds, q_lit, q_cl, q_ib, q_add, q_mul, ↓reduceIte, decide_true, Nat.reduceAdd, Nat.reduceMul, lm_S226 L, lm_R21 L, lm_S239 L, lm_N239 L, lm_R45 L, lm_S259 L, lm_N259 L, r_setOf R B, rm_0 R, rm_2 R, q_le, q_eq, q_nN]
    grind
theorem r_homeSet {m : AH} {s : St} (R : RM m s) (B : Bz s) {l : Nat} (hl : l < 512) : f_X11_homeSet m 226 (nI l) = some (nI (hSet s l)) := by
  have L := rm_L R
  have h1 := bz_hsets B
  unfold f_X11_homeSet
  simp (disch := omega) only [↓y_gs, ↓y_gb, ↓y_lt, ↓y_bds, q_lit, q_cl, q_ib, q_add, q_mul, ↓reduceIte, decide_true, Nat.reduceAdd, Nat.reduceMul, lm_S226 L, lm_R21 L, lm_S239 L, lm_N239 L, rm_0 R, q_eq, q_rem]
  rw [if_pos]
  · rfl
  · apply decide_eq_true; omega
theorem r_homeWay {m : AH} {s : St} (R : RM m s) (B : Bz s) (G : Rg s) {l : Nat} (hl : l < 512) : f_X11_homeWay m 226 (nI l) = some (oI (hWay s l)) := by
  have L := rm_L R
  have h1 := hSet_le B l
  have h2 := bz_hways B
  unfold f_X11_homeWay
  simp (disch := omega) only [↓y_gs, ↓y_gb, ↓y_lt, ↓y_bds, q_lit, q_cl, q_ib, q_add, q_mul, ↓reduceIte, decide_true, Nat.reduceAdd, Nat.reduceMul, lm_S226 L, lm_R21 L, lm_S239 L, lm_N239 L, r_homeSet R B]
  refine lp_find (fun f i => f_X11_homeWay_L6 m f 226 (nI l) i) _ nI nN (hSet s l) (N s 0 5) ?_ ?_ FU (FU_gt (by omega))
  · intro f j hj1 hj2
    have g2 := G 4 j (by omega) (by show j < 512; omega)
    simp (disch := omega) only [f_X11_homeWay_L6, ↓y_gs, ↓y_gb, ↓y_lt, ↓y_bds, q_lit, q_cl, q_ib, q_add, q_mul, ↓reduceIte, decide_true, Nat.reduceAdd, Nat.reduceMul, lm_S226 L, lm_R21 L, lm_S239 L, lm_N239 L, lm_R48 L, lm_S261 L, lm_N261 L, r_homeSet R B, rm_0 R, rm_4 R, q_le, pI_nI]
    grind
  · intro f
    simp (disch := omega) only [f_X11_homeWay_L6, ↓y_gs, ↓y_gb, ↓y_lt, ↓y_bds, q_lit, q_cl, q_ib, q_add, q_mul, ↓reduceIte, decide_true, Nat.reduceAdd, Nat.reduceMul, lm_S226 L, lm_R21 L, lm_S239 L, lm_N239 L, lm_R48 L, lm_S261 L, lm_N261 L, r_homeSet R B, rm_0 R, rm_4 R, q_le, q_nN, pI_nI]
    grind
/-- the reference's hand holds a message -/
def HD (m : AH) (x : Msg) : Prop := ∀ j, j < 9 → hI m 272 j = mp x j
theorem lt9 {j : Nat} (h : j < 9) : j = 0 ∨ j = 1 ∨ j = 2 ∨ j = 3 ∨ j = 4 ∨ j = 5 ∨ j = 6 ∨ j = 7 ∨ j = 8 := by omega
theorem lt4 {j : Nat} (h : j < 4) : j = 0 ∨ j = 1 ∨ j = 2 ∨ j = 3 := by omega
theorem lt7 {j : Nat} (h : j < 7) : j = 0 ∨ j = 1 ∨ j = 2 ∨ j = 3 ∨ j = 4 ∨ j = 5 ∨ j = 6 := by omega
theorem r_blank {m : AH} {s : St} (R : RM m s) (kd fr to l : Nat) : ∃ m', f_X11_blank m 226 (nI kd) (nI fr) (nI to) (nI l) = some m' ∧ RM m' s ∧ Fr m m' ∧ HD m' (kd, fr, to, l, 0, w0) := by
  have L := rm_L R
  unfold f_X11_blank
  obtain ⟨f, hf⟩ : ∃ f, FU = f + 6 := ⟨4294967290, rfl⟩
  rw [hf]
  simp (disch := omega) only [f_X11_blank_L32, ↓y_gs, ↓y_gb, ↓y_lt, ↓y_bds, q_lit, q_cl, q_ib, q_add, q_mul, ↓reduceIte, decide_true, Nat.reduceAdd, Nat.reduceMul, x_hI_sI, x_hR_sI, x_hS_sI, x_hN_sI, lm_S226 L, lm_R61 L, lm_S272 L, lm_N272 L, q_le, Nat.reduceLeDiff]
  refine ⟨_, rfl, ?_, ?_, ?_⟩
  · iterate 9 refine RM_o ?_ _ rfl
    exact R
  · iterate 9 refine Fr_h ?_ _
    exact Fr_rfl m
  · intro j hj
    rcases lt9 hj with rfl | rfl | rfl | rfl | rfl | rfl | rfl | rfl | rfl <;> rfl
theorem r_withWords {m : AH} {s : St} (R : RM m s) {x : Msg} (H : HD m x) {l : Nat} (hl : l < 512) : ∃ m', f_X11_withWords m 226 (nI l) = some m' ∧ RM m' s ∧ Fr m m' ∧ HD m' (mKi x, mFr x, mTo x, mLi x, 1, Wda s 0 l) := by
  have L := rm_L R
  unfold f_X11_withWords
  obtain ⟨f, hf⟩ : ∃ f, FU = f + 5 := ⟨4294967291, rfl⟩
  rw [hf]
  simp (disch := omega) only [f_X11_withWords_L9, ↓y_gs, ↓y_gb, ↓y_lt, ↓y_bds, q_lit, q_cl, q_ib, q_add, q_mul, ↓reduceIte, decide_true, Nat.reduceAdd, Nat.reduceMul, x_hI_sI, x_hR_sI, x_hS_sI, x_hN_sI, lm_S226 L, lm_R61 L, lm_S272 L, lm_N272 L, lm_R23 L, lm_S241 L, lm_N241 L, q_le, Nat.reduceLeDiff, Nat.reduceEqDiff, false_and, rw_0 R]
  refine ⟨_, rfl, ?_, ?_, ?_⟩
  · iterate 5 refine RM_o ?_ _ rfl
    exact R
  · iterate 5 refine Fr_h ?_ _
    exact Fr_rfl m
  · intro j hj
    have h0 := H 0 (by omega); have h1 := H 1 (by omega); have h2 := H 2 (by omega); have h3 := H 3 (by omega)
    rcases lt9 hj with rfl | rfl | rfl | rfl | rfl | rfl | rfl | rfl | rfl
    · exact h0
    · exact h1
    · exact h2
    · exact h3
    all_goals rfl
theorem getD_append_l {α : Type} {a b : List α} {i : Nat} {d : α} (h : i < a.length) : (a ++ b).getD i d = a.getD i d := by
  simp [List.getD, List.getElem?_append_left h]
theorem getD_append_r {α : Type} {a : List α} {x d : α} : (a ++ [x]).getD a.length d = x := by
  simp [List.getD]
theorem r_post {m : AH} {s : St} (R : RM m s) {x : Msg} (H : HD m x) (hp : (Pl s).length < 8400) : ∃ m', f_X11_post m 226 = some m' ∧ RM m' (sPost s x) ∧ Fr m m' := by
  have L := rm_L R
  unfold f_X11_post
  obtain ⟨f, hf⟩ : ∃ f, FU = f + 10 := ⟨4294967286, rfl⟩
  rw [hf]
  have h0 := H 0 (by omega); have h1 := H 1 (by omega); have h2 := H 2 (by omega); have h3 := H 3 (by omega); have h4 := H 4 (by omega); have h5 := H 5 (by omega); have h6 := H 6 (by omega); have h7 := H 7 (by omega); have h8 := H 8 (by omega)
  simp (disch := omega) only [f_X11_post_L2, ↓y_gs, ↓y_gb, ↓y_lt, ↓y_bds, q_lit, q_cl, q_ib, q_add, q_mul, ↓reduceIte, decide_true, Nat.reduceAdd, Nat.reduceMul, x_hI_sI, x_hR_sI, x_hS_sI, x_hN_sI, lm_S226 L, lm_R61 L, lm_S272 L, lm_N272 L, lm_R60 L, lm_S271 L, lm_N271 L, q_le, Nat.reduceLeDiff, Nat.reduceEqDiff, false_and, rm_p R, h0, h1, h2, h3, h4, h5, h6, h7, h8]
  refine ⟨_, rfl, ?_, ?_⟩
  · obtain ⟨L, g1, g2, g3, g4, g5, g6⟩ := R
    refine ⟨L, ?_, ?_, ?_, ?_, ?_, ?_⟩
    · intro F i hF hi
      have a1 := (ad_ne F hF).2.1
      simp only [x_hI_sI]
      rw [if_neg, if_neg (fun c => a1 c.1), if_neg (fun c => a1 c.1), if_neg (fun c => a1 c.1), if_neg (fun c => a1 c.1), if_neg (fun c => a1 c.1), if_neg (fun c => a1 c.1), if_neg (fun c => a1 c.1), if_neg (fun c => a1 c.1), if_neg (fun c => a1 c.1)]
      · exact g1 F i hF hi
      · intro c
        have := (ad_226 F hF).mpr c.1
        have f1 := fl_16 F hF this
        exact (ad_59 F hF c.1 i (by omega)).1 c.2
    · intro F i j hF hi hj
      have a1 := wO_ne F hF
      simp only [x_hI_sI]
      rw [if_neg (fun c => a1.2.2 c.1), if_neg (fun c => a1.1 c.1), if_neg (fun c => a1.1 c.1), if_neg (fun c => a1.1 c.1), if_neg (fun c => a1.1 c.1), if_neg (fun c => a1.1 c.1), if_neg (fun c => a1.1 c.1), if_neg (fun c => a1.1 c.1), if_neg (fun c => a1.1 c.1), if_neg (fun c => a1.1 c.1)]
      exact g2 F i j hF hi hj
    · show _ = nI (Pl s ++ [x]).length
      rw [x_hI_sI, if_pos ⟨rfl, rfl⟩, List.length_append]; rfl
    · intro i j hi hj
      have hi' : i < (Pl s).length + 1 := by
        have : i < (Pl s ++ [x]).length := hi
        rw [List.length_append] at this; exact this
      show _ = mp ((Pl s ++ [x]).getD i x0) j
      by_cases e : i = (Pl s).length
      · subst e
        rw [getD_append_r]
        rcases lt9 hj with rfl | rfl | rfl | rfl | rfl | rfl | rfl | rfl | rfl <;> simp [x_hI_sI]
      · have hi2 : i < (Pl s).length := by omega
        rw [getD_append_l hi2, ← g4 i j hi2 hj]
        simp only [x_hI_sI]
        rw [if_neg (by omega), if_neg (by omega), if_neg (by omega), if_neg (by omega), if_neg (by omega), if_neg (by omega), if_neg (by omega), if_neg (by omega), if_neg (by omega), if_neg (by omega)]
    · exact g5
    · intro i j hi hj
      exact g6 i j hi hj
  · iterate 10 refine Fr_sI ?_ _ rfl
    exact Fr_rfl m
theorem r_send {m : AH} {s : St} (R : RM m s) (kd fr to l : Nat) (hp : (Pl s).length < 8400) : ∃ m', f_X11_send m 226 (nI kd) (nI fr) (nI to) (nI l) = some m' ∧ RM m' (sSend s kd fr to l) ∧ Fr m m' := by
  obtain ⟨a, ea, Ra, Fa, Ha⟩ := r_blank R kd fr to l
  obtain ⟨b, eb, Rb, Fb⟩ := r_post Ra Ha hp
  refine ⟨b, ?_, Rb, Fr_tr Fa Fb⟩
  have L := rm_L R; have La := rm_L Ra
  unfold f_X11_send
  simp only [y_gs, y_bds, ↓reduceIte, lm_S226 L, lm_S226 La, ea, eb]
theorem r_give {m : AH} {s : St} (R : RM m s) (kd c l : Nat) (hl : l < 512) (hp : (Pl s).length < 8400) : ∃ m', f_X11_give m 226 (nI kd) (nI c) (nI l) = some m' ∧ RM m' (sGive s kd c l) ∧ Fr m m' := by
  obtain ⟨a, ea, Ra, Fa, Ha⟩ := r_blank R kd 16 c l
  obtain ⟨b, eb, Rb, Fb, Hb⟩ := r_withWords Ra Ha hl
  obtain ⟨d, ed, Rd, Fd⟩ := r_post Rb Hb hp
  refine ⟨d, ?_, Rd, Fr_tr Fa (Fr_tr Fb Fd)⟩
  have L := rm_L R; have La := rm_L Ra; have Lb := rm_L Rb
  unfold f_X11_give
  simp only [y_gs, y_bds, ↓reduceIte, q_lit, lm_S226 L, lm_S226 La, lm_S226 Lb, ea, eb, ed]
theorem r_use {m : AH} {s : St} (R : RM m s) {k : Nat} (hk : k < 512) : ∃ m', f_X11_use m 226 (nI k) = some m' ∧ RM m' (sUse s k) ∧ Fr m m' := by
  have L := rm_L R
  unfold f_X11_use
  simp (disch := omega) only [↓y_gs, ↓y_gb, ↓y_lt, ↓y_bds, q_lit, q_cl, q_ib, q_add, q_mul, ↓reduceIte, decide_true, Nat.reduceAdd, Nat.reduceMul, x_hI_sI, x_hR_sI, x_hS_sI, x_hN_sI, lm_S226 L, lm_R46 L, lm_S260 L, lm_N260 L, rm_16 R, and_self]
  refine ⟨_, rfl, ?_, ?_⟩
  · exact RM_g (RM_g (ru_3 (ru_16 R) hk) (by omega)) (by omega)
  · exact Fr_N (Fr_N (Fr_rfl m) (F := 16) (i := 0) _ (by decide) (by decide)) (F := 3) (i := k) _ (by decide) hk
theorem q_and1 {a : Nat} (h : a < 2 ^ 31) : nI a &&& nI 1 = nI (a % 2) := q_and (k := 1) h (by omega)
theorem q_a31 {a : Nat} (h : a < 32) : nI a &&& nI 31 = nI a := by
  have := q_and (a := a) (k := 5) (by omega) (by omega)
  rw [Nat.mod_eq_of_lt (by omega)] at this; exact this
theorem q_shl1 {c : Nat} (h : c < 16) : nI 1 <<< (nI c &&& nI 31) = nI (2 ^ c) := by
  revert h; revert c; decide +kernel
theorem q_or {a b : Nat} (ha : a < 2 ^ 31) (hb : b < 2 ^ 31) : nI a ||| nI b = nI (a ||| b) := by
  unfold nI
  rw [← Int32.toBitVec_inj, Int32.toBitVec_or]
  show BitVec.ofNat 32 a ||| BitVec.ofNat 32 b = BitVec.ofNat 32 (a ||| b)
  apply BitVec.eq_of_toNat_eq
  have : a ||| b < 2 ^ 31 := Nat.or_lt_two_pow ha hb
  rw [BitVec.toNat_or, BitVec.toNat_ofNat, BitVec.toNat_ofNat, BitVec.toNat_ofNat, Nat.mod_eq_of_lt (by omega), Nat.mod_eq_of_lt (by omega), Nat.mod_eq_of_lt (by omega)]
theorem q_bit {a o : Nat} (ha : a < 2 ^ 31) (ho : o < 16) : ((nI a >>> (nI o &&& nI 31)) &&& nI 1 = nI 0) ↔ a.testBit o = false := by
  have h1 : a / 2 ^ o ≤ a := Nat.div_le_self _ _
  rw [q_a31 (by omega), q_shr ha (by omega), q_and1 (by omega), q_eq (by omega) (by omega), Nat.testBit_eq_decide_div_mod_eq]
  have h2 : a / 2 ^ o % 2 < 2 := Nat.mod_lt _ (by omega)
  constructor
  · intro h; rw [h]; rfl
  · intro h
    have := of_decide_eq_false h
    omega
theorem q_00 : (nI 0 &&& nI 1) = nI 0 := rfl
theorem q_11 : (nI 1 &&& nI 1) = nI 1 := rfl
theorem w4s4 (w v : W4) : w4s (w4s (w4s (w4s w 0 (w4 v 0)) 1 (w4 v 1)) 2 (w4 v 2)) 3 (w4 v 3) = v := by
  obtain ⟨a, b, c, d⟩ := v; rfl
theorem uW_uW (s : St) (F i : Nat) (v w : W4) : uW (uW s F i v) F i w = uW s F i w := by
  unfold uW; congr 2
  funext a b; unfold up2; simp only; split <;> rfl
theorem uW_at (s : St) (F i : Nat) (w : W4) : Wda (uW s F i w) F i = w := by rw [W_uW, if_pos ⟨rfl, rfl⟩]
/-- four words written one behind the other -/
theorem RM_W4 {m : AH} {s : St} (R : RM m s) {F i : Nat} (v : W4) (hF : F < 3) (hi : i < 512) : RM (sI (sI (sI (sI m (wO F) (4 * i + 0) (w4 v 0)) (wO F) (4 * i + 1) (w4 v 1)) (wO F) (4 * i + 2) (w4 v 2)) (wO F) (4 * i + 3) (w4 v 3)) (uW s F i v) := by
  have := RM_W (RM_W (RM_W (RM_W R (v := w4 v 0) hF hi (show 0 < 4 by omega)) (v := w4 v 1) hF hi (show 1 < 4 by omega)) (v := w4 v 2) hF hi (show 2 < 4 by omega)) (v := w4 v 3) hF hi (show 3 < 4 by omega)
  rw [uW_at, uW_uW, uW_at, uW_uW, uW_at, uW_uW, w4s4] at this
  exact this
theorem Fr_W4 {m m' : AH} (S : Fr m m') {F i : Nat} (v : W4) (hF : F < 3) : Fr m (sI (sI (sI (sI m' (wO F) (4 * i + 0) (w4 v 0)) (wO F) (4 * i + 1) (w4 v 1)) (wO F) (4 * i + 2) (w4 v 2)) (wO F) (4 * i + 3) (w4 v 3)) :=
  Fr_sI (Fr_sI (Fr_sI (Fr_sI S _ (irr_w F hF _)) _ (irr_w F hF _)) _ (irr_w F hF _)) _ (irr_w F hF _)
theorem r_writeBack {m : AH} {s : St} (R : RM m s) {k l : Nat} (hk : k < 512) (h5 : N s 5 k < 2) (h4 : N s 4 k = l + 1) (hl : l < 512) : ∃ m', f_X11_writeBack m 226 (nI k) = some m' ∧ RM m' (sWb s k) ∧ Fr m m' := by
  have L := rm_L R
  unfold f_X11_writeBack
  obtain ⟨f, hf⟩ : ∃ f, FU = f + 5 := ⟨4294967291, rfl⟩
  rw [hf]
  unfold sWb
  by_cases e : N s 5 k = 0
  · simp (disch := omega) only [f_X11_writeBack_L2, f_X11_writeBack_L47, ↓y_gs, ↓y_gb, ↓y_lt, ↓y_bds, q_lit, q_cl, q_ib, q_add, q_mul, ↓reduceIte, decide_true, Nat.reduceAdd, Nat.reduceMul, x_hI_sI, x_hR_sI, x_hS_sI, x_hN_sI, lm_S226 L, lm_R50 L, lm_S263 L, lm_N263 L, lm_R48 L, lm_S261 L, lm_N261 L, lm_R49 L, lm_S262 L, lm_N262 L, lm_R24 L, lm_S242 L, lm_N242 L, rm_5 R, q_eq, e, q_00]
    refine ⟨_, rfl, ?_, Fr_N (Fr_rfl m) (F := 5) (i := k) _ (by decide) hk⟩
    have := ru_5 (v := 0) R hk
    rw [show uN s 5 k 0 = s from ?_] at this
    · exact this
    · unfold uN; congr 1
      funext a b; unfold up2; split
      · next c => rw [c.1, c.2]; exact e.symm
      · rfl
  · have e1 : N s 5 k = 1 := by omega
    simp (disch := omega) only [f_X11_writeBack_L2, f_X11_writeBack_L47, ↓y_gs, ↓y_gb, ↓y_lt, ↓y_bds, q_lit, q_cl, q_ib, q_add, q_mul, ↓reduceIte, decide_true, Nat.reduceAdd, Nat.reduceMul, x_hI_sI, x_hR_sI, x_hS_sI, x_hN_sI, lm_S226 L, lm_R50 L, lm_S263 L, lm_N263 L, lm_R48 L, lm_S261 L, lm_N261 L, lm_R49 L, lm_S262 L, lm_N262 L, lm_R24 L, lm_S242 L, lm_N242 L, rm_5 R, rm_4 R, q_eq, e1, q_00, q_le, h4, pI_s, rw_2 R, Nat.reduceEqDiff, Nat.reduceLeDiff, false_and, Nat.add_sub_cancel]
    refine ⟨_, rfl, ?_, ?_⟩
    · exact ru_5 (RM_W4 (F := 1) R (Wda s 2 k) (by decide) hl) hk
    · exact Fr_N (Fr_W4 (F := 1) (i := l) (Fr_rfl m) (Wda s 2 k) (by decide)) (F := 5) (i := k) _ (by decide) hk
theorem r_fill {m : AH} {s : St} (R : RM m s) {k l : Nat} (hk : k < 512) (hl : l < 512) : ∃ m', f_X11_fill m 226 (nI k) (nI l) = some m' ∧ RM m' (sFill s k l) ∧ Fr m m' := by
  have L := rm_L R
  unfold f_X11_fill
  obtain ⟨f, hf⟩ : ∃ f, FU = f + 5 := ⟨4294967291, rfl⟩
  rw [hf]
  simp (disch := omega) only [f_X11_fill_L44, ↓y_gs, ↓y_gb, ↓y_lt, ↓y_bds, q_lit, q_cl, q_ib, q_add, q_mul, ↓reduceIte, decide_true, Nat.reduceAdd, Nat.reduceMul, x_hI_sI, x_hR_sI, x_hS_sI, x_hN_sI, lm_S226 L, lm_R48 L, lm_S261 L, lm_N261 L, lm_R50 L, lm_S263 L, lm_N263 L, lm_R51 L, lm_S264 L, lm_N264 L, lm_R52 L, lm_S265 L, lm_N265 L, lm_R53 L, lm_S266 L, lm_N266 L, lm_R55 L, lm_S268 L, lm_N268 L, lm_R49 L, lm_S262 L, lm_N262 L, lm_R24 L, lm_S242 L, lm_N242 L, q_00, q_nN, q_le, rw_1 R, Nat.reduceEqDiff, Nat.reduceLeDiff, false_and]
  refine ⟨_, rfl, ?_, ?_⟩
  · exact RM_W4 (F := 2) (ru_10 (ru_8 (v := 0) (ru_7 (ru_6 (v := 0) (ru_5 (ru_4 (v := l + 1) R hk) hk) hk) hk) hk) hk) (Wda s 1 l) (by decide) hk
  · refine Fr_W4 (F := 2) (i := k) ?_ (Wda s 1 l) (by decide)
    iterate 6 refine Fr_sI ?_ _ rfl
    exact Fr_rfl m
theorem r_lend {m : AH} {s : St} (R : RM m s) {k l c : Nat} (hk : k < 512) (h4 : N s 4 k = l + 1) (hl : l < 512) (h8 : N s 8 k = c + 1) (hp : (Pl s).length < 8400) : ∃ m', f_X11_lend m 226 (nI k) = some m' ∧ RM m' (sLend s k) ∧ Fr m m' := by
  have L := rm_L R
  unfold f_X11_lend sLend
  simp (disch := omega) only [↓y_gs, ↓y_gb, ↓y_lt, ↓y_bds, q_lit, q_cl, q_ib, q_add, q_mul, ↓reduceIte, decide_true, Nat.reduceAdd, Nat.reduceMul, x_hI_sI, x_hR_sI, x_hS_sI, x_hN_sI, lm_S226 L, lm_R51 L, lm_S264 L, lm_N264 L, lm_R52 L, lm_S265 L, lm_N265 L, lm_R53 L, lm_S266 L, lm_N266 L, lm_R48 L, lm_S261 L, lm_N261 L, rm_8 R, rm_4 R, h4, h8, Nat.reduceEqDiff, false_and, Nat.add_sub_cancel]
  have R1 := ru_7 (v := 0) (ru_6 (v := c + 1) R hk) hk
  obtain ⟨m', e, R', F'⟩ := r_give R1 8 c l hl hp
  simp only [pI_s] at *
  rw [e]
  refine ⟨m', rfl, R', Fr_tr ?_ F'⟩
  iterate 2 refine Fr_sI ?_ _ rfl
  exact Fr_rfl m
theorem r_shares {m : AH} {s : St} (R : RM m s) {k c l : Nat} (hk : k < 512) (h6 : N s 6 k < 18) (h7 : N s 7 k < 65536) (hc : c < 16) (hl : l < 512) (hp : (Pl s).length < 8400) : ∃ m', f_X11_shares m 226 (nI k) (nI c) (nI l) = some m' ∧ RM m' (sShares s k c l) ∧ Fr m m' := by
  have L := rm_L R
  unfold f_X11_shares sShares
  by_cases e : N s 6 k = 0
  · by_cases e2 : N s 7 k = 0
    · simp (disch := omega) only [↓y_gs, ↓y_gb, ↓y_lt, ↓y_bds, q_lit, q_cl, q_ib, q_add, q_mul, ↓reduceIte, decide_true, Nat.reduceAdd, Nat.reduceMul, x_hI_sI, x_hR_sI, x_hS_sI, x_hN_sI, lm_S226 L, lm_R51 L, lm_S264 L, lm_N264 L, lm_R52 L, lm_S265 L, lm_N265 L, lm_R55 L, lm_S268 L, lm_N268 L, rm_6 R, rm_7 R, q_nN, pI_nN, e, e2, ne_eq, not_true_eq_false]
      have R1 := ru_6 (v := c + 1) R hk
      obtain ⟨m', e, R', F'⟩ := r_give R1 7 c l hl hp
      simp only [pI_s] at *
      rw [e]
      exact ⟨m', rfl, R', Fr_tr (Fr_sI (Fr_rfl m) _ rfl) F'⟩
    · simp (disch := omega) only [↓y_gs, ↓y_gb, ↓y_lt, ↓y_bds, q_lit, q_cl, q_ib, q_add, q_mul, ↓reduceIte, decide_true, Nat.reduceAdd, Nat.reduceMul, x_hI_sI, x_hR_sI, x_hS_sI, x_hN_sI, lm_S226 L, lm_R51 L, lm_S264 L, lm_N264 L, lm_R52 L, lm_S265 L, lm_N265 L, lm_R55 L, lm_S268 L, lm_N268 L, rm_6 R, rm_7 R, q_nN, pI_nN, e, q_eq, e2, ne_eq, not_true_eq_false, not_false_eq_true, q_shl1]
      have h2 : 2 ^ c < 2 ^ 31 := Nat.pow_lt_pow_right (by omega) (by omega)
      rw [q_or (by omega) h2]
      have R1 := ru_7 (v := N s 7 k ||| 2 ^ c) R hk
      obtain ⟨m', e, R', F'⟩ := r_give R1 6 c l hl hp
      rw [e]
      exact ⟨m', rfl, R', Fr_tr (Fr_sI (Fr_rfl m) _ rfl) F'⟩
  · obtain ⟨o, ho⟩ : ∃ o, N s 6 k = o + 1 := ⟨N s 6 k - 1, by omega⟩
    simp (disch := omega) only [↓y_gs, ↓y_gb, ↓y_lt, ↓y_bds, q_lit, q_cl, q_ib, q_add, q_mul, ↓reduceIte, decide_true, Nat.reduceAdd, Nat.reduceMul, x_hI_sI, x_hR_sI, x_hS_sI, x_hN_sI, lm_S226 L, lm_R51 L, lm_S264 L, lm_N264 L, lm_R52 L, lm_S265 L, lm_N265 L, lm_R55 L, lm_S268 L, lm_N268 L, rm_6 R, rm_7 R, q_nN, pI_nN, e, q_eq, ne_eq, not_true_eq_false, not_false_eq_true]
    rw [ho, pI_s, Nat.add_sub_cancel]
    obtain ⟨m', e, R', F'⟩ := r_send R 4 16 o l hp
    have L' := rm_L R'
    rw [e]
    simp (disch := omega) only [↓y_gs, ↓y_gb, ↓y_lt, ↓y_bds, q_lit, q_cl, q_ib, q_add, q_mul, ↓reduceIte, decide_true, Nat.reduceAdd, Nat.reduceMul, lm_S226 L', lm_R55 L', lm_S268 L', lm_N268 L']
    exact ⟨_, rfl, ru_10 (v := 1) R' hk, Fr_sI F' _ rfl⟩
