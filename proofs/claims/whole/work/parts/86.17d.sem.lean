def bI (b : Bool) : Int32 := if b = true then nI 1 else nI 0
/-- what waits is well-formed -/
def Qw (s : St) : Prop := ∀ i, i < (Ql s).length → mKi ((Ql s).getD i x0) ≤ 2 ∧ mFr ((Ql s).getD i x0) < 16 ∧ mLi ((Ql s).getD i x0) < 512
def Ok (s : St) : Prop := Bz s ∧ Hr s ∧ Qw s ∧ (Ql s).length ≤ 40 ∧ (Pl s).length + 17 < 8400
theorem hWay_lt {s : St} (B : Bz s) {l k : Nat} (e : hWay s l = some k) : k < 512 ∧ N s 4 k = l + 1 ∧ hSet s l ≤ k ∧ k < hSet s l + N s 0 5 := by
  obtain ⟨g1, g2, g3, _⟩ := fst_some e
  have := hSet_le B l
  exact ⟨by omega, of_decide_eq_true g3, g1, g2⟩
theorem Hr_Rg4 {s : St} (H : Hr s) {k : Nat} (hk : k < 512) : N s 4 k < 2 ^ 30 := by have := (H k hk).1; omega
theorem r_homeWay' {m : AH} {s : St} (R : RM m s) (B : Bz s) (H : Hr s) {l : Nat} (hl : l < 512) : f_X11_homeWay m 226 (nI l) = some (oI (hWay s l)) := by
  have L := rm_L R
  have h1 := hSet_le B l
  have h2 := bz_hways B
  unfold f_X11_homeWay
  simp (disch := omega) only [↓y_gs, ↓y_gb, ↓y_lt, ↓y_bds, q_lit, q_cl, q_ib, q_add, q_mul, ↓reduceIte, decide_true, Nat.reduceAdd, Nat.reduceMul, lm_S226 L, lm_R21 L, lm_S239 L, lm_N239 L, r_homeSet R B]
  refine lp_find (fun f i => f_X11_homeWay_L6 m f 226 (nI l) i) _ nI nN (hSet s l) (N s 0 5) ?_ ?_ FU (FU_gt (by omega))
  · intro f j hj1 hj2
    have g2 := (H j (by omega)).1
    simp (disch := omega) only [f_X11_homeWay_L6, ↓y_gs, ↓y_gb, ↓y_lt, ↓y_bds, q_lit, q_cl, q_ib, q_add, q_mul, ↓reduceIte, decide_true, Nat.reduceAdd, Nat.reduceMul, lm_S226 L, lm_R21 L, lm_S239 L, lm_N239 L, lm_R48 L, lm_S261 L, lm_N261 L, r_homeSet R B, rm_0 R, rm_4 R, q_le, pI_nI]
    grind
  · intro f
    simp (disch := omega) only [f_X11_homeWay_L6, ↓y_gs, ↓y_gb, ↓y_lt, ↓y_bds, q_lit, q_cl, q_ib, q_add, q_mul, ↓reduceIte, decide_true, Nat.reduceAdd, Nat.reduceMul, lm_S226 L, lm_R21 L, lm_S239 L, lm_N239 L, lm_R48 L, lm_S261 L, lm_N261 L, r_homeSet R B, rm_0 R, rm_4 R, q_le, q_nN, pI_nI]
    grind
theorem sFind_facts {s : St} (B : Bz s) (H : Hr s) {l k : Nat} {t : St} (hl : l < 512) (e : sFind s l = (some k, t)) : k < 512 ∧ N t 4 k = l + 1 ∧ N t 6 k = 0 ∧ N t 7 k = 0 ∧ N t 0 = N s 0 ∧ Pl t = Pl s := by
  unfold sFind at e
  have fills : ∀ (s' : St), N (sFill s' k l) 4 k = l + 1 ∧ N (sFill s' k l) 6 k = 0 ∧ N (sFill s' k l) 7 k = 0 := by
    intro s'; unfold sFill; simp [N_uN, N_uW]
  split at e
  · next j hj =>
    obtain ⟨rfl, rfl⟩ := Prod.mk.inj e |>.imp Option.some.inj id
    obtain ⟨g1, g2, _, _⟩ := fst_some hj
    have := hSet_le B l
    exact ⟨by omega, (fills s).1, (fills s).2.1, (fills s).2.2, rfl, rfl⟩
  · split at e
    · cases e
    · next j hj =>
      split at e
      · obtain ⟨rfl, rfl⟩ := Prod.mk.inj e |>.imp Option.some.inj id
        rcases bmin_in hj with h | ⟨g1, g2, _⟩
        · cases h
        have := hSet_le B l
        refine ⟨by omega, (fills _).1, (fills _).2.1, (fills _).2.2, ?_, ?_⟩
        · unfold sFill sWb; split <;> rfl
        · unfold sFill sWb; split <;> rfl
      · cases e
theorem r_take {m : AH} {s : St} (R : RM m s) (O : Ok s) {i : Nat} (hi : i < (Ql s).length) :
    ∃ m', f_X11_take m 226 (nI (mKi ((Ql s).getD i x0))) (nI (mFr ((Ql s).getD i x0))) (nI (mLi ((Ql s).getD i x0))) (nI (7 * i + 3)) = some (bI (sTake s ((Ql s).getD i x0)).1, m') ∧ RM m' (sTake s ((Ql s).getD i x0)).2 ∧ Fr m m' := by
  obtain ⟨B, H, Q, q40, hp⟩ := O
  obtain ⟨hkd, hc, hl⟩ := Q i hi
  have L := rm_L R
  unfold f_X11_take
  simp (disch := omega) only [↓y_gs, ↓y_gb, ↓y_lt, ↓y_bds, q_lit, q_cl, q_ib, q_add, q_mul, ↓reduceIte, decide_true, Nat.reduceAdd, Nat.reduceMul, lm_S226 L, r_homeWay' R B H hl, q_nN]
  have pb := fun hk2 => r_putBack R B H hi q40 hk2 hc hl hp
  generalize hx : (Ql s).getD i x0 = x at *
  unfold sTake
  cases e : hWay s (mLi x) with
  | some k =>
    obtain ⟨hk, h4, _, _⟩ := hWay_lt B e
    have kn : ¬ nI k = nN := q_nN_ne (by omega)
    obtain ⟨k4, k5, k6, k7, k8, k9, k10, k11⟩ := H k hk
    simp (disch := omega) only [↓y_gs, ↓y_gb, ↓y_lt, ↓y_bds, q_lit, q_cl, q_ib, q_add, q_mul, ↓reduceIte, decide_true, Nat.reduceAdd, Nat.reduceMul, lm_S226 L, lm_R53 L, lm_S266 L, lm_N266 L, oI_s, kn, rm_8 R, pI_nN]
    by_cases c8 : N s 8 k = 0
    · simp only [c8, ↓reduceIte, ne_eq, not_true_eq_false]
      by_cases c2 : mKi x = 2
      · obtain ⟨a, ea, Ra, Fa⟩ := pb c2
        rw [e, oI_s] at ea
        rw [c2, ea, if_pos rfl]
        exact ⟨a, rfl, Ra, Fa⟩
      · obtain ⟨a, ea, Ra, Fa⟩ := r_serve R B hk h4 hl k6 k7 hc (show mKi x < 2 by omega) hp
        unfold f_X11_take_L26
        simp (disch := omega) only [↓y_gs, ↓y_gb, ↓y_lt, ↓y_bds, q_lit, q_cl, q_ib, q_add, q_mul, ↓reduceIte, decide_true, Nat.reduceAdd, Nat.reduceMul, q_eq, c2, not_false_eq_true, q_nN, kn]
        rw [ea]
        exact ⟨a, rfl, Ra, Fa⟩
    · simp only [c8, ↓reduceIte, ne_eq, not_false_eq_true]
      exact ⟨m, rfl, R, Fr_rfl m⟩
  | none =>
    simp only [oI_n, ↓reduceIte]
    by_cases c2 : mKi x = 2
    · obtain ⟨a, ea, Ra, Fa⟩ := pb c2
      rw [e, oI_n] at ea
      rw [c2, ea, if_pos rfl]
      exact ⟨a, rfl, Ra, Fa⟩
    · unfold f_X11_take_L26
      simp (disch := omega) only [↓y_gs, ↓y_gb, ↓y_lt, ↓y_bds, q_lit, q_cl, q_ib, q_add, q_mul, ↓reduceIte, decide_true, Nat.reduceAdd, Nat.reduceMul, lm_S226 L, q_eq, c2, not_false_eq_true, q_nN, not_true_eq_false]
      obtain ⟨a, ea, Ra, Fa⟩ := r_findWay R B H hl hp
      rw [ea]
      simp only [y_bds, y_lt]
      cases e2 : sFind s (mLi x) with
      | mk o t =>
        rw [e2] at Ra
        cases o with
        | none =>
          unfold f_X11_take_L126
          simp only [oI_n, q_lit, q_nN, not_true_eq_false, ↓reduceIte]
          exact ⟨a, rfl, Ra, Fa⟩
        | some k =>
          obtain ⟨hk, h4, h6, h7, h0, hP⟩ := sFind_facts B H hl e2
          have Bt : Bz t := by unfold Bz; rw [h0]; exact B
          have Ra' : RM a t := Ra
          obtain ⟨b, eb, Rb, Fb⟩ := r_serve Ra' Bt hk h4 hl (by omega) (by omega) hc (show mKi x < 2 by omega) (by rw [hP]; exact hp)
          simp only [oI_s]
          rw [eb]
          exact ⟨b, rfl, Rb, Fr_tr Fa Fb⟩
/-- a row's places from a to b get what stands d further on -/
def shf (h : AH) (o d a b : Nat) : AH := (fun p k => if p = o ∧ a ≤ k ∧ k < b then h.1 o (k + d) else h.1 p k, h.2)
theorem shf_0 (h : AH) (o d a : Nat) : shf h o d a a = h := by
  unfold shf
  have : (fun p k => if p = o ∧ a ≤ k ∧ k < a then h.1 o (k + d) else h.1 p k) = h.1 := by
    funext p k; rw [if_neg (by omega)]
  rw [this]
theorem shf_hI (h : AH) (o d a b p k : Nat) : hI (shf h o d a b) p k = if p = o ∧ a ≤ k ∧ k < b then hI h o (k + d) else hI h p k := rfl
theorem shf_1 (h : AH) (o d a j : Nat) (hj : a ≤ j) : sI (shf h o d a j) o j (hI (shf h o d a j) o (j + d)) = shf h o d a (j + 1) := by
  rw [shf_hI, if_neg (by omega)]
  unfold shf sI
  congr 1
  funext p k
  show (if p = o ∧ k = j then hI h o (j + d) else if p = o ∧ a ≤ k ∧ k < j then h.1 o (k + d) else h.1 p k) = _
  by_cases c : p = o ∧ k = j
  · obtain ⟨rfl, rfl⟩ := c
    rw [if_pos ⟨rfl, rfl⟩, if_pos (by omega)]; rfl
  · rw [if_neg c]
    by_cases c2 : p = o ∧ a ≤ k ∧ k < j
    · rw [if_pos c2, if_pos (by omega)]
    · rw [if_neg c2, if_neg (by omega)]
theorem lm_shf (m : AH) (o d a b : Nat) : LM (shf m o d a b) = LM m := rfl
theorem getD_erase {α : Type} (l : List α) (i j : Nat) (d : α) : (l.eraseIdx i).getD j d = if j < i then l.getD j d else l.getD (j + 1) d := by
  simp only [List.getD, List.getElem?_eraseIdx]
  split <;> rfl
theorem r_shift {m : AH} {s : St} (K : AH → Nat → Int32 → Int32 → Option AH) (a1 a2 : Int32) (R : RM m s) {i : Nat} (hi : i < (Ql s).length) (hq : (Ql s).length ≤ 40) :
    ∃ m', f_X11_goOn_L123 K FU (sI m 226 57 (nI ((Ql s).length - 1))) 226 a1 a2 (nI (7 * i)) = K m' 226 a1 a2 ∧ RM m' (uQ s ((Ql s).eraseIdx i)) ∧ Fr m m' := by
  have L := rm_L R
  have hn : 7 * i + (7 * ((Ql s).length - 1) - 7 * i) = 7 * ((Ql s).length - 1) := by omega
  refine ⟨shf (sI m 226 57 (nI ((Ql s).length - 1))) 270 7 (7 * i) (7 * ((Ql s).length - 1)), ?_, ?_, ?_⟩
  · have := lp_run (fun f h j => f_X11_goOn_L123 K f h 226 a1 a2 j) (fun j => shf (sI m 226 57 (nI ((Ql s).length - 1))) 270 7 (7 * i) j) (K (shf (sI m 226 57 (nI ((Ql s).length - 1))) 270 7 (7 * i) (7 * ((Ql s).length - 1))) 226 a1 a2) (7 * i) (7 * ((Ql s).length - 1) - 7 * i) ?_ ?_ FU (FU_gt (by omega))
    · simp only [shf_0] at this; exact this
    · intro f j hj1 hj2
      have L1 : LM (shf (sI m 226 57 (nI ((Ql s).length - 1))) 270 7 (7 * i) j) := L
      have e1 : hI (shf (sI m 226 57 (nI ((Ql s).length - 1))) 270 7 (7 * i) j) 226 57 = nI ((Ql s).length - 1) := by
        rw [shf_hI, if_neg (by omega), x_hI_sI, if_pos ⟨rfl, rfl⟩]
      have c : ¬ 7 * ((Ql s).length - 1) ≤ j := by omega
      simp (disch := omega) only [f_X11_goOn_L123, ↓y_gs, ↓y_gb, ↓y_lt, ↓y_bds, q_lit, q_cl, q_ib, q_add, q_mul, ↓reduceIte, decide_true, Nat.reduceAdd, Nat.reduceMul, lm_S226 L1, lm_R58 L1, lm_S270 L1, lm_N270 L1, e1, q_le, c]
      rw [shf_1 _ _ _ _ _ hj1]
    · intro f
      rw [hn]
      have L1 : LM (shf (sI m 226 57 (nI ((Ql s).length - 1))) 270 7 (7 * i) (7 * ((Ql s).length - 1))) := L
      have e1 : hI (shf (sI m 226 57 (nI ((Ql s).length - 1))) 270 7 (7 * i) (7 * ((Ql s).length - 1))) 226 57 = nI ((Ql s).length - 1) := by
        rw [shf_hI, if_neg (by omega), x_hI_sI, if_pos ⟨rfl, rfl⟩]
      simp (disch := omega) only [f_X11_goOn_L123, ↓y_gs, ↓y_gb, ↓y_lt, ↓y_bds, q_lit, q_cl, q_ib, q_add, q_mul, ↓reduceIte, decide_true, Nat.reduceAdd, Nat.reduceMul, lm_S226 L1, e1, q_le, Nat.le_refl]
  · obtain ⟨L, g1, g2, g3, g4, g5, g6⟩ := R
    refine ⟨L, ?_, ?_, ?_, ?_, ?_, ?_⟩
    · intro F k hF hk
      rw [shf_hI, if_neg (fun c => (ad_ne F hF).2.2 c.1), x_hI_sI, if_neg, g1 F k hF hk]; rfl
      intro c
      have := (ad_226 F hF).mpr c.1
      have f1 := fl_16 F hF this
      exact (ad_59 F hF c.1 k (by omega)).2 c.2
    · intro F k j hF hk hj
      rw [shf_hI, if_neg (fun c => (wO_ne F hF).2.1 c.1), x_hI_sI, if_neg (fun c => (wO_ne F hF).2.2 c.1), g2 F k j hF hk hj]; rfl
    · rw [shf_hI, if_neg (by omega), x_hI_sI, if_neg (by omega)]; exact g3
    · intro k j hk hj
      rw [shf_hI, if_neg (by omega), x_hI_sI, if_neg (by omega)]; exact g4 k j hk hj
    · rw [shf_hI, if_neg (by omega), x_hI_sI, if_pos ⟨rfl, rfl⟩, Q_uQ, List.length_eraseIdx_of_lt hi]
    · intro k j hk hj
      rw [Q_uQ, List.length_eraseIdx_of_lt hi] at hk
      rw [Q_uQ, getD_erase, shf_hI]
      by_cases c : k < i
      · rw [if_neg (by omega), if_pos c, x_hI_sI, if_neg (by omega)]; exact g6 k j (by omega) hj
      · rw [if_pos (by omega), if_neg c, x_hI_sI, if_neg (by omega), show 7 * k + j + 7 = 7 * (k + 1) + j by omega]; exact g6 (k + 1) j (by omega) hj
  · refine ⟨rfl, fun o k e e2 e3 => ?_⟩
    rw [shf_hI, if_neg, x_hI_sI, if_neg]
    · rintro ⟨rfl, rfl⟩; cases e
    · rintro ⟨rfl, _⟩; cases e
