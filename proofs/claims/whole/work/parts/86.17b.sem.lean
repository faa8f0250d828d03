theorem FU_ex {n : Nat} (h : n < 4294967296) : ∃ f, FU = (f + 1) + n := by
  have h : n < FU := h
  exact ⟨FU - n - 1, by omega⟩
/-- ranges of what the home's ways hold -/
def Hr (s : St) : Prop := ∀ k, k < 512 → N s 4 k ≤ 512 ∧ N s 5 k ≤ 1 ∧ N s 6 k ≤ 16 ∧ N s 7 k < 65536 ∧ N s 8 k ≤ 17 ∧ N s 9 k ≤ 1 ∧ N s 10 k ≤ 16 ∧ N s 11 k < 2 ^ 30
theorem bmin_in {f g : Nat → Nat} {n : Nat} : ∀ {b : Option Nat} {i k : Nat}, bmin f g b i n = some k → b = some k ∨ (i ≤ k ∧ k < i + n ∧ g k = 0) := by
  induction n with
  | zero => intro b i k h; exact Or.inl h
  | succ n ih =>
    intro b i k h
    unfold bmin at h
    rcases ih h with h1 | ⟨h1, h2, h3⟩
    · split at h1
      · next c =>
        obtain rfl := Option.some.inj h1
        exact Or.inr ⟨Nat.le_refl _, by omega, c.1⟩
      · exact Or.inl h1
    · exact Or.inr ⟨by omega, by omega, h3⟩
theorem r_oldLoop {m : AH} {s : St} (R : RM m s) (H : Hr s) {l a e : Nat} (he : e ≤ 512) (hw : a + N s 0 5 = e) (n : Nat) : ∀ (b : Option Nat) (i f : Nat), i + n = e → (∀ j, b = some j → j < 512) →
    f_X11_findWay_L54 (f + n) m 226 (nI l) (nI a) (oI b) (nI i) = f_X11_findWay_L54 f m 226 (nI l) (nI a) (oI (bmin (N s 11) (N s 8) b i n)) (nI e) := by
  have L := rm_L R
  induction n with
  | zero => intro b i f hi hb; rw [show i = e by omega]; rfl
  | succ n ih =>
    intro b i f hi hb
    have h8 := (H i (by omega)).2.2.2.2.1
    have h11 := (H i (by omega)).2.2.2.2.2.2.2
    have c : ¬ e ≤ i := by omega
    rw [bmin]
    have step : f_X11_findWay_L54 (f + (n + 1)) m 226 (nI l) (nI a) (oI b) (nI i) = f_X11_findWay_L54 (f + n) m 226 (nI l) (nI a) (oI (if N s 8 i = 0 ∧ (b = none ∨ N s 11 i < N s 11 (b.getD 0)) then some i else b)) (nI (i + 1)) := by
      rw [← Nat.add_assoc]
      cases b with
      | none =>
        simp (disch := omega) only [f_X11_findWay_L54, f_X11_findWay_L102, f_X11_findWay_L99, ↓y_gs, ↓y_gb, ↓y_lt, ↓y_bds, q_lit, q_cl, q_ib, q_add, q_mul, ↓reduceIte, decide_true, Nat.reduceAdd, Nat.reduceMul, lm_S226 L, lm_R21 L, lm_S239 L, lm_N239 L, lm_R53 L, lm_S266 L, lm_N266 L, rm_0 R, rm_8 R, q_le, hw, c, q_nN, pI_nN, oI, Option.elim]
        by_cases c8 : N s 8 i = 0 <;> simp [c8]
      | some j =>
        have hj := hb j rfl
        have h11j := (H j (by omega)).2.2.2.2.2.2.2
        have jn : ¬ nI j = nN := q_nN_ne (by omega)
        simp (disch := omega) only [f_X11_findWay_L54, f_X11_findWay_L102, f_X11_findWay_L99, ↓y_gs, ↓y_gb, ↓y_lt, ↓y_bds, q_lit, q_cl, q_ib, q_add, q_mul, ↓reduceIte, decide_true, Nat.reduceAdd, Nat.reduceMul, lm_S226 L, lm_R21 L, lm_S239 L, lm_N239 L, lm_R53 L, lm_S266 L, lm_N266 L, lm_R56 L, lm_S269 L, lm_N269 L, rm_0 R, rm_8 R, rm_11 R, q_le, hw, c, q_nN, pI_nN, oI, Option.elim, jn]
        by_cases c8 : N s 8 i = 0
        · by_cases c11 : N s 11 j ≤ N s 11 i
          · simp [c8, c11]; rw [if_neg (by omega)]
          · simp [c8, c11]; rw [if_pos (by omega)]
        · simp [c8]
    rw [step]
    refine ih _ (i + 1) f (by omega) ?_
    intro j hj
    split at hj
    · obtain rfl := Option.some.inj hj; omega
    · exact hb j hj
theorem r_findWay {m : AH} {s : St} (R : RM m s) (B : Bz s) (H : Hr s) {l : Nat} (hl : l < 512) (hp : (Pl s).length + 17 < 8400) : ∃ m', f_X11_findWay m 226 (nI l) = some (oI (sFind s l).1, m') ∧ RM m' (sFind s l).2 ∧ Fr m m' := by
  have L := rm_L R
  have h1 := hSet_le B l
  have h2 := bz_hways B
  have h3 := B.1.2
  unfold f_X11_findWay
  simp (disch := omega) only [↓y_gs, ↓y_gb, ↓y_lt, ↓y_bds, q_lit, q_cl, q_ib, q_add, q_mul, ↓reduceIte, decide_true, Nat.reduceAdd, Nat.reduceMul, lm_S226 L, lm_R21 L, lm_S239 L, lm_N239 L, r_homeSet R B, q_nN]
  have key : f_X11_findWay_L11 FU m 226 (nI l) (nI (hSet s l)) nN (nI (hSet s l)) = (sEmpty s l).elim (f_X11_findWay_L54 FU m 226 (nI l) (nI (hSet s l)) nN (nI (hSet s l))) (fun k => bd (f_X11_fill m 226 (nI k) (nI l)) fun q9 => some (nI k, q9)) := by
    refine lp_find2 (fun f i => f_X11_findWay_L11 f m 226 (nI l) (nI (hSet s l)) nN i) (fun k => decide (N s 4 k = 0)) (fun k => bd (f_X11_fill m 226 (nI k) (nI l)) fun q9 => some (nI k, q9)) (f_X11_findWay_L54 FU m 226 (nI l) (nI (hSet s l)) nN (nI (hSet s l))) (hSet s l) (N s 0 5) ?_ ?_ FU (FU_gt (by omega))
    · intro f j hj1 hj2
      have g2 := (H j (by omega)).1
      have c : ¬ hSet s l + N s 0 5 ≤ j := by omega
      simp (disch := omega) only [f_X11_findWay_L11, ↓y_gs, ↓y_gb, ↓y_lt, ↓y_bds, q_lit, q_cl, q_ib, q_add, q_mul, ↓reduceIte, decide_true, Nat.reduceAdd, Nat.reduceMul, lm_S226 L, lm_R21 L, lm_S239 L, lm_N239 L, lm_R48 L, lm_S261 L, lm_N261 L, rm_0 R, rm_4 R, q_le, q_nN, pI_nN, c]
      by_cases c4 : N s 4 j = 0 <;> simp [c4]
    · intro f
      simp (disch := omega) only [f_X11_findWay_L11, ↓y_gs, ↓y_gb, ↓y_lt, ↓y_bds, q_lit, q_cl, q_ib, q_add, q_mul, ↓reduceIte, decide_true, Nat.reduceAdd, Nat.reduceMul, lm_S226 L, lm_R21 L, lm_S239 L, lm_N239 L, lm_R48 L, lm_S261 L, lm_N261 L, rm_0 R, q_le, q_nN, Nat.le_refl]
  rw [key]
  unfold sFind
  cases e : sEmpty s l with
  | some k =>
    obtain ⟨g1, g2, _, _⟩ := fst_some e
    obtain ⟨m', e', R', F'⟩ := r_fill R (show k < 512 by omega) hl
    refine ⟨m', ?_, R', F'⟩
    simp only [Option.elim, e']; rfl
  | none =>
    have em := fst_none.mp e
    obtain ⟨f, hf⟩ := FU_ex (n := N s 0 5) (by omega)
    simp only [Option.elim]
    have lp := r_oldLoop R H (l := l) (a := hSet s l) (e := hSet s l + N s 0 5) h1 rfl (N s 0 5) none (hSet s l) (f + 1) rfl (fun j h => by cases h)
    rw [hf]
    have lp2 : f_X11_findWay_L54 (f + 1 + N s 0 5) m 226 (nI l) (nI (hSet s l)) nN (nI (hSet s l)) = f_X11_findWay_L54 (f + 1) m 226 (nI l) (nI (hSet s l)) (oI (sOld s l)) (nI (hSet s l + N s 0 5)) := lp
    rw [lp2]
    cases e2 : sOld s l with
    | none =>
      refine ⟨m, ?_, R, Fr_rfl m⟩
      simp (disch := omega) only [f_X11_findWay_L54, ↓y_gs, ↓y_gb, ↓y_lt, ↓y_bds, q_lit, q_cl, q_ib, q_add, q_mul, ↓reduceIte, decide_true, Nat.reduceAdd, Nat.reduceMul, lm_S226 L, lm_R21 L, lm_S239 L, lm_N239 L, rm_0 R, q_le, Nat.le_refl, q_nN, oI, Option.elim, not_true_eq_false]
    | some k =>
      rcases bmin_in e2 with h | ⟨g1, g2, g3⟩
      · cases h
      have hk : k < 512 := by omega
      obtain ⟨k4, k5, k6, k7, k8, k9, k10, k11⟩ := H k hk
      obtain ⟨l', hl'⟩ : ∃ l', N s 4 k = l' + 1 := ⟨N s 4 k - 1, by have := of_decide_eq_false (em k g1 g2); omega⟩
      have kn : ¬ nI k = nN := q_nN_ne (by omega)
      simp (disch := omega) only [f_X11_findWay_L54, f_X11_findWay_L147, ↓y_gs, ↓y_gb, ↓y_lt, ↓y_bds, q_lit, q_cl, q_ib, q_add, q_mul, ↓reduceIte, decide_true, Nat.reduceAdd, Nat.reduceMul, x_hI_sI, x_hR_sI, x_hS_sI, x_hN_sI, lm_S226 L, lm_R21 L, lm_S239 L, lm_N239 L, lm_R51 L, lm_S264 L, lm_N264 L, lm_R52 L, lm_S265 L, lm_N265 L, lm_R53 L, lm_S266 L, lm_N266 L, lm_R55 L, lm_S268 L, lm_N268 L, rm_0 R, rm_6 R, rm_7 R, rm_20 R, q_le, q_eq, Nat.le_refl, q_nN, pI_nN, oI, Option.elim, kn, not_false_eq_true]
      by_cases c : N s 6 k = 0 ∧ N s 7 k = 0
      · simp only [c.1, c.2, and_self, ↓reduceIte, not_true_eq_false]
        obtain ⟨a, ea, Ra, Fa⟩ := r_writeBack R hk (by omega) hl' (by omega)
        obtain ⟨b, eb, Rb, Fb⟩ := r_fill Ra hk hl
        have La := rm_L Ra
        rw [ea]
        simp only [↓y_gs, ↓y_gb, ↓y_lt, ↓y_bds, q_lit, q_cl, q_ib, q_add, q_mul, ↓reduceIte, decide_true, Nat.reduceAdd, Nat.reduceMul, lm_S226 La, eb]
        exact ⟨b, rfl, Rb, Fr_tr Fa Fb⟩
      · have R1 : RM (sI (sI (sI m 226 65 (nI (N s 20 0 + 1))) 266 k (nI 16)) 268 k (nI 0)) (uN (uN (uN s 20 0 (N s 20 0 + 1)) 8 k 17) 10 k 0) := ru_10 (v := 0) (ru_8 (v := 17) (ru_20 (v := N s 20 0 + 1) R) hk) hk
        obtain ⟨a, ea, Ra, Fa⟩ := r_recallLoop hk (show l' < 512 by omega) (N s 0 0) _ _ 0 FU R1 hl' k6 k7 h3 (by show 0 + N s 0 0 = N s 0 0; omega) (by show (Pl s).length + N s 0 0 < 8400; omega) (FU_gt (by omega))
        rw [if_neg c]
        refine ⟨a, ?_, ?_, Fr_tr ?_ Fa⟩
        · show _ = some (nN, a); rw [← ea]
          by_cases c6 : N s 6 k = 0
          · have c7 : ¬ N s 7 k = 0 := fun h => c ⟨c6, h⟩
            simp only [c6, c7, not_true_eq_false, not_false_eq_true, ↓reduceIte]
          · simp only [c6, not_false_eq_true, ↓reduceIte]
        · unfold sRecall
          rw [hl']; exact Ra
        · iterate 3 refine Fr_sI ?_ _ rfl
          exact Fr_rfl m
