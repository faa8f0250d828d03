theorem RM_out {m : AH} {s : St} (R : RM m s) {i : Nat} (hi : i < (Pl s).length) : RM (sI (shf (sI m 226 59 (nI ((Pl s).length - 1))) 271 9 (9 * i) (9 * ((Pl s).length - 1))) 226 63 (nI (N s 18 0 + 1))) (sOut s i) := by
  have R0 : RM (shf (sI m 226 59 (nI ((Pl s).length - 1))) 271 9 (9 * i) (9 * ((Pl s).length - 1))) (uP s ((Pl s).eraseIdx i)) := by
    obtain ⟨L, g1, g2, g3, g4, g5, g6⟩ := R
    refine ⟨L, ?_, ?_, ?_, ?_, ?_, ?_⟩
    · intro F k hF hk
      rw [shf_hI, if_neg (fun c => (ad_ne F hF).2.1 c.1), x_hI_sI, if_neg, g1 F k hF hk]; rfl
      intro c
      have := (ad_226 F hF).mpr c.1
      have f1 := fl_16 F hF this
      exact (ad_59 F hF c.1 k (by omega)).1 c.2
    · intro F k j hF hk hj
      rw [shf_hI, if_neg (fun c => (wO_ne F hF).1 c.1), x_hI_sI, if_neg (fun c => (wO_ne F hF).2.2 c.1), g2 F k j hF hk hj]; rfl
    · rw [shf_hI, if_neg (by omega), x_hI_sI, if_pos ⟨rfl, rfl⟩, P_uP, List.length_eraseIdx_of_lt hi]
    · intro k j hk hj
      rw [P_uP, List.length_eraseIdx_of_lt hi] at hk
      rw [P_uP, getD_erase, shf_hI]
      by_cases c : k < i
      · rw [if_neg (by omega), if_pos c, x_hI_sI, if_neg (by omega)]; exact g4 k j (by omega) hj
      · rw [if_pos (by omega), if_neg c, x_hI_sI, if_neg (by omega), show 9 * k + j + 9 = 9 * (k + 1) + j by omega]; exact g4 (k + 1) j (by omega) hj
    · rw [shf_hI, if_neg (by omega), x_hI_sI, if_neg (by omega)]; exact g5
    · intro k j hk hj
      rw [shf_hI, if_neg (by omega), x_hI_sI, if_neg (by omega)]; exact g6 k j hk hj
  exact ru_18 R0
theorem r_bring {m : AH} {s : St} (R : RM m s) {i : Nat} (hi : i < (Pl s).length) (hp : (Pl s).length ≤ 8400) (ht : mTo ((Pl s).getD i x0) ≤ 16)
    (hh : mTo ((Pl s).getD i x0) = 16 → ∀ b, RM b (sOut s i) → CM b ((Pl s).getD i x0) → ∃ m', f_X11_atHome b 226 = some m' ∧ RM m' (sHome (sOut s i) ((Pl s).getD i x0)) ∧ Fr b m')
    (hc : mTo ((Pl s).getD i x0) < 16 → ∀ b, RM b (sOut s i) → CM b ((Pl s).getD i x0) → ∃ m', f_X11_atCore b 226 (nI (mTo ((Pl s).getD i x0))) = some m' ∧ RM m' (sCore (sOut s i) (mTo ((Pl s).getD i x0)) ((Pl s).getD i x0)) ∧ Fr b m') :
    ∃ m', f_X11_bring m 226 (nI i) = some m' ∧ RM m' (sBring s i) ∧ Fr m m' := by
  have L := rm_L R
  have c0 := rm_pi R hi (show 0 < 9 by omega); have c1 := rm_pi R hi (show 1 < 9 by omega); have c2 := rm_pi R hi (show 2 < 9 by omega); have c3 := rm_pi R hi (show 3 < 9 by omega); have c4 := rm_pi R hi (show 4 < 9 by omega); have c5 := rm_pi R hi (show 5 < 9 by omega); have c6 := rm_pi R hi (show 6 < 9 by omega); have c7 := rm_pi R hi (show 7 < 9 by omega); have c8 := rm_pi R hi (show 8 < 9 by omega)
  unfold sBring sGet
  generalize hx : (Pl s).getD i x0 = x at *
  have rest : ∀ mc, RM mc s → CM mc x → ∃ m', f_X11_bring_L46 FU (sI mc 226 59 (nI ((Pl s).length - 1))) 226 (nI (9 * i)) = some m' ∧ RM m' (if mTo x = 16 then sHome (sOut s i) x else sCore (sOut s i) (mTo x) x) ∧ Fr mc m' := by
    intro mc Rc Cc
    have Lc := rm_L Rc
    have hn : 9 * i + (9 * ((Pl s).length - 1) - 9 * i) = 9 * ((Pl s).length - 1) := by omega
    have Ro := RM_out Rc hi
    have lp := lp_run (fun f h j => f_X11_bring_L46 f h 226 j) (fun j => shf (sI mc 226 59 (nI ((Pl s).length - 1))) 271 9 (9 * i) j) (f_X11_bring_L46 1 (shf (sI mc 226 59 (nI ((Pl s).length - 1))) 271 9 (9 * i) (9 * ((Pl s).length - 1))) 226 (nI (9 * ((Pl s).length - 1)))) (9 * i) (9 * ((Pl s).length - 1) - 9 * i) ?_ ?_ FU (FU_gt (by omega))
    · simp only [shf_0] at lp
      rw [lp]
      have L1 : LM (shf (sI mc 226 59 (nI ((Pl s).length - 1))) 271 9 (9 * i) (9 * ((Pl s).length - 1))) := Lc
      have e1 : hI (shf (sI mc 226 59 (nI ((Pl s).length - 1))) 271 9 (9 * i) (9 * ((Pl s).length - 1))) 226 59 = nI ((Pl s).length - 1) := by
        rw [shf_hI, if_neg (by omega), x_hI_sI, if_pos ⟨rfl, rfl⟩]
      have e2 : hI (shf (sI mc 226 59 (nI ((Pl s).length - 1))) 271 9 (9 * i) (9 * ((Pl s).length - 1))) 226 63 = nI (N s 18 0) := by
        rw [shf_hI, if_neg (by omega), x_hI_sI, if_neg (by omega)]; exact rm_18 Rc
      have e3 : hI (shf (sI mc 226 59 (nI ((Pl s).length - 1))) 271 9 (9 * i) (9 * ((Pl s).length - 1))) 276 2 = nI (mTo x) := by
        rw [shf_hI, if_neg (by omega), x_hI_sI, if_neg (by omega)]; exact Cc 2 (by omega)
      have Co : CM (sI (shf (sI mc 226 59 (nI ((Pl s).length - 1))) 271 9 (9 * i) (9 * ((Pl s).length - 1))) 226 63 (nI (N s 18 0 + 1))) x := by
        intro j hj
        rw [x_hI_sI, if_neg (by omega), shf_hI, if_neg (by omega), x_hI_sI, if_neg (by omega)]; exact Cc j hj
      have Fo : Fr mc (sI (shf (sI mc 226 59 (nI ((Pl s).length - 1))) 271 9 (9 * i) (9 * ((Pl s).length - 1))) 226 63 (nI (N s 18 0 + 1))) := by
        refine Fr_sI ?_ _ rfl
        refine ⟨rfl, fun o k e e2 e3 => ?_⟩
        rw [shf_hI, if_neg, x_hI_sI, if_neg]
        · rintro ⟨rfl, rfl⟩; cases e
        · rintro ⟨rfl, _⟩; cases e
      rw [f_X11_bring_L46]
      rw [y_gs, if_pos (lm_S226 L1), e1, show (9 : Int32) = nI 9 from rfl, q_mul, if_pos (show nI (9 * ((Pl s).length - 1)) ≤ nI (9 * ((Pl s).length - 1)) from (q_le (by omega) (by omega)).mpr (Nat.le_refl _)), y_lt, e2, show (1 : Int32) = nI 1 from rfl, q_add]
      generalize shf (sI mc 226 59 (nI ((Pl s).length - 1))) 271 9 (9 * i) (9 * ((Pl s).length - 1)) = m1 at *
      have Ro' := rm_L Ro
      have e4 : hI (sI m1 226 63 (nI (N s 18 0 + 1))) 276 2 = nI (mTo x) := by rw [x_hI_sI, if_neg (by omega)]; exact e3
      generalize sI m1 226 63 (nI (N s 18 0 + 1)) = m2 at *
      rw [lm_R80 Ro', y_gs, if_pos (lm_S276 Ro'), lm_N276 Ro', y_gb, if_pos (show ib (2 : Int32) 9 = true from rfl), y_gb, if_pos (show ib (2 : Int32) 9 = true from rfl), show (2 : Int32).toNatClampNeg = 2 from rfl, e4]
      by_cases c : mTo x = 16
      · rw [if_neg (show ¬ ¬ nI (mTo x) = (16 : Int32) from fun h => h (by rw [c]; rfl)), if_pos c]
        obtain ⟨a, ea, Ra, Fa⟩ := hh c _ Ro Co
        rw [ea]
        exact ⟨a, rfl, Ra, Fr_tr Fo Fa⟩
      · rw [if_pos (show ¬ nI (mTo x) = (16 : Int32) from fun h => c ((q_eq (b := 16) (by omega) (by omega)).mp h)), if_neg c]
        obtain ⟨a, ea, Ra, Fa⟩ := hc (by omega) _ Ro Co
        rw [ea]
        exact ⟨a, rfl, Ra, Fr_tr Fo Fa⟩
    · intro f j hj1 hj2
      have L1 : LM (shf (sI mc 226 59 (nI ((Pl s).length - 1))) 271 9 (9 * i) j) := Lc
      have e1 : hI (shf (sI mc 226 59 (nI ((Pl s).length - 1))) 271 9 (9 * i) j) 226 59 = nI ((Pl s).length - 1) := by
        rw [shf_hI, if_neg (by omega), x_hI_sI, if_pos ⟨rfl, rfl⟩]
      have st := shf_1 (sI mc 226 59 (nI ((Pl s).length - 1))) 271 9 (9 * i) j hj1
      generalize shf (sI mc 226 59 (nI ((Pl s).length - 1))) 271 9 (9 * i) j = m1 at *
      have c : ¬ 9 * ((Pl s).length - 1) ≤ j := by omega
      show f_X11_bring_L46 (f + 1) m1 226 (nI j) = _
      rw [f_X11_bring_L46, y_gs, if_pos (lm_S226 L1), e1, show (9 : Int32) = nI 9 from rfl, q_mul, if_neg (show ¬ nI (9 * ((Pl s).length - 1)) ≤ nI j from fun h => c ((q_le (by omega) (by omega)).mp h))]
      simp (disch := omega) only [↓y_gs, ↓y_gb, ↓y_lt, ↓y_bds, q_lit, q_cl, q_ib, q_add, q_mul, ↓reduceIte, decide_true, Nat.reduceAdd, Nat.reduceMul, lm_S226 L1, lm_R60 L1, lm_S271 L1, lm_N271 L1]
      rw [st]
    · intro f
      rw [hn]
      show f_X11_bring_L46 (f + 1) (shf (sI mc 226 59 (nI ((Pl s).length - 1))) 271 9 (9 * i) (9 * ((Pl s).length - 1))) 226 (nI (9 * ((Pl s).length - 1))) = _
      have L1 : LM (shf (sI mc 226 59 (nI ((Pl s).length - 1))) 271 9 (9 * i) (9 * ((Pl s).length - 1))) := Lc
      have e1 : hI (shf (sI mc 226 59 (nI ((Pl s).length - 1))) 271 9 (9 * i) (9 * ((Pl s).length - 1))) 226 59 = nI ((Pl s).length - 1) := by
        rw [shf_hI, if_neg (by omega), x_hI_sI, if_pos ⟨rfl, rfl⟩]
      generalize shf (sI mc 226 59 (nI ((Pl s).length - 1))) 271 9 (9 * i) (9 * ((Pl s).length - 1)) = m1 at *
      have cc : nI (9 * ((Pl s).length - 1)) ≤ nI (9 * ((Pl s).length - 1)) := (q_le (by omega) (by omega)).mpr (Nat.le_refl _)
      rw [f_X11_bring_L46, f_X11_bring_L46, e1, show (9 : Int32) = nI 9 from rfl, q_mul, if_pos cc, if_pos cc]
  unfold f_X11_bring
  rw [y_lt]
  obtain ⟨f, hf⟩ : ∃ f, FU = f + 10 := ⟨4294967286, rfl⟩
  have U : f_X11_bring_L2 (f + 10) m 226 (nI i) (nI 0) = f_X11_bring_L46 FU (sI (sI (sI (sI (sI (sI (sI (sI (sI (sI m 276 0 (mp x 0)) 276 1 (mp x 1)) 276 2 (mp x 2)) 276 3 (mp x 3)) 276 4 (mp x 4)) 276 5 (mp x 5)) 276 6 (mp x 6)) 276 7 (mp x 7)) 276 8 (mp x 8)) 226 59 (nI ((Pl s).length - 1))) 226 (nI (9 * i)) := by
    rw [Nat.add_zero] at c0
    simp (disch := omega) only [f_X11_bring_L2, ↓y_gs, ↓y_gb, ↓y_lt, ↓y_bds, q_lit, q_cl, q_ib, q_add, q_mul, ↓reduceIte, decide_true, Nat.reduceAdd, Nat.reduceMul, x_hI_sI, x_hR_sI, x_hS_sI, x_hN_sI, lm_S226 L, lm_R60 L, lm_S271 L, lm_N271 L, lm_R80 L, lm_S276 L, lm_N276 L, q_le, Nat.reduceLeDiff, Nat.reduceEqDiff, false_and, Nat.add_zero, c0, c1, c2, c3, c4, c5, c6, c7, c8, rm_p R, q_sub]
  rw [show f_X11_bring_L2 FU m 226 (nI i) 0 = f_X11_bring_L2 (f + 10) m 226 (nI i) (nI 0) from by rw [hf]; rfl, U]
  obtain ⟨a, ea, Ra, Fa⟩ := rest (sI (sI (sI (sI (sI (sI (sI (sI (sI m 276 0 (mp x 0)) 276 1 (mp x 1)) 276 2 (mp x 2)) 276 3 (mp x 3)) 276 4 (mp x 4)) 276 5 (mp x 5)) 276 6 (mp x 6)) 276 7 (mp x 7)) 276 8 (mp x 8)) (by
    iterate 9 refine RM_o ?_ _ rfl
    exact R) (by
    intro j hj
    rcases lt9 hj with rfl | rfl | rfl | rfl | rfl | rfl | rfl | rfl | rfl <;> rfl)
  refine ⟨a, ea, Ra, Fr_tr ?_ Fa⟩
  iterate 9 refine Fr_c ?_ _
  exact Fr_rfl m
