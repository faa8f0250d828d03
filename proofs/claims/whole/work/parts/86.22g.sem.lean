theorem call_play {h m : AH} {s : St} {e : Ex} {b : Nat} (R : Rel h m s e b) (he : e 8 0 = e 8 1) (hb : b + 4500 ≤ 536870912) : Ch 4500 h m e b (f_X10_play h 1) (f_X11_play m 226) := by
  have L := RC_L R.1.1
  have L2 := rm_L R.2.1
  obtain ⟨⟨y1, y2⟩, ⟨y3, y4⟩, ⟨y5, y6⟩, ⟨y7, y8, y9⟩, _⟩ := R.2.2.2.2.2
  -- both faults are nothing
  have R0 : Rel (sI (sI h 1 7 (0 : Int32)) 1 8 (0 : Int32)) (sI (sI m 226 3 (0 : Int32)) 226 4 (0 : Int32)) s e b := Rel_ff R rfl rfl (fun o k g => by rw [x_ne (by omega), x_ne (by omega)]) (fun o k g => by rw [x_ne (by omega), x_ne (by omega)]) (by rw [x_ne (by omega), x_eq, x_ne (by omega), x_eq]) (by rw [x_eq, x_eq])
  obtain ⟨o, a, o1, o2, o3, o4⟩ := sched_both R R0 he (e 8 1) 0 FU FU (by omega) (by omega) (FU_gt (by omega)) (FU_gt (by omega))
  have X0 : f_X10_play h 1 = if ¬ oI o = (-1 : Int32) then f_X10_play_L19 h 1 (oI o) 1 (4 : Int32) else f_X10_play_L19 h 1 (oI o) 1 (0 : Int32) := by
    unfold f_X10_play f_X8_scheduleFault
    have o1' : f_X8_scheduleFault_L2 h FU 2 (0 : Int32) = some (oI o) := o1
    rw [y_gs, if_pos (lc_S1 L), lc_R1_0 L, y_gs, if_pos (lc_S2 L), y_lt, o1', y_bds]
  have Y0 : f_X11_play m 226 = f_X11_play_L49 (sI (sI m 226 3 (0 : Int32)) 226 4 (0 : Int32)) 226 a := by
    unfold f_X11_play
    have o2' : f_X11_play_L12 FU (sI (sI m 226 3 (0 : Int32)) 226 4 (0 : Int32)) 226 (0 : Int32) = f_X11_play_L49 (sI (sI m 226 3 (0 : Int32)) 226 4 (0 : Int32)) 226 a := o2
    rw [y_gs, if_pos (lm_S226 L2), y_lt, y_lt, y_lt, o2']
  rw [X0, Y0]
  cases o with
  | some j =>
    obtain ⟨j1, ja⟩ := o4 j rfl
    subst ja
    have jn : ¬ nI j = (-1 : Int32) := k_n1 (by omega)
    have cls : f_X10_play_L19 h 1 (nI j) 1 (4 : Int32) = some (none, hT (sI (sI (sI h 1 7 (4 : Int32)) 1 8 (nI j)) 2 1 (0 : Int32))) := by
      unfold f_X10_play_L19 f_X10_play_L33 f_X8_clear
      have La : LC (sI h 1 7 (4 : Int32)) := L
      have Lb : LC (sI (sI h 1 7 (4 : Int32)) 1 8 (nI j)) := L
      have Lc : LC (sI (sI (sI h 1 7 (4 : Int32)) 1 8 (nI j)) 2 1 (0 : Int32)) := L
      have q7 : hI (sI (sI (sI h 1 7 (4 : Int32)) 1 8 (nI j)) 2 1 (0 : Int32)) 1 7 = (4 : Int32) := by rw [x_ne (by omega), x_ne (by omega), x_eq]
      rw [y_gs, if_pos (lc_S1 L), y_lt, if_pos jn, y_gs, if_pos (lc_S1 La), y_lt, y_gs, if_pos (lc_S1 Lb), lc_R1_0 Lb, y_gs, if_pos (lc_S2 Lb), y_lt, y_gs, if_pos (lc_S2 Lb), y_lt, y_bds, y_gs, if_pos (lc_S1 Lc), q7, if_neg (by decide)]
    rw [oI_s, if_pos jn, cls]
    unfold f_X11_play_L49
    generalize hm4 : sI (sI m 226 3 (0 : Int32)) 226 4 (0 : Int32) = m4 at *
    have Lm : LM m4 := rm_L R0.2.1
    have Lm3 : LM (sI (sI (sI m4 226 3 (4 : Int32)) 226 4 (nI j)) 226 2 (0 : Int32)) := LM_2 Lm rfl
    have nge : ¬ (0 : Int32) ≤ (-1 : Int32) - nI j := fun q => absurd (Int32.lt_of_lt_of_le (m1_neg (show j < 2 ^ 31 by omega)) q) Int32.lt_irrefl
    rw [if_neg nge, sub_m1, y_gs, if_pos (lm_S226 Lm), y_lt, y_lt, y_lt, r_raise Lm3, y_bds]
    have R1 : Rel (sI (sI h 1 7 (4 : Int32)) 1 8 (nI j)) (sI (sI m4 226 3 (4 : Int32)) 226 4 (nI j)) s e b := Rel_ff R rfl (by rw [← hm4]; rfl) (fun o k g => by rw [x_ne (by omega), x_ne (by omega)]) (fun o k g => by rw [x_ne (by omega), x_ne (by omega), ← hm4, x_ne (by omega), x_ne (by omega)]) (by rw [x_ne (by omega), x_eq, x_ne (by omega), x_eq]) (by rw [x_eq, x_eq])
    have R2 := Rel_thr (Rel_tap0 (Rel_len0 R1)) 1
    refine ⟨_, _, s, _, 0, Rel_up R2 (by omega) hb, Bd_2 rfl, by rw [← hm4]; rfl, ?_, rfl, Or.inr ⟨rfl, ?_⟩⟩
    · rw [e2_ne (by omega), e2_ne (by omega), e2_eq, e2_ne (by omega), e2_eq]
    · rw [e2_eq]
  | none =>
    obtain ⟨ha, hv⟩ := o3 rfl
    rw [oI_n, if_neg (fun q => q rfl)]
    have R2 := Rel_thr (Rel_len0 R0) 0
    generalize hm4 : sI (sI m 226 3 (0 : Int32)) 226 4 (0 : Int32) = m4 at *
    have hq : ∀ F i, ¬ (F = 8 ∧ (i = 0 ∨ i = 2)) → e2 (e2 e 8 0 0) 8 2 0 F i = e F i := fun F i g => by rw [e2_ne (by omega), e2_ne (by omega)]
    have t1 : e2 (e2 e 8 0 0) 8 2 0 8 1 = e 8 1 := hq 8 1 (by omega)
    have tt : tat (e2 (e2 e 8 0 0) 8 2 0) = tat e := by funext k; unfold tat; rw [t1, hq 9 k (by omega)]
    have bb : ∀ k, bad (e2 (e2 e 8 0 0) 8 2 0) k = bad e k := by intro k; unfold bad bdg; rw [tt]
    have vv : ∀ r k, vs e r k → vs (e2 (e2 e 8 0 0) 8 2 0) r k := by
      intro r
      induction r with
      | zero => intro k _; trivial
      | succ r ih =>
        intro k v
        unfold vs at v ⊢
        rw [t1, tt, bb]
        rcases v with v | ⟨v1, v2, v3⟩ | ⟨v1, v2, v3, v4⟩
        · exact Or.inl v
        · exact Or.inr (Or.inl ⟨v1, v2, ih _ v3⟩)
        · exact Or.inr (Or.inr ⟨v1, v2, v3, ih _ v4⟩)
    obtain ⟨h', m', s', e', z, b1, b2, b3, b4, b5, b6, b7, b8⟩ := play_both (hI h 1 10) (e 8 1) R2 0 FU FU (vv _ _ hv) (by rw [t1]; omega) (by omega) (FU_gt (by omega)) (FU_gt (by omega)) (by omega)
    rw [t1] at b1
    have b1' : f_X10_play_L76 FU (sI (sI (sI h 1 7 (0 : Int32)) 1 8 (0 : Int32)) 2 1 (0 : Int32)) 1 (nI (e 8 1)) (hI h 1 10) (0 : Int32) = some (some z, h') := b1
    have b2' : f_X11_play_L88 FU (sI m4 226 0 (0 : Int32)) 226 (0 : Int32) (hI h 1 10) = some (z, m') := b2
    have cls : f_X10_play_L19 h 1 nN 1 (0 : Int32) = some (some z, h') := by
      unfold f_X10_play_L19 f_X10_play_L33 f_X8_clear
      have La : LC (sI h 1 7 (0 : Int32)) := L
      have Lb : LC (sI (sI h 1 7 (0 : Int32)) 1 8 (0 : Int32)) := L
      have Lc : LC (sI (sI (sI h 1 7 (0 : Int32)) 1 8 (0 : Int32)) 2 1 (0 : Int32)) := L
      have q7 : hI (sI (sI (sI h 1 7 (0 : Int32)) 1 8 (0 : Int32)) 2 1 (0 : Int32)) 1 7 = (0 : Int32) := by rw [x_ne (by omega), x_ne (by omega), x_eq]
      have q10 : hI (sI (sI (sI h 1 7 (0 : Int32)) 1 8 (0 : Int32)) 2 1 (0 : Int32)) 1 10 = hI h 1 10 := by rw [x_ne (by omega), x_ne (by omega), x_ne (by omega)]
      have q21 : hI (sI (sI h 1 7 (0 : Int32)) 1 8 (0 : Int32)) 2 1 = nI (e 8 1) := by rw [x_ne (by omega), x_ne (by omega), y7, he]
      rw [y_gs, if_pos (lc_S1 L), y_lt, if_neg (fun q => q rfl), y_gs, if_pos (lc_S1 La), y_lt, y_gs, if_pos (lc_S1 Lb), lc_R1_0 Lb, y_gs, if_pos (lc_S2 Lb), q21, y_lt, y_gs, if_pos (lc_S2 Lb), y_lt, y_bds, y_gs, if_pos (lc_S1 Lc), q7, if_pos rfl, q10, y_lt, y_lt, b1']
    rw [cls]
    unfold f_X11_play_L49
    have Lm : LM m4 := rm_L R0.2.1
    have q67 : hI (sI m4 226 0 (0 : Int32)) 226 67 = hI h 1 10 := by rw [x_ne (by omega), ← hm4, x_ne (by omega), x_ne (by omega), y4]
    rw [if_pos ha, y_gs, if_pos (lm_S226 Lm), y_lt, q67, y_lt, y_lt, b2']
    refine ⟨h', m', s', e', z, Rel_up b3 (by omega) hb, Bd_tr (Bd_2 rfl) b4, by rw [b5, ← hm4]; rfl, ?_, rfl, Or.inl ⟨rfl, ?_⟩⟩
    · rw [b6, b7, e2_ne (by omega), e2_eq]
    · rw [b8, e2_eq]
