/-! One part laid by the reference. -/
def layM (mm : AH) (p a : Nat) (w hv : Int32) : AH := sI (sI (sI (sL (sI (sI (sI mm 233 p (nI a)) 234 p w) 235 p hv) 236 p (hL mm 226 74)) 237 p (hI mm 226 75)) 226 13 (nI (p + 1))) 226 20 (nI (a + 4))
theorem layM_f (mm : AH) (p a : Nat) (w hv : Int32) : (layM mm p a w hv).2.2 = mm.2.2 ∧ (∀ o k, ¬ (233 ≤ o ∧ o ≤ 237 ∧ k = p) → ¬ (o = 226 ∧ (k = 13 ∨ k = 20)) → hI (layM mm p a w hv) o k = hI mm o k) ∧ (∀ o k, ¬ (o = 236 ∧ k = p) → hL (layM mm p a w hv) o k = hL mm o k) ∧ hI (layM mm p a w hv) 233 p = nI a ∧ hI (layM mm p a w hv) 234 p = w ∧ hI (layM mm p a w hv) 235 p = hv ∧ hL (layM mm p a w hv) 236 p = hL mm 226 74 ∧ hI (layM mm p a w hv) 237 p = hI mm 226 75 ∧ hI (layM mm p a w hv) 226 13 = nI (p + 1) ∧ hI (layM mm p a w hv) 226 20 = nI (a + 4) := by
  unfold layM
  refine ⟨rfl, fun o k h1 h2 => ?_, fun o k h1 => ?_, ?_, ?_, ?_, ?_, ?_, ?_, ?_⟩
  · rw [x_ne (by omega), x_ne (by omega), x_ne (by omega), x_hI_sL, x_ne (by omega), x_ne (by omega), x_ne (by omega)]
  · rw [x_hL_sI, x_hL_sI, x_hL_sI, x_hL_sL, if_neg h1]; rfl
  · rw [x_ne (by omega), x_ne (by omega), x_ne (by omega), x_hI_sL, x_ne (by omega), x_ne (by omega), x_eq]
  · rw [x_ne (by omega), x_ne (by omega), x_ne (by omega), x_hI_sL, x_ne (by omega), x_eq]
  · rw [x_ne (by omega), x_ne (by omega), x_ne (by omega), x_hI_sL, x_eq]
  · rw [x_hL_sI, x_hL_sI, x_hL_sI, x_hL_sL, if_pos ⟨rfl, rfl⟩]
  · rw [x_ne (by omega), x_ne (by omega), x_eq]
  · rw [x_ne (by omega), x_eq]
  · rw [x_eq]
theorem lay21 {m : AH} (L : LM m) {p a : Nat} (hp : p < 700) (ha : a < 30000) (h13 : hI m 226 13 = nI p) (h20 : hI m 226 20 = nI a) {hv : Int32} (hhv : hv = (-1 : Int32) ∨ ∃ k, k ≤ 8 ∧ hv = nI k) :
    f_X11_lay_L21 m 226 hv = some (layM m p a (hI m 226 71 ||| (if hv = (-1 : Int32) ∨ ¬ hI m 226 73 = 0 then 0 else putV hv.toNatClampNeg (hL m 226 72).toInt32)) (if hI m 226 73 = 0 then (-1 : Int32) else hv)) := by
  have La : LM (sI m 233 p (nI a)) := L
  have Lb : ∀ w, LM (sI (sI m 233 p (nI a)) 234 p w) := fun w => L
  have Lc : ∀ w v, LM (sI (sI (sI m 233 p (nI a)) 234 p w) 235 p v) := fun w v => L
  have Ld : ∀ w v z, LM (sL (sI (sI (sI m 233 p (nI a)) 234 p w) 235 p v) 236 p z) := fun w v z => LM_3 L rfl
  have l92 : ∀ w v, f_X11_lay_L92 (sI (sI m 233 p (nI a)) 234 p w) 226 235 (nI p) v = some (layM m p a w v) := by
    intro w v
    unfold f_X11_lay_L92 layM
    rw [y_gs, if_pos (lm_S235 (Lb w)), lm_N235 (Lb w), y_gb, if_pos (q_ib hp (by omega)), q_cl (by omega), y_lt, y_gs, if_pos (lm_S226 (Lc w v)), lm_R17 (Lc w v), y_gs, if_pos (lm_S236 (Lc w v)), lm_N236 (Lc w v), x_ne (by omega), x_ne (by omega), x_ne (by omega), h13, y_gb, if_pos (q_ib hp (by omega)), q_cl (by omega), y_lt, x_hL_sI, x_hL_sI, x_hL_sI, lm_R18 (Ld w v _), y_gs, if_pos (lm_S237 (Ld w v _)), lm_N237 (Ld w v _), x_hI_sL, x_ne (by omega), x_ne (by omega), x_ne (by omega), h13, y_gb, if_pos (q_ib hp (by omega)), q_cl (by omega), y_lt, x_hI_sL, x_ne (by omega), x_ne (by omega), x_ne (by omega), x_ne (by omega), x_hI_sL, x_ne (by omega), x_ne (by omega), x_ne (by omega), h13, show (1 : Int32) = nI 1 from rfl, q_add, y_lt, x_ne (by omega), x_ne (by omega), x_hI_sL, x_ne (by omega), x_ne (by omega), x_ne (by omega), h20, show (4 : Int32) = nI 4 from rfl, q_add, y_lt]
  have l70 : ∀ z, f_X11_lay_L70 (sI m 233 p (nI a)) 226 hv 234 (nI p) (hI m 226 71) z = some (layM m p a (hI m 226 71 ||| z) (if hI m 226 73 = 0 then (-1 : Int32) else hv)) := by
    intro z
    unfold f_X11_lay_L70
    rw [y_gs, if_pos (lm_S234 La), lm_N234 La, y_gb, if_pos (q_ib hp (by omega)), q_cl (by omega), y_lt, y_gs, if_pos (lm_S226 (Lb _)), x_ne (by omega), x_ne (by omega), lm_R16 (Lb _), x_ne (by omega), x_ne (by omega), h13, l92, l92]
    by_cases g : hI m 226 73 = 0
    · rw [if_pos g, if_pos g]
    · rw [if_neg g, if_neg g]
  unfold f_X11_lay_L21 f_X11_lay_L58
  rw [y_gs, if_pos (lm_S226 L), lm_R14 L, y_gs, if_pos (lm_S233 L), lm_N233 L, h13, y_gb, if_pos (q_ib hp (by omega)), q_cl (by omega), h20, y_lt, lm_R15 La, x_ne (by omega), h13, x_ne (by omega), x_ne (by omega), l70]
  by_cases g1 : hv = (-1 : Int32)
  · rw [if_pos g1, if_pos (Or.inl g1)]
  · rw [if_neg g1]
    by_cases g2 : hI m 226 73 = 0
    · obtain ⟨k, hk, rfl⟩ : ∃ k, k ≤ 8 ∧ hv = nI k := by
        rcases hhv with q | q
        · exact absurd q g1
        · exact q
      have cc : ¬ (nI k = (-1 : Int32) ∨ ¬ hI m 226 73 = 0) := fun z => z.elim (fun z1 => g1 z1) (fun z1 => z1 g2)
      rw [if_pos g2, x_hL_sI, r_put _ hk, y_bds, l70, if_neg cc, q_cl (by omega)]
    · rw [if_neg g2, if_pos (Or.inr g2)]
theorem r_lay {m : AH} (L : LM m) {p a nm q x : Nat} (hp : p < 700) (ha : a < 30000) (h13 : hI m 226 13 = nI p) (h20 : hI m 226 20 = nI a) {hv : Int32} (hhv : hv = (-1 : Int32) ∨ ∃ k, k ≤ 8 ∧ hv = nI k) (F : FK m x) (hnm : nm < 1502) (hq : hI m 229 nm = nI q) (q15 : q ≤ 1500) :
    ∃ mm, FN m mm ∧ FK mm (if a ≤ 8191 then x else min x (4 * q + 3)) ∧ f_X11_lay m 226 (nI nm) hv = some (layM mm p a (hI m 226 71 ||| (if hv = (-1 : Int32) ∨ ¬ hI m 226 73 = 0 then 0 else putV hv.toNatClampNeg (hL m 226 72).toInt32)) (if hI m 226 73 = 0 then (-1 : Int32) else hv)) := by
  unfold f_X11_lay
  rw [y_gs, if_pos (lm_S226 L), h20]
  by_cases g : a ≤ 8191
  · rw [if_pos (show nI a ≤ (8191 : Int32) from (q_le (b := 8191) (by omega) (by omega)).mpr g), if_pos g, lay21 L hp ha h13 h20 hhv]
    exact ⟨m, ⟨rfl, fun _ _ _ => rfl⟩, F, rfl⟩
  · obtain ⟨mn', e, f, fr⟩ := r_note L (k := 3) (w := q) F (Or.inr rfl) (by omega)
    have Ln : LM mn' := LM_2 L fr.1
    have lL : ∀ o k, hL mn' o k = hL m o k := fun o k => by show mn'.2.1 o k = m.2.1 o k; rw [fr.1]
    have e' : f_X11_note m 226 (3 : Int32) (nI q) = some mn' := e
    rw [if_neg (show ¬ nI a ≤ (8191 : Int32) from fun z => g ((q_le (b := 8191) (by omega) (by omega)).mp z)), if_neg g, lm_R7 L, y_gs, if_pos (lm_S229 L), lm_N229 L, y_gb, if_pos (q_ib hnm (by omega)), q_cl (by omega), hq, e', y_bds, lay21 Ln hp ha (by rw [fr.2 _ _ (by omega)]; exact h13) (by rw [fr.2 _ _ (by omega)]; exact h20) hhv, fr.2 226 71 (by omega), fr.2 226 73 (by omega), lL]
    exact ⟨mn', fr, f, rfl⟩
