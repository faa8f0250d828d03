/-! A label in both. -/
def gL (g : Gh) (L p a : Nat) : Gh := fun F k => if F = 5 ∧ k = L then p else if F = 6 ∧ k = L then a else g F k
theorem gL_at (g : Gh) (L p a : Nat) : gL g L p a 5 L = p ∧ gL g L p a 6 L = a := by
  constructor
  · unfold gL; rw [if_pos ⟨rfl, rfl⟩]
  · unfold gL; rw [if_neg (by omega), if_pos ⟨rfl, rfl⟩]
theorem gL_ne {g : Gh} {L p a F k : Nat} (h : ¬ ((F = 5 ∨ F = 6) ∧ k = L)) : gL g L p a F k = g F k := by
  unfold gL; rw [if_neg (by omega), if_neg (by omega)]
def labC (h : AH) (L : Nat) (v : Int64) (p a : Nat) : AH := sI (sI (sI (sL h 12 L v) 13 L (nI p)) 14 L (nI a)) 4 9 (nI (L + 1))
def labM (m : AH) (L : Nat) (v : Int64) (a i : Nat) : AH := sI (sI (sI (sL m 231 L v) 232 L (nI a)) 226 10 (nI (L + 1))) 226 9 (nI (i + 2))
theorem labC_f (h : AH) (L : Nat) (v : Int64) (p a : Nat) : (labC h L v p a).2.2 = h.2.2 ∧ (∀ o k, ¬ ((o = 13 ∨ o = 14) ∧ k = L) → ¬ (o = 4 ∧ k = 9) → hI (labC h L v p a) o k = hI h o k) ∧ (∀ o k, ¬ (o = 12 ∧ k = L) → hL (labC h L v p a) o k = hL h o k) ∧ hL (labC h L v p a) 12 L = v ∧ hI (labC h L v p a) 13 L = nI p ∧ hI (labC h L v p a) 14 L = nI a ∧ hI (labC h L v p a) 4 9 = nI (L + 1) := by
  unfold labC
  refine ⟨rfl, fun o k h1 h2 => by rw [x_ne (by omega), x_ne (by omega), x_ne (by omega), x_hI_sL], fun o k h1 => by rw [x_hL_sI, x_hL_sI, x_hL_sI, x_hL_sL, if_neg (by omega)], by rw [x_hL_sI, x_hL_sI, x_hL_sI, x_hL_sL, if_pos ⟨rfl, rfl⟩], by rw [x_ne (by omega), x_ne (by omega), x_eq], by rw [x_ne (by omega), x_eq], x_eq _ _ _ _⟩
theorem labM_f (m : AH) (L : Nat) (v : Int64) (a i : Nat) : (labM m L v a i).2.2 = m.2.2 ∧ (∀ o k, ¬ (o = 232 ∧ k = L) → ¬ (o = 226 ∧ (k = 9 ∨ k = 10)) → hI (labM m L v a i) o k = hI m o k) ∧ (∀ o k, ¬ (o = 231 ∧ k = L) → hL (labM m L v a i) o k = hL m o k) ∧ hL (labM m L v a i) 231 L = v ∧ hI (labM m L v a i) 232 L = nI a ∧ hI (labM m L v a i) 226 10 = nI (L + 1) ∧ hI (labM m L v a i) 226 9 = nI (i + 2) := by
  unfold labM
  refine ⟨rfl, fun o k h1 h2 => by rw [x_ne (by omega), x_ne (by omega), x_ne (by omega), x_hI_sL], fun o k h1 => by rw [x_hL_sI, x_hL_sI, x_hL_sI, x_hL_sL, if_neg (by omega)], by rw [x_hL_sI, x_hL_sI, x_hL_sI, x_hL_sL, if_pos ⟨rfl, rfl⟩], by rw [x_ne (by omega), x_ne (by omega), x_eq], by rw [x_ne (by omega), x_eq], x_eq _ _ _ _⟩
theorem AC_lab {h m : AH} {n L a : Nat} {g : Gh} (A : AC h m n L a g) {v : Int64} {p : Nat} (i : Nat) (hp : p ≤ 1500) (ha : a ≤ 20000) : AC (labC h L v p a) (labM m L v a i) n (L + 1) a (gL g L p a) := by
  obtain ⟨c0, c1, c2, c3, c4, c5, c6⟩ := labC_f h L v p a
  obtain ⟨m0, m1, m2, m3, m4, m5, m6⟩ := labM_f m L v a i
  obtain ⟨g5, g6⟩ := gL_at g L p a
  refine ⟨?_, ⟨c6, m5⟩, ?_, fun j hj => ?_, fun k hk => ?_, fun d hd => ?_, ?_, ⟨?_, ?_⟩, (gL_ne (by omega)).trans A.g0⟩
  · rw [c1 4 1 (by omega) (by omega), m1 226 13 (by omega) (by omega), c1 4 14 (by omega) (by omega), gL_ne (by omega)]; exact A.it
  · rw [c1 4 13 (by omega) (by omega), m1 226 20 (by omega) (by omega)]; exact A.ad
  · by_cases e : j = L
    · subst e
      rw [c3, m3, c4, c5, m4, g5, g6]; exact ⟨rfl, rfl, rfl, rfl, hp, ha⟩
    · rw [c2 12 j (by omega), m2 231 j (by omega), c1 13 j (by omega) (by omega), c1 14 j (by omega) (by omega), m1 232 j (by omega) (by omega), gL_ne (by omega), gL_ne (by omega)]; exact A.la j (by omega)
  · have I := A.im k hk
    unfold IT PT at I ⊢
    have r : ∀ o, 5 ≤ o → o ≤ 11 → hI (labC h L v p a) o k = hI h o k := fun o h1 h2 => c1 o k (by omega) (by omega)
    have s : ∀ o k, 233 ≤ o → o ≤ 237 → hI (labM m L v a i) o k = hI m o k := fun o k h1 h2 => m1 o k (by omega) (by omega)
    have q : ∀ F k, F ≠ 5 → F ≠ 6 → gL g L p a F k = g F k := fun F k h1 h2 => gL_ne (by omega)
    rw [q 0 k (by omega) (by omega), q 1 k (by omega) (by omega), q 2 k (by omega) (by omega), q 3 k (by omega) (by omega), q 4 k (by omega) (by omega), q 7 k (by omega) (by omega), q 7 (k + 1) (by omega) (by omega), r 5 (by omega) (by omega), r 6 (by omega) (by omega), r 7 (by omega) (by omega), r 8 (by omega) (by omega), r 9 (by omega) (by omega), r 10 (by omega) (by omega), c2 11 k (by omega), s 233 _ (by omega) (by omega), s 234 _ (by omega) (by omega), s 235 _ (by omega) (by omega), s 237 _ (by omega) (by omega), m2 236 _ (by omega), s 233 (g 7 k + 1) (by omega) (by omega), s 234 (g 7 k + 1) (by omega) (by omega), s 235 (g 7 k + 1) (by omega) (by omega), s 237 (g 7 k + 1) (by omega) (by omega), m2 236 (g 7 k + 1) (by omega)]
    exact I
  · rw [c1 15 d (by omega) (by omega), m1 238 d (by omega) (by omega), gL_ne (by omega)]; exact A.st d hd
  · rw [c1 4 16 (by omega) (by omega), c1 4 17 (by omega) (by omega)]; exact A.nf
  · exact cst_of A.cs.1 (fun o k q => m1 o k (by omega) (by omega))
  · intro k hk
    have : hR (labM m L v a i) 273 k = hR m 273 k := rfl
    rw [this]; exact A.cs.2 k hk
theorem KX_lab (h : AH) (g : Gh) (n L : Nat) (v : Int64) (p a : Nat) : KX (labC h L v p a) (gL g L p a) n (L + 1) = min (KX h g n L) (if lbl h v L = true then 4 * p + 2 else 100000) := by
  obtain ⟨c0, c1, c2, c3, c4, c5, c6⟩ := labC_f h L v p a
  have e1 : KX (labC h L v p a) (gL g L p a) n L = KX h g n L := KX_congr (fun k hk => ⟨c2 _ _ (by omega), gL_ne (by omega)⟩) (fun k hk => ⟨c2 _ _ (by omega), fun F hF => gL_ne (by omega)⟩)
  have e2 : DL (labC h L v p a) (gL g L p a) L = if lbl h v L = true then 4 * p + 2 else 100000 := by
    unfold DL
    rw [c3, (gL_at g L p a).1, lbl_congr v L (fun k hk => c2 _ _ (by omega))]
  have e3 : mn (DL (labC h L v p a) (gL g L p a)) (L + 1) = min (mn (DL (labC h L v p a) (gL g L p a)) L) (DL (labC h L v p a) (gL g L p a) L) := rfl
  rw [← e1]
  unfold KX
  rw [e3, e2]
  generalize mn (DL (labC h L v p a) (gL g L p a)) L = A
  generalize mn (KA (labC h L v p a) (gL g L p a)) n = B
  generalize (if lbl h v L = true then 4 * p + 2 else 100000) = D
  omega
theorem addLab {h : AH} (L1 : LC h) {L a p : Nat} (v : Int64) (hL' : L < 750) (h9 : hI h 4 9 = nI L) (h13 : hI h 4 13 = nI a) : f_X1_addLabel h 4 v (nI p) = some (labC h L v p a) := by
  have La : LC (sL h 12 L v) := LC_2 L1 rfl
  have Lb : LC (sI (sL h 12 L v) 13 L (nI p)) := LC_2 L1 rfl
  unfold f_X1_addLabel labC
  rw [y_gs, if_pos (lc_S4 L1), h9, if_neg (show ¬ (750 : Int32) ≤ nI L from fun q => by have := (q_le (a := 750) (by omega) (by omega)).mp q; omega), lc_R4_10 L1, y_gs, if_pos (lc_S12 L1), lc_N12 L1, y_gb, if_pos (q_ib hL' (by omega)), q_cl (by omega), y_lt, lc_R4_11 La, y_gs, if_pos (lc_S13 La), lc_N13 La, x_hI_sL, h9, y_gb, if_pos (q_ib hL' (by omega)), q_cl (by omega), y_lt, lc_R4_12 Lb, y_gs, if_pos (lc_S14 Lb), lc_N14 Lb, x_ne (by omega), x_ne (by omega), x_hI_sL, x_hI_sL, h9, h13, y_gb, if_pos (q_ib hL' (by omega)), q_cl (by omega), y_lt, x_ne (by omega), x_ne (by omega), x_hI_sL, h9, q_add1, y_lt]
theorem note_rep {x y : Nat} {b : Bool} (e : Bool) : (if (b || e) = true then min x y else x) = (if e = true then min (if b = true then min x y else x) y else (if b = true then min x y else x)) := by
  cases b <;> cases e <;> simp
theorem lab_r {h m : AH} {c : Nat → Nat} {T Nn i n L a x : Nat} {g : Gh} (A : AC h m n L a g) (Q : TQ h m c T Nn i) (F : FK m x) (k2 : tKind c T (ts c T i) = 2) (hL' : L < 750) (k0 : AH → Nat → Option (Int32 × AH)) :
    ∀ r k f (mk : AH), k + r = L → r < f → FN m mk → FK mk (if lbl h (tVal c T (ts c T i)) k = true then min x (4 * ts c T i + 2) else x) → ∃ m', FN m m' ∧ FK m' (if lbl h (tVal c T (ts c T i)) L = true then min x (4 * ts c T i + 2) else x) ∧ f_X11_readStatement_L48 k0 f mk 226 (nI k) = k0 (labM m' L (tVal c T (ts c T i)) a i) 226 := by
  obtain ⟨b1, b2, b3, b4, b5, b6⟩ := TQ_r Q
  have tk := (Q.2.1.2.1 i Q.2.2.1).2.2.1 (Or.inl k2)
  have tT := ts_le c T i
  have T15 := Q.1.1.2.2.2.1
  intro r
  induction r with
  | zero =>
    intro k f mk hk hf hN hF
    obtain ⟨f', rfl⟩ : ∃ f', f = f' + 1 := ⟨f - 1, by omega⟩
    have hk' : k = L := by omega
    subst hk'
    refine ⟨mk, hN, hF, ?_⟩
    have Lm : LM mk := LM_3 Q.2.1.1 (by rw [hN.1])
    have La : LM (sL mk 231 k (tVal c T (ts c T i))) := LM_3 Lm rfl
    have q9 : hI mk 226 9 = nI i := by rw [hN.2 _ _ (by omega)]; exact b1
    have q10 : hI mk 226 10 = nI k := by rw [hN.2 _ _ (by omega)]; exact A.lb.2
    have q20 : hI mk 226 20 = nI a := by rw [hN.2 _ _ (by omega)]; exact A.ad.2.1
    have qv : hL mk 230 i = tVal c T (ts c T i) := by show mk.2.1 230 i = _; rw [hN.1]; exact tk
    have add2 : nI i + (2 : Int32) = nI (i + 2) := by rw [show (2 : Int32) = nI 2 from rfl, q_add]
    rw [f_X11_readStatement_L48, y_gs, if_pos (lm_S226 Lm), q10, if_pos (show nI k ≤ nI k from Int32.le_refl _), lm_R8 Lm, y_gs, if_pos (lm_S230 Lm), lm_N230 Lm, q9, y_gb, if_pos b4, q_cl b5, qv, lm_R11 Lm, y_gs, if_pos (lm_S231 Lm), lm_N231 Lm, y_gb, if_pos (q_ib (by omega) (by omega)), q_cl (by omega), y_lt, lm_R12 La, y_gs, if_pos (lm_S232 La), lm_N232 La, x_hI_sL, q10, y_gb, if_pos (q_ib (by omega) (by omega)), q_cl (by omega), x_hI_sL, q20, y_lt, x_ne (by omega), x_hI_sL, q10, q_add1, y_lt, x_ne (by omega), x_ne (by omega), x_hI_sL, q9, add2, y_lt]
    rfl
  | succ r ih =>
    intro k f mk hk hf hN hF
    obtain ⟨f', rfl⟩ : ∃ f', f = f' + 1 := ⟨f - 1, by omega⟩
    have Lm : LM mk := LM_3 Q.2.1.1 (by rw [hN.1])
    have q9 : hI mk 226 9 = nI i := by rw [hN.2 _ _ (by omega)]; exact b1
    have q10 : hI mk 226 10 = nI L := by rw [hN.2 _ _ (by omega)]; exact A.lb.2
    have qv : hL mk 230 i = tVal c T (ts c T i) := by show mk.2.1 230 i = _; rw [hN.1]; exact tk
    have qk : hL mk 231 k = hL h 12 k := by show mk.2.1 231 k = _; rw [hN.1]; exact ((A.la k (by omega)).1).symm
    have qp : hI mk 229 i = nI (ts c T i) := by rw [hN.2 _ _ (by omega)]; exact b3
    have st : lbl h (tVal c T (ts c T i)) (k + 1) = (lbl h (tVal c T (ts c T i)) k || decide (hL h 12 k = tVal c T (ts c T i))) := rfl
    rw [f_X11_readStatement_L48, y_gs, if_pos (lm_S226 Lm), q10, if_neg (show ¬ nI L ≤ nI k from fun q => by have := (q_le (by omega) (by omega)).mp q; omega), lm_R11 Lm, y_gs, if_pos (lm_S231 Lm), lm_N231 Lm, y_gb, if_pos (q_ib (by omega) (by omega)), q_cl (by omega), lm_R8 Lm, y_gs, if_pos (lm_S230 Lm), lm_N230 Lm, q9, y_gb, if_pos b4, q_cl b5, qv, qk]
    unfold f_X11_readStatement_L89
    by_cases e : hL h 12 k = tVal c T (ts c T i)
    · rw [if_neg (show ¬ ¬ lg_cmp (hL h 12 k) (tVal c T (ts c T i)) = 0 from fun q => q ((lg_0 _ _).mpr e)), lm_R7 Lm, y_gs, if_pos (lm_S229 Lm), lm_N229 Lm, y_gb, if_pos b4, qp]
      obtain ⟨m', n1, n2, n3⟩ := r_note Lm hF (k := 2) (w := ts c T i) (Or.inl rfl) (by omega)
      have n1' : f_X11_note mk 226 (2 : Int32) (nI (ts c T i)) = some m' := n1
      rw [n1', y_bds, q_add1, y_lt]
      refine ih (k + 1) f' m' (by omega) (by omega) ⟨n3.1.trans hN.1, fun o k' q => (n3.2 o k' q).trans (hN.2 o k' q)⟩ ?_
      rw [st, decide_eq_true e, note_rep, if_pos rfl]; exact n2
    · rw [if_pos (show ¬ lg_cmp (hL h 12 k) (tVal c T (ts c T i)) = 0 from fun q => e ((lg_0 _ _).mp q)), q_add1, y_lt]
      refine ih (k + 1) f' mk (by omega) (by omega) hN ?_
      rw [st, decide_eq_false e, note_rep, if_neg (by decide)]; exact hF
