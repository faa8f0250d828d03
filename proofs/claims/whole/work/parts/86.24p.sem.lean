theorem op_f1 : ∀ op, op < 61 → (tForm.getD op 0 = 9 ↔ tHow.getD op 0 = 15) ∧ (tForm.getD op 0 = 10 ↔ tHow.getD op 0 = 16) ∧ (tForm.getD op 0 = 7 ↔ tHow.getD op 0 = 13) ∧ (tForm.getD op 0 = 0 ↔ nNu (opl (tHow.getD op 0)) = 0) := by decide +kernel
theorem op_f2 : ∀ op, op < 61 → (tForm.getD op 0 = 7 ∨ mBase.getD op 0 = tBas.getD op 0) ∧ (¬ tForm.getD op 0 = 7 ∨ (mBase.getD op 0 = 19 ∧ tBas.getD op 0 = 0 ∧ hnO (tHow.getD op 0) op = 5)) ∧ hnO (tHow.getD op 0) op ≤ 6 := by decide +kernel
theorem op_f3 : ∀ op, op < 61 → (tForm.getD op 0 = 0 ∨ tForm.getD op 0 = 7 ∨ tForm.getD op 0 = 9 ∨ tForm.getD op 0 = 10 ∨ frm (hnO (tHow.getD op 0) op) = tForm.getD op 0) := by decide +kernel
theorem g7_le {h m : AH} {n L a : Nat} {g : Gh} (A : AC h m n L a g) : ∀ d k, k + d = n → g 7 k ≤ g 7 n
  | 0, k => fun h => by rw [show k = n by omega]; exact Nat.le_refl _
  | d + 1, k => fun hk => by
    have := g7_le A d (k + 1) (by omega)
    have e := (A.im k (by omega)).2.2.2.2.1
    omega
theorem AC_item {h m h' m' : AH} {n L a a' W : Nat} {g g' : Gh} (A : AC h m n L a g) (f1 : ∀ o k, 5 ≤ o → o ≤ 14 → ¬ (o = 7 ∧ k = n) → hI h' o k = hI h o k) (f1' : ∀ k, k = 9 ∨ k = 16 ∨ k = 17 → hI h' 4 k = hI h 4 k) (f2 : ∀ o k, o = 11 ∨ o = 12 → hL h' o k = hL h o k) (e2' : m'.2.2 = m.2.2) (f3 : ∀ o k, o = 232 ∨ o = 274 ∨ o = 275 ∨ (o = 226 ∧ k = 10) ∨ ((233 ≤ o ∧ o ≤ 237) ∧ k < g 7 n) → hI m' o k = hI m o k) (f4 : ∀ o k, o = 231 ∨ (o = 236 ∧ k < g 7 n) → hL m' o k = hL m o k)
    (n1 : hI h' 4 1 = nI (n + 1) ∧ hI m' 226 13 = nI (g 7 n + W) ∧ hI h' 4 14 = nI (g 7 n + W)) (n2 : hI h' 4 13 = nI a' ∧ hI m' 226 20 = nI a' ∧ a' % 4 = 0 ∧ a' ≤ 8192 + 8 * (n + 1)) (n3 : IT h' m' g' n) (n4 : ∀ d, d < 16 → hI h' 15 d = nI (g' 8 d % 8192) ∧ hI m' 238 d = nI (g' 8 d) ∧ g' 8 d ≤ 20000)
    (g1 : ∀ F k, F ≤ 4 → k < n → g' F k = g F k) (g2 : ∀ j, g' 5 j = g 5 j ∧ g' 6 j = g 6 j) (g3 : ∀ k, k ≤ n → g' 7 k = g 7 k) (g4 : g' 7 (n + 1) = g 7 n + W) : AC h' m' (n + 1) L a' g' := by
  refine ⟨?_, ?_, n2, fun j hj => ?_, fun k hk => ?_, n4, ?_, ⟨?_, ?_⟩, (g3 0 (by omega)).trans A.g0⟩
  · rw [g4]; exact n1
  · rw [f1' 9 (by omega), f3 226 10 (by omega)]; exact A.lb
  · rw [f2 12 j (by omega), f4 231 j (by omega), f1 13 j (by omega) (by omega) (by omega), f1 14 j (by omega) (by omega) (by omega), f3 232 j (by omega), (g2 j).1, (g2 j).2]; exact A.la j hj
  · by_cases e : k = n
    · rw [e]; exact n3
    · have kn : k < n := by omega
      have I := A.im k kn
      have lim := g7_le A (n - (k + 1)) (k + 1) (by omega)
      unfold IT at I ⊢
      rw [g1 0 k (by omega) kn, g1 1 k (by omega) kn, g1 2 k (by omega) kn, g1 3 k (by omega) kn, g1 4 k (by omega) kn, g3 k (by omega), g3 (k + 1) (by omega), f1 5 k (by omega) (by omega) (by omega), f1 6 k (by omega) (by omega) (by omega), f1 7 k (by omega) (by omega) (by omega), f1 8 k (by omega) (by omega) (by omega), f1 9 k (by omega) (by omega) (by omega), f1 10 k (by omega) (by omega) (by omega), f2 11 k (by omega)]
      obtain ⟨i1, i2, i3, i4, i5, i6⟩ := I
      refine ⟨i1, i2, i3, i4, i5, ?_⟩
      unfold PT at i6 ⊢
      rw [g1 0 k (by omega) kn, g1 2 k (by omega) kn, g1 3 k (by omega) kn, g1 4 k (by omega) kn, g3 k (by omega), f1 8 k (by omega) (by omega) (by omega), f2 11 k (by omega)]
      refine ⟨fun w => ?_, fun w => ?_⟩
      · have lt : g 7 k < g 7 n := by omega
        rw [f3 233 _ (by omega), f3 234 _ (by omega), f3 235 _ (by omega), f3 237 _ (by omega), f4 236 _ (by omega)]
        exact i6.1 w
      · have lt : g 7 k + 1 < g 7 n := by omega
        rw [f3 233 (g 7 k) (by omega), f3 234 (g 7 k) (by omega), f3 235 (g 7 k) (by omega), f3 237 (g 7 k) (by omega), f4 236 (g 7 k) (by omega), f3 233 (g 7 k + 1) (by omega), f3 234 (g 7 k + 1) (by omega), f3 235 (g 7 k + 1) (by omega), f3 237 (g 7 k + 1) (by omega), f4 236 (g 7 k + 1) (by omega)]
        exact i6.2 w
  · rw [f1' 16 (by omega), f1' 17 (by omega)]; exact A.nf
  · exact cst_of A.cs.1 (fun o k q => f3 o k (by omega))
  · intro k hk
    have : hR m' 273 k = hR m 273 k := by show m'.2.2.1 273 k = m.2.2.1 273 k; rw [e2']
    rw [this]; exact A.cs.2 k hk
def gI (g : Gh) (n op pl a nk np W : Nat) : Gh := fun F k => if F = 0 ∧ k = n then op else if F = 1 ∧ k = n then pl else if F = 2 ∧ k = n then a else if F = 3 ∧ k = n then nk else if F = 4 ∧ k = n then np else if F = 7 ∧ k = n + 1 then g 7 n + W else g F k
theorem gI_at (g : Gh) (n op pl a nk np W : Nat) : gI g n op pl a nk np W 0 n = op ∧ gI g n op pl a nk np W 1 n = pl ∧ gI g n op pl a nk np W 2 n = a ∧ gI g n op pl a nk np W 3 n = nk ∧ gI g n op pl a nk np W 4 n = np ∧ gI g n op pl a nk np W 7 n = g 7 n ∧ gI g n op pl a nk np W 7 (n + 1) = g 7 n + W := by
  unfold gI
  refine ⟨?_, ?_, ?_, ?_, ?_, ?_, ?_⟩
  · rw [if_pos (by omega)]
  · rw [if_neg (by omega), if_pos (by omega)]
  · rw [if_neg (by omega), if_neg (by omega), if_pos (by omega)]
  · rw [if_neg (by omega), if_neg (by omega), if_neg (by omega), if_pos (by omega)]
  · rw [if_neg (by omega), if_neg (by omega), if_neg (by omega), if_neg (by omega), if_pos (by omega)]
  · rw [if_neg (by omega), if_neg (by omega), if_neg (by omega), if_neg (by omega), if_neg (by omega), if_neg (by omega)]
  · rw [if_neg (by omega), if_neg (by omega), if_neg (by omega), if_neg (by omega), if_neg (by omega), if_pos (by omega)]
theorem gI_ne {g : Gh} {n op pl a nk np W F k : Nat} (h : ¬ (F ≤ 4 ∧ k = n) ∧ ¬ (F = 7 ∧ k = n + 1)) : gI g n op pl a nk np W F k = g F k := by
  unfold gI
  rw [if_neg (by omega), if_neg (by omega), if_neg (by omega), if_neg (by omega), if_neg (by omega), if_neg (by omega)]
/-- the class lays out an item that has words -/
theorem c_lay {h : AH} (L : LC h) {n a t op nk : Nat} (hn : n < 375) (ha : a < 30000) (ht : t < 2000) (h1 : hI h 4 1 = nI n) (h13 : hI h 4 13 = nI a) (h14 : hI h 4 14 = nI t) (hop : op < 61) (h5 : hI h 5 n = nI op) (h9 : hI h 9 n = nI nk) (hk : nk ≤ 2) (f9 : tForm.getD op 0 ≠ 9) (f10 : tForm.getD op 0 ≠ 10) :
    f_X1_layOut h 4 (mForm.getD op 0) = some (layC h n a t (wds op nk (hL h 11 n))) := by
  obtain ⟨fo, fl'⟩ := form_n op hop
  have W2 := wds_le op nk (hL h 11 n)
  have La : LC (sI h 7 n (nI a)) := L
  have w1 : f_X1_wordsOf (sI h 7 n (nI a)) 4 (nI n) = some (nI (wds op nk (hL h 11 n))) := c_words La hn hop (by rw [x_ne (by omega)]; exact h5) (by rw [x_ne (by omega)]; exact h9) hk
  have Lb : LC (sI (sI h 7 n (nI a)) 4 13 (nI (a + 4 * wds op nk (hL h 11 n)))) := L
  have w2 : f_X1_wordsOf (sI (sI h 7 n (nI a)) 4 13 (nI (a + 4 * wds op nk (hL h 11 n)))) 4 (nI n) = some (nI (wds op nk (hL h 11 n))) := c_words Lb hn hop (by rw [x_ne (by omega), x_ne (by omega)]; exact h5) (by rw [x_ne (by omega), x_ne (by omega)]; exact h9) hk
  unfold f_X1_layOut f_X1_layOut_L122 layC
  generalize wds op nk (hL h 11 n) = W at *
  have Lc : LC (sI (sI (sI h 7 n (nI a)) 4 13 (nI (a + 4 * W))) 4 14 (nI (t + W))) := L
  rw [fo, y_gs, if_pos (lc_S4 L), lc_R4_4 L, y_gs, if_pos (lc_S7 L), lc_N7 L, h1, y_gb, if_pos (q_ib hn (by omega)), q_cl (by omega), h13, y_lt, lc_R4_8 La, y_gs, if_pos (lc_S11 La), lc_N11 La, x_ne (by omega), h1, y_gb, if_pos (q_ib hn (by omega)), q_cl (by omega), y_lt, if_pos (show ¬ nI (tForm.getD op 0) = (9 : Int32) from fun q => f9 ((q_eq (b := 9) (by omega) (by omega)).mp q)), if_pos (show ¬ nI (tForm.getD op 0) = (10 : Int32) from fun q => f10 ((q_eq (b := 10) (by omega) (by omega)).mp q)), w1, y_bds, x_ne (by omega), h13, show (4 : Int32) = nI 4 from rfl, q_mul, q_add, y_lt, x_ne (by omega), x_ne (by omega), h1, w2, y_bds, x_ne (by omega), x_ne (by omega), h14, q_add, y_lt, y_gs, if_pos (lc_S4 Lc), x_ne (by omega), x_ne (by omega), x_ne (by omega), h1, show (1 : Int32) = nI 1 from rfl, q_add, y_lt]
