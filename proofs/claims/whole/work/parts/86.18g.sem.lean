theorem div32 {c i : Nat} (hi : i < 32) : (32 * c + i) / 32 = c := by omega
theorem c_use {h : AH} {s : St} (R : RC h s) {c i : Nat} (hc : c < 16) (hi : i < 32) : ∃ h', f_X2_use h (38 + 12 * c) (nI i) = some h' ∧ RC h' (sUse s (32 * c + i)) ∧ FrK h h' c := by
  have L := RC_L R
  obtain ⟨k1, k2, k3, k4, k5, k6, k7, k8, k9, k10⟩ := R.2.2.1 c hc
  unfold f_X2_use
  simp (disch := omega) only [↓y_gs, ↓y_gb, ↓y_lt, ↓y_bds, q_lit, q_cl, q_ib, q_add, q_mul, ↓reduceIte, decide_true, Nat.reduceAdd, Nat.reduceMul, x_hI_sI, x_hR_sI, x_hS_sI, x_hN_sI, lk_S38 L hc, lk_R38_2 L hc, lk_S41 L hc, lk_N41 L hc, k3, and_self]
  have F : FrK h (sI (sI h (38 + 12 * c) 6 (nI (N s 22 c + 1))) (41 + 12 * c) i (nI (N s 22 c + 1))) c := FrK_sI (FrK_sI (FrK_rfl h c) _ (by omega)) _ (by omega)
  refine ⟨_, rfl, RC_K R hc F ?_ (fun G j => Or.inl rfl) rfl rfl ?_ ?_, F⟩
  · intro G j
    unfold sUse; rw [div32 hi]; simp only [N_uN]
    (repeat' split) <;> omega
  · unfold sUse
    rw [div32 hi]
    refine ⟨?_, ?_, ?_, ?_, ?_, ?_, ?_, ?_, ?_⟩
    · rw [x_ne (by omega), x_eq, N_ne (by omega), N_eq]
    · rw [x_ne (by omega), x_ne (by omega)]; exact k5
    · rw [x_ne (by omega), x_ne (by omega)]; exact k6
    · rw [x_ne (by omega), x_ne (by omega)]; exact k7
    · rw [x_ne (by omega), x_ne (by omega)]; exact k8
    · rw [x_ne (by omega), x_ne (by omega)]; exact k9
    · intro j hj; rw [x_ne (by omega), x_ne (by omega)]; exact k10 j hj
    · rw [x_ne (by omega), x_ne (by omega)]
    · rw [x_ne (by omega), x_ne (by omega)]
  · intro i' hi'
    obtain ⟨d1, d2, d3, d4⟩ := R.2.2.2.1 c i' hc hi'
    unfold sUse
    rw [div32 hi]
    refine ⟨?_, ?_, ?_, ?_⟩
    · rw [x_ne (by omega), x_ne (by omega)]; exact d1
    · rw [x_ne (by omega), x_ne (by omega)]; exact d2
    · by_cases e : i' = i
      · subst e; rw [x_eq, N_eq]
      · rw [x_ne (by omega), x_ne (by omega), N_ne (by omega), N_ne (by omega), N_ne (by omega), N_ne (by omega)]; exact d3
    · intro j hj; rw [x_ne (by omega), x_ne (by omega)]; exact d4 j hj
theorem cpok_t {sp dp n n0 n1 : Nat} (h1 : sp + n ≤ n0) (h2 : dp + n ≤ n1) (h3 : n0 < 2 ^ 31) (h4 : n1 < 2 ^ 31) : cpok (nI sp) (nI dp) (nI n) n0 n1 = true := by
  unfold cpok
  rw [q_cl (by omega), q_cl (by omega), q_cl (by omega)]
  have z : ∀ a, a < 2 ^ 31 → decide (¬ nI a < (0 : Int32)) = true := fun a ha => decide_eq_true (by rw [show (0 : Int32) = nI 0 from rfl, q_lt ha (by omega)]; omega)
  rw [z sp (by omega), z dp (by omega), z n (by omega), show decide (sp + n ≤ n0) = true from decide_eq_true h1, show decide (dp + n ≤ n1) = true from decide_eq_true h2]; rfl
/-- a line comes into slot i of core c from four words of a row -/
theorem c_put22 {h : AH} {s : St} (R : RC h s) {c i l v from_ at_ : Nat} {w : W4} (hc : c < 16) (hi : i < 32) (hv : v ≠ 0) (hf : hS h from_ = 21) (hfl : at_ + 4 ≤ hN h from_) (hfn : hN h from_ < 2 ^ 31) (hfo : from_ ≤ 33 ∨ 225 < from_) (hw : ∀ j, j < 4 → hI h from_ (at_ + j) = w4 w j) :
    ∃ h', f_X2_put_L22 h (38 + 12 * c) (nI l) (nI v) from_ (nI at_) (nI i) = some h' ∧ RC h' (sUse (uW (uN (uN s 1 (32 * c + i) l) 2 (32 * c + i) v) 4 (32 * c + i) w) (32 * c + i)) ∧ FrK h h' c := by
  have L := RC_L R
  obtain ⟨k1, k2, k3, k4, k5, k6, k7, k8, k9, k10⟩ := R.2.2.1 c hc
  unfold f_X2_put_L22
  have e39 : ¬ from_ = 39 + 12 * c := by omega
  have e40 : ¬ from_ = 40 + 12 * c := by omega
  simp (disch := omega) only [↓y_gs, ↓y_gb, ↓y_lt, ↓y_bds, q_lit, q_cl, q_ib, q_add, q_mul, ↓reduceIte, decide_true, Nat.reduceAdd, Nat.reduceMul, x_hI_sI, x_hR_sI, x_hS_sI, x_hN_sI, lk_S38 L hc, lk_R38_0 L hc, lk_S39 L hc, lk_N39 L hc, lk_R38_1 L hc, lk_S40 L hc, lk_N40 L hc, lk_R38_3 L hc, lk_S42 L hc, lk_N42 L hc, hf, cpok_t]
  generalize hcp : va_cpy (hI (sI (sI h (39 + 12 * c) i (nI l)) (40 + 12 * c) i (nI v)) from_) (hI (sI (sI h (39 + 12 * c) i (nI l)) (40 + 12 * c) i (nI v)) (42 + 12 * c)) at_ (i * 4) 4 = g
  have hg : ∀ q, g q = if i * 4 ≤ q ∧ q < i * 4 + 4 then w4 w (q - i * 4) else hI h (42 + 12 * c) q := by
    intro q
    rw [← hcp]; unfold va_cpy
    split
    · rw [x_ne (by omega), x_ne (by omega)]; exact hw _ (by omega)
    · rw [x_ne (by omega), x_ne (by omega)]
  have F : FrK h (sA (sI (sI h (39 + 12 * c) i (nI l)) (40 + 12 * c) i (nI v)) (42 + 12 * c) g) c := FrK_sA (FrK_sI (FrK_sI (FrK_rfl h c) _ (by omega)) _ (by omega)) _ (by omega)
  have R1 : RC (sA (sI (sI h (39 + 12 * c) i (nI l)) (40 + 12 * c) i (nI v)) (42 + 12 * c) g) (uW (uN (uN s 1 (32 * c + i) l) 2 (32 * c + i) v) 4 (32 * c + i) w) := by
    refine RC_K R hc F ?_ ?_ rfl rfl ?_ ?_
    · intro G j
      simp only [N_uN, N_uW]
      (repeat' split) <;> omega
    · intro G j
      rw [W_uW]
      split
      · omega
      · exact Or.inl rfl
    · refine ⟨?_, ?_, ?_, ?_, ?_, ?_, ?_, ?_, ?_⟩
      · rw [x_neA (by omega), x_ne (by omega), x_ne (by omega)]; exact k3
      · rw [x_neA (by omega), x_ne (by omega), x_ne (by omega)]; exact k5
      · rw [x_neA (by omega), x_ne (by omega), x_ne (by omega)]; exact k6
      · rw [x_neA (by omega), x_ne (by omega), x_ne (by omega)]; exact k7
      · rw [x_neA (by omega), x_ne (by omega), x_ne (by omega)]; exact k8
      · rw [x_neA (by omega), x_ne (by omega), x_ne (by omega)]; exact k9
      · intro j hj; rw [x_neA (by omega), x_ne (by omega), x_ne (by omega)]; exact k10 j hj
      · rw [x_neA (by omega), x_ne (by omega), x_ne (by omega)]
      · rw [x_neA (by omega), x_ne (by omega), x_ne (by omega)]
    · intro i' hi'
      obtain ⟨d1, d2, d3, d4⟩ := R.2.2.2.1 c i' hc hi'
      by_cases e : i' = i
      · subst e
        refine ⟨?_, ?_, ?_, ?_⟩
        · rw [x_neA (by omega), x_eq, N_uW, N_eq]
        · intro _; rw [x_neA (by omega), x_ne (by omega), x_eq, N_uW, N_ne (by omega), N_eq]
        · rw [x_neA (by omega), x_ne (by omega), x_ne (by omega)]; exact d3
        · intro j hj; rw [x_eqA, hg, if_pos (by omega), W_uW, if_pos ⟨rfl, rfl⟩, show 4 * i' + j - i' * 4 = j by omega]
      · refine ⟨?_, ?_, ?_, ?_⟩
        · rw [x_neA (by omega), x_ne (by omega), x_ne (by omega), N_uW, N_ne (by omega), N_ne (by omega)]; exact d1
        · rw [x_neA (by omega), x_ne (by omega), x_ne (by omega), N_uW, N_ne (by omega), N_ne (by omega), N_uW, N_ne (by omega), N_ne (by omega)]; exact d2
        · rw [x_neA (by omega), x_ne (by omega), x_ne (by omega)]; exact d3
        · intro j hj; rw [x_eqA, hg, if_neg (by omega), W_ne (by omega)]; exact d4 j hj
  obtain ⟨h', e', R', F'⟩ := c_use R1 hc hi
  rw [e']
  exact ⟨h', rfl, R', FrK_tr F F'⟩
