/-! The class begins anew. -/
def bcell (c o k : Nat) : Prop := (o = 35 + 12 * c ∧ k < 32) ∨ (o = 34 + 12 * c ∧ (k = 3 ∨ k = 4 ∨ k = 8 ∨ k = 9 ∨ (11 ≤ k ∧ k ≤ 15))) ∨ (o = 36 + 12 * c ∧ (k = 1 ∨ k = 2)) ∨ (o = 38 + 12 * c ∧ (k = 4 ∨ k = 5 ∨ k = 6)) ∨ (o = 40 + 12 * c ∧ k < 32) ∨ (o = 43 + 12 * c ∧ k = 1)
def CF (h : AH) (c : Nat) (a1 a2 a3 a4 : Int32) : Prop := (∀ r, r < 32 → hI h (35 + 12 * c) r = 0) ∧ (hI h (34 + 12 * c) 3 = a1 ∧ hI h (34 + 12 * c) 4 = 0) ∧ (hI h (36 + 12 * c) 1 = 0 ∧ hI h (36 + 12 * c) 2 = a2) ∧ (hI h (38 + 12 * c) 4 = a3 ∧ hI h (38 + 12 * c) 5 = a4 ∧ hI h (38 + 12 * c) 6 = 0) ∧ (∀ i, i < 32 → hI h (40 + 12 * c) i = 0) ∧ hI h (43 + 12 * c) 1 = 0 ∧ (hI h (34 + 12 * c) 8 = (-1 : Int32) ∧ hI h (34 + 12 * c) 9 = 0 ∧ hI h (34 + 12 * c) 11 = (-1 : Int32) ∧ hI h (34 + 12 * c) 12 = 0 ∧ hI h (34 + 12 * c) 13 = 0 ∧ hI h (34 + 12 * c) 14 = 0 ∧ hI h (34 + 12 * c) 15 = 0)
theorem c_beginK {h : AH} (L : LC h) {c : Nat} (hc : c < 16) (a1 a2 a3 a4 : Int32) : ∃ h', f_X3_begin h (34 + 12 * c) a1 a2 a3 a4 = some h' ∧ h'.2 = h.2 ∧ (∀ o k, ¬ bcell c o k → hI h' o k = hI h o k) ∧ CF h' c a1 a2 a3 a4 := by
  have L2 : LC (flR h (35 + 12 * c) 32 (0 : Int32)) := LC_2 L rfl
  have L6 : LC (sI (sI (flR h (35 + 12 * c) 32 (0 : Int32)) (34 + 12 * c) 3 a1) (34 + 12 * c) 4 (0 : Int32)) := LC_2 L rfl
  have L9 : LC (sI (sI (sI (sI (flR h (35 + 12 * c) 32 (0 : Int32)) (34 + 12 * c) 3 a1) (34 + 12 * c) 4 (0 : Int32)) (36 + 12 * c) 2 a2) (36 + 12 * c) 1 (0 : Int32)) := LC_2 L rfl
  have L10 : LC (sI (sI (sI (sI (sI (sI (sI (flR h (35 + 12 * c) 32 (0 : Int32)) (34 + 12 * c) 3 a1) (34 + 12 * c) 4 (0 : Int32)) (36 + 12 * c) 2 a2) (36 + 12 * c) 1 (0 : Int32)) (38 + 12 * c) 4 a3) (38 + 12 * c) 5 a4) (38 + 12 * c) 6 (0 : Int32)) := LC_2 L rfl
  have L12 : LC (flR (sI (sI (sI (sI (sI (sI (sI (flR h (35 + 12 * c) 32 (0 : Int32)) (34 + 12 * c) 3 a1) (34 + 12 * c) 4 (0 : Int32)) (36 + 12 * c) 2 a2) (36 + 12 * c) 1 (0 : Int32)) (38 + 12 * c) 4 a3) (38 + 12 * c) 5 a4) (38 + 12 * c) 6 (0 : Int32)) (40 + 12 * c) 32 (0 : Int32)) := LC_2 L rfl
  refine ⟨(sI (sI (sI (sI (sI (sI (sI (sI (flR (sI (sI (sI (sI (sI (sI (sI (flR h (35 + 12 * c) 32 (0 : Int32)) (34 + 12 * c) 3 a1) (34 + 12 * c) 4 (0 : Int32)) (36 + 12 * c) 2 a2) (36 + 12 * c) 1 (0 : Int32)) (38 + 12 * c) 4 a3) (38 + 12 * c) 5 a4) (38 + 12 * c) 6 (0 : Int32)) (40 + 12 * c) 32 (0 : Int32)) (43 + 12 * c) 1 (0 : Int32)) (34 + 12 * c) 8 (-1 : Int32)) (34 + 12 * c) 9 (0 : Int32)) (34 + 12 * c) 11 (-1 : Int32)) (34 + 12 * c) 12 (0 : Int32)) (34 + 12 * c) 13 (0 : Int32)) (34 + 12 * c) 14 (0 : Int32)) (34 + 12 * c) 15 (0 : Int32)), ?_, rfl, fun o k q => ?_, ?_⟩
  · unfold f_X3_begin f_X7_begin f_X2_begin
    rw [y_gs, if_pos (lk_S34 L hc), lk_R34_2 L hc, c_fill53 _ (lk_S35 L hc) (lk_N35 L hc) (by omega), y_bds, y_gs, if_pos (lk_S34 L2 hc), y_lt, y_lt, lk_R34_5 L6 hc, y_gs, if_pos (lk_S36 L6 hc), y_gs, if_pos (lk_S36 L6 hc), y_lt, y_lt, y_bds, y_gs, if_pos (lk_S34 L9 hc), lk_R34_6 L9 hc, y_gs, if_pos (lk_S38 L9 hc), y_gs, if_pos (lk_S38 L9 hc), y_lt, y_lt, y_lt, lk_R38_1 L10 hc, c_fill53 _ (lk_S40 L10 hc) (lk_N40 L10 hc) (by omega), y_bds, y_bds, y_gs, if_pos (lk_S34 L12 hc), lk_R34_7 L12 hc, y_gs, if_pos (lk_S43 L12 hc), y_lt, y_lt, y_lt, y_lt, y_lt, y_lt, y_lt, y_lt]
  · unfold bcell at q
    rw [x_ne (by omega), x_ne (by omega), x_ne (by omega), x_ne (by omega), x_ne (by omega), x_ne (by omega), x_ne (by omega), x_ne (by omega), flR_ne (by omega), x_ne (by omega), x_ne (by omega), x_ne (by omega), x_ne (by omega), x_ne (by omega), x_ne (by omega), x_ne (by omega), flR_ne (by omega)]
  · refine ⟨fun r hr => ?_, ⟨?_, ?_⟩, ⟨?_, ?_⟩, ⟨?_, ?_, ?_⟩, fun r hr => ?_, ?_, ⟨?_, ?_, ?_, ?_, ?_, ?_, ?_⟩⟩
    · rw [x_ne (by omega), x_ne (by omega), x_ne (by omega), x_ne (by omega), x_ne (by omega), x_ne (by omega), x_ne (by omega), x_ne (by omega), flR_ne (by omega), x_ne (by omega), x_ne (by omega), x_ne (by omega), x_ne (by omega), x_ne (by omega), x_ne (by omega), x_ne (by omega), flR_eq hr]
    · rw [x_ne (by omega), x_ne (by omega), x_ne (by omega), x_ne (by omega), x_ne (by omega), x_ne (by omega), x_ne (by omega), x_ne (by omega), flR_ne (by omega), x_ne (by omega), x_ne (by omega), x_ne (by omega), x_ne (by omega), x_ne (by omega), x_ne (by omega), x_eq]
    · rw [x_ne (by omega), x_ne (by omega), x_ne (by omega), x_ne (by omega), x_ne (by omega), x_ne (by omega), x_ne (by omega), x_ne (by omega), flR_ne (by omega), x_ne (by omega), x_ne (by omega), x_ne (by omega), x_ne (by omega), x_ne (by omega), x_eq]
    · rw [x_ne (by omega), x_ne (by omega), x_ne (by omega), x_ne (by omega), x_ne (by omega), x_ne (by omega), x_ne (by omega), x_ne (by omega), flR_ne (by omega), x_ne (by omega), x_ne (by omega), x_ne (by omega), x_eq]
    · rw [x_ne (by omega), x_ne (by omega), x_ne (by omega), x_ne (by omega), x_ne (by omega), x_ne (by omega), x_ne (by omega), x_ne (by omega), flR_ne (by omega), x_ne (by omega), x_ne (by omega), x_ne (by omega), x_ne (by omega), x_eq]
    · rw [x_ne (by omega), x_ne (by omega), x_ne (by omega), x_ne (by omega), x_ne (by omega), x_ne (by omega), x_ne (by omega), x_ne (by omega), flR_ne (by omega), x_ne (by omega), x_ne (by omega), x_eq]
    · rw [x_ne (by omega), x_ne (by omega), x_ne (by omega), x_ne (by omega), x_ne (by omega), x_ne (by omega), x_ne (by omega), x_ne (by omega), flR_ne (by omega), x_ne (by omega), x_eq]
    · rw [x_ne (by omega), x_ne (by omega), x_ne (by omega), x_ne (by omega), x_ne (by omega), x_ne (by omega), x_ne (by omega), x_ne (by omega), flR_ne (by omega), x_eq]
    · rw [x_ne (by omega), x_ne (by omega), x_ne (by omega), x_ne (by omega), x_ne (by omega), x_ne (by omega), x_ne (by omega), x_ne (by omega), flR_eq hr]
    · rw [x_ne (by omega), x_ne (by omega), x_ne (by omega), x_ne (by omega), x_ne (by omega), x_ne (by omega), x_ne (by omega), x_eq]
    · rw [x_ne (by omega), x_ne (by omega), x_ne (by omega), x_ne (by omega), x_ne (by omega), x_ne (by omega), x_eq]
    · rw [x_ne (by omega), x_ne (by omega), x_ne (by omega), x_ne (by omega), x_ne (by omega), x_eq]
    · rw [x_ne (by omega), x_ne (by omega), x_ne (by omega), x_ne (by omega), x_eq]
    · rw [x_ne (by omega), x_ne (by omega), x_ne (by omega), x_eq]
    · rw [x_ne (by omega), x_ne (by omega), x_eq]
    · rw [x_ne (by omega), x_eq]
    · rw [x_eq]
/-- the first j cores have begun -/
def BG (hB hk : AH) (st : Nat → Int32) (a2 a3 a4 : Int32) (j : Nat) : Prop := hk.2 = hB.2 ∧ (∀ o k, (∀ c, c < j → ¬ bcell c o k) → hI hk o k = hI hB o k) ∧ ∀ c, c < j → CF hk c (st c) a2 a3 a4
theorem CF_fr {h h' : AH} {c : Nat} {a1 a2 a3 a4 : Int32} (F : CF h c a1 a2 a3 a4) (e : ∀ o k, 34 + 12 * c ≤ o → o ≤ 45 + 12 * c → hI h' o k = hI h o k) : CF h' c a1 a2 a3 a4 := by
  unfold CF at F ⊢
  rw [e (34 + 12 * c) 3 (by omega) (by omega), e (34 + 12 * c) 4 (by omega) (by omega), e (36 + 12 * c) 1 (by omega) (by omega), e (36 + 12 * c) 2 (by omega) (by omega), e (38 + 12 * c) 4 (by omega) (by omega), e (38 + 12 * c) 5 (by omega) (by omega), e (38 + 12 * c) 6 (by omega) (by omega), e (43 + 12 * c) 1 (by omega) (by omega), e (34 + 12 * c) 8 (by omega) (by omega), e (34 + 12 * c) 9 (by omega) (by omega), e (34 + 12 * c) 11 (by omega) (by omega), e (34 + 12 * c) 12 (by omega) (by omega), e (34 + 12 * c) 13 (by omega) (by omega), e (34 + 12 * c) 14 (by omega) (by omega), e (34 + 12 * c) 15 (by omega) (by omega)]
  obtain ⟨f1, f2, f3, f4, f5, f6⟩ := F
  exact ⟨fun r hr => by rw [e _ r (by omega) (by omega)]; exact f1 r hr, f2, f3, f4, fun r hr => by rw [e _ r (by omega) (by omega)]; exact f5 r hr, f6⟩
theorem bcell_in {c o k : Nat} (h : bcell c o k) : 34 + 12 * c ≤ o ∧ o ≤ 45 + 12 * c := by unfold bcell at h; omega
theorem c_beginL {hB : AH} (L : LC hB) {st : Nat → Int32} {a2 a3 a4 : Int32} (h15 : ∀ c, c < 16 → hI hB 15 c = st c) (h1 : hI hB 32 1 = a2) (h2 : hI hB 32 2 = a3) (h3 : hI hB 32 3 = a4) : ∀ r j f (hk : AH), j + r = 16 → r < f → BG hB hk st a2 a3 a4 j → ∃ h', f_X10_beginAnew_L60 f hk 1 (nI j) = some (sI (sI h' 1 9 (0 : Int32)) 1 10 (0 : Int32)) ∧ BG hB h' st a2 a3 a4 16 := by
  intro r
  induction r with
  | zero =>
    intro j f hk e hf M
    obtain ⟨f, rfl⟩ : ∃ q, f = q + 1 := ⟨f - 1, by omega⟩
    have : j = 16 := by omega
    subst this
    have Lk : LC hk := LC_2 L (by rw [M.1])
    refine ⟨hk, ?_, M⟩
    rw [f_X10_beginAnew_L60, if_pos (show (16 : Int32) ≤ nI 16 from by decide), y_gs, if_pos (lc_S1 Lk), y_lt, y_lt]
  | succ r ih =>
    intro j f hk e hf M
    obtain ⟨f, rfl⟩ : ∃ q, f = q + 1 := ⟨f - 1, by omega⟩
    have Lk : LC hk := LC_2 L (by rw [M.1])
    have lo : ∀ o k, o < 34 → hI hk o k = hI hB o k := fun o k q => M.2.1 o k (fun c _ w => by have := bcell_in w; omega)
    obtain ⟨c4a, c4b, c4c⟩ := c_cores Lk (c := j) (by omega)
    obtain ⟨h', b1, b2, b3, b4⟩ := c_beginK Lk (c := j) (by omega) (st j) a2 a3 a4
    rw [f_X10_beginAnew_L60, if_neg (show ¬ (16 : Int32) ≤ nI j from fun q => by have := (q_le (a := 16) (by omega) (by omega)).mp q; omega), y_gs, if_pos (lc_S1 Lk), y_gs, if_pos c4a, y_gb, if_pos c4b, c4c, lc_R1_1 Lk, y_gs, if_pos (lc_S4 Lk), lc_R4_15 Lk, y_gs, if_pos (lc_S15 Lk), lc_N15 Lk, y_gb, if_pos (q_ib (by omega) (by omega)), lc_R1_5 Lk, y_gs, if_pos (lc_S32 Lk), lc_N32 Lk, y_gb, if_pos (show ib (1 : Int32) 6 = true from by decide), y_gb, if_pos (show ib (2 : Int32) 6 = true from by decide), y_gb, if_pos (show ib (3 : Int32) 6 = true from by decide), y_gs, if_pos (lk_S34 Lk (by omega)), q_cl (by omega), lo 15 j (by omega), h15 j (by omega), show (1 : Int32).toNatClampNeg = 1 from by decide, show (2 : Int32).toNatClampNeg = 2 from by decide, show (3 : Int32).toNatClampNeg = 3 from by decide, lo 32 1 (by omega), lo 32 2 (by omega), lo 32 3 (by omega), h1, h2, h3, b1, y_bds, q_add1, y_lt]
    refine ih (j + 1) f h' (by omega) (by omega) ⟨b2.trans M.1, fun o k q => ?_, fun c hc => ?_⟩
    · rw [b3 o k (q j (by omega))]; exact M.2.1 o k (fun c hc => q c (by omega))
    · by_cases ec : c = j
      · subst ec; exact b4
      · exact CF_fr (M.2.2 c (by omega)) (fun o k w1 w2 => b3 o k (fun w => by have := bcell_in w; omega))
