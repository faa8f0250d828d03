/-! An item laid out in both. -/
theorem c_words {h : AH} (L : LC h) {k op nk : Nat} (hk : k < 375) (hop : op < 61) (h5 : hI h 5 k = nI op) (h9 : hI h 9 k = nI nk) (hn : nk ≤ 2) : f_X1_wordsOf h 4 (nI k) = some (nI (wds op nk (hL h 11 k))) := by
  obtain ⟨fo, fl'⟩ := form_n op hop
  unfold f_X1_wordsOf f_X1_wordsOf_L55 f_X1_wordsOf_L56
  rw [y_gs, if_pos (lc_S4 L), lc_R4_2 L, y_gs, if_pos (lc_S5 L), lc_N5 L, y_gb, if_pos (q_ib hk (by omega)), q_cl (show k < 2 ^ 31 by omega), h5, y_gb, if_pos (q_ib hop (by omega)), q_cl (show op < 2 ^ 31 by omega), y_gb, if_pos (decide_eq_true hop), fo, y_lt, lc_R4_6 L, y_gs, if_pos (lc_S9 L), lc_N9 L, y_gb, if_pos (q_ib hk (by omega)), h9, lc_R4_8 L, y_gs, if_pos (lc_S11 L), lc_N11 L, y_gb, if_pos (q_ib hk (by omega)), show f_X1_fits h (1 : Int32) (hL h 11 k) = some (if fitB 1 (hL h 11 k) = true then 1 else 0) from c_fits h (form := 1) (by omega) _, y_bds, if_neg (show ¬ ¬ (0 : Int32) = 0 from fun q => q rfl), if_pos (show ¬ (1 : Int32) = 0 from by decide)]
  have q9 : nI (tForm.getD op 0) = (9 : Int32) ↔ tForm.getD op 0 = 9 := q_eq (b := 9) (by omega) (by omega)
  have q10 : nI (tForm.getD op 0) = (10 : Int32) ↔ tForm.getD op 0 = 10 := q_eq (b := 10) (by omega) (by omega)
  have q7 : nI (tForm.getD op 0) = (7 : Int32) ↔ tForm.getD op 0 = 7 := q_eq (b := 7) (by omega) (by omega)
  have n1 : nI nk = (1 : Int32) ↔ nk = 1 := q_eq (b := 1) (by omega) (by omega)
  simp only [q9, q10, q7, n1]
  unfold wds
  by_cases w9 : tForm.getD op 0 = 9
  · rw [if_pos w9, if_pos (Or.inl w9)]; rfl
  rw [if_neg w9]
  by_cases w10 : tForm.getD op 0 = 10
  · rw [if_neg (fun q => q w10), if_pos (Or.inr w10)]; rfl
  rw [if_pos w10, if_neg (show ¬ (tForm.getD op 0 = 9 ∨ tForm.getD op 0 = 10) from fun q => q.elim w9 w10)]
  by_cases g1 : nk = 1
  · rw [if_neg (show ¬ ¬ nk = 1 from fun q => q g1)]
    by_cases g2 : fitB 1 (hL h 11 k) = true
    · rw [if_pos g2, if_neg (show ¬ (1 : Int32) = 0 from by decide), if_neg (show ¬ (tForm.getD op 0 = 7 ∧ ¬ (nk = 1 ∧ fitB 1 (hL h 11 k) = true)) from fun q => q.2 ⟨g1, g2⟩)]
      split <;> rfl
    · rw [if_neg g2, if_pos (show (0 : Int32) = 0 from rfl)]
      by_cases w7 : tForm.getD op 0 = 7
      · rw [if_neg (show ¬ ¬ tForm.getD op 0 = 7 from fun q => q w7), if_pos (show tForm.getD op 0 = 7 ∧ ¬ (nk = 1 ∧ fitB 1 (hL h 11 k) = true) from ⟨w7, fun q => g2 q.2⟩)]; rfl
      · rw [if_pos w7, if_neg (show ¬ (tForm.getD op 0 = 7 ∧ ¬ (nk = 1 ∧ fitB 1 (hL h 11 k) = true)) from fun q => w7 q.1)]; rfl
  · rw [if_pos g1]
    by_cases w7 : tForm.getD op 0 = 7
    · rw [if_neg (show ¬ ¬ tForm.getD op 0 = 7 from fun q => q w7), if_pos (show tForm.getD op 0 = 7 ∧ ¬ (nk = 1 ∧ fitB 1 (hL h 11 k) = true) from ⟨w7, fun q => g1 q.1⟩)]; rfl
    · rw [if_pos w7, if_neg (show ¬ (tForm.getD op 0 = 7 ∧ ¬ (nk = 1 ∧ fitB 1 (hL h 11 k) = true)) from fun q => w7 q.1)]; rfl
/-- the reference's tail of an instruction -/
def trl (q : AH) (a0 : Nat) (x5 x9 : Int32) : Option (Int32 × AH) :=
  gs q a0 10 <|
  gs q (hR q a0 69) 21 <|
  gb (ib x9 (hN q (hR q a0 69))) <|
  if ¬ (hI q (hR q a0 69) x9.toNatClampNeg) = (15 : Int32) then
    gb (ib x9 (hN q (hR q a0 69))) <|
    if ¬ (hI q (hR q a0 69) x9.toNatClampNeg) = (16 : Int32) then
      f_X11_readStatement_L363 q a0 x5 x9
    else
      if 0 ≤ (lg_cmp (hL q a0 72) (16 : Int64)) then
        f_X11_readStatement_L363 q a0 x5 x9
      else
        gs q (hR q a0 19) 21 <|
        gb (ib ((hL q a0 72).toInt32) (hN q (hR q a0 19))) <|
        lt (sI q (hR q a0 19) ((hL q a0 72).toInt32).toNatClampNeg (hI q a0 20)) fun h35 =>
        f_X11_readStatement_L402 h35 a0
  else
    if (lg_cmp (hL q a0 72) (0 : Int64)) < 0 then
      f_X11_readStatement_L315 q a0 a0
    else
      if 0 < (lg_cmp (hL q a0 72) (8188 : Int64)) then
        f_X11_readStatement_L315 q a0 a0
      else
        if ¬ (lg_cmp ((hL q a0 72) - (hL q a0 72) / (4 : Int64) * (4 : Int64)) (0 : Int64)) = 0 then
          f_X11_readStatement_L315 q a0 a0
        else
          f_X11_readStatement_L318 q a0 a0 (hL q a0 72).toInt32
/-- the class's heap behind an item of W words -/
def layC (h : AH) (n a t W : Nat) : AH := sI (sI (sI (sI h 7 n (nI a)) 4 13 (nI (a + 4 * W))) 4 14 (nI (t + W))) 4 1 (nI (n + 1))
theorem i64_nat {z : Int64} {K : Nat} (hK : K < 2 ^ 31) (h0 : ¬ z < 0) (h1 : ¬ Int64.ofNat K < z) : ∃ a, a ≤ K ∧ z = Int64.ofNat a ∧ z.toInt32 = nI a := by
  have z0 : 0 ≤ z.toInt := by
    have := Int64.not_lt.mp h0
    exact Int64.le_iff_toInt_le.mp this
  have zk : z.toInt ≤ K := by
    have := Int64.le_iff_toInt_le.mp (Int64.not_lt.mp h1)
    rw [Int64.toInt_ofNat_of_lt (by omega)] at this; exact this
  refine ⟨z.toInt.toNat, by omega, ?_, ?_⟩
  · apply Int64.toInt_inj.mp
    rw [Int64.toInt_ofNat_of_lt (by omega)]; omega
  · have e : z = Int64.ofNat z.toInt.toNat := by
      apply Int64.toInt_inj.mp
      rw [Int64.toInt_ofNat_of_lt (by omega)]; omega
    rw [e]
    apply Int32.toInt_inj.mp
    have b : (Int64.ofNat z.toInt.toNat).toInt = z.toInt.toNat := Int64.toInt_ofNat_of_lt (by omega)
    rw [Int64.toInt_toInt32, b, q_toInt (by omega), Int.bmod_eq_of_le] <;> omega
