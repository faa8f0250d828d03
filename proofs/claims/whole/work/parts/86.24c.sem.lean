/-! Registers. -/
theorem i64_120 (x : Int64) : x = (120 : Int64) ↔ x.toBitVec.toNat = 120 := by
  constructor
  · intro h; rw [h]; rfl
  · intro h
    have : x.toBitVec = (120 : Int64).toBitVec := BitVec.eq_of_toNat_eq (by rw [h]; rfl)
    exact Int64.toBitVec_inj.mp this
theorem lsr120 (v : Int64) : (jlushr v (8 : Int32) = (120 : Int64) ↔ v.toBitVec.toNat / 2 ^ 8 = 120) ∧ (jlushr v (16 : Int32) = (120 : Int64) ↔ v.toBitVec.toNat / 2 ^ 16 = 120) := by
  have g : ∀ k : Nat, k < 64 → ∀ y : Int32, y.toInt64.toUInt64 &&& Int64.toUInt64 63 = UInt64.ofNat k → ((UInt64.ofNat k).toBitVec % 64).toNat = k → (jlushr v y = (120 : Int64) ↔ v.toBitVec.toNat / 2 ^ k = 120) := by
    intro k hk y h1 h2
    rw [i64_120]
    unfold jlushr
    rw [h1, UInt64.toBitVec_toInt64, UInt64.toBitVec_shiftRight, Int64.toBitVec_toUInt64, BitVec.ushiftRight_eq', BitVec.toNat_ushiftRight, h2, Nat.shiftRight_eq_div_pow]
  exact ⟨g 8 (by omega) 8 (by decide) (by decide), g 16 (by omega) 16 (by decide) (by decide)⟩
theorem asr120 (v : Int64) : ((v >>> ((8 : Int32).toInt64 &&& 63)) = (120 : Int64) ↔ v.toBitVec.toNat / 2 ^ 8 = 120) ∧ ((v >>> ((16 : Int32).toInt64 &&& 63)) = (120 : Int64) ↔ v.toBitVec.toNat / 2 ^ 16 = 120) := by
  have g : ∀ k : Nat, k ≤ 16 → ∀ y : Int64, (y.toBitVec.smod 64).toNat = k → ((v >>> y) = (120 : Int64) ↔ v.toBitVec.toNat / 2 ^ k = 120) := by
    intro k hk y h1
    rw [i64_120, Int64.toBitVec_shiftRight]
    show (v.toBitVec.sshiftRight (y.toBitVec.smod 64).toNat).toNat = 120 ↔ _
    rw [h1]
    have p : 2 ^ k ≤ 2 ^ 16 := Nat.pow_le_pow_right (by omega) hk
    cases hm : v.toBitVec.msb
    · rw [BitVec.sshiftRight_eq_of_msb_false hm, BitVec.toNat_ushiftRight, Nat.shiftRight_eq_div_pow]
    · have big : 2 ^ 63 ≤ v.toBitVec.toNat := by
        rw [BitVec.msb_eq_decide] at hm
        exact of_decide_eq_true hm
      constructor
      · intro h
        exfalso
        have m2 : (v.toBitVec.sshiftRight k).msb = true := by rw [BitVec.msb_sshiftRight]; exact hm
        rw [BitVec.msb_eq_decide] at m2
        have := of_decide_eq_true m2
        omega
      · intro h
        exfalso
        have : v.toBitVec.toNat < 121 * 2 ^ k := by
          have := Nat.lt_mul_of_div_lt (show v.toBitVec.toNat / 2 ^ k < 121 by omega) (Nat.two_pow_pos k)
          omega
        have : 121 * 2 ^ k ≤ 121 * 2 ^ 16 := Nat.mul_le_mul_left _ p
        omega
  exact ⟨g 8 (by omega) _ (by decide), g 16 (by omega) _ (by decide)⟩
theorem o64 (n : Nat) (hn : n < 256) : ∀ i, i < 64 → (Int64.ofNat n).toBitVec.getLsbD i = n.testBit i := by
  intro i hi
  show (BitVec.ofNat 64 n).getLsbD i = _
  rw [BitVec.getLsbD_ofNat]; simp [hi]
theorem b255' : ∀ i, i < 64 → (255 : Int64).toBitVec.getLsbD i = decide (i < 8) := by decide +kernel
theorem and255 (x : Int64) {n : Nat} (hn : n < 256) (h : ∀ i, i < 8 → x.toBitVec.getLsbD i = n.testBit i) : x &&& (255 : Int64) = Int64.ofNat n := by
  apply Int64.toBitVec_inj.mp
  apply BitVec.eq_of_getLsbD_eq
  intro i hi
  rw [Int64.toBitVec_and, BitVec.getLsbD_and, b255' i hi, o64 n hn i hi]
  by_cases g : i < 8
  · rw [h i g, decide_eq_true g, Bool.and_true]
  · rw [decide_eq_false g, Bool.and_false]
    refine (Nat.testBit_lt_two_pow (Nat.lt_of_lt_of_le hn ?_)).symm
    exact Nat.pow_le_pow_right (n := 2) (i := 8) (by omega) (by omega)
theorem chr_tb (v : Int64) {k i : Nat} (hi : i < 8) : (chr v k).testBit i = v.toBitVec.getLsbD (8 * k + i) := by
  unfold chr
  rw [Nat.testBit_mod_two_pow, BitVec.testBit_toNat, BitVec.getLsbD_ushiftRight]; simp [hi]
theorem a255_0 (v : Int64) : v &&& (255 : Int64) = Int64.ofNat (chr v 0) := and255 v (chr_lt v 0) (fun i hi => by rw [chr_tb v hi]; simp)
theorem a255_1 (v : Int64) : (v >>> ((8 : Int32).toInt64 &&& 63)) &&& (255 : Int64) = Int64.ofNat (chr v 1) := and255 _ (chr_lt v 1) (fun i hi => by
  rw [chr_tb v hi, Int64.toBitVec_shiftRight, BitVec.getLsbD_sshiftRight', show (((8 : Int32).toInt64 &&& 63).toBitVec.smod 64).toNat = 8 from by decide]
  simp [show ¬ 64 ≤ i by omega, show 8 + i < 64 by omega])
theorem l255_1 (v : Int64) : (jlushr v (8 : Int32)) &&& (255 : Int64) = Int64.ofNat (chr v 1) := and255 _ (chr_lt v 1) (fun i hi => by
  rw [chr_tb v hi]
  have := lus_bt v (k := 1) (i := i) (by omega)
  exact this)
theorem to32 : ∀ n, n < 256 → (Int64.ofNat n).toInt32 = nI n := by decide +kernel
/-- which register a name tells -/
def rgO (v : Int64) : Option Nat :=
  if 48 ≤ chr v 0 ∧ chr v 0 ≤ 57 then (if v.toBitVec.toNat / 2 ^ 8 = 120 then some (chr v 0 - 48) else if v.toBitVec.toNat / 2 ^ 16 = 120 ∧ 49 ≤ chr v 1 ∧ chr v 1 ≤ 51 ∧ 10 * (chr v 1 - 48) + (chr v 0 - 48) ≤ 31 then some (10 * (chr v 1 - 48) + (chr v 0 - 48)) else none) else none
theorem rgO_lt {v : Int64} {r : Nat} (h : rgO v = some r) : r < 32 := by
  unfold rgO at h
  split at h
  · split at h
    · cases h; omega
    · split at h
      · cases h; omega
      · cases h
  · cases h
theorem m48 : ∀ n, n < 256 → (nI n - (48 : Int32) < 0 ↔ n < 48) ∧ (nI n - (48 : Int32) ≤ (9 : Int32) ↔ n ≤ 57) ∧ (nI n - (48 : Int32) = (1 : Int32) ↔ n = 49) ∧ (nI n - (48 : Int32) = (2 : Int32) ↔ n = 50) ∧ (nI n - (48 : Int32) = (3 : Int32) ↔ n = 51) ∧ ((2 : Int32) ≤ nI n - (48 : Int32) ↔ 50 ≤ n) := by decide +kernel
theorem c_regOf (h : AH) (v : Int64) : f_X1_registerOf h v = some (oI (rgO v)) := by
  have a0 := chr_lt v 0
  have a1 := chr_lt v 1
  obtain ⟨x1, x2, _, _, _, x6⟩ := m48 _ a0
  obtain ⟨_, _, y3, y4, y5, _⟩ := m48 _ a1
  unfold f_X1_registerOf f_X1_registerOf_L83 f_X1_registerOf_L79 f_X1_registerOf_L84
  rw [a255_0, to32 _ a0, l255_1, to32 _ a1, y_lt, y_lt, if_pos (show (0 : Int32) = 0 from rfl), if_neg (show ¬ (1 : Int32) = 0 from by decide)]
  simp only [lg_0, lsr120, x1, x2, y3, y4, y5, x6]
  unfold rgO
  by_cases g1 : chr v 0 < 48
  · rw [if_pos g1, if_neg (by omega)]; rfl
  rw [if_neg g1]
  by_cases g2 : chr v 0 ≤ 57
  · rw [if_pos g2, if_pos (show 48 ≤ chr v 0 ∧ chr v 0 ≤ 57 from ⟨by omega, g2⟩)]
    have s0 : nI (chr v 0) - (48 : Int32) = nI (chr v 0 - 48) := by rw [show (48 : Int32) = nI 48 from rfl, q_sub (by omega)]
    by_cases g3 : v.toBitVec.toNat / 2 ^ 8 = 120
    · rw [if_neg (fun q => q g3), if_pos g3, s0]; rfl
    · rw [if_pos g3, if_neg g3]
      by_cases g4 : v.toBitVec.toNat / 2 ^ 16 = 120
      · rw [if_neg (fun q => q g4)]
        have s1 : 49 ≤ chr v 1 → (10 : Int32) * (nI (chr v 1) - (48 : Int32)) + (nI (chr v 0) - (48 : Int32)) = nI (10 * (chr v 1 - 48) + (chr v 0 - 48)) := fun q => by
          rw [s0, show (48 : Int32) = nI 48 from rfl, q_sub (by omega), show (10 : Int32) = nI 10 from rfl, q_mul, q_add]
        by_cases g5 : chr v 1 = 49
        · rw [if_pos g5, s1 (by omega), if_pos (by omega)]; rfl
        · rw [if_neg g5]
          by_cases g6 : chr v 1 = 50
          · rw [if_pos g6, s1 (by omega), if_pos (by omega)]; rfl
          · rw [if_neg g6]
            by_cases g7 : chr v 1 = 51
            · rw [if_neg (fun q => q g7)]
              by_cases g8 : 50 ≤ chr v 0
              · rw [if_pos g8, if_neg (by omega)]; rfl
              · rw [if_neg g8, s1 (by omega), if_pos (by omega)]; rfl
            · rw [if_pos g7, if_neg (by omega)]; rfl
      · rw [if_pos g4, if_neg (fun q => g4 q.1)]; rfl
  · rw [if_neg g2, if_neg (by omega)]; rfl
