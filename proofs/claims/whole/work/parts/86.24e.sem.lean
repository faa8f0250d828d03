/-! What fits. -/
theorem rem64 (a : Int64) {j : Nat} (hj : j ≤ 2) : (a - a / Int64.ofNat (2 ^ j) * Int64.ofNat (2 ^ j) = 0) ↔ (a &&& Int64.ofNat (2 ^ j - 1) = 0) := by
  have p1 : 0 < 2 ^ j := Nat.two_pow_pos j
  have p2 : 2 ^ j ≤ 2 ^ 2 := Nat.pow_le_pow_right (by omega) hj
  have m : (a &&& Int64.ofNat (2 ^ j - 1)).toBitVec.toNat = a.toBitVec.toNat % 2 ^ j := by
    rw [Int64.toBitVec_and, BitVec.toNat_and]
    show _ &&& (BitVec.ofNat 64 (2 ^ j - 1)).toNat = _
    rw [BitVec.toNat_ofNat, Nat.mod_eq_of_lt (a := 2 ^ j - 1) (by omega), Nat.and_two_pow_sub_one_eq_mod]
  have e1 : (a &&& Int64.ofNat (2 ^ j - 1) = 0) ↔ a.toBitVec.toNat % 2 ^ j = 0 := by
    rw [← m]
    constructor
    · intro h; rw [h]; rfl
    · intro h
      rw [← Int64.toBitVec_inj]
      exact BitVec.eq_of_toNat_eq h
  have e2 : a.toBitVec.toNat % 2 ^ j = 0 ↔ a.toInt % (2 ^ j : Nat) = 0 := by
    have t : a.toInt = if 2 * a.toBitVec.toNat < 2 ^ 64 then (a.toBitVec.toNat : Int) else (a.toBitVec.toNat : Int) - (2 ^ 64 : Nat) := BitVec.toInt_eq_toNat_cond a.toBitVec
    have d : (2 ^ 64 : Nat) % 2 ^ j = 0 := by
      have : j = 0 ∨ j = 1 ∨ j = 2 := by omega
      rcases this with rfl | rfl | rfl <;> rfl
    rw [t]
    have : j = 0 ∨ j = 1 ∨ j = 2 := by omega
    rcases this with rfl | rfl | rfl <;> split <;> omega
  rw [e1, e2]
  have hd : (Int64.ofNat (2 ^ j)).toInt = (2 ^ j : Nat) := Int64.toInt_ofNat_of_lt (by omega)
  have hz : a / Int64.ofNat (2 ^ j) * Int64.ofNat (2 ^ j) = a ↔ a.toInt % (2 ^ j : Nat) = 0 := by
    have dv : (a / Int64.ofNat (2 ^ j)).toInt = a.toInt.tdiv (2 ^ j : Nat) := by
      rw [Int64.toInt_div_of_ne_right, hd]
      intro h
      have := congrArg Int64.toInt h
      rw [hd] at this
      have h2 : (-1 : Int64).toInt = -1 := by decide
      omega
    have rb : ∃ r : Int, a.toInt.tmod (2 ^ j : Nat) = r ∧ (0 ≤ a.toInt → 0 ≤ r) ∧ (a.toInt ≤ 0 → r ≤ 0) ∧ r < (2 ^ j : Nat) ∧ -((2 ^ j : Nat) : Int) < r := by
      refine ⟨_, rfl, fun h => Int.tmod_nonneg _ h, fun h => ?_, Int.tmod_lt_of_pos _ (by omega), Int.lt_tmod_of_pos _ (by omega)⟩
      have := Int.tmod_nonneg (a := -a.toInt) ((2 ^ j : Nat) : Int) (by omega)
      rw [Int.neg_tmod] at this; omega
    obtain ⟨r, hr, r1, r2, r3, r4⟩ := rb
    have b1 := Int.mul_tdiv_add_tmod a.toInt (2 ^ j : Nat)
    rw [hr] at b1
    generalize hq : a.toInt.tdiv (2 ^ j : Nat) = q at *
    have lo : -9223372036854775808 ≤ a.toInt := Int64.le_toInt a
    have hi : a.toInt < 9223372036854775808 := Int64.toInt_lt a
    have key : (a / Int64.ofNat (2 ^ j) * Int64.ofNat (2 ^ j)).toInt = q * (2 ^ j : Nat) := by
      rw [Int64.toInt_mul, dv, hd]
      have : j = 0 ∨ j = 1 ∨ j = 2 := by omega
      rcases this with rfl | rfl | rfl <;> simp only [Nat.reducePow] at * <;> (rw [Int.bmod_eq_of_le] <;> omega)
    rw [← Int64.toInt_inj, key]
    have : j = 0 ∨ j = 1 ∨ j = 2 := by omega
    rcases this with rfl | rfl | rfl <;> simp only [Nat.reducePow] at * <;> omega
  rw [← hz]
  constructor
  · intro h
    have := congrArg (· + a / Int64.ofNat (2 ^ j) * Int64.ofNat (2 ^ j)) h
    simp only [Int64.sub_add_cancel, Int64.zero_add] at this
    exact this.symm
  · intro h; rw [h, Int64.sub_self]

def rngB (lo hi v : Int64) : Bool := decide (¬ v < lo ∧ ¬ hi < v)
def fitB (form : Nat) (v : Int64) : Bool :=
  if form = 2 then rngB 0 31 v else if form = 4 then rngB (-4096) 4094 v && decide (v &&& (1 : Int64) = 0) else if form = 5 then rngB 0 1048575 v else if form = 6 then rngB (-1048576) 1048574 v && decide (v &&& (1 : Int64) = 0) else if form = 7 ∨ form = 8 then rngB (-2147483648) 4294967295 v else if form = 9 then rngB 0 8188 v && decide (v &&& (3 : Int64) = 0) else if form = 10 then rngB 0 15 v else rngB (-2048) 2047 v
theorem c_rng (lo hi v : Int64) : (if lg_cmp v lo < 0 then some (0 : Int32) else if 0 < lg_cmp v hi then some (0 : Int32) else some (1 : Int32)) = some (if rngB lo hi v = true then 1 else 0) := by
  unfold rngB
  simp only [lg_lt, decide_eq_true_eq]
  by_cases g1 : v < lo
  · rw [if_pos g1, if_neg (fun q => q.1 g1)]
  · rw [if_neg g1]
    by_cases g2 : hi < v
    · rw [if_pos g2, if_neg (fun q => q.2 g2)]
    · rw [if_neg g2, if_pos ⟨g1, g2⟩]
theorem c_rngM (lo hi v k : Int64) : (if lg_cmp v lo < 0 then some (0 : Int32) else if 0 < lg_cmp v hi then some (0 : Int32) else if ¬ lg_cmp (v &&& k) (0 : Int64) = 0 then some (0 : Int32) else some (1 : Int32)) = some (if (rngB lo hi v && decide (v &&& k = 0)) = true then 1 else 0) := by
  unfold rngB
  simp only [lg_lt, lg_0, Bool.and_eq_true, decide_eq_true_eq]
  by_cases g1 : v < lo
  · rw [if_pos g1, if_neg (fun q => q.1.1 g1)]
  · rw [if_neg g1]
    by_cases g2 : hi < v
    · rw [if_pos g2, if_neg (fun q => q.1.2 g2)]
    · rw [if_neg g2]
      by_cases g3 : v &&& k = 0
      · rw [if_neg (fun q => q g3), if_pos ⟨⟨g1, g2⟩, g3⟩]
      · rw [if_pos g3, if_neg (fun q => g3 q.2)]
theorem c_fits (h : AH) {form : Nat} (hf : form ≤ 10) (v : Int64) : f_X1_fits h (nI form) v = some (if fitB form v = true then 1 else 0) := by
  unfold f_X1_fits fitB
  simp only [c_rng, c_rngM]
  have q : ∀ k, k < 20 → (nI form = nI k ↔ form = k) := fun k hk => q_eq (by omega) (by omega)
  have h2 : nI form = (2 : Int32) ↔ form = 2 := q 2 (by omega)
  have h4 : nI form = (4 : Int32) ↔ form = 4 := q 4 (by omega)
  have h5 : nI form = (5 : Int32) ↔ form = 5 := q 5 (by omega)
  have h6 : nI form = (6 : Int32) ↔ form = 6 := q 6 (by omega)
  have h7 : nI form = (7 : Int32) ↔ form = 7 := q 7 (by omega)
  have h8 : nI form = (8 : Int32) ↔ form = 8 := q 8 (by omega)
  have h9 : nI form = (9 : Int32) ↔ form = 9 := q 9 (by omega)
  have h10 : nI form = (10 : Int32) ↔ form = 10 := q 10 (by omega)
  simp only [h2, h4, h5, h6, h7, h8, h9, h10]
  by_cases w2 : form = 2
  · rw [if_pos w2, if_pos w2]
  rw [if_neg w2, if_neg w2]
  by_cases w4 : form = 4
  · rw [if_pos w4, if_pos w4]
  rw [if_neg w4, if_neg w4]
  by_cases w5 : form = 5
  · rw [if_pos w5, if_pos w5]
  rw [if_neg w5, if_neg w5]
  by_cases w6 : form = 6
  · rw [if_pos w6, if_pos w6]
  rw [if_neg w6, if_neg w6]
  by_cases w7 : form = 7
  · rw [if_pos w7, if_pos (Or.inl w7)]
  rw [if_neg w7]
  by_cases w8 : form = 8
  · rw [if_pos w8, if_pos (Or.inr w8)]
  rw [if_neg w8, if_neg (show ¬ (form = 7 ∨ form = 8) from by omega)]
  by_cases w9 : form = 9
  · rw [if_pos w9, if_pos w9]
  rw [if_neg w9, if_neg w9]
  by_cases w10 : form = 10
  · rw [if_pos w10, if_pos w10]
  · rw [if_neg w10, if_neg w10]
/-- the form of a number's place -/
def frm (hw : Nat) : Nat := if hw = 0 then 1 else if hw = 1 then 3 else if hw = 2 then 4 else if hw = 3 then 5 else if hw = 4 then 6 else if hw = 5 then 8 else 2
def loH (hw : Nat) : Int64 := if hw = 2 then -4096 else if hw = 4 then -1048576 else if hw = 3 ∨ hw = 6 then 0 else if hw = 5 then -2147483648 else -2048
def hiH (hw : Nat) : Int64 := if hw = 2 then 4094 else if hw = 4 then 1048574 else if hw = 3 then 1048575 else if hw = 6 then 31 else if hw = 5 then 4294967295 else 2047
def muH (hw : Nat) : Int32 := if hw = 2 ∨ hw = 4 then 2 else 1
theorem r_lmm (m : AH) : ∀ hw, hw ≤ 6 → f_X11_leastOf m (nI hw) = some (loH hw) ∧ f_X11_mostOf m (nI hw) = some (hiH hw) ∧ f_X11_multipleOf m (nI hw) = some (muH hw) := by
  intro hw hh
  have : hw = 0 ∨ hw = 1 ∨ hw = 2 ∨ hw = 3 ∨ hw = 4 ∨ hw = 5 ∨ hw = 6 := by omega
  unfold f_X11_leastOf f_X11_mostOf f_X11_multipleOf f_X11_leastOf_L33 f_X11_multipleOf_L10
  rcases this with rfl | rfl | rfl | rfl | rfl | rfl | rfl <;> decide
/-- what the reference holds a number against -/
def rft (lo hi : Int64) (mu : Int32) (v : Int64) : Prop := ¬ v < lo ∧ ¬ hi < v ∧ v - v / mu.toInt64 * mu.toInt64 = 0
theorem mu1 (v : Int64) : v - v / (1 : Int32).toInt64 * (1 : Int32).toInt64 = 0 := by
  have := (rem64 v (j := 0) (by omega)).mpr (by
    show v &&& Int64.ofNat 0 = 0
    rw [show Int64.ofNat 0 = 0 from rfl, Int64.and_zero])
  exact this
theorem rf_hw {hw : Nat} (hh : hw ≤ 6) (v : Int64) : rft (loH hw) (hiH hw) (muH hw) v ↔ fitB (frm hw) v = true := by
  have m2 : v - v / (2 : Int32).toInt64 * (2 : Int32).toInt64 = 0 ↔ v &&& (1 : Int64) = 0 := rem64 v (j := 1) (by omega)
  have : hw = 0 ∨ hw = 1 ∨ hw = 2 ∨ hw = 3 ∨ hw = 4 ∨ hw = 5 ∨ hw = 6 := by omega
  unfold rft
  rcases this with rfl | rfl | rfl | rfl | rfl | rfl | rfl
  · show (¬ v < -2048 ∧ ¬ 2047 < v ∧ v - v / (1 : Int32).toInt64 * (1 : Int32).toInt64 = 0) ↔ rngB (-2048) 2047 v = true
    unfold rngB; rw [decide_eq_true_iff]
    exact ⟨fun q => ⟨q.1, q.2.1⟩, fun q => ⟨q.1, q.2, mu1 v⟩⟩
  · show (¬ v < -2048 ∧ ¬ 2047 < v ∧ v - v / (1 : Int32).toInt64 * (1 : Int32).toInt64 = 0) ↔ rngB (-2048) 2047 v = true
    unfold rngB; rw [decide_eq_true_iff]
    exact ⟨fun q => ⟨q.1, q.2.1⟩, fun q => ⟨q.1, q.2, mu1 v⟩⟩
  · show (¬ v < -4096 ∧ ¬ 4094 < v ∧ v - v / (2 : Int32).toInt64 * (2 : Int32).toInt64 = 0) ↔ (rngB (-4096) 4094 v && decide (v &&& (1 : Int64) = 0)) = true
    unfold rngB; rw [Bool.and_eq_true, decide_eq_true_iff, decide_eq_true_iff, m2]
    exact ⟨fun q => ⟨⟨q.1, q.2.1⟩, q.2.2⟩, fun q => ⟨q.1.1, q.1.2, q.2⟩⟩
  · show (¬ v < 0 ∧ ¬ 1048575 < v ∧ v - v / (1 : Int32).toInt64 * (1 : Int32).toInt64 = 0) ↔ rngB 0 1048575 v = true
    unfold rngB; rw [decide_eq_true_iff]
    exact ⟨fun q => ⟨q.1, q.2.1⟩, fun q => ⟨q.1, q.2, mu1 v⟩⟩
  · show (¬ v < -1048576 ∧ ¬ 1048574 < v ∧ v - v / (2 : Int32).toInt64 * (2 : Int32).toInt64 = 0) ↔ (rngB (-1048576) 1048574 v && decide (v &&& (1 : Int64) = 0)) = true
    unfold rngB; rw [Bool.and_eq_true, decide_eq_true_iff, decide_eq_true_iff, m2]
    exact ⟨fun q => ⟨⟨q.1, q.2.1⟩, q.2.2⟩, fun q => ⟨q.1.1, q.1.2, q.2⟩⟩
  · show (¬ v < -2147483648 ∧ ¬ 4294967295 < v ∧ v - v / (1 : Int32).toInt64 * (1 : Int32).toInt64 = 0) ↔ rngB (-2147483648) 4294967295 v = true
    unfold rngB; rw [decide_eq_true_iff]
    exact ⟨fun q => ⟨q.1, q.2.1⟩, fun q => ⟨q.1, q.2, mu1 v⟩⟩
  · show (¬ v < 0 ∧ ¬ 31 < v ∧ v - v / (1 : Int32).toInt64 * (1 : Int32).toInt64 = 0) ↔ rngB 0 31 v = true
    unfold rngB; rw [decide_eq_true_iff]
    exact ⟨fun q => ⟨q.1, q.2.1⟩, fun q => ⟨q.1, q.2, mu1 v⟩⟩
theorem rf_9 (v : Int64) : rft 0 8188 (4 : Int32) v ↔ fitB 9 v = true := by
  have m4 : v - v / (4 : Int32).toInt64 * (4 : Int32).toInt64 = 0 ↔ v &&& (3 : Int64) = 0 := rem64 v (j := 2) (by omega)
  unfold rft
  show (¬ v < 0 ∧ ¬ 8188 < v ∧ v - v / (4 : Int32).toInt64 * (4 : Int32).toInt64 = 0) ↔ (rngB 0 8188 v && decide (v &&& (3 : Int64) = 0)) = true
  unfold rngB; rw [Bool.and_eq_true, decide_eq_true_iff, decide_eq_true_iff, m4]
  exact ⟨fun q => ⟨⟨q.1, q.2.1⟩, q.2.2⟩, fun q => ⟨q.1.1, q.1.2, q.2⟩⟩
theorem rf_10 (v : Int64) : rft 0 15 (1 : Int32) v ↔ fitB 10 v = true := by
  unfold rft
  show (¬ v < 0 ∧ ¬ 15 < v ∧ v - v / (1 : Int32).toInt64 * (1 : Int32).toInt64 = 0) ↔ rngB 0 15 v = true
  unfold rngB; rw [decide_eq_true_iff]
  exact ⟨fun q => ⟨q.1, q.2.1⟩, fun q => ⟨q.1, q.2, mu1 v⟩⟩
