/-! Words: their bits. -/
def bt (x : Int32) (i : Nat) : Bool := x.toBitVec.getLsbD i
theorem bt_ext {a b : Int32} (h : ∀ i, i < 32 → bt a i = bt b i) : a = b := by
  rw [← Int32.toBitVec_inj]
  exact BitVec.eq_of_getLsbD_eq (fun i hi => h i hi)
theorem bt_and (a b : Int32) (i : Nat) : bt (a &&& b) i = (bt a i && bt b i) := by
  unfold bt; rw [Int32.toBitVec_and, BitVec.getLsbD_and]
theorem bt_or (a b : Int32) (i : Nat) : bt (a ||| b) i = (bt a i || bt b i) := by
  unfold bt; rw [Int32.toBitVec_or, BitVec.getLsbD_or]
theorem bt_xor (a b : Int32) (i : Nat) : bt (a ^^^ b) i = (bt a i ^^ bt b i) := by
  unfold bt; rw [Int32.toBitVec_xor, BitVec.getLsbD_xor]
theorem sm32 : ∀ k, k < 32 → ((nI k).toBitVec.smod 32).toNat = k := by
  unfold nI
  decide +kernel
theorem bt_sar (x : Int32) {k : Nat} (hk : k < 32) {i : Nat} (hi : i < 32) : bt (x >>> nI k) i = if k + i < 32 then bt x (k + i) else x.toBitVec.msb := by
  unfold bt
  rw [Int32.toBitVec_shiftRight, BitVec.sshiftRight', sm32 k hk, BitVec.getLsbD_sshiftRight]
  simp only [show ¬ (32 ≤ i) from by omega, decide_false, Bool.not_false, Bool.true_and]
theorem bt_shl (x : Int32) {k : Nat} (hk : k < 32) {i : Nat} (hi : i < 32) : bt (x <<< nI k) i = (decide (k ≤ i) && bt x (i - k)) := by
  unfold bt
  have : (x <<< nI k).toBitVec = x.toBitVec <<< k := by
    rw [Int32.toBitVec_shiftLeft, BitVec.shiftLeft_eq', sm32 k hk]
  rw [this, BitVec.getLsbD_shiftLeft]
  by_cases e : k ≤ i
  · simp [e, hi, show ¬ i < k by omega]
  · simp [e, show i < k by omega]
theorem ju_bv (x : Int32) {k : Nat} (hk : k < 32) : (jushr x (nI k)).toBitVec = x.toBitVec >>> k := by
  have e : ((nI k).toUInt32 &&& Int32.toUInt32 31).toNat % 32 = k := by revert hk; revert k; unfold nI; decide +kernel
  unfold jushr
  show (x.toUInt32 >>> ((nI k).toUInt32 &&& Int32.toUInt32 31)).toBitVec = _
  rw [UInt32.toBitVec_shiftRight]
  show x.toBitVec >>> (((nI k).toUInt32 &&& Int32.toUInt32 31).toBitVec % 32) = _
  rw [BitVec.ushiftRight_eq']
  congr 1
theorem bt_jus (x : Int32) {k : Nat} (hk : k < 32) (i : Nat) : bt (jushr x (nI k)) i = bt x (k + i) := by
  unfold bt; rw [ju_bv x hk, BitVec.getLsbD_ushiftRight]
theorem bt_hi (x : Int32) {i : Nat} (hi : 32 ≤ i) : bt x i = false := by
  unfold bt; exact BitVec.getLsbD_of_ge _ _ hi
theorem bt_nI (n i : Nat) (hi : i < 32) : bt (nI n) i = n.testBit i := by
  unfold bt nI
  show (BitVec.ofNat 32 n).getLsbD i = _
  rw [BitVec.getLsbD_ofNat]; simp [hi]
/-- a field of a word by either shift -/
theorem fld {x : Int32} {k j : Nat} (hk : k < 32) (hj : k + j ≤ 32) : jushr x (nI k) &&& nI (2 ^ j - 1) = (x >>> nI k) &&& nI (2 ^ j - 1) := by
  refine bt_ext (fun i hi => ?_)
  rw [bt_and, bt_and, bt_jus x hk, bt_sar x hk hi, bt_nI _ _ hi, Nat.testBit_two_pow_sub_one]
  by_cases e : i < j
  · rw [if_pos (by omega)]
  · simp [e]
theorem fld_n (x : Int32) {k j : Nat} (hk : k < 32) (hj : j < 31) : ∃ n, n < 2 ^ j ∧ (x >>> nI k) &&& nI (2 ^ j - 1) = nI n := by
  have h0 : 0 < 2 ^ j := Nat.two_pow_pos j
  have h1 : 2 ^ j < 2 ^ 31 := Nat.pow_lt_pow_right (by omega) (by omega)
  refine ⟨((x >>> nI k).toBitVec.toNat) % 2 ^ j, Nat.mod_lt _ h0, ?_⟩
  rw [← Int32.toBitVec_inj, Int32.toBitVec_and]
  apply BitVec.eq_of_toNat_eq
  unfold nI
  show (_ &&& BitVec.ofNat 32 (2 ^ j - 1)).toNat = (BitVec.ofNat 32 _).toNat
  have hm : ((x >>> Int32.ofNat k).toBitVec.toNat) % 2 ^ j < 2 ^ j := Nat.mod_lt _ h0
  rw [BitVec.toNat_and, BitVec.toNat_ofNat, BitVec.toNat_ofNat, Nat.mod_eq_of_lt (a := 2 ^ j - 1) (by omega), Nat.and_two_pow_sub_one_eq_mod, Nat.mod_eq_of_lt (a := _ % 2 ^ j) (by omega)]
theorem msk_n (x : Int32) {j : Nat} (hj : j < 31) : ∃ n, n < 2 ^ j ∧ x &&& nI (2 ^ j - 1) = nI n := by
  have h0 : 0 < 2 ^ j := Nat.two_pow_pos j
  have h1 : 2 ^ j < 2 ^ 31 := Nat.pow_lt_pow_right (by omega) (by omega)
  refine ⟨(x.toBitVec.toNat) % 2 ^ j, Nat.mod_lt _ h0, ?_⟩
  rw [← Int32.toBitVec_inj, Int32.toBitVec_and]
  apply BitVec.eq_of_toNat_eq
  unfold nI
  show (_ &&& BitVec.ofNat 32 (2 ^ j - 1)).toNat = (BitVec.ofNat 32 _).toNat
  have hm : (x.toBitVec.toNat) % 2 ^ j < 2 ^ j := Nat.mod_lt _ h0
  rw [BitVec.toNat_and, BitVec.toNat_ofNat, BitVec.toNat_ofNat, Nat.mod_eq_of_lt (a := 2 ^ j - 1) (by omega), Nat.and_two_pow_sub_one_eq_mod, Nat.mod_eq_of_lt (a := _ % 2 ^ j) (by omega)]
theorem us25 (x : Int32) : jushr x (25 : Int32) = (x >>> ((25 : Int32) &&& 31)) &&& (127 : Int32) := by
  rw [show ((25 : Int32) &&& 31) = nI 25 from by decide, show (25 : Int32) = nI 25 from by decide, show (127 : Int32) = nI (2 ^ 7 - 1) from by decide]
  refine bt_ext (fun i hi => ?_)
  rw [bt_and, bt_jus x (by omega), bt_sar x (by omega) hi, bt_nI _ _ hi, Nat.testBit_two_pow_sub_one]
  by_cases e : i < 7
  · simp [e, show 25 + i < 32 by omega]
  · rw [bt_hi x (by omega)]; simp [e]
theorem us27_n (x : Int32) : ∃ n, n < 32 ∧ jushr x (27 : Int32) = nI n := by
  obtain ⟨n, h1, h2⟩ := fld_n x (k := 27) (j := 5) (by omega) (by omega)
  refine ⟨n, h1, ?_⟩
  rw [← h2]
  refine bt_ext (fun i hi => ?_)
  show bt (jushr x (nI 27)) i = bt ((x >>> nI 27) &&& nI (2 ^ 5 - 1)) i
  rw [bt_and, bt_jus x (by omega), bt_sar x (by omega) hi, bt_nI _ _ hi, Nat.testBit_two_pow_sub_one]
  by_cases e : i < 5
  · simp [e, show 27 + i < 32 by omega]
  · rw [bt_hi x (by omega)]; simp [e]
theorem j_mid (x : Int32) : (x &&& (1044480 : Int32)) = ((x >>> ((12 : Int32) &&& 31)) &&& (255 : Int32)) <<< ((12 : Int32) &&& 31) := by
  rw [show ((12 : Int32) &&& 31) = nI 12 from by decide, show (1044480 : Int32) = nI 1044480 from by decide, show (255 : Int32) = nI (2 ^ 8 - 1) from by decide]
  refine bt_ext (fun i hi => ?_)
  rw [bt_and, bt_shl _ (by omega) hi, bt_and, bt_sar x (by omega) (by omega), bt_nI _ _ hi, bt_nI _ _ (by omega), Nat.testBit_two_pow_sub_one]
  have c : Nat.testBit 1044480 i = decide (12 ≤ i ∧ i < 20) := by
    revert hi; revert i; decide +kernel
  rw [c]
  by_cases e : 12 ≤ i
  · by_cases e2 : i < 20
    · rw [if_pos (by omega), show 12 + (i - 12) = i by omega]; simp [e, e2, show i - 12 < 8 by omega]
    · simp [e, e2, show ¬ i - 12 < 8 by omega]
  · simp [e]
theorem j_far (h : AH) (x : Int32) : f_X0_jumpDistance h x = some (((((x >>> ((31 : Int32) &&& 31)) <<< ((20 : Int32) &&& 31)) ||| (((x >>> ((12 : Int32) &&& 31)) &&& (255 : Int32)) <<< ((12 : Int32) &&& 31))) ||| (((x >>> ((20 : Int32) &&& 31)) &&& (1 : Int32)) <<< ((11 : Int32) &&& 31))) ||| (((x >>> ((21 : Int32) &&& 31)) &&& (1023 : Int32)) <<< ((1 : Int32) &&& 31))) := by
  unfold f_X0_jumpDistance
  have a1 : jushr x (20 : Int32) &&& (1 : Int32) = (x >>> ((20 : Int32) &&& 31)) &&& (1 : Int32) := fld (k := 20) (j := 1) (by omega) (by omega)
  have a2 : jushr x (21 : Int32) &&& (1023 : Int32) = (x >>> ((21 : Int32) &&& 31)) &&& (1023 : Int32) := fld (k := 21) (j := 10) (by omega) (by omega)
  rw [j_mid, a1, a2]
theorem b_far (h : AH) (x : Int32) : f_X0_branchDistance h x = some (((((x >>> ((31 : Int32) &&& 31)) <<< ((12 : Int32) &&& 31)) ||| (((x >>> ((7 : Int32) &&& 31)) &&& (1 : Int32)) <<< ((11 : Int32) &&& 31))) ||| (((x >>> ((25 : Int32) &&& 31)) &&& (63 : Int32)) <<< ((5 : Int32) &&& 31))) ||| (((x >>> ((8 : Int32) &&& 31)) &&& (15 : Int32)) <<< ((1 : Int32) &&& 31))) := by
  unfold f_X0_branchDistance
  have a1 : jushr x (7 : Int32) &&& (1 : Int32) = (x >>> ((7 : Int32) &&& 31)) &&& (1 : Int32) := fld (k := 7) (j := 1) (by omega) (by omega)
  have a2 : jushr x (25 : Int32) &&& (63 : Int32) = (x >>> ((25 : Int32) &&& 31)) &&& (63 : Int32) := fld (k := 25) (j := 6) (by omega) (by omega)
  have a3 : jushr x (8 : Int32) &&& (15 : Int32) = (x >>> ((8 : Int32) &&& 31)) &&& (15 : Int32) := fld (k := 8) (j := 4) (by omega) (by omega)
  rw [a1, a2, a3]
theorem s_far (h : AH) (x : Int32) : f_X0_storeDistance h x = some (((x >>> ((25 : Int32) &&& 31)) <<< ((5 : Int32) &&& 31)) ||| ((x >>> ((7 : Int32) &&& 31)) &&& (31 : Int32))) := by
  unfold f_X0_storeDistance
  have a1 : jushr x (7 : Int32) &&& (31 : Int32) = (x >>> ((7 : Int32) &&& 31)) &&& (31 : Int32) := fld (k := 7) (j := 5) (by omega) (by omega)
  rw [a1]
/-- a remainder by a power of two, and the low bits -/
theorem rem_and (a : Int32) {j : Nat} (hj : j ≤ 2) : (a - a / nI (2 ^ j) * nI (2 ^ j) = 0) ↔ (a &&& nI (2 ^ j - 1) = 0) := by
  have p1 : 0 < 2 ^ j := Nat.two_pow_pos j
  have p2 : 2 ^ j ≤ 2 ^ 2 := Nat.pow_le_pow_right (by omega) hj
  have m : (a &&& nI (2 ^ j - 1)).toBitVec.toNat = a.toBitVec.toNat % 2 ^ j := by
    rw [Int32.toBitVec_and, BitVec.toNat_and]
    unfold nI
    show _ &&& (BitVec.ofNat 32 (2 ^ j - 1)).toNat = _
    rw [BitVec.toNat_ofNat, Nat.mod_eq_of_lt (a := 2 ^ j - 1) (by omega), Nat.and_two_pow_sub_one_eq_mod]
  have e1 : (a &&& nI (2 ^ j - 1) = 0) ↔ a.toBitVec.toNat % 2 ^ j = 0 := by
    rw [← m]
    constructor
    · intro h; rw [h]; rfl
    · intro h
      rw [← Int32.toBitVec_inj]
      exact BitVec.eq_of_toNat_eq h
  have e2 : a.toBitVec.toNat % 2 ^ j = 0 ↔ a.toInt % (2 ^ j : Nat) = 0 := by
    have t : a.toInt = if 2 * a.toBitVec.toNat < 2 ^ 32 then (a.toBitVec.toNat : Int) else (a.toBitVec.toNat : Int) - (2 ^ 32 : Nat) := BitVec.toInt_eq_toNat_cond a.toBitVec
    have d : (2 ^ 32 : Nat) % 2 ^ j = 0 := by
      have : j = 0 ∨ j = 1 ∨ j = 2 := by omega
      rcases this with rfl | rfl | rfl <;> rfl
    rw [t]
    have : j = 0 ∨ j = 1 ∨ j = 2 := by omega
    rcases this with rfl | rfl | rfl <;> split <;> omega
  rw [e1, e2]
  have hd : (nI (2 ^ j)).toInt = (2 ^ j : Nat) := q_toInt (by omega)
  have hz : a / nI (2 ^ j) * nI (2 ^ j) = a ↔ a.toInt % (2 ^ j : Nat) = 0 := by
    have dv : (a / nI (2 ^ j)).toInt = a.toInt.tdiv (2 ^ j : Nat) := by
      rw [Int32.toInt_div_of_ne_right, hd]
      intro h
      have := congrArg Int32.toInt h
      rw [hd] at this
      have h2 : (-1 : Int32).toInt = -1 := by decide
      omega
    have rb : ∃ r : Int, a.toInt.tmod (2 ^ j : Nat) = r ∧ (0 ≤ a.toInt → 0 ≤ r) ∧ (a.toInt ≤ 0 → r ≤ 0) ∧ r < (2 ^ j : Nat) ∧ -((2 ^ j : Nat) : Int) < r := by
      refine ⟨_, rfl, fun h => Int.tmod_nonneg _ h, fun h => ?_, Int.tmod_lt_of_pos _ (by omega), Int.lt_tmod_of_pos _ (by omega)⟩
      have := Int.tmod_nonneg (a := -a.toInt) ((2 ^ j : Nat) : Int) (by omega)
      rw [Int.neg_tmod] at this; omega
    obtain ⟨r, hr, r1, r2, r3, r4⟩ := rb
    have b1 := Int.mul_tdiv_add_tmod a.toInt (2 ^ j : Nat)
    rw [hr] at b1
    generalize hq : a.toInt.tdiv (2 ^ j : Nat) = q at *
    have lo : -2147483648 ≤ a.toInt := Int32.le_toInt a
    have hi : a.toInt < 2147483648 := Int32.toInt_lt a
    have key : (a / nI (2 ^ j) * nI (2 ^ j)).toInt = q * (2 ^ j : Nat) := by
      rw [Int32.toInt_mul, dv, hd]
      have : j = 0 ∨ j = 1 ∨ j = 2 := by omega
      rcases this with rfl | rfl | rfl <;> simp only [Nat.reducePow] at * <;> (rw [Int.bmod_eq_of_le] <;> omega)
    rw [← Int32.toInt_inj, key]
    have : j = 0 ∨ j = 1 ∨ j = 2 := by omega
    rcases this with rfl | rfl | rfl <;> simp only [Nat.reducePow] at * <;> omega
  rw [← hz]
  constructor
  · intro h
    have := congrArg (· + a / nI (2 ^ j) * nI (2 ^ j)) h
    simp only [Int32.sub_add_cancel, Int32.zero_add] at this
    exact this.symm
  · intro h; rw [h, Int32.sub_self]
