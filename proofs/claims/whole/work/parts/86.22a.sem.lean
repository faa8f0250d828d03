/-! Schedules: the characters. -/
def dgt (c : Nat) : Option Nat := if 48 ≤ c ∧ c ≤ 57 then some (c - 48) else if 97 ≤ c ∧ c ≤ 102 then some (c - 87) else none
def mny (c : Nat) : Nat := if c = 115 ∨ c = 100 then 1 else if c = 109 ∨ c = 114 then 2 else 0
theorem c_digit (h : AH) : ∀ c, c < 128 → f_X8_digit h (nI c) = some (oI (dgt c)) := by
  unfold f_X8_digit f_X8_digit_L17
  have : ∀ c, c < 128 → (if nI c < (48 : Int32) then (if nI c < (97 : Int32) then some (-1 : Int32) else if (102 : Int32) < nI c then some (-1 : Int32) else some ((nI c - (97 : Int32)) + (10 : Int32))) else if (57 : Int32) < nI c then (if nI c < (97 : Int32) then some (-1 : Int32) else if (102 : Int32) < nI c then some (-1 : Int32) else some ((nI c - (97 : Int32)) + (10 : Int32))) else some (nI c - (48 : Int32))) = some (oI (dgt c)) := by decide +kernel
  exact this
theorem c_many (h : AH) : ∀ c, c < 128 → f_X8_digitsBehind h (nI c) = some (nI (mny c)) := by
  unfold f_X8_digitsBehind f_X8_digitsBehind_L12 f_X8_digitsBehind_L28
  have : ∀ c, c < 128 → (if nI c = (115 : Int32) then some (1 : Int32) else if ¬ nI c = (100 : Int32) then (if nI c = (109 : Int32) then some (2 : Int32) else if ¬ nI c = (114 : Int32) then some (0 : Int32) else some (2 : Int32)) else some (1 : Int32)) = some (nI (mny c)) := by decide +kernel
  exact this
theorem dgt_lt {c d : Nat} (h : dgt c = some d) : d < 16 := by
  unfold dgt at h
  split at h
  · cases h; omega
  · split at h
    · cases h; omega
    · cases h
theorem r_isDigit (h : AH) : ∀ c, c < 128 → f_X11_isDigit h (nI c) = some (if 48 ≤ c ∧ c ≤ 57 then 1 else 0) := by
  unfold f_X11_isDigit
  have : ∀ c, c < 128 → (if nI c < (48 : Int32) then some (0 : Int32) else if (57 : Int32) < nI c then some (0 : Int32) else some (1 : Int32)) = some (if 48 ≤ c ∧ c ≤ 57 then 1 else 0) := by decide +kernel
  exact this
theorem r_isHex (h : AH) {c : Nat} (hc : c < 128) : f_X11_isHex h (nI c) = some (if (dgt c).isSome then 1 else 0) := by
  unfold f_X11_isHex f_X11_isHex_L19
  rw [r_isDigit h c hc, y_bds]
  have : ∀ c, c < 128 → (if ¬ (if 48 ≤ c ∧ c ≤ 57 then (1 : Int32) else 0) = 0 then some (1 : Int32) else if nI c < (97 : Int32) then some (0 : Int32) else if (102 : Int32) < nI c then some (0 : Int32) else some (1 : Int32)) = some (if (dgt c).isSome then 1 else 0) := by decide +kernel
  exact this c hc
/-- what stands at a place of the tape -/
def tat (e : Ex) (k : Nat) : Nat := if k < e 8 1 then e 9 k else 0
theorem tat_lt {h m : AH} {s : St} {e : Ex} {b : Nat} (R : Rel h m s e b) (k : Nat) : tat e k < 128 := by
  unfold tat; split
  · next g => have := (R.2.2.2.2.2.2.2.2.2.1 k g).2.2; omega
  · omega
theorem r_see {h m : AH} {s : St} {e : Ex} {b : Nat} (R : Rel h m s e b) {k : Nat} (hk : k < 2 ^ 31) : f_X11_see m 226 (nI k) = some (nI (tat e k)) := by
  have L2 := rm_L R.2.1
  obtain ⟨_, _, _, ⟨y7, y8, y9⟩, y10, _⟩ := R.2.2.2.2.2
  unfold f_X11_see tat
  rw [y_gs, if_pos (lm_S226 L2), y8]
  by_cases g : k < e 8 1
  · rw [if_neg (fun q => by have := (q_le (by omega) hk).mp q; omega), if_pos g, lm_R1 L2, y_gs, if_pos (lm_S227 L2), lm_N227 L2, y_gb, if_pos (q_ib (by omega) (by omega)), q_cl hk, (y10 k g).2.1]
  · rw [if_pos ((q_le (by omega) hk).mpr (by omega)), if_neg g]; rfl
theorem r_digitAt {h m : AH} {s : St} {e : Ex} {b : Nat} (R : Rel h m s e b) {k : Nat} (hk : k < 2 ^ 31) : f_X11_digitAt m 226 (nI k) = some (oI (dgt (tat e k))) := by
  have L2 := rm_L R.2.1
  have lt := tat_lt R k
  unfold f_X11_digitAt
  rw [y_gs, if_pos (lm_S226 L2), r_see R hk, y_bds, r_isHex m lt, y_bds, y_bds, r_isDigit m _ lt, y_bds, y_bds, y_bds]
  have : ∀ c, c < 128 → (if (if (dgt c).isSome then (1 : Int32) else 0) = 0 then some (-1 : Int32) else if (if 48 ≤ c ∧ c ≤ 57 then (1 : Int32) else 0) = 0 then some ((nI c - (97 : Int32)) + (10 : Int32)) else some (nI c - (48 : Int32))) = some (oI (dgt c)) := by decide +kernel
  exact this _ lt
/-- is the digit at j bad for the entry c at k -/
def bdg (e : Ex) (c k j : Nat) : Bool := match dgt (tat e j) with
  | none => true
  | some d => decide (c = 114 ∧ j = k + 1 ∧ 2 < d)
/-- the first place that is wrong in the entry at k -/
def bad (e : Ex) (k : Nat) : Option Nat :=
  if mny (tat e k) = 0 then some k else if bdg e (tat e k) k (k + 1) = true then some (k + 1) else if mny (tat e k) = 2 ∧ bdg e (tat e k) k (k + 2) = true then some (k + 2) else none
theorem mny_le (c : Nat) : mny c ≤ 2 := by unfold mny; split; omega; split <;> omega
theorem mny_b {c : Nat} (h : mny c ≠ 0) : c = 115 ∨ c = 100 ∨ c = 109 ∨ c = 114 := by
  unfold mny at h
  split at h
  · omega
  · split at h
    · omega
    · exact absurd rfl h
theorem sub_m1 (x : Int32) : (-1 : Int32) - ((-1 : Int32) - x) = x := by
  rw [Int32.sub_eq_add_neg, Int32.neg_sub, Int32.add_comm, Int32.sub_add_cancel]
theorem m1_neg {j : Nat} (h : j < 2 ^ 31) : (-1 : Int32) - nI j < 0 := by
  rcases i_cases ((-1 : Int32) - nI j) with g | ⟨n, n1, e⟩
  · exact g
  · exfalso
    have q : nI (j + n) = nI 4294967295 := by rw [← q_add, ← e, Int32.add_comm, Int32.sub_add_cancel]; decide
    have r := congrArg (fun x : Int32 => x.toBitVec.toNat) q
    have r2 : (j + n) % 2 ^ 32 = 4294967295 % 2 ^ 32 := r
    omega
