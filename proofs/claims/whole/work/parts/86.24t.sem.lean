/-! How long a statement is. -/
theorem k2_of {c : Nat → Nat} {T p : Nat} (k2 : tKind c T p = 2) : p < T ∧ isA (c p) = true ∧ tEnd c T p = rn isAD c T T p ∧ tEnd c T p - p ≤ 8 ∧ tVal c T p = nv c p (tEnd c T p - p) := by
  unfold tKind at k2
  by_cases g : T ≤ p
  · rw [if_pos g] at k2; omega
  rw [if_neg g] at k2
  by_cases gA : isA (c p) = true
  · rw [if_pos gA] at k2
    have e : tEnd c T p = rn isAD c T T p := by unfold tEnd; rw [if_neg g, if_pos gA]
    refine ⟨by omega, gA, e, ?_, ?_⟩
    · by_cases q : tEnd c T p - p ≤ 8
      · exact q
      · rw [if_neg q] at k2; omega
    · unfold tVal; rw [if_neg g, if_pos gA]
  · rw [if_neg gA] at k2
    by_cases gD : isD (c p) = true
    · rw [if_pos gD] at k2
      split at k2
      · split at k2 <;> omega
      · split at k2 <;> omega
    · rw [if_neg gD] at k2
      by_cases gS : isS (c p) = true
      · rw [if_pos gS] at k2
        unfold isS at gS
        have := of_decide_eq_true gS
        omega
      · rw [if_neg gS] at k2; omega
theorem ts_ge (c : Nat → Nat) (T i : Nat) : tEnd c T (ts c T i) ≤ ts c T (i + 1) := (rn_le isB c T T _).1
theorem ts_gap {c : Nat → Nat} {T i : Nat} (k2 : tKind c T (ts c T i) = 2) (k : tKind c T (ts c T (i + 1)) = 2 ∨ tKind c T (ts c T (i + 1)) = 3) : tEnd c T (ts c T i) + 1 ≤ ts c T (i + 1) := by
  obtain ⟨pT, _, e, _, _⟩ := k2_of k2
  have ge := ts_ge c T i
  rcases Nat.lt_or_ge (tEnd c T (ts c T i)) (ts c T (i + 1)) with q | q
  · exact q
  · exfalso
    have eq : ts c T (i + 1) = tEnd c T (ts c T i) := by omega
    rw [eq, e] at k
    rcases rn_end isAD c T T (ts c T i) (by omega) (by omega) with w | ⟨w1, w2⟩
    · rw [w] at k
      have : tKind c T T = 1 := kind_end.mpr (Nat.le_refl _)
      omega
    · revert k
      generalize rn isAD c T T (ts c T i) = p at *
      unfold isAD at w2
      rw [Bool.or_eq_false_iff] at w2
      have hA : ¬ isA (c p) = true := fun z => by rw [w2.1] at z; exact absurd z (by decide)
      have hD : ¬ isD (c p) = true := fun z => by rw [w2.2] at z; exact absurd z (by decide)
      unfold tKind
      rw [if_neg (by omega), if_neg hA, if_neg hD]
      by_cases gS : isS (c p) = true
      · rw [if_pos gS]
        unfold isS at gS
        have := of_decide_eq_true gS
        omega
      · rw [if_neg gS]; omega
theorem ts_st {c : Nat → Nat} {T j : Nat} (k : tKind c T (ts c T j) ≠ 1) : ts c T j + 1 ≤ ts c T (j + 1) := by
  have p : ts c T j < T := by
    rcases Nat.lt_or_ge (ts c T j) T with q | q
    · exact q
    · exact absurd (kind_end.mpr q) k
  have := (tEnd_gt (c := c) p).1
  have := ts_ge c T j
  omega
theorem ts_far {c : Nat → Nat} {T : Nat} : ∀ d i, (∀ j, i ≤ j → j < i + d → tKind c T (ts c T j) ≠ 1) → ts c T i + d ≤ ts c T (i + d)
  | 0, i, _ => Nat.le_refl _
  | d + 1, i, h => by
    have := ts_far d i (fun j h1 h2 => h j h1 (by omega))
    have := ts_st (h (i + d) (by omega) (by omega))
    show _ ≤ ts c T (i + d + 1)
    omega
theorem key1 : ∀ op, op < 61 → op ≠ 53 → ∀ a, a < 128 → ¬ mKey.getD op 0 = (nI a).toInt64 := by decide +kernel
theorem nI64 {a : Nat} (h : a < 128) : (nI a).toInt64.toBitVec.toNat = a := by
  have : ∀ a, a < 128 → (nI a).toInt64.toBitVec.toNat = a := by decide +kernel
  exact this a h
theorem nv_2 {c : Nat → Nat} {p : Nat} (h0 : c p < 128) (h1 : c (p + 1) < 128) : (nv c p 2).toBitVec.toNat < 2 ^ 15 := by
  have e : nv c p 2 = (nv c p 1 <<< ((8 : Int32).toInt64 &&& 63)) ||| (nI (c (p + 1))).toInt64 := rfl
  have s : ((8 : Int32).toInt64 &&& 63) = (8 : Int64) := by decide
  rw [e, nv_1, s]
  have : ∀ a, a < 128 → ((nI a).toInt64 <<< (8 : Int64)).toBitVec.toNat < 2 ^ 15 := by decide +kernel
  rw [Int64.toBitVec_or, BitVec.toNat_or]
  refine Nat.or_lt_two_pow (this _ h0) ?_
  rw [nI64 h1]; omega
theorem key2 : ∀ op, op < 61 → opl (tHow.getD op 0) = [] → 2 ^ 15 ≤ (mKey.getD op 0).toBitVec.toNat := by decide +kernel
theorem rg1 : ∀ a, a < 128 → rgO (nI a).toInt64 = none := by decide +kernel
theorem opl_1 : ∀ op, op < 61 → (opl (tHow.getD op 0)).length = 1 → op = 53 ∨ 57 < op := by decide +kernel
theorem opl_2 : ∀ op, op < 61 → (opl (tHow.getD op 0)).length ≠ 2 := by decide +kernel
/-- a statement has four characters, li with two words eight -/
theorem st_len {c : Nat → Nat} {T i i' op : Nat} (hc : ∀ p, c p < 128) (k2 : tKind c T (ts c T i) = 2) (hv : tVal c T (ts c T i) = mKey.getD op 0) (hop : op < 61) (nz : ∀ j, i ≤ j → j ≤ i' → tKind c T (ts c T j) ≠ 1) (hi : i + 1 + (opl (tHow.getD op 0)).length ≤ i')
    (f : ∀ ch l', opl (tHow.getD op 0) = ch :: l' → (ch = 78 → i + 1 + (opl (tHow.getD op 0)).length < i' ∨ tKind c T (ts c T (i + 1)) = 2 ∨ tKind c T (ts c T (i + 1)) = 3) ∧ (ch = 100 → tKind c T (ts c T (i + 1)) = 2 ∧ ∃ r, rgO (tVal c T (ts c T (i + 1))) = some r)) :
    ts c T i + 4 ≤ ts c T (i' + 1) ∧ (op = 57 → ts c T i + 8 ≤ ts c T (i' + 1)) := by
  obtain ⟨pT, pA, e, e8, ev⟩ := k2_of k2
  have e1 := (tEnd_gt (c := c) pT).1
  have ge := ts_ge c T i
  have far : ∀ j, i ≤ j → j ≤ i' + 1 → ts c T j + (i' + 1 - j) ≤ ts c T (i' + 1) := fun j h1 h2 => by
    have := ts_far (i' + 1 - j) j (fun k g1 g2 => nz k (by omega) (by omega))
    rw [show j + (i' + 1 - j) = i' + 1 by omega] at this
    exact this
  have far1 := far (i + 1) (by omega) (by omega)
  have far0 := far i (by omega) (by omega)
  have two : op ≠ 53 → ts c T i + 2 ≤ tEnd c T (ts c T i) := fun q => by
    rcases Nat.lt_or_ge (ts c T i + 1) (tEnd c T (ts c T i)) with w | w
    · exact w
    · exfalso
      have : tEnd c T (ts c T i) - ts c T i = 1 := by omega
      rw [this, nv_1, hv] at ev
      exact key1 op hop q _ (hc _) ev
  constructor
  · rcases Nat.lt_or_ge 2 (opl (tHow.getD op 0)).length with q | q
    · omega
    · have n2 := opl_2 op hop
      rcases Nat.eq_or_lt_of_le (show (opl (tHow.getD op 0)).length ≤ 1 by omega) with q1 | q0
      · rcases opl_1 op hop q1 with rfl | q2
        · have w := (f 78 [] rfl).1 rfl
          have l1 : (opl (tHow.getD 53 0)).length = 1 := rfl
          rcases w with w | w
          · omega
          · have := ts_gap k2 w
            omega
        · have := two (by omega)
          omega
      · have nil : opl (tHow.getD op 0) = [] := List.length_eq_zero_iff.mp (by omega)
        have k := key2 op hop nil
        have n53 : op ≠ 53 := fun q => by subst q; exact absurd nil (by decide)
        have t2 := two n53
        have : ts c T i + 3 ≤ tEnd c T (ts c T i) := by
          rcases Nat.lt_or_ge (ts c T i + 2) (tEnd c T (ts c T i)) with w | w
          · exact w
          · exfalso
            have w' : tEnd c T (ts c T i) - ts c T i = 2 := by omega
            rw [w', hv] at ev
            have := nv_2 (c := c) (p := ts c T i) (hc _) (hc _)
            rw [← ev] at this
            omega
        omega
  · rintro rfl
    obtain ⟨w1, r, w2⟩ := (f 100 [44, 78] rfl).2 rfl
    have l3 : (opl (tHow.getD 57 0)).length = 3 := rfl
    have g1 := ts_gap k2 (Or.inl w1)
    have t2 := two (by decide)
    obtain ⟨qT, _, _, _, ev'⟩ := k2_of w1
    have t3 := (tEnd_gt (c := c) qT).1
    have ge' := ts_ge c T (i + 1)
    have : ts c T (i + 1) + 2 ≤ tEnd c T (ts c T (i + 1)) := by
      rcases Nat.lt_or_ge (ts c T (i + 1) + 1) (tEnd c T (ts c T (i + 1))) with w | w
      · exact w
      · exfalso
        have w' : tEnd c T (ts c T (i + 1)) - ts c T (i + 1) = 1 := by omega
        rw [w', nv_1] at ev'
        rw [ev', rg1 _ (hc _)] at w2
        cases w2
    have far2 := far (i + 2) (by omega) (by omega)
    have : ts c T (i + 1 + 1) = ts c T (i + 2) := rfl
    omega
