/-! Tokens in the reference. -/
def RT (m : AH) (c : Nat → Nat) (T : Nat) : Prop := LM m ∧ hI m 226 2 = nI T ∧ (∀ i, i < T → hI m 227 i = nI (c i)) ∧ T ≤ 1500 ∧ (∀ i, i < T → 32 ≤ c i ∧ c i ≤ 126) ∧ (∀ i, T ≤ i → c i = 0)
theorem RT_of {m m' : AH} {c : Nat → Nat} {T : Nat} (C : RT m c T) (e : m'.2.2 = m.2.2) (f : ∀ o k, o = 227 ∨ (o = 226 ∧ k = 2) → hI m' o k = hI m o k) : RT m' c T := by
  obtain ⟨L, a, b, d, g⟩ := C
  refine ⟨?_, by rw [f _ _ (by omega)]; exact a, fun i hi => by rw [f _ _ (by omega)]; exact b i hi, d, g⟩
  obtain ⟨x, l, r⟩ := m'
  have e' : r = m.2.2 := e
  subst e'
  exact L
theorem rt_c {m : AH} {c : Nat → Nat} {T : Nat} (M : RT m c T) (p : Nat) : c p < 128 := by
  obtain ⟨L, a, b, d, g, z⟩ := M
  by_cases hp : p < T
  · have := g p hp; omega
  · rw [z p (by omega)]; omega
theorem rsee {m : AH} {c : Nat → Nat} {T p : Nat} (M : RT m c T) (hp : p < 2 ^ 31) : f_X11_see m 226 (nI p) = some (nI (c p)) := by
  obtain ⟨L, a, b, d, g, z⟩ := M
  unfold f_X11_see
  rw [y_gs, if_pos (lm_S226 L), a]
  by_cases h : p < T
  · rw [if_neg (fun q => by have := (q_le (by omega) hp).mp q; omega), lm_R1 L, y_gs, if_pos (lm_S227 L), lm_N227 L, y_gb, if_pos (q_ib (by omega) (by omega)), q_cl hp, b p h]
  · rw [if_pos ((q_le (by omega) hp).mpr (by omega)), z p (by omega)]; rfl
theorem rA (h : AH) {c : Nat} (hc : c < 128) : f_X11_isSmall h (nI c) = some (if isA c = true then 1 else 0) := by
  unfold f_X11_isSmall isA
  obtain ⟨q1, q2, q3, q4, q5⟩ := cq hc
  simp only [q3, q5, Bool.and_eq_true, decide_eq_true_eq]
  by_cases g : c < 97
  · rw [if_pos g, if_neg (by omega)]
  · rw [if_neg g]
    by_cases g2 : 122 < c
    · rw [if_pos g2, if_neg (by omega)]
    · rw [if_neg g2, if_pos (by omega)]
theorem rD (h : AH) {c : Nat} (hc : c < 128) : f_X11_isDigit h (nI c) = some (if isD c = true then 1 else 0) := by
  rw [r_isDigit h c hc]; unfold isD
  simp only [Bool.and_eq_true, decide_eq_true_eq]
theorem rXx (h : AH) {c : Nat} (hc : c < 128) : f_X11_isHex h (nI c) = some (if isX c = true then 1 else 0) := by
  rw [r_isHex h hc]
  have : ∀ c, c < 128 → (dgt c).isSome = isX c := by decide +kernel
  rw [this c hc]
theorem nv_1 (c : Nat → Nat) (p : Nat) : nv c p 1 = (nI (c p)).toInt64 := by
  show ((0 : Int64) <<< ((8 : Int32).toInt64 &&& 63)) ||| (nI (c (p + 0))).toInt64 = _
  rw [show (0 : Int64) <<< ((8 : Int32).toInt64 &&& 63) = 0 from by decide, Int64.zero_or]; rfl
theorem c_0 {P : Nat → Bool} {c : Nat → Nat} {T p : Nat} (z : ∀ i, T ≤ i → c i = 0) (h0 : P 0 = false) (h : P (c p) = true) : p < T := by
  by_cases g : p < T
  · exact g
  · rw [z p (by omega), h0] at h; cases h
/-- names -/
theorem name_r {m : AH} {c : Nat → Nat} {T p : Nat} (M : RT m c T) : ∀ n j f, p + j ≤ T → T - (p + j) ≤ n → n < f → ∃ V, f_X11_oneToken_L233 f m 226 (nI p) (nI (p + j)) (nv c p (min j 8)) = f_X11_oneToken_L302 m (nI p) (nI (rn isAD c T n (p + j))) V 226 (if rn isAD c T n (p + j) - p ≤ 8 then (1 : Int32) else (4 : Int32)) ∧ (rn isAD c T n (p + j) - p ≤ 8 → V = nv c p (rn isAD c T n (p + j) - p)) := by
  have L := M.1
  have T15 := M.2.2.2.1
  have z := M.2.2.2.2.2
  have stop : ∀ j f, p + j ≤ 1500 → ¬ isAD (c (p + j)) = true → 0 < f → ∃ V, f_X11_oneToken_L233 f m 226 (nI p) (nI (p + j)) (nv c p (min j 8)) = f_X11_oneToken_L302 m (nI p) (nI (p + j)) V 226 (if p + j - p ≤ 8 then (1 : Int32) else (4 : Int32)) ∧ (p + j - p ≤ 8 → V = nv c p (p + j - p)) := by
    intro j f hj e hf
    obtain ⟨f', rfl⟩ : ∃ f', f = f' + 1 := ⟨f - 1, by omega⟩
    have lt := rt_c M (p + j)
    have eA : ¬ isA (c (p + j)) = true := fun q => e (by unfold isAD; rw [q]; rfl)
    have eD : ¬ isD (c (p + j)) = true := fun q => e (by unfold isAD; rw [q]; simp)
    refine ⟨nv c p (min j 8), ?_, fun q => by rw [show p + j - p = j by omega] at q ⊢; rw [Nat.min_eq_left q]⟩
    unfold f_X11_oneToken_L233
    rw [y_gs, if_pos (lm_S226 L), rsee M (by omega), y_bds, rA m lt, if_neg eA, y_bds, if_neg (fun q => q rfl), y_bds, rD m lt, if_neg eD, y_bds, if_pos rfl, q_sub (by omega)]
    by_cases g8 : p + j - p ≤ 8
    · rw [if_pos (show nI (p + j - p) ≤ (8 : Int32) from (q_le (b := 8) (by omega) (by omega)).mpr g8), if_pos g8]
    · rw [if_neg (show ¬ nI (p + j - p) ≤ (8 : Int32) from fun q => g8 ((q_le (b := 8) (by omega) (by omega)).mp q)), if_neg g8]
  intro n
  induction n with
  | zero =>
    intro j f hp hn hf
    unfold rn
    refine stop j f (by omega) ?_ (by omega)
    rw [z _ (by omega)]; decide
  | succ n ih =>
    intro j f hp hn hf
    unfold rn
    by_cases e : isAD (c (p + j)) = true
    · have g : p + j < T := c_0 z (by decide) e
      obtain ⟨f', rfl⟩ : ∃ f', f = f' + 1 := ⟨f - 1, by omega⟩
      have lt := rt_c M (p + j)
      rw [if_pos ⟨g, e⟩]
      obtain ⟨V, v1, v2⟩ := ih (j + 1) f' (by omega) (by omega) (by omega)
      refine ⟨V, ?_, v2⟩
      have l255 : f_X11_oneToken_L255 (f_X11_oneToken_L233 f') m 226 (nI p) (nI (p + j)) (nv c p (min j 8)) = f_X11_oneToken_L233 f' m 226 (nI p) (nI (p + (j + 1))) (nv c p (min (j + 1) 8)) := by
        unfold f_X11_oneToken_L255 f_X11_oneToken_L280
        rw [q_sub (by omega), show p + j - p = j by omega, y_gs, if_pos (lm_S226 L), rsee M (by omega), y_bds, show (1 : Int32) = nI 1 from rfl, q_add, y_lt, y_lt]
        by_cases g8 : 8 ≤ j
        · rw [if_pos (show (8 : Int32) ≤ nI j from (q_le (a := 8) (by omega) (by omega)).mpr g8), Nat.min_eq_right g8, Nat.min_eq_right (by omega)]; rfl
        · rw [if_neg (show ¬ (8 : Int32) ≤ nI j from fun q => g8 ((q_le (a := 8) (by omega) (by omega)).mp q)), Nat.min_eq_left (by omega), Nat.min_eq_left (by omega)]; rfl
      refine Eq.trans ?_ v1
      rw [← l255, f_X11_oneToken_L233, y_gs, if_pos (lm_S226 L), rsee M (by omega), y_bds, rA m lt, y_bds, y_bds, rD m lt, y_bds]
      by_cases eA : isA (c (p + j)) = true
      · rw [if_pos eA, if_pos (by decide)]
      · have eD : isD (c (p + j)) = true := by
          unfold isAD at e
          cases hA : isA (c (p + j))
          · rw [hA, Bool.false_or] at e; exact e
          · exact absurd hA eA
        rw [if_neg eA, if_neg (fun q => q rfl), if_pos eD, if_neg (by decide)]
    · rw [if_neg (fun q => e q.2)]
      exact stop j f (by omega) e (by omega)
theorem d48 : ∀ c, c < 128 → isD c = true → (dv c).toInt64 = (nI c).toInt64 - (48 : Int64) := by decide +kernel
/-- decimal numbers -/
theorem dec_r {m : AH} {c : Nat → Nat} {T p : Nat} (M : RT m c T) : ∀ n j f, p + j ≤ T → T - (p + j) ≤ n → n < f → ∃ V, f_X11_oneToken_L154 f m 226 (nI p) (nI (p + j)) (mv 10 c p (min j 10)) = f_X11_oneToken_L217 m (nI p) (nI (rn isD c T n (p + j))) V 226 (if rn isD c T n (p + j) - p ≤ 10 then (2 : Int32) else (4 : Int32)) ∧ (rn isD c T n (p + j) - p ≤ 10 → V = mv 10 c p (rn isD c T n (p + j) - p)) := by
  have L := M.1
  have T15 := M.2.2.2.1
  have z := M.2.2.2.2.2
  have stop : ∀ j f, p + j ≤ 1500 → ¬ isD (c (p + j)) = true → 0 < f → ∃ V, f_X11_oneToken_L154 f m 226 (nI p) (nI (p + j)) (mv 10 c p (min j 10)) = f_X11_oneToken_L217 m (nI p) (nI (p + j)) V 226 (if p + j - p ≤ 10 then (2 : Int32) else (4 : Int32)) ∧ (p + j - p ≤ 10 → V = mv 10 c p (p + j - p)) := by
    intro j f hj e hf
    obtain ⟨f', rfl⟩ : ∃ f', f = f' + 1 := ⟨f - 1, by omega⟩
    have lt := rt_c M (p + j)
    refine ⟨mv 10 c p (min j 10), ?_, fun q => by rw [show p + j - p = j by omega] at q ⊢; rw [Nat.min_eq_left q]⟩
    unfold f_X11_oneToken_L154
    rw [y_gs, if_pos (lm_S226 L), rsee M (by omega), y_bds, rD m lt, if_neg e, y_bds, if_pos rfl, q_sub (by omega)]
    by_cases g8 : p + j - p ≤ 10
    · rw [if_pos (show nI (p + j - p) ≤ (10 : Int32) from (q_le (b := 10) (by omega) (by omega)).mpr g8), if_pos g8]
    · rw [if_neg (show ¬ nI (p + j - p) ≤ (10 : Int32) from fun q => g8 ((q_le (b := 10) (by omega) (by omega)).mp q)), if_neg g8]
  intro n
  induction n with
  | zero =>
    intro j f hp hn hf
    unfold rn
    refine stop j f (by omega) ?_ (by omega)
    rw [z _ (by omega)]; decide
  | succ n ih =>
    intro j f hp hn hf
    unfold rn
    by_cases e : isD (c (p + j)) = true
    · have g : p + j < T := c_0 z (by decide) e
      obtain ⟨f', rfl⟩ : ∃ f', f = f' + 1 := ⟨f - 1, by omega⟩
      have lt := rt_c M (p + j)
      rw [if_pos ⟨g, e⟩]
      obtain ⟨V, v1, v2⟩ := ih (j + 1) f' (by omega) (by omega) (by omega)
      refine ⟨V, ?_, v2⟩
      refine Eq.trans ?_ v1
      rw [f_X11_oneToken_L154]; unfold f_X11_oneToken_L195
      rw [y_gs, if_pos (lm_S226 L), rsee M (by omega), y_bds, rD m lt, if_pos e, y_bds, if_neg (by decide), q_sub (by omega), show p + j - p = j by omega, y_bds, show (1 : Int32) = nI 1 from rfl, q_add, y_lt, y_lt]
      by_cases g8 : 10 ≤ j
      · rw [if_pos (show (10 : Int32) ≤ nI j from (q_le (a := 10) (by omega) (by omega)).mpr g8), Nat.min_eq_right g8, Nat.min_eq_right (by omega)]; rfl
      · have st : (10 : Int64) * mv 10 c p j + (nI (c (p + j))).toInt64 - (48 : Int64) = mv 10 c p (j + 1) := by
          show _ = mv 10 c p j * 10 + (dv (c (p + j))).toInt64
          rw [d48 _ lt e, Int64.mul_comm, Int64.sub_eq_add_neg, Int64.add_assoc, ← Int64.sub_eq_add_neg]
        rw [if_neg (show ¬ (10 : Int32) ≤ nI j from fun q => g8 ((q_le (a := 10) (by omega) (by omega)).mp q)), Nat.min_eq_left (by omega), Nat.min_eq_left (by omega), st]; rfl
    · rw [if_neg (fun q => e q.2)]
      exact stop j f (by omega) e (by omega)
/-- numbers of base 16 -/
theorem hex_r {m : AH} {c : Nat → Nat} {T p : Nat} (M : RT m c T) : ∀ n j f, p + 2 + j ≤ T → T - (p + 2 + j) ≤ n → n < f → ∃ V, f_X11_oneToken_L37 f m 226 (nI p) (nI (p + 2 + j)) (mv 16 c (p + 2) (min j 8)) = f_X11_oneToken_L131 m (nI p) (nI (rn isX c T n (p + 2 + j))) V 226 (if 1 ≤ rn isX c T n (p + 2 + j) - (p + 2) ∧ rn isX c T n (p + 2 + j) - (p + 2) ≤ 8 then (2 : Int32) else (4 : Int32)) ∧ (rn isX c T n (p + 2 + j) - (p + 2) ≤ 8 → V = mv 16 c (p + 2) (rn isX c T n (p + 2 + j) - (p + 2))) := by
  have L := M.1
  have T15 := M.2.2.2.1
  have z := M.2.2.2.2.2
  have stop : ∀ j f, p + 2 + j ≤ 1500 → ¬ isX (c (p + 2 + j)) = true → 0 < f → ∃ V, f_X11_oneToken_L37 f m 226 (nI p) (nI (p + 2 + j)) (mv 16 c (p + 2) (min j 8)) = f_X11_oneToken_L131 m (nI p) (nI (p + 2 + j)) V 226 (if 1 ≤ p + 2 + j - (p + 2) ∧ p + 2 + j - (p + 2) ≤ 8 then (2 : Int32) else (4 : Int32)) ∧ (p + 2 + j - (p + 2) ≤ 8 → V = mv 16 c (p + 2) (p + 2 + j - (p + 2))) := by
    intro j f hj e hf
    obtain ⟨f', rfl⟩ : ∃ f', f = f' + 1 := ⟨f - 1, by omega⟩
    have lt := rt_c M (p + 2 + j)
    refine ⟨mv 16 c (p + 2) (min j 8), ?_, fun q => by rw [show p + 2 + j - (p + 2) = j by omega] at q ⊢; rw [Nat.min_eq_left q]⟩
    unfold f_X11_oneToken_L37 f_X11_oneToken_L126
    rw [y_gs, if_pos (lm_S226 L), rsee M (by omega), y_bds, rXx m lt, if_neg e, y_bds, if_pos rfl, q_sub (by omega), show p + 2 + j - p = j + 2 by omega, show p + 2 + j - (p + 2) = j by omega]
    by_cases g1 : j + 2 < 3
    · rw [if_pos (show nI (j + 2) < (3 : Int32) from (q_lt (b := 3) (by omega) (by omega)).mpr g1), if_neg (by omega)]
    · rw [if_neg (show ¬ nI (j + 2) < (3 : Int32) from fun q => g1 ((q_lt (b := 3) (by omega) (by omega)).mp q))]
      by_cases g8 : j + 2 ≤ 10
      · rw [if_pos (show nI (j + 2) ≤ (10 : Int32) from (q_le (b := 10) (by omega) (by omega)).mpr g8), if_pos (by omega)]
      · rw [if_neg (show ¬ nI (j + 2) ≤ (10 : Int32) from fun q => g8 ((q_le (b := 10) (by omega) (by omega)).mp q)), if_neg (by omega)]
  intro n
  induction n with
  | zero =>
    intro j f hp hn hf
    unfold rn
    refine stop j f (by omega) ?_ (by omega)
    rw [z _ (by omega)]; decide
  | succ n ih =>
    intro j f hp hn hf
    unfold rn
    by_cases e : isX (c (p + 2 + j)) = true
    · have g : p + 2 + j < T := c_0 z (by decide) e
      obtain ⟨f', rfl⟩ : ∃ f', f = f' + 1 := ⟨f - 1, by omega⟩
      have lt := rt_c M (p + 2 + j)
      rw [if_pos ⟨g, e⟩]
      obtain ⟨V, v1, v2⟩ := ih (j + 1) f' (by omega) (by omega) (by omega)
      refine ⟨V, ?_, v2⟩
      refine Eq.trans ?_ v1
      rw [f_X11_oneToken_L37]; unfold f_X11_oneToken_L95 f_X11_oneToken_L102
      rw [y_gs, if_pos (lm_S226 L), rsee M (by omega), y_bds, rXx m lt, if_pos e, y_bds, if_neg (by decide), q_sub (by omega), show p + 2 + j - p = j + 2 by omega, y_bds, rD m lt, y_bds, y_bds, y_bds, show (1 : Int32) = nI 1 from rfl, q_add, y_lt, y_lt, y_lt]
      by_cases g8 : 8 ≤ j
      · rw [if_pos (show (10 : Int32) ≤ nI (j + 2) from (q_le (a := 10) (by omega) (by omega)).mpr (by omega)), Nat.min_eq_right g8, Nat.min_eq_right (by omega)]; rfl
      · have st : (16 : Int64) * mv 16 c (p + 2) j + (dv (c (p + 2 + j))).toInt64 = mv 16 c (p + 2) (j + 1) := by
          show _ = mv 16 c (p + 2) j * 16 + (dv (c (p + 2 + j))).toInt64
          rw [Int64.mul_comm]
        rw [if_neg (show ¬ (10 : Int32) ≤ nI (j + 2) from fun q => g8 (by have := (q_le (a := 10) (by omega) (by omega)).mp q; omega)), Nat.min_eq_left (by omega), Nat.min_eq_left (by omega), ← st]
        unfold dv
        by_cases eD : isD (c (p + 2 + j)) = true
        · rw [if_pos eD, if_pos eD, if_neg (show ¬ nI 1 = 0 from by decide)]; rfl
        · rw [if_neg eD, if_neg eD, if_pos rfl]; rfl
    · rw [if_neg (fun q => e q.2)]
      exact stop j f (by omega) e (by omega)
