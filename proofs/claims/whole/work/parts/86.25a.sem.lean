/-! The whole text is read. -/
def AE (h m : AH) (n L a : Nat) (g : Gh) : Prop := LC h ∧ LM m ∧ AC h m n L a g ∧ FK m (KX h g n L) ∧ n ≤ 375 ∧ L ≤ 750 ∧ g 7 n ≤ 375
def RO (h m : AH) (X : Option (Int32 × AH)) (Y : Option AH) : Prop :=
  (∃ h' m' n L a g, X = f_X1_translate_L79 h' 4 ∧ Y = f_X11_readAll_L71 m' 226 (1 : Int32) ∧ AE h' m' n L a g ∧ FA h h' ∧ FB m m') ∨
  (∃ h' m' p, X = some ((-1 : Int32), h') ∧ Y = f_X11_readAll_L71 m' 226 (0 : Int32) ∧ LM m' ∧ p ≤ 1500 ∧ hI h' 4 16 = (1 : Int32) ∧ hI h' 4 17 = nI p ∧ hI m' 226 3 = (1 : Int32) ∧ hI m' 226 4 = nI p ∧ FA h h' ∧ FB m m')
theorem RO_of {h m h1 m1 : AH} {X : Option (Int32 × AH)} {Y : Option AH} (a : FA h h1) (b : FB m m1) (H : RO h1 m1 X Y) : RO h m X Y := by
  rcases H with ⟨h', m', n, L, a', g, e1, e2, e3, e4, e5⟩ | ⟨h', m', p, e1, e2, e3, e4, e5, e6, e7, e8, e9, e10⟩
  · exact Or.inl ⟨h', m', n, L, a', g, e1, e2, e3, FA_tr a e4, FB_tr b e5⟩
  · exact Or.inr ⟨h', m', p, e1, e2, e3, e4, e5, e6, e7, e8, FA_tr a e9, FB_tr b e10⟩
theorem AT_E {h m : AH} {c : Nat → Nat} {T Nn i : Nat} (S : AT h m c T Nn i) : ∃ n L a g, AE h m n L a g := by
  obtain ⟨n, L, a, g, A, Q, F, b1, b2, b3⟩ := S
  have := ts_le c T i
  have : T ≤ 1500 := Q.1.1.2.2.2.1
  exact ⟨n, L, a, g, Q.1.1.1, Q.2.1.1, A, F, by omega, by omega, by omega⟩
theorem rd_lp {c : Nat → Nat} {T Nn : Nat} (zc : ∀ i, T ≤ i → c i = 0) : ∀ (r : Nat) {h m : AH} {i : Nat} (k f f' : Nat), AT h m c T Nn i → Nn - i ≤ r → 1500 ≤ i + k → k ≤ 1500 → r + 1 < f → r + 1 < f' → RO h m (f_X1_translate_L49 f h 4 (nI k)) (f_X11_readAll_L47 f' m 226 (1 : Int32)) := by
  intro r
  induction r with
  | zero =>
    intro h m i k f f' S hr hk hk15 hf hf'
    obtain ⟨f, rfl⟩ : ∃ q, f = q + 2 := ⟨f - 2, by omega⟩
    obtain ⟨f', rfl⟩ : ∃ q, f' = q + 2 := ⟨f' - 2, by omega⟩
    obtain ⟨n, L, a, g, E⟩ := AT_E S
    have S0 := S
    obtain ⟨n', L', a', g', A, Q, F, b1, b2, b3⟩ := S0
    have iN : i = Nn := by have := Q.2.2.1; omega
    subst iN
    have L1 := Q.1.1.1
    have L2 := Q.2.1.1
    have kl := kind_lt Q.1.1 (ts c T i)
    have kk : hI h 2 3 = nI (tKind c T (ts c T i)) := Q.1.2.2.1
    obtain ⟨a1, a2, a3, a4, a5, a6⟩ := TQ_r Q
    obtain ⟨r1, r2, r3, r4, r5⟩ := rk_i (k := tKind c T (ts c T i))
    by_cases e : tKind c T (ts c T i) = 1
    · left
      refine ⟨h, m, n, L, a, g, ?_, ?_, E, FA_rfl h, FB_rfl m⟩
      · rw [f_X1_translate_L49]
        by_cases z : nI k ≤ 0
        · rw [if_pos z]
        · rw [if_neg z, y_gs, if_pos (lc_S4 L1), lc_R4_0 L1, y_gs, if_pos (lc_S2 L1), kk, if_pos (show nI (tKind c T (ts c T i)) = (1 : Int32) from by rw [e]; rfl)]
      · rw [f_X11_readAll_L47, if_neg (show ¬ (1 : Int32) = 0 from by decide), y_gs, if_pos (lm_S226 L2), lm_R6 L2, y_gs, if_pos (lm_S228 L2), lm_N228 L2, a1, y_gb, if_pos a4, q_cl a5, a2, if_pos (r5.mpr e)]
    · have e0 : tKind c T (ts c T i) = 0 := by have := Q.2.2.2.2.2; omega
      have kpos : ¬ nI k ≤ 0 := fun q => by
        have k0 := (q_le (b := 0) (by omega) (by omega)).mp q
        have N15 := Q.2.2.2.1
        have T15 : T ≤ 1500 := Q.1.1.2.2.2.1
        have far := ts_far i 0 (fun j _ h2 => (Q.2.2.2.2.1 j (by omega)).2) (c := c) (T := T)
        rw [Nat.zero_add] at far
        have : tKind c T (ts c T i) = 1 := kind_end.mpr (by omega)
        omega
      rw [f_X1_translate_L49, f_X11_readAll_L47, if_neg kpos, y_gs, if_pos (lc_S4 L1), lc_R4_0 L1, y_gs, if_pos (lc_S2 L1), kk, if_neg (show ¬ nI (tKind c T (ts c T i)) = (1 : Int32) from fun q => e ((q_eq (b := 1) (by omega) (by omega)).mp q)), if_neg (show ¬ (1 : Int32) = 0 from by decide), y_gs, if_pos (lm_S226 L2), lm_R6 L2, y_gs, if_pos (lm_S228 L2), lm_N228 L2, a1, y_gb, if_pos a4, q_cl a5, a2, if_neg (fun q => e (r5.mp q))]
      rcases stm_so zc S with ⟨h', m', i', s1, s2, s3, s4, s5, s6⟩ | ⟨h', m', p, s1, s2, s3, s4, s5, s6, s7, s8, s9⟩
      · obtain ⟨_, _, _, _, _, Q', _⟩ := s3
        have := Q'.2.2.1; omega
      · right
        rw [s1, s2, y_bds, if_neg (fun q => q rfl), y_bds, y_lt]
        refine ⟨h', m', p, rfl, ?_, LM_3 L2 s9.1, s3.1, s4, s5, s6, s7, s8, s9⟩
        rw [f_X11_readAll_L47, if_pos rfl]
  | succ r ih =>
    intro h m i k f f' S hr hk hk15 hf hf'
    obtain ⟨f, rfl⟩ : ∃ q, f = q + 1 := ⟨f - 1, by omega⟩
    obtain ⟨f', rfl⟩ : ∃ q, f' = q + 1 := ⟨f' - 1, by omega⟩
    by_cases hr0 : Nn - i ≤ r
    · exact ih k (f + 1) (f' + 1) S hr0 hk hk15 (by omega) (by omega)
    have S0 := S
    obtain ⟨n', L', a', g', A, Q, F, b1, b2, b3⟩ := S0
    have iN : i < Nn := by omega
    have L1 := Q.1.1.1
    have L2 := Q.2.1.1
    have kl := kind_lt Q.1.1 (ts c T i)
    have kk : hI h 2 3 = nI (tKind c T (ts c T i)) := Q.1.2.2.1
    obtain ⟨a1, a2, a3, a4, a5, a6⟩ := TQ_r Q
    obtain ⟨r1, r2, r3, r4, r5⟩ := rk_i (k := tKind c T (ts c T i))
    have e : tKind c T (ts c T i) ≠ 1 := (Q.2.2.2.2.1 i iN).2
    have N15 := Q.2.2.2.1
    have kpos : ¬ nI k ≤ 0 := fun q => by have := (q_le (b := 0) (by omega) (by omega)).mp q; omega
    rw [f_X1_translate_L49, f_X11_readAll_L47, if_neg kpos, y_gs, if_pos (lc_S4 L1), lc_R4_0 L1, y_gs, if_pos (lc_S2 L1), kk, if_neg (show ¬ nI (tKind c T (ts c T i)) = (1 : Int32) from fun q => e ((q_eq (b := 1) (by omega) (by omega)).mp q)), if_neg (show ¬ (1 : Int32) = 0 from by decide), y_gs, if_pos (lm_S226 L2), lm_R6 L2, y_gs, if_pos (lm_S228 L2), lm_N228 L2, a1, y_gb, if_pos a4, q_cl a5, a2, if_neg (fun q => e (r5.mp q))]
    rcases stm_so zc S with ⟨h', m', i', s1, s2, s3, s4, s5, s6⟩ | ⟨h', m', p, s1, s2, s3, s4, s5, s6, s7, s8, s9⟩
    · have km : nI k + (-1 : Int32) = nI (k - 1) := by
        rw [show (-1 : Int32) = -nI 1 from rfl, ← Int32.sub_eq_add_neg, q_sub (by omega)]
      rw [s1, s2, y_bds, if_pos (show ¬ (1 : Int32) = 0 from by decide), y_bds, y_lt, y_lt]
      show RO h m (f_X1_translate_L49 f h' 4 (nI k + (-1 : Int32))) (f_X11_readAll_L47 f' m' 226 (1 : Int32))
      rw [km]
      exact RO_of s5 s6 (ih (k - 1) f f' s3 (by omega) (by omega) (by omega) (by omega) (by omega))
    · right
      rw [s1, s2, y_bds, if_neg (fun q => q rfl), y_bds, y_lt]
      refine ⟨h', m', p, rfl, ?_, LM_3 L2 s9.1, s3.1, s4, s5, s6, s7, s8, s9⟩
      obtain ⟨f', rfl⟩ : ∃ q, f' = q + 1 := ⟨f' - 1, by omega⟩
      rw [f_X11_readAll_L47, if_pos rfl]
