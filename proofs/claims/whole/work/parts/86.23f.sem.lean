/-! All tokens. -/
def ts (c : Nat → Nat) (T : Nat) : Nat → Nat
  | 0 => rn isB c T T 0
  | i + 1 => rn isB c T T (tEnd c T (ts c T i))
def tkM (m : AH) (n : Nat) (K P : Int32) (V : Int64) : AH := sI (sL (sI (sI m 228 n K) 229 n P) 230 n V) 226 5 (nI (n + 1))
theorem r_token {m : AH} (L : LM m) {n : Nat} (hn : n < 1502) (h5 : hI m 226 5 = nI n) (K P : Int32) (V : Int64) : f_X11_token m 226 K P V = some (tkM m n K P V) := by
  have LM_L : ∀ {q : AH} {o k : Nat} {v : Int64}, LM q → LM (sL q o k v) := fun {q o k v} Lq => by
    obtain ⟨a, l, r⟩ := q; exact Lq
  unfold f_X11_token
  have La : LM (sI m 228 n K) := L
  have Lb : LM (sI (sI m 228 n K) 229 n P) := L
  rw [y_gs, if_pos (lm_S226 L), lm_R6 L, y_gs, if_pos (lm_S228 L), lm_N228 L, h5, y_gb, if_pos (q_ib hn (by omega)), q_cl (by omega), y_lt, lm_R7 La, y_gs, if_pos (lm_S229 La), lm_N229 La, x_ne (by omega), h5, y_gb, if_pos (q_ib hn (by omega)), q_cl (by omega), y_lt, lm_R8 Lb, y_gs, if_pos (lm_S230 Lb), lm_N230 Lb, x_ne (by omega), x_ne (by omega), h5, y_gb, if_pos (q_ib hn (by omega)), q_cl (by omega), y_lt, x_hI_sL, x_ne (by omega), x_ne (by omega), h5, show (1 : Int32) = nI 1 from rfl, q_add, y_lt]
  rfl
/-- token i stands in the reference's rows -/
def tkA (m : AH) (c : Nat → Nat) (T i : Nat) : Prop := hI m 228 i = nI (rk (tKind c T (ts c T i))) ∧ hI m 229 i = nI (ts c T i) ∧ (tKind c T (ts c T i) = 2 ∨ tKind c T (ts c T i) = 3 → hL m 230 i = tVal c T (ts c T i)) ∧ (3 < tKind c T (ts c T i) → hL m 230 i = (nI (tKind c T (ts c T i))).toInt64)
/-- only tokens changed -/
def FrTk (m m' : AH) : Prop := m'.2.2 = m.2.2 ∧ (∀ o k, o ≠ 228 → o ≠ 229 → ¬ (o = 226 ∧ k = 5) → hI m' o k = hI m o k) ∧ (∀ o k, o ≠ 230 → hL m' o k = hL m o k)
theorem FrTk_tr {a b d : AH} (x : FrTk a b) (y : FrTk b d) : FrTk a d := ⟨y.1.trans x.1, fun o k h1 h2 h3 => (y.2.1 o k h1 h2 h3).trans (x.2.1 o k h1 h2 h3), fun o k h => (y.2.2 o k h).trans (x.2.2 o k h)⟩
theorem FrTk_tk (m : AH) (n : Nat) (K P : Int32) (V : Int64) : FrTk m (tkM m n K P V) := by
  unfold tkM
  refine ⟨rfl, fun o k h1 h2 h3 => ?_, fun o k h => ?_⟩
  · rw [x_ne (by omega), x_hI_sL, x_ne (by omega), x_ne (by omega)]
  · rw [x_hL_sI, x_hL_sL, if_neg (by omega)]; rfl
theorem tkM_at (m : AH) (n : Nat) (K P : Int32) (V : Int64) : hI (tkM m n K P V) 228 n = K ∧ hI (tkM m n K P V) 229 n = P ∧ hL (tkM m n K P V) 230 n = V ∧ hI (tkM m n K P V) 226 5 = nI (n + 1) := by
  unfold tkM
  exact ⟨by rw [x_ne (by omega), x_hI_sL, x_ne (by omega), x_eq], by rw [x_ne (by omega), x_hI_sL, x_eq], by rw [x_hL_sI, x_hL_sL, if_pos ⟨rfl, rfl⟩], x_eq _ _ _ _⟩
theorem tkM_ne (m : AH) {n i : Nat} (K P : Int32) (V : Int64) (g : i ≠ n) : hI (tkM m n K P V) 228 i = hI m 228 i ∧ hI (tkM m n K P V) 229 i = hI m 229 i ∧ hL (tkM m n K P V) 230 i = hL m 230 i := by
  unfold tkM
  exact ⟨by rw [x_ne (by omega), x_hI_sL, x_ne (by omega), x_ne (by omega)], by rw [x_ne (by omega), x_hI_sL, x_ne (by omega), x_ne (by omega)], by rw [x_hL_sI, x_hL_sL, if_neg (by omega)]; rfl⟩
theorem tkA_ne {m : AH} {c : Nat → Nat} {T n i : Nat} {K P : Int32} {V : Int64} (g : i ≠ n) (h : tkA m c T i) : tkA (tkM m n K P V) c T i := by
  obtain ⟨a, b, d⟩ := tkM_ne m K P V g
  unfold tkA at h ⊢
  rw [a, b, d]; exact h
theorem tEnd_gt {c : Nat → Nat} {T p : Nat} (h : p < T) : p < tEnd c T p ∧ tEnd c T p ≤ T := by
  unfold tEnd
  rw [if_neg (by omega)]
  by_cases gA : isA (c p) = true
  · have e : isAD (c p) = true := by unfold isAD; rw [gA]; rfl
    rw [if_pos gA, rn_st h e]
    have := rn_le isAD c T T (p + 1)
    exact ⟨by omega, this.2 (by omega)⟩
  · rw [if_neg gA]
    by_cases gD : isD (c p) = true
    · rw [if_pos gD]
      by_cases gx : hxq c T p = true
      · rw [if_pos gx]
        unfold hxq at gx
        simp only [Bool.and_eq_true, decide_eq_true_eq] at gx
        have := rn_le isX c T T (p + 2)
        exact ⟨by omega, this.2 (by omega)⟩
      · rw [if_neg gx, rn_st h gD]
        have := rn_le isD c T T (p + 1)
        exact ⟨by omega, this.2 (by omega)⟩
    · rw [if_neg gD]; omega
theorem ts_le (c : Nat → Nat) (T : Nat) : ∀ i, ts c T i ≤ T
  | 0 => (rn_le isB c T T 0).2 (Nat.zero_le _)
  | i + 1 => by
    have h := ts_le c T i
    refine (rn_le isB c T T _).2 ?_
    by_cases g : ts c T i < T
    · exact (tEnd_gt g).2
    · unfold tEnd; rw [if_pos (by omega)]; exact h
theorem kind_end {c : Nat → Nat} {T p : Nat} : tKind c T p = 1 ↔ T ≤ p := by
  constructor
  · intro h
    by_cases g : T ≤ p
    · exact g
    · exfalso
      unfold tKind at h
      rw [if_neg g] at h
      split at h
      · split at h <;> omega
      · split at h
        · split at h
          · split at h <;> omega
          · split at h <;> omega
        · split at h
          · next q => unfold isS at q; simp only [decide_eq_true_eq] at q; omega
          · omega
  · intro h; unfold tKind; rw [if_pos h]
theorem tokz {c : Nat → Nat} {T : Nat} : ∀ (r : Nat) {m : AH} (k n f : Nat), RT m c T → T - k ≤ r → k ≤ T → n ≤ k → rn isB c T T k = ts c T n → hI m 226 5 = nI n → (∀ i, i < n → tkA m c T i ∧ tKind c T (ts c T i) ≠ 0 ∧ tKind c T (ts c T i) ≠ 1) → r + 1 < f →
    ∃ m' Nn, f_X11_tokenize_L9 f m 226 (nI k) (1 : Int32) = some m' ∧ FrTk m m' ∧ Nn ≤ 1500 ∧ (∀ i, i ≤ Nn → tkA m' c T i) ∧ (∀ i, i < Nn → tKind c T (ts c T i) ≠ 0 ∧ tKind c T (ts c T i) ≠ 1) ∧ (tKind c T (ts c T Nn) = 0 ∨ tKind c T (ts c T Nn) = 1) := by
  have fin : ∀ {m : AH} (n f : Nat), RT m c T → n ≤ T → ts c T n = T → hI m 226 5 = nI n → (∀ i, i < n → tkA m c T i ∧ tKind c T (ts c T i) ≠ 0 ∧ tKind c T (ts c T i) ≠ 1) → ∃ m' Nn, f_X11_tokenize_L68 m 226 = some m' ∧ FrTk m m' ∧ Nn ≤ 1500 ∧ (∀ i, i ≤ Nn → tkA m' c T i) ∧ (∀ i, i < Nn → tKind c T (ts c T i) ≠ 0 ∧ tKind c T (ts c T i) ≠ 1) ∧ (tKind c T (ts c T Nn) = 0 ∨ tKind c T (ts c T Nn) = 1) := by
    intro m n f M nT tn h5 hA
    have L := M.1
    have T15 := M.2.2.2.1
    have kd : tKind c T (ts c T n) = 1 := kind_end.mpr (by omega)
    refine ⟨_, n, ?_, FrTk_tk m n 0 (nI T) 0, by omega, fun i hi => ?_, fun i hi => (hA i hi).2, Or.inr kd⟩
    · unfold f_X11_tokenize_L68
      rw [y_gs, if_pos (lm_S226 L), M.2.1, r_token L (by omega) h5, y_bds]
    · by_cases e : i = n
      · subst e
        obtain ⟨a, b, d, _⟩ := tkM_at m i 0 (nI T) 0
        unfold tkA
        rw [a, b, kd, tn]
        exact ⟨rfl, rfl, fun q => by omega, fun q => by omega⟩
      · exact tkA_ne e (hA i (by omega)).1
  intro r
  induction r with
  | zero =>
    intro m k n f M hk kT nk hts h5 hA hf
    have L := M.1
    have T15 := M.2.2.2.1
    obtain ⟨f', rfl⟩ : ∃ f', f = f' + 1 := ⟨f - 1, by omega⟩
    have tn : ts c T n = T := by rw [← hts, rn_no (by omega)]; omega
    obtain ⟨m', Nn, a1, a2⟩ := fin n 0 M (by omega) tn h5 hA
    refine ⟨m', Nn, ?_, a2⟩
    unfold f_X11_tokenize_L9
    rw [if_neg (by decide), y_gs, if_pos (lm_S226 L), M.2.1, if_pos ((q_le (by omega) (by omega)).mpr (by omega)), a1]
  | succ r ih =>
    intro m k n f M hk kT nk hts h5 hA hf
    have L := M.1
    have T15 := M.2.2.2.1
    obtain ⟨f', rfl⟩ : ∃ f', f = f' + 1 := ⟨f - 1, by omega⟩
    by_cases g : k < T
    · have lt := rt_c M k
      have nle : ¬ nI T ≤ nI k := fun q => by have := (q_le (by omega) (by omega)).mp q; omega
      rw [f_X11_tokenize_L9, if_neg (by decide), y_gs, if_pos (lm_S226 L), M.2.1, if_neg nle, lm_R1 L, y_gs, if_pos (lm_S227 L), lm_N227 L, y_gb, if_pos (q_ib (by omega) (by omega)), q_cl (by omega), M.2.2.1 k g]
      by_cases b32 : c k = 32
      · rw [if_neg (fun q => q (show nI (c k) = (32 : Int32) from by rw [b32]; rfl)), show (1 : Int32) = nI 1 from rfl, q_add, y_lt]
        exact ih (k + 1) n f' M (by omega) (by omega) (by omega) (by rw [← rn_st g (by unfold isB; rw [b32]; rfl)]; exact hts) h5 hA (by omega)
      · have tn : ts c T n = k := by rw [← hts, rn_no (fun q => by have := q.2; unfold isB at this; exact b32 (of_decide_eq_true this))]
        obtain ⟨V, v1, v2, v3⟩ := one_r M g
        rw [if_pos (show ¬ nI (c k) = (32 : Int32) from fun q => b32 ((q_eq (by omega) (show 32 < 2 ^ 31 by omega)).mp q)), v1, r_token L (by omega) h5, y_bds, y_bds]
        generalize hm1 : tkM m n (nI (rk (tKind c T k))) (nI k) V = m1
        have F1 : FrTk m m1 := by rw [← hm1]; exact FrTk_tk _ _ _ _ _
        have M1 : RT m1 c T := RT_of M F1.1 (fun o q hq => F1.2.1 o q (by omega) (by omega) (by omega))
        obtain ⟨t1, t2, t3, t4⟩ := tkM_at m n (nI (rk (tKind c T k))) (nI k) V
        rw [hm1] at t1 t2 t3 t4
        have tA : tkA m1 c T n := by
          unfold tkA
          rw [tn, t1, t2, t3]
          exact ⟨rfl, rfl, v2, v3⟩
        have hA1 : ∀ i, i < n → tkA m1 c T i ∧ tKind c T (ts c T i) ≠ 0 ∧ tKind c T (ts c T i) ≠ 1 := fun i hi => ⟨by rw [← hm1]; exact tkA_ne (by omega) (hA i hi).1, (hA i hi).2⟩
        have s1 : nI (n + 1) - (1 : Int32) = nI n := by rw [show (1 : Int32) = nI 1 from rfl, q_sub (by omega)]; rfl
        have te := tEnd_gt (c := c) g
        rw [y_lt, y_gs, if_pos (lm_S226 M1.1), lm_R6 M1.1, y_gs, if_pos (lm_S228 M1.1), lm_N228 M1.1, t4, s1, y_gb, if_pos (q_ib (by omega) (by omega)), q_cl (by omega), t1]
        unfold f_X11_tokenize_L64
        by_cases k0 : tKind c T k = 0
        · have z : nI (rk (tKind c T k)) = (4 : Int32) := by rw [k0]; rfl
          rw [if_pos z]
          obtain ⟨f'', rfl⟩ : ∃ f'', f' = f'' + 1 := ⟨f' - 1, by omega⟩
          refine ⟨tkM m1 (n + 1) 0 (nI T) 0, n, ?_, FrTk_tr F1 (FrTk_tk _ _ _ _ _), by omega, fun i hi => ?_, fun i hi => (hA i hi).2, Or.inl (by rw [tn]; exact k0)⟩
          · unfold f_X11_tokenize_L9 f_X11_tokenize_L68
            rw [if_pos rfl, y_gs, if_pos (lm_S226 M1.1), M1.2.1, r_token M1.1 (by omega) t4, y_bds]
          · refine tkA_ne (by omega) ?_
            by_cases e : i = n
            · rw [e]; exact tA
            · exact (hA1 i (by omega)).1
        · have z : ¬ nI (rk (tKind c T k)) = (4 : Int32) := by
            unfold rk; rw [if_neg k0]
            split
            · decide
            · split
              · decide
              · split <;> decide
          rw [if_neg z]
          obtain ⟨m', Nn, a1, a2, a3⟩ := ih (tEnd c T k) (n + 1) f' M1 (by omega) te.2 (by omega) (by show _ = rn isB c T T (tEnd c T (ts c T n)); rw [tn]) t4 (fun i hi => by
            by_cases e : i = n
            · rw [e]; exact ⟨tA, by rw [tn]; exact k0, by rw [tn]; exact fun q => by have := kind_end.mp q; omega⟩
            · exact hA1 i (by omega)) (by omega)
          exact ⟨m', Nn, a1, FrTk_tr F1 a2, a3⟩
    · have tn : ts c T n = T := by rw [← hts, rn_no (by omega)]; omega
      obtain ⟨m', Nn, a1, a2⟩ := fin n 0 M (by omega) tn h5 hA
      refine ⟨m', Nn, ?_, a2⟩
      unfold f_X11_tokenize_L9
      rw [if_neg (by decide), y_gs, if_pos (lm_S226 L), M.2.1, if_pos ((q_le (by omega) (by omega)).mpr (by omega)), a1]
theorem r_tokenize {m : AH} {c : Nat → Nat} {T : Nat} (M : RT m c T) : ∃ m' Nn, f_X11_tokenize m 226 = some m' ∧ FrTk m m' ∧ Nn ≤ 1500 ∧ (∀ i, i ≤ Nn → tkA m' c T i) ∧ (∀ i, i < Nn → tKind c T (ts c T i) ≠ 0 ∧ tKind c T (ts c T i) ≠ 1) ∧ (tKind c T (ts c T Nn) = 0 ∨ tKind c T (ts c T Nn) = 1) := by
  have T15 := M.2.2.2.1
  unfold f_X11_tokenize
  rw [y_gs, if_pos (lm_S226 M.1), y_lt, y_lt, y_lt]
  have M0 : RT (sI m 226 5 (0 : Int32)) c T := RT_of M rfl (fun o k h => x_ne (by omega))
  obtain ⟨m', Nn, a1, a2, a3⟩ := tokz T (m := sI m 226 5 (0 : Int32)) 0 0 FU M0 (by omega) (by omega) (by omega) rfl (x_eq _ _ _ _) (fun i hi => by omega) (FU_gt (by omega))
  refine ⟨m', Nn, a1, ⟨a2.1, fun o k h1 h2 h3 => ?_, a2.2.2⟩, a3⟩
  rw [a2.2.1 o k h1 h2 h3, x_ne (by omega)]
