theorem rn_f {P : Nat → Bool} {c : Nat → Nat} {T : Nat} : ∀ n p, T - p ≤ n → rn P c T (n + 1) p = rn P c T n p
  | 0, p => fun h => by
    show (if p < T ∧ P (c p) = true then rn P c T 0 (p + 1) else p) = p
    rw [if_neg (by omega)]
  | n + 1, p => fun h => by
    show (if p < T ∧ P (c p) = true then rn P c T (n + 1) (p + 1) else p) = (if p < T ∧ P (c p) = true then rn P c T n (p + 1) else p)
    by_cases g : p < T ∧ P (c p) = true
    · rw [if_pos g, if_pos g, rn_f n (p + 1) (by omega)]
    · rw [if_neg g, if_neg g]
theorem rn_st {P : Nat → Bool} {c : Nat → Nat} {T p : Nat} (h : p < T) (e : P (c p) = true) : rn P c T T p = rn P c T T (p + 1) := by
  obtain ⟨n, hn⟩ : ∃ n, T = n + 1 := ⟨T - 1, by omega⟩
  have h1 : rn P c T (n + 1) p = rn P c T n (p + 1) := by rw [rn, if_pos ⟨h, e⟩]
  have h2 : rn P c T (n + 1) (p + 1) = rn P c T n (p + 1) := rn_f n (p + 1) (by omega)
  rw [show rn P c T T p = rn P c T (n + 1) p from by rw [← hn], show rn P c T T (p + 1) = rn P c T (n + 1) (p + 1) from by rw [← hn], h1, h2]
theorem rn_no {P : Nat → Bool} {c : Nat → Nat} {T p : Nat} (e : ¬ (p < T ∧ P (c p) = true)) : ∀ n, rn P c T n p = p
  | 0 => rfl
  | n + 1 => by rw [rn, if_neg e]
def rk (k : Nat) : Nat := if k = 0 then 4 else if k = 1 then 0 else if k = 2 then 1 else if k = 3 then 2 else 3
theorem min1 (n : Nat) (h : 1 ≤ n) : min 1 n = 1 := Nat.min_eq_left h
theorem one_r {m : AH} {c : Nat → Nat} {T p : Nat} (M : RT m c T) (hp : p < T) : ∃ V, f_X11_oneToken m 226 (nI p) = (bd (f_X11_token m 226 (nI (rk (tKind c T p))) (nI p) V) fun q => some (nI (tEnd c T p), q)) ∧ (tKind c T p = 2 ∨ tKind c T p = 3 → V = tVal c T p) ∧ (3 < tKind c T p → V = (nI (tKind c T p)).toInt64) := by
  have L := M.1
  have T15 := M.2.2.2.1
  have z := M.2.2.2.2.2
  have lt := rt_c M p
  have nT : ¬ T ≤ p := by omega
  have add1 : nI p + (1 : Int32) = nI (p + 1) := by rw [show (1 : Int32) = nI 1 from rfl, q_add]
  have st : hI m 227 p = nI (c p) := M.2.2.1 p hp
  have head : f_X11_oneToken m 226 (nI p) = if hxq c T p = true then f_X11_oneToken_L37 FU m 226 (nI p) (nI (p + 2 + 0)) (mv 16 c (p + 2) (min 0 8)) else f_X11_oneToken_L140 m 226 (nI p) (nI (c p)) (nI (p + 1)) (nI (c p)).toInt64 := by
    unfold f_X11_oneToken
    rw [y_gs, if_pos (lm_S226 L), lm_R1 L, y_gs, if_pos (lm_S227 L), lm_N227 L, y_gb, if_pos (q_ib (by omega) (by omega)), q_cl (by omega), st, y_lt, add1, y_lt, y_lt]
    unfold hxq
    by_cases g1 : c p = 48
    · rw [if_neg (fun q => q (show nI (c p) = (48 : Int32) from by rw [g1]; rfl)), rsee M (by omega), y_bds]
      by_cases g3 : c (p + 1) = 120
      · have g2 : p + 1 < T := by
          by_cases w : p + 1 < T
          · exact w
          · rw [z (p + 1) (by omega)] at g3; omega
        rw [if_neg (fun q => q (show nI (c (p + 1)) = (120 : Int32) from by rw [g3]; rfl)), decide_eq_true g1, decide_eq_true g2, decide_eq_true g3, if_pos (show (true && (true && true)) = true from rfl), y_lt, y_lt, show (1 : Int32) = nI 1 from rfl, q_add]; rfl
      · have lt1 := rt_c M (p + 1)
        rw [if_pos (show ¬ nI (c (p + 1)) = (120 : Int32) from fun q => g3 ((q_eq (by omega) (show 120 < 2 ^ 31 by omega)).mp q)), decide_eq_false g3, Bool.and_false, Bool.and_false, if_neg (by decide)]
    · rw [if_pos (show ¬ nI (c p) = (48 : Int32) from fun q => g1 ((q_eq (by omega) (show 48 < 2 ^ 31 by omega)).mp q)), decide_eq_false g1, Bool.false_and, if_neg (by decide)]
  rw [head]
  by_cases gx : hxq c T p = true
  · have fx : c p = 48 ∧ p + 1 < T ∧ c (p + 1) = 120 := by
      unfold hxq at gx
      simp only [Bool.and_eq_true, decide_eq_true_eq] at gx
      exact gx
    have nA : ¬ isA (c p) = true := by rw [fx.1]; decide
    have yD : isD (c p) = true := by rw [fx.1]; decide
    rw [if_pos gx]
    obtain ⟨V, v1, v2⟩ := hex_r (p := p) M T 0 FU (by omega) (by omega) (FU_gt (by omega))
    rw [v1, show p + 2 + 0 = p + 2 from rfl]
    rw [show p + 2 + 0 = p + 2 from rfl] at v2
    have te : tEnd c T p = rn isX c T T (p + 2) := by unfold tEnd; rw [if_neg nT, if_neg nA, if_pos yD, if_pos gx]
    have tk : tKind c T p = if 1 ≤ tEnd c T p - (p + 2) ∧ tEnd c T p - (p + 2) ≤ 8 then 3 else 0 := by unfold tKind; rw [if_neg nT, if_neg nA, if_pos yD, if_pos gx]
    have tv : tVal c T p = mv 16 c (p + 2) (tEnd c T p - (p + 2)) := by unfold tVal; rw [if_neg nT, if_neg nA, if_pos yD, if_pos gx]
    rw [← te] at v2 ⊢
    refine ⟨V, ?_, fun q => ?_, fun q => ?_⟩
    · unfold f_X11_oneToken_L131 f_X11_oneToken_L359
      rw [y_gs, if_pos (lm_S226 L), tk]
      by_cases g : 1 ≤ tEnd c T p - (p + 2) ∧ tEnd c T p - (p + 2) ≤ 8
      · rw [if_pos g, if_pos g]; rfl
      · rw [if_neg g, if_neg g]; rfl
    · rw [tk] at q
      by_cases g : 1 ≤ tEnd c T p - (p + 2) ∧ tEnd c T p - (p + 2) ≤ 8
      · rw [tv]; exact v2 g.2
      · rw [if_neg g] at q; omega
    · rw [tk] at q; split at q <;> omega
  · rw [if_neg gx]
    unfold f_X11_oneToken_L140
    rw [rD m lt, y_bds, rA m lt, y_bds]
    by_cases gD : isD (c p) = true
    · have nA : ¬ isA (c p) = true := by
        unfold isD at gD; unfold isA
        simp only [Bool.and_eq_true, decide_eq_true_eq] at gD ⊢; omega
      rw [if_pos gD, if_neg (show ¬ (1 : Int32) = 0 from by decide), y_lt]
      obtain ⟨V, v1, v2⟩ := dec_r (p := p) M T 1 FU (by omega) (by omega) (FU_gt (by omega))
      have m1 : mv 10 c p (min 1 10) = (nI (c p) - (48 : Int32)).toInt64 := by
        show (0 : Int64) * 10 + (dv (c (p + 0))).toInt64 = _
        rw [Int64.zero_mul, Int64.zero_add]; unfold dv; rw [show p + 0 = p from rfl, if_pos gD]
      rw [m1] at v1
      have re : rn isD c T T (p + 1) = rn isD c T T p := (rn_st hp gD).symm
      rw [re] at v1 v2
      rw [v1]
      have te : tEnd c T p = rn isD c T T p := by unfold tEnd; rw [if_neg nT, if_neg nA, if_pos gD, if_neg gx]
      have tk : tKind c T p = if tEnd c T p - p ≤ 10 then 3 else 0 := by unfold tKind; rw [if_neg nT, if_neg nA, if_pos gD, if_neg gx]
      have tv : tVal c T p = mv 10 c p (tEnd c T p - p) := by unfold tVal; rw [if_neg nT, if_neg nA, if_pos gD, if_neg gx]
      rw [← te] at v2 ⊢
      refine ⟨V, ?_, fun q => ?_, fun q => ?_⟩
      · unfold f_X11_oneToken_L217 f_X11_oneToken_L359
        rw [y_gs, if_pos (lm_S226 L), tk]
        by_cases g : tEnd c T p - p ≤ 10
        · rw [if_pos g, if_pos g]; rfl
        · rw [if_neg g, if_neg g]; rfl
      · rw [tk] at q
        by_cases g : tEnd c T p - p ≤ 10
        · rw [tv]; exact v2 g
        · rw [if_neg g] at q; omega
      · rw [tk] at q; split at q <;> omega
    · rw [if_neg gD, if_pos rfl]
      by_cases gA : isA (c p) = true
      · rw [if_pos gA, if_neg (show ¬ (1 : Int32) = 0 from by decide)]
        have gAD : isAD (c p) = true := by unfold isAD; rw [gA]; rfl
        obtain ⟨V, v1, v2⟩ := name_r (p := p) M T 1 FU (by omega) (by omega) (FU_gt (by omega))
        rw [show min 1 8 = 1 from rfl, nv_1] at v1
        have re : rn isAD c T T (p + 1) = rn isAD c T T p := (rn_st hp gAD).symm
        rw [re] at v1 v2
        rw [v1]
        have te : tEnd c T p = rn isAD c T T p := by unfold tEnd; rw [if_neg nT, if_pos gA]
        have tk : tKind c T p = if tEnd c T p - p ≤ 8 then 2 else 0 := by unfold tKind; rw [if_neg nT, if_pos gA]
        have tv : tVal c T p = nv c p (tEnd c T p - p) := by unfold tVal; rw [if_neg nT, if_pos gA]
        rw [← te] at v2 ⊢
        refine ⟨V, ?_, fun q => ?_, fun q => ?_⟩
        · unfold f_X11_oneToken_L302 f_X11_oneToken_L359
          rw [y_gs, if_pos (lm_S226 L), tk]
          by_cases g : tEnd c T p - p ≤ 8
          · rw [if_pos g, if_pos g]; rfl
          · rw [if_neg g, if_neg g]; rfl
        · rw [tk] at q
          by_cases g : tEnd c T p - p ≤ 8
          · rw [tv]; exact v2 g
          · rw [if_neg g] at q; omega
        · rw [tk] at q; split at q <;> omega
      · rw [if_neg gA, if_pos rfl]
        have te : tEnd c T p = p + 1 := by unfold tEnd; rw [if_neg nT, if_neg gA, if_neg gD]
        have tk : tKind c T p = if isS (c p) = true then c p else 0 := by unfold tKind; rw [if_neg nT, if_neg gA, if_neg gD]
        refine ⟨(nI (c p)).toInt64, ?_, fun q => ?_, fun q => ?_⟩
        · rw [te, tk]
          unfold f_X11_oneToken_L348 f_X11_oneToken_L353 f_X11_oneToken_L359
          rw [y_gs, if_pos (lm_S226 L), y_gs, if_pos (lm_S226 L)]
          have cas : ∀ c, c < 128 → ∀ F : Int32 → Option (Int32 × AH), (if nI c = (58 : Int32) then F (3 : Int32) else if nI c = (59 : Int32) then F (3 : Int32) else if nI c = (44 : Int32) then F (3 : Int32) else if nI c = (40 : Int32) then F (3 : Int32) else if nI c = (41 : Int32) then F (3 : Int32) else if ¬ nI c = (45 : Int32) then F (4 : Int32) else F (3 : Int32)) = F (nI (rk (if isS c = true then c else 0))) := by
            intro c hc F
            have q : ∀ k, k < 128 → (nI c = nI k ↔ c = k) := fun k hk => q_eq (by omega) (by omega)
            have h58 : nI c = (58 : Int32) ↔ c = 58 := q 58 (by omega)
            have h59 : nI c = (59 : Int32) ↔ c = 59 := q 59 (by omega)
            have h44 : nI c = (44 : Int32) ↔ c = 44 := q 44 (by omega)
            have h40 : nI c = (40 : Int32) ↔ c = 40 := q 40 (by omega)
            have h41 : nI c = (41 : Int32) ↔ c = 41 := q 41 (by omega)
            have h45 : nI c = (45 : Int32) ↔ c = 45 := q 45 (by omega)
            simp only [h58, h59, h44, h40, h41, h45]
            by_cases w1 : c = 58
            · subst w1; rfl
            by_cases w2 : c = 59
            · subst w2; rfl
            by_cases w3 : c = 44
            · subst w3; rfl
            by_cases w4 : c = 40
            · subst w4; rfl
            by_cases w5 : c = 41
            · subst w5; rfl
            by_cases w6 : c = 45
            · subst w6; rfl
            · rw [if_neg w1, if_neg w2, if_neg w3, if_neg w4, if_neg w5, if_pos w6, if_neg]
              · rfl
              · unfold isS; simp only [decide_eq_true_eq]; omega
          exact cas (c p) lt (fun z => bd (f_X11_token m 226 z (nI p) (nI (c p)).toInt64) fun q2 => some (nI (p + 1), q2))
        · rw [tk] at q
          by_cases g : isS (c p) = true
          · rw [if_pos g] at q
            unfold isS at g
            simp only [decide_eq_true_eq] at g; omega
          · rw [if_neg g] at q; omega
        · rw [tk] at q ⊢
          by_cases g : isS (c p) = true
          · rw [if_pos g]
          · rw [if_neg g] at q; omega
