/-- a label, in both -/
theorem lab_at {h m : AH} {c : Nat → Nat} {T Nn i : Nat} (S : AT h m c T Nn i) (k2 : tKind c T (ts c T i) = 2) (k58 : tKind c T (ts c T (i + 1)) = 58) (iN : i < Nn) (k0 : AH → Nat → Option (Int32 × AH)) : ∃ h2 m2, (bd (f_X1_addLabel (tkH h c T (ts c T (i + 1))) 4 (tVal c T (ts c T i)) (nI (ts c T i))) fun q20 => gs q20 4 1 <| gs q20 (hR q20 4 0) 7 <| f_X8_next q20 (hR q20 4 0)) = some h2 ∧ f_X11_readStatement_L48 k0 FU m 226 0 = k0 m2 226 ∧ AT h2 m2 c T Nn (i + 2) ∧ FA h h2 ∧ FB m m2 := by
  obtain ⟨n, L, a, g, A, Q, F, b1, b2, b3⟩ := S
  obtain ⟨nx1, Q1, fa1⟩ := nx Q iN
  have iN1 : i + 1 < Nn := kn_i Q1 (by omega) (by omega)
  have T15 : T ≤ 1500 := Q.1.1.2.2.2.1
  have t1 := ts_st (Q.2.2.2.2.1 i iN).2
  have t2 := ts_st (Q.2.2.2.2.1 (i + 1) iN1).2
  have tT := ts_le c T (i + 2)
  have t3 : ts c T (i + 1 + 1) = ts c T (i + 2) := rfl
  have hL' : L < 750 := by omega
  obtain ⟨m', n1, n2, n3⟩ := lab_r A Q F k2 hL' k0 L 0 FU m (by omega) (FU_gt (by omega)) ⟨rfl, fun _ _ _ => rfl⟩ F
  obtain ⟨x1, x2, x3⟩ := tkH_f h c T (ts c T (i + 1))
  have A1 : AC (tkH h c T (ts c T (i + 1))) m' n L a g := AC_fr A x3 (fun o k h1 _ h3 _ => x1 o k (by omega)) (fun o k h1 _ => x2 o k (by omega)) (by rw [n1.1]) (fun o k q => n1.2 o k (by omega)) (fun o k q => by show m'.2.1 o k = m.2.1 o k; rw [n1.1])
  have an : a ≤ 20000 := by have := A.ad.2.2.2; omega
  have A2 := AC_lab (v := tVal c T (ts c T i)) (p := ts c T i) A1 i (by omega) an
  have L1 : LC (tkH h c T (ts c T (i + 1))) := Q1.1.1.1
  have al := addLab L1 (p := ts c T i) (tVal c T (ts c T i)) hL' A1.lb.1 A1.ad.1
  obtain ⟨c0, c1, c2, c3, c4, c5, c6⟩ := labC_f (tkH h c T (ts c T (i + 1))) L (tVal c T (ts c T i)) (ts c T i) a
  obtain ⟨m0, m1, mm2, m3, m4, m5, m6⟩ := labM_f m' L (tVal c T (ts c T i)) a i
  have L2 : LC (labC (tkH h c T (ts c T (i + 1))) L (tVal c T (ts c T i)) (ts c T i) a) := LC_2 L1 c0
  -- the tape of both behind the label
  have Q2 : TQ (labC (tkH h c T (ts c T (i + 1))) L (tVal c T (ts c T i)) (ts c T i) a) (sI (labM m' L (tVal c T (ts c T i)) a i) 226 9 (nI (i + 1))) c T Nn (i + 1) := by
    have hh := TQ_h Q1 c0 (fun o k q => c1 o k (by omega) (by omega)) (c2 2 5 (by omega))
    exact TQ_m hh (m0.trans (show m'.2.2 = m.2.2 by rw [n1.1])) (fun o k q => by
      by_cases e : o = 226 ∧ k = 9
      · obtain ⟨rfl, rfl⟩ := e; rw [x_eq, x_eq]
      · rw [x_ne (by omega), x_ne (by omega), m1 o k (by omega) (by omega), n1.2 o k (by omega)]) (fun k => by
      rw [x_hL_sI, x_hL_sI, mm2 230 k (by omega)]; show m'.2.1 230 k = m.2.1 230 k; rw [n1.1])
  obtain ⟨nx2, Q3, fa2⟩ := nx Q2 iN1
  have sid : sI (sI (labM m' L (tVal c T (ts c T i)) a i) 226 9 (nI (i + 1))) 226 9 (nI (i + 1 + 1)) = labM m' L (tVal c T (ts c T i)) a i := by
    rw [sI_sI]
    refine AH_e2 (fun o k => ?_) (fun o k => rfl) rfl
    by_cases e : o = 226 ∧ k = 9
    · obtain ⟨rfl, rfl⟩ := e; rw [x_eq, m6]
    · rw [x_ne (by omega)]
  rw [sid] at Q3
  refine ⟨_, _, ?_, n3, ⟨n, L + 1, a, gL g L (ts c T i) a, ?_, Q3, ?_, by omega, by omega, ?_⟩, FA_tr fa1 (FA_tr ⟨c0, fun o k h1 h2 => c1 o k (by omega) (by omega)⟩ fa2), FB_tr (FN_B n1) ⟨m0, fun o k h1 h2 => m1 o k (by omega) (by omega)⟩⟩
  · rw [al, y_bds, y_gs, if_pos (lc_S4 L2), lc_R4_0 L2, y_gs, if_pos (lc_S2 L2), nx2]
  · obtain ⟨y1, y2, y3⟩ := tkH_f (labC (tkH h c T (ts c T (i + 1))) L (tVal c T (ts c T i)) (ts c T i) a) c T (ts c T (i + 1 + 1))
    exact AC_fr A2 y3 (fun o k h1 _ h3 _ => y1 o k (by omega)) (fun o k h1 _ => y2 o k (by omega)) rfl (fun o k q => rfl) (fun o k q => rfl)
  · rw [KX_tk, KX_lab, KX_tk]
    have lb : lbl (tkH h c T (ts c T (i + 1))) (tVal c T (ts c T i)) L = lbl h (tVal c T (ts c T i)) L := lbl_congr _ L (fun k _ => x2 _ _ (by omega))
    rw [lb]
    have n2' := FK_of n2 (m' := labM m' L (tVal c T (ts c T i)) a i) (fun k hk => m1 226 k (by omega) (by omega))
    have kx : KX h g n L ≤ 100000 := by unfold KX; have := mn_le (DL h g) L; omega
    have e : min (KX h g n L) (if lbl h (tVal c T (ts c T i)) L = true then 4 * ts c T i + 2 else 100000) = (if lbl h (tVal c T (ts c T i)) L = true then min (KX h g n L) (4 * ts c T i + 2) else KX h g n L) := by
      cases lbl h (tVal c T (ts c T i)) L
      · rw [if_neg (by decide), if_neg (by decide), Nat.min_eq_left kx]
      · rw [if_pos rfl, if_pos rfl]
    rw [e]; exact n2'
  · rw [gL_ne (by omega)]; omega
theorem st_so {c : Nat → Nat} {T Nn : Nat} (zc : ∀ i, T ≤ i → c i = 0) : ∀ (k : Nat) {h m : AH} {i : Nat} (f f' : Nat), AT h m c T Nn i → Nn + 2 ≤ i + 2 * k → k < 2 ^ 31 → k < f → k < f' → SO h m c T Nn i (f_X1_readStatement_L4 f h 4 (nI k)) (f_X11_readStatement_L0 f' m 226) := by
  intro k
  induction k with
  | zero =>
    intro h m i f f' S hk _ _ _
    obtain ⟨n, L, a, g, A, Q, F, b1, b2, b3⟩ := S
    have := Q.2.2.1; omega
  | succ k ih =>
    intro h m i f f' S hk k31 hf hf'
    obtain ⟨f, rfl⟩ : ∃ q, f = q + 1 := ⟨f - 1, by omega⟩
    obtain ⟨f', rfl⟩ : ∃ q, f' = q + 1 := ⟨f' - 1, by omega⟩
    have S' := S
    obtain ⟨n, L, a, g, A, Q, F, b1, b2, b3⟩ := S'
    have C := Q.1.1
    have L1 : LC h := C.1
    have L2 := Q.2.1.1
    have kl := kind_lt C (ts c T i)
    have kk : hI h 2 3 = nI (tKind c T (ts c T i)) := Q.1.2.2.1
    have kp : hI h 2 4 = nI (ts c T i) := Q.1.2.2.2.1
    have kv : hL h 2 5 = tVal c T (ts c T i) := Q.1.2.2.2.2
    obtain ⟨a1, a2, a3, a4, a5, a6⟩ := TQ_r Q
    obtain ⟨r1, r2, r3, r4, r5⟩ := rk_i (k := tKind c T (ts c T i))
    have kpos : ¬ nI (k + 1) ≤ 0 := fun q => by have := (q_le (b := 0) (by omega) (by omega)).mp q; omega
    rw [f_X1_readStatement_L4, f_X11_readStatement_L0, if_neg kpos, y_gs, if_pos (lc_S4 L1), lc_R4_0 L1, y_gs, if_pos (lc_S2 L1), kk, kp, kv, y_gs, if_pos (lm_S226 L2), lm_R6 L2, y_gs, if_pos (lm_S228 L2), lm_N228 L2, a1, y_gb, if_pos a4, q_cl a5, a2]
    by_cases k2 : tKind c T (ts c T i) = 2
    rotate_left
    · rw [if_pos (show ¬ nI (tKind c T (ts c T i)) = (2 : Int32) from fun q => k2 ((q_eq (b := 2) (by omega) (by omega)).mp q)), if_pos (show ¬ nI (rk (tKind c T (ts c T i))) = (1 : Int32) from fun q => k2 (r1.mp q))]
      have e : f_X11_readStatement_L149 m 226 = f_X11_readStatement_L402 m 226 := by
        unfold f_X11_readStatement_L149
        rw [y_gs, if_pos (lm_S226 L2), lm_R6 L2, y_gs, if_pos (lm_S228 L2), lm_N228 L2, a1, y_gb, if_pos a4, q_cl a5, a2, if_pos (show ¬ nI (rk (tKind c T (ts c T i))) = (1 : Int32) from fun q => k2 (r1.mp q))]
      rw [e]
      exact end_so S
    have iN : i < Nn := kn_i Q (by omega) (by omega)
    obtain ⟨nx1, Q1, fa1⟩ := nx Q iN
    have L1' : LC (tkH h c T (ts c T (i + 1))) := Q1.1.1.1
    have kl1 := kind_lt C (ts c T (i + 1))
    have kk1 : hI (tkH h c T (ts c T (i + 1))) 2 3 = nI (tKind c T (ts c T (i + 1))) := Q1.1.2.2.1
    have kp1 : hI (tkH h c T (ts c T (i + 1))) 2 4 = nI (ts c T (i + 1)) := Q1.1.2.2.2.1
    obtain ⟨s1, s2, s3, s4, s5⟩ := rk_i (k := tKind c T (ts c T (i + 1)))
    obtain ⟨u1, u2, u3, u4⟩ := Q.2.1.2.1 (i + 1) (by omega)
    have N15 := Q.2.2.2.1
    rw [if_neg (fun q => q (show nI (tKind c T (ts c T i)) = (2 : Int32) from by rw [k2]; rfl)), if_neg (show ¬ ¬ nI (rk (tKind c T (ts c T i))) = (1 : Int32) from fun q => q (r1.mpr k2)), y_lt, y_lt, nx1, y_bds, y_gs, if_pos (lc_S4 L1'), lc_R4_0 L1', y_gs, if_pos (lc_S2 L1'), kk1, kp1, q_add1, y_gb, if_pos (q_ib (by omega) (by omega)), q_cl (by omega), u1]
    by_cases k58 : tKind c T (ts c T (i + 1)) = 58
    · have u4' := u4 (by omega)
      rw [if_neg (fun q => q (show nI (tKind c T (ts c T (i + 1))) = (58 : Int32) from by rw [k58]; rfl)), if_neg (fun q => q (s3.mpr (by omega))), lm_R8 L2, y_gs, if_pos (lm_S230 L2), lm_N230 L2, y_gb, if_pos (q_ib (by omega) (by omega)), u4', k58, if_neg (fun q => q ((lg_0 _ _).mpr (by decide))), y_lt]
      obtain ⟨h2, m2, d1, d2, d3, d4, d5⟩ := lab_at S k2 k58 iN (f_X11_readStatement_L0 f')
      have d1' : ∀ G : AH → Option (Int32 × AH), (bd (f_X1_addLabel (tkH h c T (ts c T (i + 1))) 4 (tVal c T (ts c T i)) (nI (ts c T i))) fun q20 => gs q20 4 1 <| gs q20 (hR q20 4 0) 7 <| bd (f_X8_next q20 (hR q20 4 0)) G) = G h2 := by
        intro G
        cases hq : f_X1_addLabel (tkH h c T (ts c T (i + 1))) 4 (tVal c T (ts c T i)) (nI (ts c T i)) with
        | none => rw [hq] at d1; cases d1
        | some q =>
          rw [hq, y_bds] at d1
          rw [y_bds]
          rw [y_gs] at d1 ⊢
          split at d1
          · next g1 =>
            rw [if_pos g1]
            rw [y_gs] at d1 ⊢
            split at d1
            · next g2 => rw [if_pos g2, d1, y_bds]
            · cases d1
          · cases d1
      rw [d1' , d2, y_lt]
      have km : nI (k + 1) + (-1 : Int32) = nI k := by
        rw [show (-1 : Int32) = -nI 1 from rfl, ← Int32.sub_eq_add_neg, q_sub (by omega)]; rfl
      rw [km]
      exact SO_of (by omega) d4 d5 (ih f f' d3 (by omega) (by omega) (by omega) (by omega))
    · have rr : (if ¬ nI (rk (tKind c T (ts c T (i + 1)))) = (3 : Int32) then f_X11_readStatement_L149 m 226 else gs m (hR m 226 8) 22 <| gb (ib (nI (i + 1)) (hN m (hR m 226 8))) <| if ¬ (lg_cmp (hL m (hR m 226 8) (i + 1)) (58 : Int64)) = 0 then f_X11_readStatement_L149 m 226 else lt ((0 : Int32)) fun x10 => f_X11_readStatement_L48 (f_X11_readStatement_L0 f') FU m 226 x10) = f_X11_readStatement_L149 m 226 := by
        by_cases k3 : 3 < tKind c T (ts c T (i + 1))
        · have ne : ¬ (nI (tKind c T (ts c T (i + 1)))).toInt64 = (58 : Int64) := fun q => k58 ((t64 _ kl1 58 (by omega)).mp q)
          rw [if_neg (fun q => q (s3.mpr k3)), lm_R8 L2, y_gs, if_pos (lm_S230 L2), lm_N230 L2, y_gb, if_pos (q_ib (by omega) (by omega)), u4 k3, if_pos (fun q => ne ((lg_0 _ _).mp q))]
        · rw [if_pos (fun q => k3 (s3.mp q))]
      rw [rr, if_pos (show ¬ nI (tKind c T (ts c T (i + 1))) = (58 : Int32) from fun q => k58 ((q_eq (b := 58) (by omega) (by omega)).mp q))]
      exact nam_so S zc k2 iN rfl
theorem stm_so {h m : AH} {c : Nat → Nat} {T Nn i : Nat} (zc : ∀ i, T ≤ i → c i = 0) (S : AT h m c T Nn i) : SO h m c T Nn i (f_X1_readStatement h 4) (f_X11_readStatement m 226) := by
  have N15 : Nn ≤ 1500 := by obtain ⟨n, L, a, g, A, Q, F, b1, b2, b3⟩ := S; exact Q.2.2.2.1
  unfold f_X1_readStatement f_X11_readStatement
  rw [y_lt]
  exact st_so zc 1500 FU FU S (by omega) (by omega) (FU_gt (by omega)) (FU_gt (by omega))
