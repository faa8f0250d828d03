/-- org -/
theorem lay_org {h m : AH} {c : Nat → Nat} {T Nn i n L a : Nat} {g : Gh} {op nk np nm pl x : Nat} {R hw : Int32} (H : LH h m c T Nn i n L a g op nk np nm pl x R hw) (f9 : tForm.getD op 0 = 9) : LO h m c T Nn i n L a g op nk nm := by
  have O := H.oq
  have L1 := O.tq.1.1.1
  have L2 := O.tq.2.1.1
  obtain ⟨q1, q2, q3, q4⟩ := op_f1 op H.op61
  obtain ⟨fo, fl'⟩ := form_n op H.op61
  have ad := H.ac.ad
  obtain ⟨it, n375⟩ := O.it
  obtain ⟨nk1, v, v40, hv⟩ := H.hz (Or.inl f9)
  have hW : 0 = wds op nk (hL h 11 n) := by unfold wds; rw [if_pos (Or.inl f9)]
  have gv := O.n1 nk1
  -- where it goes on
  obtain ⟨a', ha', ra'⟩ : ∃ a', (a' % 4 = 0 ∧ a' ≤ 8192) ∧ nI a' = (if fitB 9 (hL h 11 n) = true then (hL h 11 n).toInt32 else (8192 : Int32)) := by
    by_cases z : fitB 9 (hL h 11 n) = true
    · have f := (rf_9 (hL h 11 n)).mpr z
      obtain ⟨b, b1, b2, b3⟩ := i64_nat (K := 8188) (by omega) f.1 f.2.1
      have b4 : b % 4 = 0 := by
        have m4 := (rem64 (hL h 11 n) (j := 2) (by omega)).mp f.2.2
        rw [b2] at m4
        have m5 := congrArg (fun y : Int64 => y.toBitVec.toNat) m4
        have m6 : (b % 2 ^ 64) &&& (3 % 2 ^ 64) = 0 := m5
        rw [Nat.mod_eq_of_lt (show b < 2 ^ 64 by omega), show 3 % 2 ^ 64 = 2 ^ 2 - 1 from rfl, Nat.and_two_pow_sub_one_eq_mod] at m6
        exact m6
      exact ⟨b, ⟨b4, by omega⟩, by rw [if_pos z, b3]⟩
    · exact ⟨8192, ⟨rfl, Nat.le_refl _⟩, by rw [if_neg z]; rfl⟩
  have La : LC (sI h 7 n (nI a)) := L1
  have cls : f_X1_layOut h 4 (mForm.getD op 0) = some (sI (sI (sI h 7 n (nI a)) 4 13 (nI a')) 4 1 (nI (n + 1))) := by
    unfold f_X1_layOut f_X1_layOut_L47 f_X1_layOut_L122
    have Lb : ∀ w, LC (sI (sI h 7 n (nI a)) 4 13 w) := fun w => L1
    have fit : f_X1_fits (sI h 7 n (nI a)) (9 : Int32) (hL h 11 n) = some (if fitB 9 (hL h 11 n) = true then 1 else 0) := c_fits _ (form := 9) (by omega) _
    rw [fo, f9, y_gs, if_pos (lc_S4 L1), lc_R4_4 L1, y_gs, if_pos (lc_S7 L1), lc_N7 L1, it, y_gb, if_pos (q_ib n375 (by omega)), q_cl (by omega), ad.1, y_lt, lc_R4_8 La, y_gs, if_pos (lc_S11 La), lc_N11 La, x_ne (by omega), it, y_gb, if_pos (q_ib n375 (by omega)), q_cl (by omega), y_lt, if_neg (fun z => z rfl), x_hL_sI, fit, y_bds, y_gs, if_pos (lc_S4 La), y_lt, y_gs, if_pos (lc_S4 (Lb _)), x_ne (by omega), x_ne (by omega), it, show (1 : Int32) = nI 1 from rfl, q_add, y_lt, y_gs, if_pos (lc_S4 La), y_lt, y_gs, if_pos (lc_S4 (Lb _)), x_ne (by omega), x_ne (by omega), it, q_add, y_lt, ra']
    by_cases z : fitB 9 (hL h 11 n) = true
    · rw [if_pos z, if_pos z, if_neg (show ¬ nI 1 = 0 from by decide)]
    · rw [if_neg z, if_neg z, if_pos rfl]
  have ref : trl m 226 (nI nm) (nI op) = f_X11_readStatement_L402 (sI m 226 20 (nI a')) 226 := by
    obtain ⟨k1, k2, k3⟩ := r_how L2 H.ac.cs.1 H.op61
    unfold trl f_X11_readStatement_L315 f_X11_readStatement_L318
    rw [y_gs, if_pos (lm_S226 L2), y_gs, if_pos k1, y_gb, if_pos k2, k3, q1.mp f9, if_neg (fun z => z rfl), y_gs, if_pos (lm_S226 L2), y_lt, y_gs, if_pos (lm_S226 L2), y_lt, gv]
    simp only [lg_lt, lg_0]
    have f := rf_9 (hL h 11 n)
    unfold rft at f
    have s4 : (4 : Int32).toInt64 = (4 : Int64) := by decide
    rw [s4] at f
    by_cases z : fitB 9 (hL h 11 n) = true
    · obtain ⟨f1, f2, f3⟩ := f.mpr z
      rw [if_neg f1, if_neg f2, if_neg (fun w => w f3), ra', if_pos z]
    · rw [if_neg z] at ra'
      by_cases g1 : hL h 11 n < 0
      · rw [if_pos g1, ra']
      · rw [if_neg g1]
        by_cases g2 : (8188 : Int64) < hL h 11 n
        · rw [if_pos g2, ra']
        · rw [if_neg g2, if_pos, ra']
          exact fun w => z (f.mp ⟨g1, g2, w⟩)
  obtain ⟨a0, a1, a2, a3, a4, a5, a6⟩ := gI_at g n op pl a nk np 0
  have c2 : ∀ o k, ¬ (o = 7 ∧ k = n) → ¬ (o = 4 ∧ (k = 1 ∨ k = 13)) → hI (sI (sI (sI h 7 n (nI a)) 4 13 (nI a')) 4 1 (nI (n + 1))) o k = hI h o k := fun o k w1 w2 => by rw [x_ne (by omega), x_ne (by omega), x_ne (by omega)]
  have f3 : ∀ o k, ¬ (o = 226 ∧ k = 20) → hI (sI m 226 20 (nI a')) o k = hI m o k := fun o k w => x_ne (by omega)
  refine ⟨_, _, a', gI g n op pl a nk np 0, cls, ref, ?_, ?_, ?_, ⟨rfl, fun o k w1 w2 => c2 o k (by omega) (by omega)⟩, ⟨rfl, fun o k w1 w2 => f3 o k (by omega)⟩, by rw [a6, ← hW]⟩
  · refine AC_item (W := 0) H.ac (fun o k h1 h2 h3 => c2 o k h3 (by omega)) (fun k hk => c2 4 k (by omega) (by omega)) (fun o k _ => rfl) rfl (fun o k q => f3 o k (by omega)) (fun o k q => rfl) ⟨x_eq _ _ _ _, by rw [f3 _ _ (by omega)]; exact H.ac.it.2.1, by rw [c2 4 14 (by omega) (by omega)]; exact H.ac.it.2.2⟩ ⟨by rw [x_ne (by omega), x_eq], x_eq _ _ _ _, ha'.1, by omega⟩ ?_ (fun d hd => ?_) (fun F k h1 h2 => gI_ne (by omega)) (fun j => ⟨gI_ne (by omega), gI_ne (by omega)⟩) (fun k hk => gI_ne (by omega)) a6
    · unfold IT
      rw [a0, a1, a2, a3, a4, a5, a6, c2 5 n (by omega) (by omega), c2 6 n (by omega) (by omega), x_ne (by omega), x_ne (by omega), x_eq, c2 9 n (by omega) (by omega), c2 10 n (by omega) (by omega)]
      refine ⟨⟨H.op61, H.h5⟩, ⟨H.h6.1, H.h6.2.1⟩, ⟨rfl, ad.2.2.1, by omega⟩, ⟨O.n0.1, O.n0.2.1, H.h6.2.2, O.n3, H.nk0, fun _ => nk1, fun q => absurd q (by omega)⟩, ?_, ?_⟩
      · show g 7 n + 0 = g 7 n + wds op nk (hL h 11 n); rw [← hW]
      · unfold PT
        rw [a0, a3]
        show (wds op nk (hL h 11 n) = 1 → _) ∧ (wds op nk (hL h 11 n) = 2 → _)
        rw [← hW]
        exact ⟨fun q => absurd q (by decide), fun q => absurd q (by decide)⟩
    · rw [c2 15 d (by omega) (by omega), f3 238 d (by omega), gI_ne (by omega)]; exact H.ac.st d hd
  · exact TQ_m (TQ_h O.tq rfl (fun o k q => c2 o k (by omega) (by omega)) rfl) rfl (fun o k q => f3 o k (by omega)) (fun k => rfl)
  · rw [KX_new (h := h) (h' := sI (sI (sI h 7 n (nI a)) 4 13 (nI a')) 4 1 (nI (n + 1))) (fun o k _ => rfl) hW]
    have kx : KX h g n L ≤ 100000 := by unfold KX; have := mn_le (DL h g) L; omega
    have p2' : 4 * np + 3 ≤ 100000 := by have := H.h6.2.2; omega
    have e : x = min (KX h g n L) (min (if 0 ≠ 0 ∧ 8192 < a + 4 * 0 then 4 * pl + 3 else 100000) (if nk = 1 ∧ fitB (tForm.getD op 0) (hL h 11 n) = false then 4 * np + 3 else 100000)) := by
      rw [H.hx, if_neg (show ¬ (0 ≠ 0 ∧ 8192 < a + 4 * 0) from fun q => q.1 rfl)]
      generalize 100000 = M at *
      by_cases z : nk = 1 ∧ fitB (tForm.getD op 0) (hL h 11 n) = false
      · rw [if_pos z, if_pos z, Nat.min_eq_right p2']
      · rw [if_neg z, if_neg z, Nat.min_self, Nat.min_eq_left kx]
    rw [← e]
    exact FK_of O.fk (fun k hk => f3 226 k (by omega))
/-- core -/
theorem lay_core {h m : AH} {c : Nat → Nat} {T Nn i n L a : Nat} {g : Gh} {op nk np nm pl x : Nat} {R hw : Int32} (H : LH h m c T Nn i n L a g op nk np nm pl x R hw) (f10 : tForm.getD op 0 = 10) : LO h m c T Nn i n L a g op nk nm := by
  have O := H.oq
  have L1 := O.tq.1.1.1
  have L2 := O.tq.2.1.1
  obtain ⟨q1, q2, q3, q4⟩ := op_f1 op H.op61
  obtain ⟨fo, fl'⟩ := form_n op H.op61
  have ad := H.ac.ad
  obtain ⟨it, n375⟩ := O.it
  obtain ⟨nk1, v, v40, hv⟩ := H.hz (Or.inr f10)
  have hW : 0 = wds op nk (hL h 11 n) := by unfold wds; rw [if_pos (Or.inr f10)]
  have gv := O.n1 nk1
  have La : LC (sI h 7 n (nI a)) := L1
  obtain ⟨k1, k2, k3⟩ := r_how L2 H.ac.cs.1 H.op61
  have vI : (Int64.ofNat v).toInt = v := Int64.toInt_ofNat_of_lt (by omega)
  have v0 : ¬ hL h 11 n < 0 := by
    rw [hv]; intro q
    have := Int64.lt_iff_toInt_lt.mp q
    rw [vI] at this
    have h0 : (0 : Int64).toInt = 0 := by decide
    omega
  have v16 : (15 : Int64) < hL h 11 n ↔ 15 < v := by
    rw [hv, Int64.lt_iff_toInt_lt, vI]
    have : (15 : Int64).toInt = 15 := by decide
    omega
  have v16' : (16 : Int64) ≤ hL h 11 n ↔ 15 < v := by
    rw [hv, Int64.le_iff_toInt_le, vI]
    have : (16 : Int64).toInt = 16 := by decide
    omega
  have fit : fitB 10 (hL h 11 n) = true ↔ v ≤ 15 := by
    show rngB 0 15 (hL h 11 n) = true ↔ _
    unfold rngB
    rw [decide_eq_true_iff, v16]
    exact ⟨fun q => by omega, fun q => ⟨v0, by omega⟩⟩
  have fc : f_X1_fits (sI h 7 n (nI a)) (10 : Int32) (hL h 11 n) = some (if fitB 10 (hL h 11 n) = true then 1 else 0) := c_fits _ (form := 10) (by omega) _
  obtain ⟨a0, a1, a2, a3, a4, a5, a6⟩ := gI_at g n op pl a nk np 0
  have kfin : ∀ h', (∀ o k, o = 11 ∨ o = 12 → hL h' o k = hL h o k) → KX h' (gI g n op pl a nk np 0) (n + 1) L = x := by
    intro h' hl'
    rw [KX_new (h := h) hl' hW]
    have kx : KX h g n L ≤ 100000 := by unfold KX; have := mn_le (DL h g) L; omega
    have p2' : 4 * np + 3 ≤ 100000 := by have := H.h6.2.2; omega
    rw [H.hx, if_neg (show ¬ (0 ≠ 0 ∧ 8192 < a + 4 * 0) from fun q => q.1 rfl)]
    generalize 100000 = M at *
    by_cases z : nk = 1 ∧ fitB (tForm.getD op 0) (hL h 11 n) = false
    · rw [if_pos z, if_pos z, Nat.min_eq_right p2']
    · rw [if_neg z, if_neg z, Nat.min_self, Nat.min_eq_left kx]
  have headC : f_X1_layOut h 4 (mForm.getD op 0) = if fitB 10 (hL h 11 n) = true then (gs (sI h 7 n (nI a)) 15 21 <| gb (ib ((hL h 11 n).toInt32) 16) <| lt (sI (sI h 7 n (nI a)) 15 ((hL h 11 n).toInt32).toNatClampNeg (nI a &&& (8191 : Int32))) fun h20 => f_X1_layOut_L122 h20 4) else f_X1_layOut_L122 (sI h 7 n (nI a)) 4 := by
    unfold f_X1_layOut
    rw [fo, f10, y_gs, if_pos (lc_S4 L1), lc_R4_4 L1, y_gs, if_pos (lc_S7 L1), lc_N7 L1, it, y_gb, if_pos (q_ib n375 (by omega)), q_cl (by omega), ad.1, y_lt, lc_R4_8 La, y_gs, if_pos (lc_S11 La), lc_N11 La, x_ne (by omega), it, y_gb, if_pos (q_ib n375 (by omega)), q_cl (by omega), y_lt, if_pos (show ¬ nI 10 = (9 : Int32) from by decide), if_neg (fun z => z rfl), x_hL_sI, fc, y_bds, lc_R4_15 La, lc_N15 La, x_ne (by omega), ad.1]
    by_cases z : fitB 10 (hL h 11 n) = true
    · rw [if_pos z, if_pos z, if_neg (show ¬ (1 : Int32) = 0 from by decide)]
    · rw [if_neg z, if_neg z, if_pos rfl]
  have headR : trl m 226 (nI nm) (nI op) = if fitB 10 (hL h 11 n) = true then (gb (ib ((hL h 11 n).toInt32) 16) <| lt (sI m 238 ((hL h 11 n).toInt32).toNatClampNeg (nI a)) fun h35 => f_X11_readStatement_L402 h35 226) else f_X11_readStatement_L402 m 226 := by
    unfold trl f_X11_readStatement_L363
    rw [y_gs, if_pos (lm_S226 L2), y_gs, if_pos k1, y_gb, if_pos k2, k3, q2.mp f10, if_pos (show ¬ nI 16 = (15 : Int32) from by decide), y_gb, if_pos k2, if_neg (fun z => z rfl), y_gs, if_pos (lm_S226 L2), y_gs, if_pos k1, y_gb, if_pos k2, y_gb, if_pos k2, if_pos (show ¬ nI 16 = (13 : Int32) from by decide), if_pos (show nI 16 = (16 : Int32) from rfl), gv, lm_R19 L2, y_gs, if_pos (lm_S238 L2), lm_N238 L2, ad.2.1]
    simp only [lg_lt, v16']
    by_cases z : v ≤ 15
    · rw [if_neg (show ¬ 15 < v by omega), if_pos (fit.mpr z)]
    · rw [if_pos (show 15 < v by omega), if_neg (fun w => z (fit.mp w))]
  by_cases z : fitB 10 (hL h 11 n) = true
  · have v15 := fit.mp z
    have vd : (hL h 11 n).toInt32 = nI v := by rw [hv]; exact to32 v (by omega)
    have am : nI a &&& (8191 : Int32) = nI (a % 8192) := q_and (k := 13) (by omega) (by omega)
    have Lb : ∀ w, LC (sI (sI h 7 n (nI a)) 15 v w) := fun w => L1
    let g' : Gh := fun F k => if F = 8 ∧ k = v then a else gI g n op pl a nk np 0 F k
    have g'n : ∀ F k, F ≠ 8 → g' F k = gI g n op pl a nk np 0 F k := fun F k hF => if_neg (fun q => hF q.1)
    have c2 : ∀ o k, ¬ (o = 7 ∧ k = n) → ¬ (o = 4 ∧ k = 1) → ¬ (o = 15 ∧ k = v) → hI (sI (sI (sI h 7 n (nI a)) 15 v (nI (a % 8192))) 4 1 (nI (n + 1))) o k = hI h o k := fun o k w1 w2 w3 => by rw [x_ne (by omega), x_ne (by omega), x_ne (by omega)]
    have f3 : ∀ o k, ¬ (o = 238 ∧ k = v) → hI (sI m 238 v (nI a)) o k = hI m o k := fun o k w => x_ne (by omega)
    refine ⟨sI (sI (sI h 7 n (nI a)) 15 v (nI (a % 8192))) 4 1 (nI (n + 1)), sI m 238 v (nI a), a, g', ?_, ?_, ?_, ?_, ?_, ⟨rfl, fun o k w1 w2 => c2 o k (by omega) (by omega) (by omega)⟩, ⟨rfl, fun o k w1 w2 => f3 o k (by omega)⟩, ?_⟩
    · rw [headC, if_pos z, vd, y_gs, if_pos (lc_S15 La), y_gb, if_pos (q_ib (by omega) (by omega)), q_cl (by omega), am, y_lt]
      unfold f_X1_layOut_L122
      rw [y_gs, if_pos (lc_S4 (Lb _)), x_ne (by omega), x_ne (by omega), it, show (1 : Int32) = nI 1 from rfl, q_add, y_lt]
    · rw [headR, if_pos z, vd, y_gb, if_pos (q_ib (by omega) (by omega)), q_cl (by omega), y_lt]
    · refine AC_item (W := 0) H.ac (fun o k h1 h2 h3 => c2 o k h3 (by omega) (by omega)) (fun k hk => c2 4 k (by omega) (by omega) (by omega)) (fun o k _ => rfl) rfl (fun o k q => f3 o k (by omega)) (fun o k q => rfl) ⟨x_eq _ _ _ _, by rw [f3 _ _ (by omega)]; exact H.ac.it.2.1, by rw [c2 4 14 (by omega) (by omega) (by omega)]; exact H.ac.it.2.2⟩ ⟨by rw [c2 4 13 (by omega) (by omega) (by omega)]; exact ad.1, by rw [f3 _ _ (by omega)]; exact ad.2.1, ad.2.2.1, by omega⟩ ?_ (fun d hd => ?_) (fun F k h1 h2 => by rw [g'n F k (by omega)]; exact gI_ne (by omega)) (fun j => ⟨by rw [g'n 5 j (by omega)]; exact gI_ne (by omega), by rw [g'n 6 j (by omega)]; exact gI_ne (by omega)⟩) (fun k hk => by rw [g'n 7 k (by omega)]; exact gI_ne (by omega)) (by rw [g'n 7 _ (by omega)]; exact a6)
      · unfold IT
        rw [g'n 0 n (by omega), g'n 1 n (by omega), g'n 2 n (by omega), g'n 3 n (by omega), g'n 4 n (by omega), g'n 7 n (by omega), g'n 7 (n + 1) (by omega), a0, a1, a2, a3, a4, a5, a6, c2 5 n (by omega) (by omega) (by omega), c2 6 n (by omega) (by omega) (by omega), x_ne (by omega), x_ne (by omega), x_eq, c2 9 n (by omega) (by omega) (by omega), c2 10 n (by omega) (by omega) (by omega)]
        refine ⟨⟨H.op61, H.h5⟩, ⟨H.h6.1, H.h6.2.1⟩, ⟨rfl, ad.2.2.1, by omega⟩, ⟨O.n0.1, O.n0.2.1, H.h6.2.2, O.n3, H.nk0, fun _ => nk1, fun q => absurd q (by omega)⟩, ?_, ?_⟩
        · show g 7 n + 0 = g 7 n + wds op nk (hL h 11 n); rw [← hW]
        · unfold PT
          rw [g'n 0 n (by omega), g'n 3 n (by omega), a0, a3]
          show (wds op nk (hL h 11 n) = 1 → _) ∧ (wds op nk (hL h 11 n) = 2 → _)
          rw [← hW]
          exact ⟨fun q => absurd q (by decide), fun q => absurd q (by decide)⟩
      · by_cases e : d = v
        · subst e
          have gg : g' 8 d = a := if_pos ⟨rfl, rfl⟩
          rw [gg, x_ne (by omega), x_eq, x_eq]; exact ⟨rfl, rfl, by omega⟩
        · have gg : g' 8 d = g 8 d := by
            show (if 8 = 8 ∧ d = v then a else _) = _
            rw [if_neg (fun q => e q.2)]; exact gI_ne (by omega)
          rw [gg, c2 15 d (by omega) (by omega) (by omega), f3 238 d (by omega)]; exact H.ac.st d hd
    · exact TQ_m (TQ_h O.tq rfl (fun o k q => c2 o k (by omega) (by omega) (by omega)) rfl) rfl (fun o k q => f3 o k (by omega)) (fun k => rfl)
    · have e1 := kfin (sI (sI (sI h 7 n (nI a)) 15 v (nI (a % 8192))) 4 1 (nI (n + 1))) (fun o k _ => rfl)
      have e2 := KX_congr (h := sI (sI (sI h 7 n (nI a)) 15 v (nI (a % 8192))) 4 1 (nI (n + 1))) (h' := sI (sI (sI h 7 n (nI a)) 15 v (nI (a % 8192))) 4 1 (nI (n + 1))) (g := gI g n op pl a nk np 0) (g' := g') (n := n + 1) (L := L) (fun k hk => ⟨rfl, g'n 5 k (by omega)⟩) (fun k hk => ⟨rfl, fun F hF => g'n F k (by omega)⟩)
      rw [e2, e1]
      exact FK_of O.fk (fun k hk => f3 226 k (by omega))
    · show g' 7 (n + 1) = _
      rw [g'n 7 _ (by omega), a6, ← hW]
  · have c2 : ∀ o k, ¬ (o = 7 ∧ k = n) → ¬ (o = 4 ∧ k = 1) → hI (sI (sI h 7 n (nI a)) 4 1 (nI (n + 1))) o k = hI h o k := fun o k w1 w2 => by rw [x_ne (by omega), x_ne (by omega)]
    refine ⟨sI (sI h 7 n (nI a)) 4 1 (nI (n + 1)), m, a, gI g n op pl a nk np 0, ?_, ?_, ?_, ?_, ?_, ⟨rfl, fun o k w1 w2 => c2 o k (by omega) (by omega)⟩, FB_rfl m, by rw [a6, ← hW]⟩
    · rw [headC, if_neg z]
      unfold f_X1_layOut_L122
      rw [y_gs, if_pos (lc_S4 La), x_ne (by omega), it, show (1 : Int32) = nI 1 from rfl, q_add, y_lt]
    · rw [headR, if_neg z]
    · refine AC_item (W := 0) H.ac (fun o k h1 h2 h3 => c2 o k h3 (by omega)) (fun k hk => c2 4 k (by omega) (by omega)) (fun o k _ => rfl) rfl (fun o k q => rfl) (fun o k q => rfl) ⟨x_eq _ _ _ _, H.ac.it.2.1, by rw [c2 4 14 (by omega) (by omega)]; exact H.ac.it.2.2⟩ ⟨by rw [c2 4 13 (by omega) (by omega)]; exact ad.1, ad.2.1, ad.2.2.1, by omega⟩ ?_ (fun d hd => ?_) (fun F k h1 h2 => gI_ne (by omega)) (fun j => ⟨gI_ne (by omega), gI_ne (by omega)⟩) (fun k hk => gI_ne (by omega)) a6
      · unfold IT
        rw [a0, a1, a2, a3, a4, a5, a6, c2 5 n (by omega) (by omega), c2 6 n (by omega) (by omega), x_ne (by omega), x_eq, c2 9 n (by omega) (by omega), c2 10 n (by omega) (by omega)]
        refine ⟨⟨H.op61, H.h5⟩, ⟨H.h6.1, H.h6.2.1⟩, ⟨rfl, ad.2.2.1, by omega⟩, ⟨O.n0.1, O.n0.2.1, H.h6.2.2, O.n3, H.nk0, fun _ => nk1, fun q => absurd q (by omega)⟩, ?_, ?_⟩
        · show g 7 n + 0 = g 7 n + wds op nk (hL h 11 n); rw [← hW]
        · unfold PT
          rw [a0, a3]
          show (wds op nk (hL h 11 n) = 1 → _) ∧ (wds op nk (hL h 11 n) = 2 → _)
          rw [← hW]
          exact ⟨fun q => absurd q (by decide), fun q => absurd q (by decide)⟩
      · rw [c2 15 d (by omega) (by omega), gI_ne (by omega)]; exact H.ac.st d hd
    · exact TQ_h O.tq rfl (fun o k q => c2 o k (by omega) (by omega)) rfl
    · rw [kfin (sI (sI h 7 n (nI a)) 4 1 (nI (n + 1))) (fun o k _ => rfl)]; exact O.fk
theorem lay_all {h m : AH} {c : Nat → Nat} {T Nn i n L a : Nat} {g : Gh} {op nk np nm pl x : Nat} {R hw : Int32} (H : LH h m c T Nn i n L a g op nk np nm pl x R hw) : LO h m c T Nn i n L a g op nk nm := by
  by_cases f7 : tForm.getD op 0 = 7
  · exact lay_li H f7
  by_cases f9 : tForm.getD op 0 = 9
  · exact lay_org H f9
  by_cases f10 : tForm.getD op 0 = 10
  · exact lay_core H f10
  exact lay_ord H f7 f9 f10
