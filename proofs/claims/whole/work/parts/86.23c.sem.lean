/-- the heap when the token that begins at p was read -/
def tkH (h : AH) (c : Nat → Nat) (T p : Nat) : AH := sL (sI (sI (sI h 2 2 (nI (tEnd c T p))) 2 3 (nI (tKind c T p))) 2 4 (nI p)) 2 5 (tVal c T p)
theorem cA (h : AH) {c : Nat} (hc : c < 128) : f_X8_isLetter h (nI c) = some (if isA c = true then 1 else 0) := by
  unfold f_X8_isLetter isA
  obtain ⟨q1, q2, q3, q4, q5⟩ := cq hc
  simp only [q3, q5, Bool.and_eq_true, decide_eq_true_eq]
  by_cases g : c < 97
  · rw [if_pos g, if_neg (by omega)]
  · rw [if_neg g]
    by_cases g2 : 122 < c
    · rw [if_pos g2, if_neg (by omega)]
    · rw [if_neg g2, if_pos (by omega)]
theorem cD (h : AH) {c : Nat} (hc : c < 128) : f_X8_isDigit h (nI c) = some (if isD c = true then 1 else 0) := by
  unfold f_X8_isDigit isD
  obtain ⟨q1, q2, q3, q4, q5⟩ := cq hc
  simp only [q1, q2, Bool.and_eq_true, decide_eq_true_eq]
  by_cases g : c < 48
  · rw [if_pos g, if_neg (by omega)]
  · rw [if_neg g]
    by_cases g2 : 57 < c
    · rw [if_pos g2, if_neg (by omega)]
    · rw [if_neg g2, if_pos (by omega)]
theorem cS (h : AH) : ∀ c, c < 128 → f_X8_isSign h (nI c) = some (if isS c = true then 1 else 0) := by
  unfold f_X8_isSign f_X8_isSign_L36
  have : ∀ c, c < 128 → (if nI c = (58 : Int32) then some (1 : Int32) else if nI c = (59 : Int32) then some (1 : Int32) else if nI c = (44 : Int32) then some (1 : Int32) else if nI c = (40 : Int32) then some (1 : Int32) else if nI c = (41 : Int32) then some (1 : Int32) else if ¬ nI c = (45 : Int32) then some (0 : Int32) else some (1 : Int32)) = some (if isS c = true then 1 else 0) := by decide +kernel
  exact this
theorem mv_0 (B : Int64) (c : Nat → Nat) (p : Nat) : mv B c p 0 = 0 := rfl
theorem AH_e2 {a b : AH} (h1 : ∀ o k, hI a o k = hI b o k) (h2 : ∀ o k, hL a o k = hL b o k) (h3 : a.2.2 = b.2.2) : a = b := by
  obtain ⟨a1, a2, a3⟩ := a
  obtain ⟨b1, b2, b3⟩ := b
  have e1 : a1 = b1 := funext (fun o => funext (fun k => h1 o k))
  have e2 : a2 = b2 := funext (fun o => funext (fun k => h2 o k))
  have e3 : a3 = b3 := h3
  rw [e1, e2, e3]
/-- at the end only what the token says has changed -/
theorem tkH_eq {h q : AH} {c : Nat → Nat} {T p : Nat} (e : q.2.2 = h.2.2) (f : ∀ o k, ¬ (o = 2 ∧ (k = 2 ∨ k = 3 ∨ k = 4)) → hI q o k = hI h o k) (g : ∀ o k, ¬ (o = 2 ∧ k = 5) → hL q o k = hL h o k) (h2 : hI q 2 2 = nI (tEnd c T p)) (h3 : hI q 2 3 = nI (tKind c T p)) (h4 : hI q 2 4 = nI p) (h5 : hL q 2 5 = tVal c T p) : q = tkH h c T p := by
  unfold tkH
  refine AH_e2 (fun o k => ?_) (fun o k => ?_) e
  · rw [x_hI_sL]
    by_cases w : o = 2 ∧ (k = 2 ∨ k = 3 ∨ k = 4)
    · obtain ⟨rfl, w | w | w⟩ := w
      · subst w; rw [x_ne (by omega), x_ne (by omega), x_eq]; exact h2
      · subst w; rw [x_ne (by omega), x_eq]; exact h3
      · subst w; rw [x_eq]; exact h4
    · rw [x_ne (by omega), x_ne (by omega), x_ne (by omega)]; exact f o k w
  · rw [x_hL_sL, x_hL_sI, x_hL_sI, x_hL_sI]
    by_cases w : o = 2 ∧ k = 5
    · rw [if_pos w, w.1, w.2]; exact h5
    · rw [if_neg w]; exact g o k w
theorem next_c {h : AH} {c : Nat → Nat} {T p : Nat} (C : CT h c T) (hp : hI h 2 2 = nI p) (pT : p ≤ T) : f_X8_next h 2 = some (tkH h c T (rn isB c T T p)) := by
  have T15 := C.2.2.2.1
  have hh : h = sI h 2 2 (nI p) := by rw [← hp, sI_id]
  unfold f_X8_next
  rw [show f_X8_next_L0 FU h 2 = f_X8_next_L0 FU (sI h 2 2 (nI p)) 2 from by rw [← hh], skip_c C T p FU pT (by omega) (FU_gt (by omega))]
  have sT := (rn_le isB c T T p).2 pT
  generalize hs : rn isB c T T p = st at sT
  have C1 : CT (sI h 2 2 (nI st)) c T := CT_sI C (by omega)
  unfold f_X8_next_L38
  have a1 : hI (sI h 2 2 (nI st)) 2 2 = nI st := x_eq _ _ _ _
  have C4 : CT (sL (sI (sI h 2 2 (nI st)) 2 4 (nI st)) 2 5 (0 : Int64)) c T := CT_sL (CT_sI C1 (by omega))
  have a2 : hI (sL (sI (sI h 2 2 (nI st)) 2 4 (nI st)) 2 5 (0 : Int64)) 2 2 = nI st := by rw [x_hI_sL, x_ne (by omega), x_eq]
  have a4 : hI (sL (sI (sI h 2 2 (nI st)) 2 4 (nI st)) 2 5 (0 : Int64)) 2 4 = nI st := by rw [x_hI_sL, x_eq]
  rw [y_gs, if_pos (lc_S2 C1.1), a1, y_lt, y_lt, a2, C4.2.1]
  by_cases gT : st < T
  · obtain ⟨k1, k2, k3, k4, k5⟩ := ct_m C4 gT
    rw [if_pos ((q_lt (by omega) (by omega)).mpr gT), y_gs, if_pos k1, y_gb, if_pos k2, k3, cA _ k4, y_bds, y_gb, if_pos k2, cD _ k4, y_bds, y_gb, if_pos k2, cS _ _ k4, y_bds, y_gb, if_pos k2]
    have ntT : ¬ T ≤ st := by omega
    by_cases gA : isA (c st) = true
    · rw [if_pos gA, if_neg (show ¬ (1 : Int32) = 0 from by decide)]
      have nm := name_c (h := sI (sI h 2 2 (nI st)) 2 4 (nI st)) (p := st) (CT_sI C1 (by omega)) T 0 FU (by omega) (by omega) (FU_gt (by omega))
      have e0 : sL (sI (sI (sI h 2 2 (nI st)) 2 4 (nI st)) 2 2 (nI (st + 0))) 2 5 (nv c st 0) = sL (sI (sI h 2 2 (nI st)) 2 4 (nI st)) 2 5 (0 : Int64) := by
        refine AH_e2 (fun o k => ?_) (fun o k => rfl) rfl
        rw [x_hI_sL, x_hI_sL]
        by_cases w : o = 2 ∧ k = 2
        · rw [w.1, w.2, x_eq, x_ne (by omega), x_eq]; rfl
        · rw [x_ne w]
      rw [e0] at nm
      unfold f_X8_scanName
      rw [nm]
      rw [show st + 0 = st from rfl]
      have te : tEnd c T st = rn isAD c T T st := by unfold tEnd; rw [if_neg ntT, if_pos gA]
      rw [← te]
      have tle := (rn_le isAD c T T st)
      rw [← te] at tle
      have tle2 := tle.2 (by omega)
      unfold f_X8_scanName_L102 f_X8_scanName_L122
      generalize hq : sL (sI (sI (sI h 2 2 (nI st)) 2 4 (nI st)) 2 2 (nI (tEnd c T st))) 2 5 (nv c st (tEnd c T st - st)) = q
      have Cq : CT q c T := by rw [← hq]; exact CT_sL (CT_sI (CT_sI C1 (by omega)) (by omega))
      have q2 : hI q 2 2 = nI (tEnd c T st) := by rw [← hq, x_hI_sL, x_eq]
      have q4 : hI q 2 4 = nI st := by rw [← hq, x_hI_sL, x_ne (by omega), x_eq]
      have q5 : hL q 2 5 = tVal c T st := by rw [← hq, x_hL_sL, if_pos ⟨rfl, rfl⟩]; unfold tVal; rw [if_neg ntT, if_pos gA]
      have fr : ∀ o k, ¬ (o = 2 ∧ (k = 2 ∨ k = 3 ∨ k = 4)) → hI q o k = hI h o k := fun o k w => by rw [← hq, x_hI_sL, x_ne (by omega), x_ne (by omega), x_ne (by omega)]
      have fl' : ∀ o k, ¬ (o = 2 ∧ k = 5) → hL q o k = hL h o k := fun o k w => by rw [← hq, x_hL_sL, if_neg w]; rfl
      have e22 : q.2.2 = h.2.2 := by rw [← hq]; rfl
      have fin : ∀ v, nI (tKind c T st) = v → sI q 2 3 v = tkH h c T st := fun v hv => tkH_eq (by rw [← e22]; rfl) (fun o k w => by rw [x_ne (by omega)]; exact fr o k w) (fun o k w => fl' o k w) (by rw [x_ne (by omega)]; exact q2) (by rw [x_eq, hv]) (by rw [x_ne (by omega)]; exact q4) q5
      rw [y_gs, if_pos (lc_S2 Cq.1), q2, q4, q_sub tle.1, y_gs, if_pos (lc_S2 Cq.1), y_gs, if_pos (lc_S2 Cq.1), y_lt, y_lt]
      by_cases g8 : tEnd c T st - st ≤ 8
      · rw [if_neg (show ¬ (8 : Int32) < nI (tEnd c T st - st) from fun z => by have := (q_lt (a := 8) (by omega) (by omega)).mp z; omega), y_bds, fin _ (by unfold tKind; rw [if_neg ntT, if_pos gA, if_pos g8]; rfl)]
      · rw [if_pos (show (8 : Int32) < nI (tEnd c T st - st) from (q_lt (a := 8) (by omega) (by omega)).mpr (by omega)), y_bds, fin _ (by unfold tKind; rw [if_neg ntT, if_pos gA, if_neg g8]; rfl)]
    · rw [if_neg gA, if_pos (show (0 : Int32) = 0 from rfl)]
      by_cases gD : isD (c st) = true
      · rw [if_pos gD, if_neg (show ¬ (1 : Int32) = 0 from by decide)]
        generalize hb : sL (sI (sI h 2 2 (nI st)) 2 4 (nI st)) 2 5 (0 : Int64) = hb' at *
        have num : f_X8_scanNumber hb' 2 = f_X8_scanNumber_L60 hb' 2 (hxI (hxq c T st)) (hxB (hxq c T st)) := by
          unfold f_X8_scanNumber f_X8_scanNumber_L47 f_X8_scanNumber_L48
          rw [y_gs, if_pos (lc_S2 C4.1), y_gs, if_pos k1, a2, y_gb, if_pos k2, k3, C4.2.1, if_pos rfl, if_neg (show ¬ (1 : Int32) = 0 from by decide), show (1 : Int32) = nI 1 from rfl, q_add]
          unfold hxq
          by_cases g1 : c st = 48
          · rw [if_neg (fun z => z (show nI (c st) = (48 : Int32) from by rw [g1]; rfl))]
            by_cases g2 : st + 1 < T
            · obtain ⟨j1, j2, j3, j4, j5⟩ := ct_m C4 g2
              rw [if_neg (fun z => by have := (q_le (by omega) (by omega)).mp z; omega), y_gb, if_pos j2, j3]
              by_cases g3 : c (st + 1) = 120
              · rw [if_neg (fun z => z (show nI (c (st + 1)) = (120 : Int32) from by rw [g3]; rfl)), decide_eq_true g1, decide_eq_true g2, decide_eq_true g3]; rfl
              · rw [if_pos (show ¬ nI (c (st + 1)) = (120 : Int32) from fun z => g3 ((q_eq (by omega) (show 120 < 2 ^ 31 by omega)).mp z)), decide_eq_false g3, Bool.and_false, Bool.and_false]; rfl
            · rw [if_pos ((q_le (by omega) (by omega)).mpr (by omega)), decide_eq_false g2, Bool.false_and, Bool.and_false]; rfl
          · rw [if_pos (show ¬ nI (c st) = (48 : Int32) from fun z => g1 ((q_eq (by omega) (show 48 < 2 ^ 31 by omega)).mp z)), decide_eq_false g1, Bool.false_and]; rfl
        rw [num]
        -- where the digits begin
        generalize hx : hxq c T st = x at *
        have fle : (if x = true then st + 2 else st) ≤ T := by
          cases x with
          | false => exact sT
          | true =>
            unfold hxq at hx
            have : st + 1 < T := by
              by_cases w : st + 1 < T
              · exact w
              · rw [decide_eq_false w, Bool.false_and, Bool.and_false] at hx; cases hx
            show st + 2 ≤ T; omega
        have l60 : f_X8_scanNumber_L60 hb' 2 (hxI x) (hxB x) = f_X8_scanNumber_L84 FU (sI hb' 2 2 (nI (if x = true then st + 2 else st))) 2 (hxI x) (hxB x) (nI (if x = true then st + 2 else st)) := by
          unfold f_X8_scanNumber_L60 f_X8_scanNumber_L78
          rw [a2, y_gs, if_pos (lc_S2 C4.1), y_gs, if_pos (lc_S2 C4.1), y_gs, if_pos (lc_S2 C4.1), y_gs, if_pos (lc_S2 C4.1), y_lt, y_lt, show (2 : Int32) = nI 2 from rfl, q_add]
          cases x with
          | false => rw [if_pos (show hxI false = 0 from rfl), if_neg (show ¬ false = true from by decide)]
          | true => rw [if_neg (show ¬ hxI true = 0 from by decide), if_pos (show true = true from rfl)]
        rw [l60]
        generalize hfi : (if x = true then st + 2 else st) = fi at *
        have nm := num_c (h := sI (sI h 2 2 (nI st)) 2 4 (nI st)) (p := fi) (CT_sI C1 (by omega)) x T 0 FU (by omega) (by omega) (FU_gt (by omega))
        have e0 : sL (sI (sI (sI h 2 2 (nI st)) 2 4 (nI st)) 2 2 (nI (fi + 0))) 2 5 (mv (hxB x).toInt64 c fi 0) = sI hb' 2 2 (nI fi) := by rw [← hb]; rfl
        rw [e0] at nm
        rw [nm, show fi + 0 = fi from rfl]
        have te : tEnd c T st = rn (hxP x) c T T fi := by
          unfold tEnd; rw [if_neg ntT, if_neg gA, if_pos gD, hx, ← hfi]
          cases x <;> rfl
        rw [← te]
        have tle := (rn_le (hxP x) c T T fi)
        rw [← te] at tle
        have tle2 := tle.2 fle
        unfold f_X8_scanNumber_L243 f_X8_scanNumber_L271 f_X8_scanNumber_L278 f_X8_scanNumber_L279
        generalize hq : sL (sI (sI (sI h 2 2 (nI st)) 2 4 (nI st)) 2 2 (nI (tEnd c T st))) 2 5 (mv (hxB x).toInt64 c fi (tEnd c T st - fi)) = q
        have Cq : CT q c T := by rw [← hq]; exact CT_sL (CT_sI (CT_sI C1 (by omega)) (by omega))
        have q2 : hI q 2 2 = nI (tEnd c T st) := by rw [← hq, x_hI_sL, x_eq]
        have q4 : hI q 2 4 = nI st := by rw [← hq, x_hI_sL, x_ne (by omega), x_eq]
        have q5 : hL q 2 5 = tVal c T st := by
          rw [← hq, x_hL_sL, if_pos ⟨rfl, rfl⟩]; unfold tVal; rw [if_neg ntT, if_neg gA, if_pos gD, hx, ← hfi]
          cases x <;> rfl
        have fr : ∀ o k, ¬ (o = 2 ∧ (k = 2 ∨ k = 3 ∨ k = 4)) → hI q o k = hI h o k := fun o k w => by rw [← hq, x_hI_sL, x_ne (by omega), x_ne (by omega), x_ne (by omega)]
        have fl' : ∀ o k, ¬ (o = 2 ∧ k = 5) → hL q o k = hL h o k := fun o k w => by rw [← hq, x_hL_sL, if_neg w]; rfl
        have e22 : q.2.2 = h.2.2 := by rw [← hq]; rfl
        have fin : ∀ v, nI (tKind c T st) = v → sI q 2 3 v = tkH h c T st := fun v hv => tkH_eq (by rw [← e22]; rfl) (fun o k w => by rw [x_ne (by omega)]; exact fr o k w) (fun o k w => fl' o k w) (by rw [x_ne (by omega)]; exact q2) (by rw [x_eq, hv]) (by rw [x_ne (by omega)]; exact q4) q5
        have tk : tKind c T st = (if x = true then (if 1 ≤ tEnd c T st - fi ∧ tEnd c T st - fi ≤ 8 then 3 else 0) else (if tEnd c T st - fi ≤ 10 then 3 else 0)) := by
          unfold tKind; rw [if_neg ntT, if_neg gA, if_pos gD, hx, ← hfi]
          cases x <;> rfl
        have one : x = false → 1 ≤ tEnd c T st - fi := by
          intro hxf
          subst hxf
          have hfi' : fi = st := hfi.symm
          subst hfi'
          have : rn isD c T T fi ≠ fi := by
            have T0 : 0 < T := by omega
            obtain ⟨T', hT'⟩ : ∃ T', T = T' + 1 := ⟨T - 1, by omega⟩
            have r1 := (rn_le isD c T T' (fi + 1)).1
            have r2 : rn isD c T (T' + 1) fi = rn isD c T T' (fi + 1) := by
              rw [rn, if_pos ⟨gT, gD⟩]
            rw [show rn isD c T T fi = rn isD c T (T' + 1) fi from by rw [← hT'], r2]; omega
          have te' : tEnd c T fi = rn isD c T T fi := te
          omega
        rw [y_gs, if_pos (lc_S2 Cq.1), q2, q_sub tle.1, y_lt, y_gs, if_pos (lc_S2 Cq.1), y_lt, y_gs, if_pos (lc_S2 Cq.1), y_lt]
        have D : nI (tEnd c T st - fi) < (1 : Int32) ↔ tEnd c T st - fi < 1 := q_lt (b := 1) (by omega) (by omega)
        have D8 : (8 : Int32) < nI (tEnd c T st - fi) ↔ 8 < tEnd c T st - fi := q_lt (a := 8) (by omega) (by omega)
        have D10 : (10 : Int32) < nI (tEnd c T st - fi) ↔ 10 < tEnd c T st - fi := q_lt (a := 10) (by omega) (by omega)
        cases x with
        | false =>
          have o1 := one rfl
          rw [if_neg (fun z => by have := D.mp z; omega), if_pos (show hxI false = 0 from rfl)]
          rw [if_neg (show ¬ false = true from by decide)] at tk
          by_cases g : tEnd c T st - fi ≤ 10
          · rw [if_neg (fun z => by have := D10.mp z; omega), y_bds, fin _ (by rw [tk, if_pos g]; rfl)]
          · rw [if_pos (D10.mpr (by omega)), y_bds, fin _ (by rw [tk, if_neg g]; rfl)]
        | true =>
          rw [if_pos (show true = true from rfl)] at tk
          by_cases g1 : tEnd c T st - fi < 1
          · rw [if_pos (D.mpr g1), y_bds, fin _ (by rw [tk, if_neg (by omega)]; rfl)]
          · rw [if_neg (fun z => g1 (D.mp z)), if_neg (show ¬ hxI true = 0 from by decide)]
            by_cases g : tEnd c T st - fi ≤ 8
            · rw [if_neg (fun z => by have := D8.mp z; omega), y_bds, fin _ (by rw [tk, if_pos (by omega)]; rfl)]
            · rw [if_pos (D8.mpr (by omega)), y_bds, fin _ (by rw [tk, if_neg (by omega)]; rfl)]
      · rw [if_neg gD, if_pos (show (0 : Int32) = 0 from rfl)]
        have te : tEnd c T st = st + 1 := by unfold tEnd; rw [if_neg ntT, if_neg gA, if_neg gD]
        have tv : tVal c T st = 0 := by unfold tVal; rw [if_neg ntT, if_neg gA, if_neg gD]
        have l143 : ∀ v, nI (tKind c T st) = v → f_X8_next_L143 (sL (sI (sI h 2 2 (nI st)) 2 4 (nI st)) 2 5 (0 : Int64)) 2 2 v = some (tkH h c T st) := by
          intro v hv
          unfold f_X8_next_L143
          have C5 : CT (sI (sL (sI (sI h 2 2 (nI st)) 2 4 (nI st)) 2 5 (0 : Int64)) 2 3 v) c T := CT_sI C4 (by omega)
          rw [y_gs, if_pos (lc_S2 C4.1), y_lt, y_gs, if_pos (lc_S2 C5.1), x_ne (by omega), a2, show (1 : Int32) = nI 1 from rfl, q_add, y_lt]
          refine congrArg some (tkH_eq rfl (fun o k w => ?_) (fun o k w => ?_) ?_ ?_ ?_ ?_)
          · rw [x_ne (by omega), x_ne (by omega), x_hI_sL, x_ne (by omega), x_ne (by omega)]
          · rw [x_hL_sI, x_hL_sI, x_hL_sL, if_neg w]; rfl
          · rw [x_eq, te]
          · rw [x_ne (by omega), x_eq, hv]
          · rw [x_ne (by omega), x_ne (by omega)]; exact a4
          · rw [x_hL_sI, x_hL_sI, x_hL_sL, if_pos ⟨rfl, rfl⟩, tv]
        by_cases gS : isS (c st) = true
        · rw [if_pos gS, if_neg (show ¬ (1 : Int32) = 0 from by decide), l143 _ (by unfold tKind; rw [if_neg ntT, if_neg gA, if_neg gD, if_pos gS])]
        · rw [if_neg gS, if_pos (show (0 : Int32) = 0 from rfl), l143 _ (by unfold tKind; rw [if_neg ntT, if_neg gA, if_neg gD, if_neg gS]; rfl)]
  · rw [if_neg (fun z => gT ((q_lt (by omega) (by omega)).mp z)), y_lt]
    have ge : T ≤ st := by omega
    refine congrArg some (tkH_eq rfl (fun o k w => ?_) (fun o k w => ?_) ?_ ?_ ?_ ?_)
    · rw [x_ne (by omega), x_hI_sL, x_ne (by omega), x_ne (by omega)]
    · rw [x_hL_sI, x_hL_sL, if_neg w]; rfl
    · rw [x_ne (by omega), a2]; unfold tEnd; rw [if_pos ge]
    · rw [x_eq]; unfold tKind; rw [if_pos ge]; rfl
    · rw [x_ne (by omega)]; exact a4
    · rw [x_hL_sI, x_hL_sL, if_pos ⟨rfl, rfl⟩]; unfold tVal; rw [if_pos ge]
