/-! Numbers and labels as operands. -/
/-- the reference's number at its token -/
theorem r_num {h m : AH} {c : Nat → Nat} {T Nn i n : Nat} {B1 B2 R : Int32} {nk np : Nat} {hw : Int32} {x form j : Nat} {lo hi : Int64} {mu : Int32} (O : OQ h m c T Nn i n B1 B2 R nk np hw x) (hfit : ∀ v, rft lo hi mu v ↔ fitB form v = true) (hmu : ¬ mu.toInt64 = 0) (hj : j ≤ i) (neg : Int32) (k3 : tKind c T (ts c T i) = 3) :
    ∃ m', f_X11_wantNumber_L112 m 226 lo hi mu (nI j) neg = some ((1 : Int32), m') ∧ hI m' 226 9 = nI (i + 1) ∧ hL m' 226 72 = (if neg = 0 then tVal c T (ts c T i) else -(tVal c T (ts c T i))) ∧ FK m' (if fitB form (if neg = 0 then tVal c T (ts c T i) else -(tVal c T (ts c T i))) = true then x else min x (4 * ts c T j + 3)) ∧ m'.2.2 = m.2.2 ∧ (∀ o k, ¬ (o = 226 ∧ (k = 3 ∨ k = 4 ∨ k = 9)) → hI m' o k = hI m o k) ∧ (∀ o k, ¬ (o = 226 ∧ k = 72) → hL m' o k = hL m o k) := by
  have Q := O.tq
  obtain ⟨a1, a2, a3, a4, a5, a6⟩ := TQ_r Q
  have L := Q.2.1.1
  have T15 := Q.1.1.2.2.2.1
  have r2 := (rk_i (k := tKind c T (ts c T i))).2.1
  have vv : hL m 230 i = tVal c T (ts c T i) := (Q.2.1.2.1 i Q.2.2.1).2.2.1 (Or.inr k3)
  have pj : hI m 229 j = nI (ts c T j) := (Q.2.1.2.1 j (Nat.le_trans hj Q.2.2.1)).2.1
  have tj := ts_le c T j
  have l158 : ∀ z : Int64, ∃ m', f_X11_wantNumber_L158 m 226 lo hi mu (nI j) 226 z = some ((1 : Int32), m') ∧ hI m' 226 9 = nI (i + 1) ∧ hL m' 226 72 = z ∧ FK m' (if fitB form z = true then x else min x (4 * ts c T j + 3)) ∧ m'.2.2 = m.2.2 ∧ (∀ o k, ¬ (o = 226 ∧ (k = 3 ∨ k = 4 ∨ k = 9)) → hI m' o k = hI m o k) ∧ (∀ o k, ¬ (o = 226 ∧ k = 72) → hL m' o k = hL m o k) := by
    intro z
    have Lz : LM (sL m 226 72 z) := LM_3 L rfl
    have z72 : hL (sL m 226 72 z) 226 72 = z := by rw [x_hL_sL, if_pos ⟨rfl, rfl⟩]
    have fz : FK (sL m 226 72 z) x := FK_of O.fk (fun k hk => rfl)
    obtain ⟨mn, en, fn, fr⟩ := r_note Lz (k := 3) (w := ts c T j) fz (Or.inr rfl) (by omega)
    have Ln : LM mn := LM_3 Lz (by rw [fr.1])
    have mn9 : hI mn 226 9 = nI i := by rw [fr.2 _ _ (by omega)]; exact a1
    have mnL : ∀ o k, hL mn o k = hL (sL m 226 72 z) o k := fun o k => by show mn.2.1 o k = (sL m 226 72 z).2.1 o k; rw [fr.1]
    have l193 : f_X11_wantNumber_L193 (sL m 226 72 z) 226 (nI j) = some ((1 : Int32), sI mn 226 9 (nI (i + 1))) := by
      unfold f_X11_wantNumber_L193 f_X11_wantNumber_L205
      rw [y_gs, if_pos (lm_S226 Lz), lm_R7 Lz, y_gs, if_pos (lm_S229 Lz), lm_N229 Lz, y_gb, if_pos (q_ib (by omega) (by omega)), q_cl (by omega), x_hI_sL, pj]
      have en' : f_X11_note (sL m 226 72 z) 226 (3 : Int32) (nI (ts c T j)) = some mn := en
      rw [en', y_bds, y_gs, if_pos (lm_S226 Ln), mn9, show (1 : Int32) = nI 1 from rfl, q_add, y_lt]
    have l205 : f_X11_wantNumber_L205 (sL m 226 72 z) 226 = some ((1 : Int32), sI (sL m 226 72 z) 226 9 (nI (i + 1))) := by
      unfold f_X11_wantNumber_L205
      rw [y_gs, if_pos (lm_S226 Lz), x_hI_sL, a1, show (1 : Int32) = nI 1 from rfl, q_add, y_lt]
    unfold f_X11_wantNumber_L158
    rw [y_gs, if_pos (lm_S226 L), y_lt, y_gs, if_pos (lm_S226 Lz), z72, l193, l205, y_gb, if_pos (decide_eq_true hmu)]
    simp only [lg_lt, lg_0]
    have hf := hfit z
    unfold rft at hf
    have no : ¬ fitB form z = true → ∃ m', some ((1 : Int32), sI mn 226 9 (nI (i + 1))) = some ((1 : Int32), m') ∧ hI m' 226 9 = nI (i + 1) ∧ hL m' 226 72 = z ∧ FK m' (if fitB form z = true then x else min x (4 * ts c T j + 3)) ∧ m'.2.2 = m.2.2 ∧ (∀ o k, ¬ (o = 226 ∧ (k = 3 ∨ k = 4 ∨ k = 9)) → hI m' o k = hI m o k) ∧ (∀ o k, ¬ (o = 226 ∧ k = 72) → hL m' o k = hL m o k) := by
      intro nf
      rw [if_neg nf]
      refine ⟨_, rfl, x_eq _ _ _ _, ?_, FK_of fn (fun k hk => x_ne (by omega)), ?_, fun o k g => ?_, fun o k g => ?_⟩
      · rw [x_hL_sI, mnL]; exact z72
      · show mn.2.2 = m.2.2; rw [fr.1]; rfl
      · rw [x_ne (by omega), fr.2 _ _ (by omega)]; rfl
      · rw [x_hL_sI, mnL, x_hL_sL, if_neg g]
    by_cases g1 : z < lo
    · rw [if_pos g1]; exact no (fun q => (hf.mpr q).1 g1)
    · rw [if_neg g1]
      by_cases g2 : hi < z
      · rw [if_pos g2]; exact no (fun q => (hf.mpr q).2.1 g2)
      · rw [if_neg g2]
        by_cases g3 : z - z / mu.toInt64 * mu.toInt64 = 0
        · rw [if_pos g3, if_pos (hf.mp ⟨g1, g2, g3⟩)]
          refine ⟨_, rfl, x_eq _ _ _ _, ?_, FK_of fz (fun k hk => x_ne (by omega)), rfl, fun o k g => ?_, fun o k g => ?_⟩
          · rw [x_hL_sI]; exact z72
          · rw [x_ne (by omega)]; rfl
          · rw [x_hL_sI, x_hL_sL, if_neg g]
        · rw [if_neg g3]; exact no (fun q => g3 (hf.mpr q).2.2)
  unfold f_X11_wantNumber_L112
  rw [y_gs, if_pos (lm_S226 L), lm_R6 L, y_gs, if_pos (lm_S228 L), lm_N228 L, a1, y_gb, if_pos a4, q_cl a5, a2, if_pos (r2.mpr k3), lm_R8 L, y_gs, if_pos (lm_S230 L), lm_N230 L, y_gb, if_pos a4, y_gs, if_pos (lm_S230 L), y_gb, if_pos a4, vv]
  by_cases z : neg = 0
  · rw [if_pos z, if_pos z]; exact l158 _
  · rw [if_neg z, if_neg z]; exact l158 _
/-- the class's number or label at its token: kind and value are put -/
theorem c_num {h m : AH} {c : Nat → Nat} {T Nn i n : Nat} (Q : TQ h m c T Nn i) (it : hI h 4 1 = nI n) (n375 : n < 375) (any neg : Int32) :
    f_X1_readNumber_L49 h 4 any neg = if tKind c T (ts c T i) = 3 then (bd (f_X8_next (sL (sI h 9 n (1 : Int32)) 11 n (if neg = 0 then tVal c T (ts c T i) else -(tVal c T (ts c T i)))) 2) fun q3 => some ((1 : Int32), q3)) else if tKind c T (ts c T i) = 2 ∧ ¬ any = 0 ∧ neg = 0 then (bd (f_X8_next (sL (sI h 9 n (2 : Int32)) 11 n (tVal c T (ts c T i))) 2) fun q3 => some ((1 : Int32), q3)) else some ((0 : Int32), h) := by
  have C := Q.1.1
  have L := C.1
  have kl := kind_lt C (ts c T i)
  have kk : hI h 2 3 = nI (tKind c T (ts c T i)) := Q.1.2.2.1
  have vv : hL h 2 5 = tVal c T (ts c T i) := Q.1.2.2.2.2
  have l9 : ∀ v : Int32, LC (sI h 9 n v) := fun v => L
  have i9 : ∀ v : Int32, hI (sI h 9 n v) 4 1 = nI n := fun v => by rw [x_ne (by omega)]; exact it
  have l154 : ∀ (v : Int32) (z : Int64), f_X1_readNumber_L154 (sL (sI h 9 n v) 11 n z) 4 = bd (f_X8_next (sL (sI h 9 n v) 11 n z) 2) fun q3 => some ((1 : Int32), q3) := by
    intro v z
    have Lx : LC (sL (sI h 9 n v) 11 n z) := LC_2 L rfl
    unfold f_X1_readNumber_L154
    rw [y_gs, if_pos (lc_S4 Lx), lc_R4_0 Lx, y_gs, if_pos (lc_S2 Lx)]
  unfold f_X1_readNumber_L49 f_X1_readNumber_L100
  rw [y_gs, if_pos (lc_S4 L), lc_R4_0 L, y_gs, if_pos (lc_S2 L), kk, lc_R4_6 L, y_gs, if_pos (lc_S9 L), lc_N9 L, it, y_gb, if_pos (q_ib n375 (by omega)), q_cl (by omega), y_lt, lc_R4_0 (l9 _), y_gs, if_pos (lc_S2 (l9 _)), lc_R4_8 (l9 _), y_gs, if_pos (lc_S11 (l9 _)), lc_N11 (l9 _), i9, y_gb, if_pos (q_ib n375 (by omega)), q_cl (by omega), y_lt, y_gs, if_pos (lc_S9 L), y_gb, if_pos (q_ib n375 (by omega)), y_lt, lc_R4_0 (l9 _), y_gs, if_pos (lc_S2 (l9 _)), lc_R4_8 (l9 _), y_gs, if_pos (lc_S11 (l9 _)), lc_N11 (l9 _), i9, y_gb, if_pos (q_ib n375 (by omega)), q_cl (by omega), y_lt, y_gs, if_pos (lc_S2 (l9 _)), y_gs, if_pos (lc_S11 (l9 _)), y_gb, if_pos (q_ib n375 (by omega)), y_lt, x_hL_sI, x_hL_sI, vv, l154, l154, l154]
  have h3 : nI (tKind c T (ts c T i)) = (3 : Int32) ↔ tKind c T (ts c T i) = 3 := q_eq (b := 3) (by omega) (by omega)
  have h2 : nI (tKind c T (ts c T i)) = (2 : Int32) ↔ tKind c T (ts c T i) = 2 := q_eq (b := 2) (by omega) (by omega)
  simp only [h3, h2]
  by_cases g3 : tKind c T (ts c T i) = 3
  · rw [if_neg (fun q => q g3), if_pos g3]
    by_cases z : neg = 0
    · rw [if_pos z, if_pos z]
    · rw [if_neg z, if_neg z]
  · rw [if_pos g3, if_neg g3]
    by_cases g2 : tKind c T (ts c T i) = 2
    · rw [if_neg (fun q => q g2)]
      by_cases ga : any = 0
      · rw [if_pos ga, if_neg (fun q => q.2.1 ga)]
      · rw [if_neg ga]
        by_cases gn : neg = 0
        · rw [if_neg (fun q => q gn), if_pos ⟨g2, ga, gn⟩]
        · rw [if_pos gn, if_neg (fun q => gn q.2.2)]
    · rw [if_pos g2, if_neg (fun q => g2 q.1)]
