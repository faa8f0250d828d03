/-! Statements in both. -/
def AT (h m : AH) (c : Nat → Nat) (T Nn i : Nat) : Prop := ∃ n L a g, AC h m n L a g ∧ TQ h m c T Nn i ∧ FK m (KX h g n L) ∧ 4 * n ≤ ts c T i ∧ 2 * L ≤ ts c T i ∧ 4 * g 7 n ≤ ts c T i
/-- both go on, or both refuse -/
def SO (h m : AH) (c : Nat → Nat) (T Nn i : Nat) (X Y : Option (Int32 × AH)) : Prop := (∃ h' m' i', X = some ((1 : Int32), h') ∧ Y = some ((1 : Int32), m') ∧ AT h' m' c T Nn i' ∧ i < i' ∧ FA h h' ∧ FB m m') ∨ FR3 h m c T i Nn X Y
theorem SO_of {h m h1 m1 : AH} {c : Nat → Nat} {T i i1 Nn : Nat} {X Y : Option (Int32 × AH)} (hi : i ≤ i1) (a : FA h h1) (b : FB m m1) (H : SO h1 m1 c T Nn i1 X Y) : SO h m c T Nn i X Y := by
  rcases H with ⟨h', m', i', e1, e2, e3, e4, e5, e6⟩ | H
  · exact Or.inl ⟨h', m', i', e1, e2, e3, by omega, FA_tr a e5, FB_tr b e6⟩
  · exact Or.inr (FR3_of hi a b H)
theorem end_so {h m : AH} {c : Nat → Nat} {T Nn i : Nat} (S : AT h m c T Nn i) : SO h m c T Nn i (f_X1_readStatement_L129 h 4) (f_X11_readStatement_L402 m 226) := by
  obtain ⟨n, L, a, g, A, Q, F, b1, b2, b3⟩ := S
  have L1 := Q.1.1.1
  unfold f_X1_readStatement_L129
  rw [y_gs, if_pos (lc_S4 L1)]
  rcases end_both Q with ⟨d1, d2, d3, d4⟩ | ⟨h', m', p, r1, r2, r3⟩
  · left
    have ge : ts c T i ≤ ts c T (i + 1) := by have := ts_st (Q.2.2.2.2.1 i d3).2; omega
    rw [d1, d2, y_bds, gb01 (Or.inr rfl)]
    exact ⟨_, _, i + 1, rfl, rfl, ⟨n, L, a, g, AC_tk A _ _ _ _, d4, by rw [KX_tk]; exact FK_of F (fun k hk => x_ne (by omega)), by omega, by omega, by omega⟩, by omega, FA_tk _ _ _ _, FB_9 _ _⟩
  · right
    rw [r1, r2, y_bds, gb01 (Or.inl rfl)]
    exact ⟨h', m', p, rfl, rfl, r3⟩
/-- the reference at a name that is no label -/
theorem nam_r {h m : AH} {c : Nat → Nat} {T Nn i : Nat} (Q : TQ h m c T Nn i) (NM : NR m) (k2 : tKind c T (ts c T i) = 2) (iN : i < Nn) : f_X11_readStatement_L149 m 226 = match wfind (tVal c T (ts c T i)) 61 0 with
    | some op => refI (sI m 226 9 (nI (i + 1))) (nI i) (nI op)
    | none => if tKind c T (ts c T (i + 1)) = 0 then f_X11_readStatement_L211 (sI m 226 9 (nI (i + 1))) 226 else f_X11_readStatement_L211 m 226 := by
  obtain ⟨b1, b2, b3, b4, b5, b6⟩ := TQ_r Q
  have tk := (Q.2.1.2.1 i Q.2.2.1).2.2.1 (Or.inl k2)
  have tk1 := (Q.2.1.2.1 (i + 1) (by omega)).1
  have L := Q.2.1.1
  have N15 := Q.2.2.2.1
  obtain ⟨r1, r2, r3, r4, r5⟩ := rk_i (k := tKind c T (ts c T i))
  obtain ⟨s1, s2, s3, s4, s5⟩ := rk_i (k := tKind c T (ts c T (i + 1)))
  unfold f_X11_readStatement_L149
  rw [y_gs, if_pos (lm_S226 L), lm_R6 L, y_gs, if_pos (lm_S228 L), lm_N228 L, b1, y_gb, if_pos b4, q_cl b5, b2, if_neg (fun q => q (r1.mpr k2)), y_lt, lm_R8 L, y_gs, if_pos (lm_S230 L), lm_N230 L, y_gb, if_pos b4, tk, r_word L NM, y_bds, y_lt]
  cases hw : wfind (tVal c T (ts c T i)) 61 0 with
  | some op =>
    have op61 : op < 61 := by have := (wfind_s _ _ hw).1; omega
    have ne : ¬ oI (some op) = (-1 : Int32) := fun q => by
      have : nI op = nN := q
      have : ∀ op, op < 61 → ¬ nI op = nN := by decide +kernel
      exact this op op61 q
    rw [if_pos ne, y_gs, if_pos (lm_S226 L), b1, q_add1, y_lt]
    rfl
  | none =>
    have ne : ¬ ¬ oI (none : Option Nat) = (-1 : Int32) := fun q => q rfl
    rw [if_neg ne, y_gs, if_pos (lm_S226 L), lm_R6 L, y_gs, if_pos (lm_S228 L), lm_N228 L, b1, q_add1, y_gb, if_pos (q_ib (by omega) (by omega)), q_cl (by omega), tk1]
    by_cases z : tKind c T (ts c T (i + 1)) = 0
    · rw [if_neg (fun q => q (s4.mpr z)), y_lt]
      show _ = if tKind c T (ts c T (i + 1)) = 0 then _ else _
      rw [if_pos z]
    · rw [if_pos (fun q => z (s4.mp q))]
      show _ = if tKind c T (ts c T (i + 1)) = 0 then _ else _
      rw [if_neg z]
theorem ref_r {h m : AH} {c : Nat → Nat} {T Nn i : Nat} (Q : TQ h m c T Nn i) : ∃ m', f_X11_readStatement_L211 m 226 = some ((0 : Int32), m') ∧ hI m' 226 3 = (1 : Int32) ∧ hI m' 226 4 = nI (ts c T i) ∧ FN m m' := by
  obtain ⟨m', r1, r2, r3, r4⟩ := r_refuse Q
  refine ⟨m', ?_, r2, r3, r4⟩
  unfold f_X11_readStatement_L211
  rw [y_gs, if_pos (lm_S226 Q.2.1.1), r1, y_bds, gb01 (Or.inl rfl)]
/-- a name that is no label, in both -/
theorem nam_so {h m : AH} {c : Nat → Nat} {T Nn i : Nat} (S : AT h m c T Nn i) (zc : ∀ i, T ≤ i → c i = 0) (k2 : tKind c T (ts c T i) = 2) (iN : i < Nn) {h1 : AH} (e1 : h1 = tkH h c T (ts c T (i + 1))) :
    SO h m c T Nn i (if ¬ nI (tKind c T (ts c T (i + 1))) = 0 then (bd (f_X1_findWord h1 (tVal c T (ts c T i))) fun v12 => if 0 ≤ v12 then (bd (f_X1_readInstruction h1 4 v12 (nI (ts c T i))) fun q14 => gb (q14.1 == 0 || q14.1 == 1) <| some (q14.1, q14.2)) else (bd (f_X1_refuse h1 4 (nI (ts c T i))) fun q16 => gb (q16.1 == 0 || q16.1 == 1) <| some (q16.1, q16.2))) else (bd (f_X1_refuse h1 4 (nI (ts c T (i + 1)))) fun q18 => gb (q18.1 == 0 || q18.1 == 1) <| some (q18.1, q18.2))) (f_X11_readStatement_L149 m 226) := by
  obtain ⟨n, L, a, g, A, Q, F, b1, b2, b3⟩ := S
  have C := Q.1.1
  obtain ⟨nx1, Q1, fa1⟩ := nx Q iN
  rw [← e1] at nx1 Q1 fa1
  have T15 : T ≤ 1500 := C.2.2.2.1
  have L1 : LC h1 := Q1.1.1.1
  have tT := ts_le c T i
  have tT1 := ts_le c T (i + 1)
  have hc : ∀ p, c p < 128 := fun p => by
    rcases Nat.lt_or_ge p T with q | q
    · have := C.2.2.2.2 p q; omega
    · rw [zc p q]; omega
  have kl := kind_lt C (ts c T (i + 1))
  obtain ⟨pT, _⟩ := k2_of k2
  have A1 : AC h1 (sI m 226 9 (nI (i + 1))) n L a g := by rw [e1]; exact AC_tk A _ _ _ _
  have F1 : FK (sI m 226 9 (nI (i + 1))) (KX h1 g n L) := by rw [e1, KX_tk]; exact FK_of F (fun k hk => x_ne (by omega))
  have i3 : i < 1502 := by have := Q.2.2.2.1; omega
  have hnm : i < 1502 ∧ hI (sI m 226 9 (nI (i + 1))) 229 i = nI (ts c T i) := ⟨i3, by rw [x_ne (by omega)]; exact (TQ_r Q).2.2.1⟩
  have ib' : ∀ op, op < 61 → _ := fun op hop => ins_both (op := op) (nm := i) A1 Q1 F1 zc hop (by omega) (by omega) hnm (by omega)
  have rfa : ∀ p : Nat, FA h (sI (sI h1 4 16 (1 : Int32)) 4 17 (nI p)) := fun p => FA_tr fa1 ⟨rfl, fun o k h1 h2 => by rw [x_ne (by omega), x_ne (by omega)]⟩
  rw [nam_r Q A.cs.2 k2 iN]
  by_cases z : tKind c T (ts c T (i + 1)) = 0
  · rw [z, if_neg (fun q => q rfl), c_refuse L1, y_bds, gb01 (Or.inl rfl)]
    right
    have iE : i + 1 = Nn := by
      have := Q1.2.2.1
      rcases Nat.lt_or_ge (i + 1) Nn with q | q
      · exact absurd z (Q.2.2.2.2.1 _ q).1
      · omega
    cases hw : wfind (tVal c T (ts c T i)) 61 0 with
    | none =>
      show FR3 h m c T i Nn _ (if (0 : Nat) = 0 then f_X11_readStatement_L211 (sI m 226 9 (nI (i + 1))) 226 else _)
      rw [if_pos rfl]
      obtain ⟨m', r1, r2, r3, r4⟩ := ref_r Q1
      exact ⟨_, m', ts c T (i + 1), rfl, r1, ⟨by omega, i + 1, rfl, by omega, by omega⟩, by rw [x_ne (by omega), x_eq], by rw [x_eq], r2, r3, rfa _, FB_tr (FB_9 _ _) (FN_B r4)⟩
    | some op =>
      have op61 : op < 61 := by have := (wfind_s _ _ hw).1; omega
      rcases ib' op op61 with ⟨h', m', i', a', g', w1, w2, w3, w4, w5, w6, w7, w8, w9, _⟩ | ⟨h', m', p, w1, w2, ⟨w3, i', w4, w5, w6⟩, w7, w8, w9, w10, w11, w12⟩
      · omega
      · have : i' = i + 1 := by omega
        subst this
        rw [w4] at w10
        exact ⟨_, m', ts c T (i + 1), rfl, w2, ⟨by omega, i + 1, rfl, by omega, by omega⟩, by rw [x_ne (by omega), x_eq], by rw [x_eq], w9, w10, rfa _, FB_tr (FB_9 _ _) w12⟩
  · rw [if_pos (show ¬ nI (tKind c T (ts c T (i + 1))) = 0 from fun q => z ((q_eq (b := 0) (by omega) (by omega)).mp q)), c_word, y_bds]
    cases hw : wfind (tVal c T (ts c T i)) 61 0 with
    | none =>
      right
      show FR3 h m c T i Nn _ (if tKind c T (ts c T (i + 1)) = 0 then f_X11_readStatement_L211 (sI m 226 9 (nI (i + 1))) 226 else f_X11_readStatement_L211 m 226)
      rw [if_neg z, if_neg (show ¬ (0 : Int32) ≤ oI none from by decide), c_refuse L1, y_bds, gb01 (Or.inl rfl)]
      obtain ⟨m', r1, r2, r3, r4⟩ := ref_r Q
      exact ⟨_, m', ts c T i, rfl, r1, ⟨by omega, i, rfl, by omega, by omega⟩, by rw [x_ne (by omega), x_eq], by rw [x_eq], r2, r3, rfa _, FN_B r4⟩
    | some op =>
      obtain ⟨op61', key⟩ := wfind_s _ _ hw
      have op61 : op < 61 := by omega
      show SO h m c T Nn i (if 0 ≤ nI op then _ else _) (refI (sI m 226 9 (nI (i + 1))) (nI i) (nI op))
      rw [if_pos (show (0 : Int32) ≤ nI op from (q_le (a := 0) (by omega) (by omega)).mpr (by omega)), show oI (some op) = nI op from rfl]
      rcases ib' op op61 with ⟨h', m', i', a', g', w1, w2, w3, w4, w5, w6, w7, w8, w9, w10, w11⟩ | ⟨h', m', p, w1, w2, ⟨w3, i', w4, w5, w6⟩, w7, w8, w9, w10, w11, w12⟩
      · left
        obtain ⟨s4, s8⟩ := st_len (i' := i') hc k2 key.symm op61 (fun j h1 h2 => (Q.2.2.2.2.1 j (by omega)).2) w8 w11
        rw [w1, y_bds, gb01 (Or.inr rfl)]
        refine ⟨h', m', i' + 1, rfl, w2, ⟨n + 1, L, a', g', w3, w4, w5, by omega, by omega, ?_⟩, by omega, FA_tr fa1 w6, FB_tr (FB_9 _ _) w7⟩
        rcases w10 with q | ⟨q1, q2⟩
        · omega
        · have := s8 q2; omega
      · right
        rw [w1, y_bds, gb01 (Or.inl rfl)]
        exact ⟨h', m', p, rfl, w2, ⟨w3, i', w4, by omega, w6⟩, w7, w8, w9, w10, FA_tr fa1 w11, FB_tr (FB_9 _ _) w12⟩
