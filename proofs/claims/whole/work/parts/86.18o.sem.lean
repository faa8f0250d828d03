theorem sCall_mono (k l sp n : Nat) : ∀ (s : St) (o : Nat), N s 10 k ≤ N (sCall s k l sp o n) 10 k := by
  induction n with
  | zero => intro s o; exact Nat.le_refl _
  | succ n ih =>
    intro s o
    unfold sCall
    split
    · refine Nat.le_trans ?_ (ih _ _)
      rw [N_eq]; omega
    · exact ih _ _
theorem sCall_due0 (k l sp n : Nat) : ∀ (s : St) (o : Nat), N (sCall s k l sp o n) 10 k = 0 → ∀ j, o ≤ j → j < o + n → j + 1 ≠ sp → N s 6 k ≠ j + 1 ∧ (N s 7 k).testBit j = false := by
  induction n with
  | zero => intro s o _ j h1 h2; omega
  | succ n ih =>
    intro s o h j h1 h2 h3
    by_cases c : o + 1 ≠ sp ∧ (N s 6 k = o + 1 ∨ (N s 7 k).testBit o = true)
    · rw [sCall_1 c.1 c.2] at h
      have := sCall_mono k l sp n (uN (sSend s 3 16 o l) 10 k (N s 10 k + 1)) (o + 1)
      rw [N_eq] at this; omega
    · have c' : o + 1 = sp ∨ (¬ N s 6 k = o + 1 ∧ (N s 7 k).testBit o = false) := by
        by_cases c1 : o + 1 = sp
        · exact Or.inl c1
        · refine Or.inr ⟨fun e => c ⟨c1, Or.inl e⟩, ?_⟩
          cases e : (N s 7 k).testBit o with
          | false => rfl
          | true => exact absurd ⟨c1, Or.inr e⟩ c
      rw [sCall_0 c'] at h
      by_cases e : j = o
      · subst e
        rcases c' with c' | c'
        · exact absurd c' h3
        · exact c'
      · exact ih s (o + 1) h j (by omega) (by omega) h3
theorem c_about {h : AH} {s : St} (R : RC h s) (B : Bz s) {k c kd : Nat} (u : uw s k) :
    RC (sI (sI (sI (sI (sI h 19 15 (nI (N s 24 0 + 1))) 28 (cw s k) (nI (N s 24 0 + 1))) 24 (cw s k) (nI c)) 25 (cw s k) (nI kd)) 26 (cw s k) (nI 0)) (sAbout s k c kd) ∧ FrW h (sI (sI (sI (sI (sI h 19 15 (nI (N s 24 0 + 1))) 28 (cw s k) (nI (N s 24 0 + 1))) 24 (cw s k) (nI c)) 25 (cw s k) (nI kd)) 26 (cw s k) (nI 0)) (cw s k) := by
  obtain ⟨r1, r2, r3, r4⟩ := RC_w R u
  obtain ⟨s1, s2, s3, s4⟩ := RC_s R
  have Fw : FrW h (sI (sI (sI (sI (sI h 19 15 (nI (N s 24 0 + 1))) 28 (cw s k) (nI (N s 24 0 + 1))) 24 (cw s k) (nI c)) 25 (cw s k) (nI kd)) 26 (cw s k) (nI 0)) (cw s k) := FrW_sI (FrW_sI (FrW_sI (FrW_sI (FrW_sI (FrW_rfl h _) _ (by omega)) _ (by omega)) _ (by omega)) _ (by omega)) _ (by omega)
  refine ⟨RC_H R B u Fw ?_ (fun G j => Or.inl rfl) rfl rfl ?_ ?_ ?_ ?_, Fw⟩
  · intro G j
    unfold sAbout
    simp only [N_uN]
    (repeat' split) <;> omega
  · rw [x_ne (by omega), x_ne (by omega), x_ne (by omega), x_ne (by omega), x_eq]
    unfold sAbout
    rw [N_ne (by omega), N_ne (by omega), N_ne (by omega), N_ne (by omega), N_eq]
  · rw [x_ne (by omega), x_ne (by omega), x_ne (by omega), x_ne (by omega), x_ne (by omega)]; exact s4
  · intro l j hl hj; rw [x_ne (by omega), x_ne (by omega), x_ne (by omega), x_ne (by omega), x_ne (by omega)]; exact R.2.2.2.2.2.1 l j hl hj
  · unfold sAbout
    refine ⟨?_, ?_, ?_, fun g => ?_⟩
    · rw [x_ne (by omega), x_ne (by omega), x_ne (by omega), x_ne (by omega), x_ne (by omega)]; exact r1
    · rw [x_ne (by omega), x_ne (by omega), x_eq, N_ne (by omega), N_ne (by omega), N_eq, pI_s]
    · rw [x_ne (by omega), x_ne (by omega), x_ne (by omega), x_eq, N_ne (by omega), N_ne (by omega), N_ne (by omega), N_eq]
    · obtain ⟨b1, b2, b3, b4, b5⟩ := r4 g
      refine ⟨?_, ?_, ?_, fun j hj => ?_, fun _ => ⟨?_, fun _ => ?_⟩⟩
      · rw [x_ne (by omega), x_ne (by omega), x_ne (by omega), x_ne (by omega), x_ne (by omega)]; exact b1
      · rw [x_ne (by omega), x_ne (by omega), x_ne (by omega), x_ne (by omega), x_ne (by omega)]; exact b2
      · rw [x_ne (by omega), x_ne (by omega), x_ne (by omega), x_ne (by omega), x_ne (by omega)]; exact b3
      · rw [x_ne (by omega), x_ne (by omega), x_ne (by omega), x_ne (by omega), x_ne (by omega)]; exact b4 j hj
      · rw [x_eq, N_eq]
      · rw [x_ne (by omega), x_eq, N_ne (by omega), N_eq]
theorem c_serve {h : AH} {s : St} (R : RC h s) (B : Bz s) {k c l kd i : Nat} (u : uw s k) (h4 : N s 4 k = l + 1) (hl : l < 512) (h6 : N s 6 k ≤ N s 0 0) (h7 : N s 7 k < 2 ^ N s 0 0) (hc : c < 16) (hkd : kd < 2) (hi : i < 32) (hq : hI h 30 (9 * i + 0) = nI kd)
    (hw : N s 6 k = 0 → Wda s 2 k = Wda s 0 l) (hno : N s 6 k ≠ c + 1) (hp : (Pl s).length + 17 < 8400) :
    ∃ h', f_X4_take_L76 h 19 (nI (i * 9)) (nI c) (nI (cw s k)) = some (nI 1, h') ∧ RC h' (sServe s k c l kd) ∧ FrE h h' (cw s k) := by
  have L := RC_L R
  have wl := cw_lt B u
  have h0 := B.1
  have : 2 ^ N s 0 0 ≤ 2 ^ 16 := Nat.pow_le_pow_right (by omega) h0.2
  obtain ⟨s1, s2, s3, s4⟩ := RC_s R
  obtain ⟨R1, F1⟩ := c_about R B (c := c) (kd := kd) u
  have L1 := RC_L R1
  have hq' : hI h 30 (i * 9 + 0) = nI kd := by rw [show i * 9 + 0 = 9 * i + 0 by omega]; exact hq
  unfold f_X4_take_L76
  rw [if_pos (ge0 (show cw s k < 2 ^ 31 by omega))]
  have step : ∀ (X : AH → Option (Int32 × AH)), (gs h 19 4 <|
    lt (sI h 19 15 ((hI h 19 15) + (1 : Int32))) fun h3 =>
    gs h3 (hR h3 19 9) 21 <|
    gb (ib (nI (cw s k)) (hN h3 (hR h3 19 9))) <|
    lt (sI h3 (hR h3 19 9) (nI (cw s k)).toNatClampNeg (hI h3 19 15)) fun h7 =>
    gs h7 (hR h7 19 5) 21 <|
    gb (ib (nI (cw s k)) (hN h7 (hR h7 19 5))) <|
    lt (sI h7 (hR h7 19 5) (nI (cw s k)).toNatClampNeg (nI c)) fun h11 =>
    gs h11 (hR h11 19 11) 21 <|
    gb (ib (nI (i * 9) + (0 : Int32)) (hN h11 (hR h11 19 11))) <|
    gs h11 (hR h11 19 6) 21 <|
    gb (ib (nI (cw s k)) (hN h11 (hR h11 19 6))) <|
    lt (sI h11 (hR h11 19 6) (nI (cw s k)).toNatClampNeg (hI h11 (hR h11 19 11) (nI (i * 9) + (0 : Int32)).toNatClampNeg)) fun h17 =>
    gs h17 (hR h17 19 7) 21 <|
    gb (ib (nI (cw s k)) (hN h17 (hR h17 19 7))) <|
    lt (sI h17 (hR h17 19 7) (nI (cw s k)).toNatClampNeg (0 : Int32)) fun h21 => X h21) = X (sI (sI (sI (sI (sI h 19 15 (nI (N s 24 0 + 1))) 28 (cw s k) (nI (N s 24 0 + 1))) 24 (cw s k) (nI c)) 25 (cw s k) (nI kd)) 26 (cw s k) (nI 0)) := by
    intro X
    simp (disch := omega) only [↓y_gs, ↓y_gb, ↓y_lt, ↓y_bds, q_lit, q_cl, q_ib, q_add, q_mul, ↓reduceIte, decide_true, Nat.reduceAdd, Nat.reduceMul, x_hI_sI, x_hR_sI, x_hS_sI, x_hN_sI, lc_S19 L, s3, lc_R19_9 L, lc_S28 L, lc_N28 L, lc_R19_5 L, lc_S24 L, lc_N24 L, lc_R19_11 L, lc_S30 L, lc_N30 L, lc_R19_6 L, lc_S25 L, lc_N25 L, lc_R19_7 L, lc_S26 L, lc_N26 L, and_self, Nat.reduceEqDiff, false_and, hq']
  rw [step]
  have e25 : hI (sI (sI (sI (sI (sI h 19 15 (nI (N s 24 0 + 1))) 28 (cw s k) (nI (N s 24 0 + 1))) 24 (cw s k) (nI c)) 25 (cw s k) (nI kd)) 26 (cw s k) (nI 0)) 25 (cw s k) = nI kd := by rw [x_ne (by omega), x_eq]
  have Bt : Bz (sAbout s k c kd) := B
  have ut : uw (sAbout s k c kd) k := u
  have cwt : cw (sAbout s k c kd) k = cw s k := rfl
  have t4 : N (sAbout s k c kd) 4 k = l + 1 := h4
  have t6 : N (sAbout s k c kd) 6 k = N s 6 k := rfl
  have t7 : N (sAbout s k c kd) 7 k = N s 7 k := rfl
  have t8 : N (sAbout s k c kd) 8 k = c + 1 := by unfold sAbout; rw [N_ne (by omega), N_ne (by omega), N_eq]
  generalize hm1 : sI (sI (sI (sI (sI h 19 15 (nI (N s 24 0 + 1))) 28 (cw s k) (nI (N s 24 0 + 1))) 24 (cw s k) (nI c)) 25 (cw s k) (nI kd)) 26 (cw s k) (nI 0) = m1 at *
  rw [lc_R19_6 L1, y_gs, if_pos (lc_S25 L1), lc_N25 L1, y_gb, if_pos (q_ib wl (by omega)), q_cl (show cw s k < 2 ^ 31 by omega), e25]
  unfold sServe
  by_cases e : kd = 0
  · subst e
    rw [if_neg (show ¬ ¬ nI 0 = 0 from fun h => h rfl), if_pos rfl]
    obtain ⟨a, ea, Ra, Fa⟩ := c_lend R1 Bt (c := c) (l := l) ut t4 hl (by rw [t6]; omega) (by rw [t7]; omega) hc hw (show (Pl s).length < 8400 by omega)
    rw [cwt] at ea Fa
    rw [ea]
    exact ⟨a, rfl, Ra, FrE_tr (FrE_W F1) Fa⟩
  · rw [if_pos (show ¬ nI kd = 0 from fun h => e ((q_eq (b := 0) (by omega) (by omega)).mp h)), if_neg e]
    obtain ⟨a, ea, Ra, Fa⟩ := c_invite R1 Bt (sp := c + 1) ut t4 hl h6 h7 (by rw [t8]; omega) (by omega) (show (Pl s).length + 17 < 8400 from hp)
    rw [cwt, pI_s] at ea
    rw [cwt] at Fa
    rw [ea, y_bds]
    have La := RC_L Ra
    have e0 : N (sAbout s k c kd) 0 0 = N s 0 0 := rfl
    rw [e0] at Ra
    have d4 : N (sCall (sAbout s k c kd) k l (c + 1) 0 (N s 0 0)) 4 k = l + 1 := (sCall_N _ _ _ _ _ _ _ _ (by omega)).trans h4
    have d8 : N (sCall (sAbout s k c kd) k l (c + 1) 0 (N s 0 0)) 8 k = c + 1 := (sCall_N _ _ _ _ _ _ _ _ (by omega)).trans t8
    have d0 : ∀ i, N (sCall (sAbout s k c kd) k l (c + 1) 0 (N s 0 0)) 0 i = N s 0 i := fun i => sCall_N _ _ _ _ _ _ _ _ (by omega)
    have dp : (Pl (sCall (sAbout s k c kd) k l (c + 1) 0 (N s 0 0))).length ≤ (Pl s).length + N s 0 0 := sCall_P _ _ _ _ _ _
    have dd : N (sCall (sAbout s k c kd) k l (c + 1) 0 (N s 0 0)) 10 k ≤ 16 := by
      refine Nat.le_trans (sCall_due _ _ _ _ _ _) ?_
      have : N (sAbout s k c kd) 10 k = 0 := by unfold sAbout; rw [N_eq]
      omega
    have dw : ∀ F i, Wda (sCall (sAbout s k c kd) k l (c + 1) 0 (N s 0 0)) F i = Wda s F i := fun F i => sCall_W _ _ _ _ _ _ _ _
    have dz := sCall_due0 k l (c + 1) (N s 0 0) (sAbout s k c kd) 0
    generalize hs1 : sCall (sAbout s k c kd) k l (c + 1) 0 (N s 0 0) = t at *
    have Bt' : Bz t := by unfold Bz; simp only [d0]; exact B
    have ut' : uw t k := uw_N d0 u
    have cwt' : cw t k = cw s k := cw_N (d0 5) k
    obtain ⟨q1, q2, q3, q4⟩ := RC_w Ra ut'
    have d26 : hI a 26 (cw s k) = nI (N t 10 k) := by rw [← cwt']; exact ((q4 (by rw [d4]; omega)).2.2.2.2 (by rw [d8]; omega)).1
    rw [y_gs, if_pos (lc_S19 La), lc_R19_7 La, y_gs, if_pos (lc_S26 La), lc_N26 La, y_gb, if_pos (q_ib wl (by omega)), d26]
    by_cases g : N t 10 k = 0
    · rw [if_neg (show ¬ ¬ nI (N t 10 k) = 0 from fun h => h (by rw [g]; rfl)), if_pos g]
      have own : N s 6 k = 0 := by
        by_cases c6 : N s 6 k = 0
        · exact c6
        · have := dz g (N s 6 k - 1) (by omega) (by omega) (by omega)
          rw [t6] at this; omega
      obtain ⟨b, eb, Rb, Fb⟩ := c_giveAlone Ra Bt' ut' d4 hl d8 (by rw [dw, dw]; exact hw own) (by omega)
      rw [cwt'] at eb Fb
      rw [eb]
      exact ⟨b, rfl, Rb, FrE_tr (FrE_W F1) (FrE_tr Fa Fb)⟩
    · rw [if_pos (show ¬ nI (N t 10 k) = 0 from fun h => g ((q_eq (b := 0) (by omega) (by omega)).mp h)), if_neg g]
      exact ⟨a, rfl, Ra, FrE_tr (FrE_W F1) Fa⟩
