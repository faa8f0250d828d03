theorem c_due1 {h : AH} {s : St} (R : RC h s) (B : Bz s) {k v : Nat} (u : uw s k) : RC (sI h 26 (cw s k) (nI v)) (uN s 10 k v) ∧ FrW h (sI h 26 (cw s k) (nI v)) (cw s k) :=
  c_wayF R B (o := 26) (F := 10) (v := v) (x := nI v) u (Or.inr (Or.inr (Or.inr (Or.inl ⟨rfl, rfl, rfl⟩))))
theorem c_lend {h : AH} {s : St} (R : RC h s) (B : Bz s) {k c l : Nat} (u : uw s k) (h4 : N s 4 k = l + 1) (hl : l < 512) (h6 : N s 6 k ≤ 16) (h7 : N s 7 k < 65536) (hc : c < 16) (hw : N s 6 k = 0 → Wda s 2 k = Wda s 0 l) (hp : (Pl s).length < 8400) :
    ∃ h', f_X4_lend h 19 (nI (cw s k)) (nI c) = some h' ∧ RC h' (sShares s k c l) ∧ FrE h h' (cw s k) := by
  have L := RC_L R
  have wl := cw_lt B u
  obtain ⟨r1, r2, r3, r4⟩ := RC_w R u
  obtain ⟨b1, b2, b3, b4, b5⟩ := r4 (by omega)
  unfold f_X4_lend sShares
  rw [y_gs, if_pos (lc_S19 L), lc_R19_3 L, y_gs, if_pos (lc_S22 L), lc_N22 L, y_gb, if_pos (q_ib wl (by omega)), q_cl (show cw s k < 2 ^ 31 by omega), b1]
  by_cases e : N s 6 k = 0
  · rw [if_pos (show pI (N s 6 k) = (-1 : Int32) from (pI_nN (by omega)).mpr e), if_neg (show ¬ N s 6 k ≠ 0 by omega), lc_R19_4 L, y_gs, if_pos (lc_S23 L), lc_N23 L, y_gb, if_pos (q_ib wl (by omega)), b2]
    by_cases e2 : N s 7 k = 0
    · rw [if_neg (show ¬ ¬ nI (N s 7 k) = 0 from fun h => h (by rw [e2]; rfl)), if_pos e2]
      obtain ⟨R1, F1⟩ := c_wayF R B (o := 22) (F := 6) (v := c + 1) (x := nI c) u (Or.inl ⟨rfl, rfl, rfl⟩)
      have S1 : Src (sI h 22 (cw s k) (nI c)) 29 (cw s k * 4) 1 (Wda s 0 l) := c_srcW R1 B u (by show N s 4 k ≠ 0; omega) (Wda s 0 l) (hw e)
      obtain ⟨h2, e2', R2, F2⟩ := c_send R1 (kd := 7) (fr := 16) (to := c) (l := l) S1 hp
      simp (disch := omega) only [↓y_gs, ↓y_gb, ↓y_lt, ↓y_bds, q_lit, q_cl, q_ib, q_add, q_mul, ↓reduceIte, decide_true, Nat.reduceAdd, Nat.reduceMul, x_hI_sI, x_hR_sI, x_hS_sI, x_hN_sI, lc_R19_2 L, lc_S21 L, lc_N21 L, lc_R19_0 L, lc_S16 L, lc_R19_10 L, r1, h4, pI_s, Nat.reduceEqDiff, false_and]
      rw [e2']
      exact ⟨h2, rfl, R2, FrE_tr (FrE_W F1) (FrE_P F2)⟩
    · rw [if_pos (show ¬ nI (N s 7 k) = 0 from fun h => e2 ((q_eq (b := 0) (by omega) (by omega)).mp h)), if_neg e2]
      obtain ⟨h2, e2', R2, F2⟩ := c_giveShared R B u h4 hl h7 hc (hw e) hp
      rw [e2']
      exact ⟨h2, rfl, R2, F2⟩
  · obtain ⟨o, ho⟩ : ∃ o, N s 6 k = o + 1 := ⟨N s 6 k - 1, by omega⟩
    rw [if_neg (show ¬ pI (N s 6 k) = (-1 : Int32) from fun h => e ((pI_nN (by omega)).mp h)), if_pos e, ho, Nat.add_sub_cancel, pI_s]
    obtain ⟨h2, e2', R2, F2⟩ := c_send R (kd := 4) (fr := 16) (to := o) (l := l) (wid := 0) (idx := 0) (fi := 0) (ws := w0) (Or.inl ⟨rfl, rfl, rfl⟩) hp
    have L2 := RC_L R2
    obtain ⟨R3, F3⟩ := c_due1 R2 B (v := 1) u
    simp (disch := omega) only [↓y_gs, ↓y_gb, ↓y_lt, ↓y_bds, q_lit, q_cl, q_ib, q_add, q_mul, ↓reduceIte, decide_true, Nat.reduceAdd, Nat.reduceMul, lc_R19_2 L, lc_S21 L, lc_N21 L, lc_R19_0 L, lc_S16 L, r1, h4, pI_s]
    rw [e2']
    simp (disch := omega) only [↓y_gs, ↓y_gb, ↓y_lt, ↓y_bds, q_lit, q_cl, q_ib, q_add, q_mul, ↓reduceIte, decide_true, Nat.reduceAdd, Nat.reduceMul, lc_S19 L2, lc_R19_7 L2, lc_S26 L2, lc_N26 L2]
    exact ⟨_, rfl, R3, FrE_tr (FrE_P F2) (FrE_W F3)⟩
theorem c_L36 {h : AH} {s : St} {k l o sp : Nat} (K : AH → Nat → Int32 → Int32 → Int32 → Option AH) (R : RC h s) (B : Bz s) (u : uw s k) (h4 : N s 4 k = l + 1) (h8 : N s 8 k ≠ 0) (ho : o < 16) (hsp : sp ≤ 16) (hp : (Pl s).length < 8400) (hne : o + 1 ≠ sp) :
    ∃ h', f_X4_invite_L31 K h 19 (nI (cw s k)) (pI sp) (nI o) = K h' 19 (nI (cw s k)) (pI sp) (nI (o + 1)) ∧ RC h' (uN (sSend s 3 16 o l) 10 k (N s 10 k + 1)) ∧ FrE h h' (cw s k) := by
  have L := RC_L R
  have wl := cw_lt B u
  obtain ⟨r1, r2, r3, r4⟩ := RC_w R u
  obtain ⟨h2, e2', R2, F2⟩ := c_send R (kd := 3) (fr := 16) (to := o) (l := l) (wid := 0) (idx := 0) (fi := 0) (ws := w0) (Or.inl ⟨rfl, rfl, rfl⟩) hp
  have L2 := RC_L R2
  obtain ⟨q1, q2, q3, q4⟩ := RC_w R2 (k := k) u
  have d2 : hI h2 26 (cw s k) = nI (N s 10 k) := ((q4 (by show N s 4 k ≠ 0; omega)).2.2.2.2 h8).1
  obtain ⟨R3, F3⟩ := c_due1 R2 B (v := N s 10 k + 1) u
  unfold f_X4_invite_L31 f_X4_invite_L36 f_X4_invite_L77
  rw [if_neg (show ¬ (1 : Int32) = 0 from by decide), if_neg (show ¬ nI o = pI sp from fun h => hne (((pI_nI (by omega) (by omega)).mp h.symm).symm))]
  simp (disch := omega) only [↓y_gs, ↓y_gb, ↓y_lt, ↓y_bds, q_lit, q_cl, q_ib, q_add, q_mul, ↓reduceIte, decide_true, Nat.reduceAdd, Nat.reduceMul, lc_S19 L, lc_R19_2 L, lc_S21 L, lc_N21 L, lc_R19_0 L, lc_S16 L, r1, h4, pI_s]
  rw [e2']
  simp (disch := omega) only [↓y_gs, ↓y_gb, ↓y_lt, ↓y_bds, q_lit, q_cl, q_ib, q_add, q_mul, ↓reduceIte, decide_true, Nat.reduceAdd, Nat.reduceMul, lc_S19 L2, lc_R19_7 L2, lc_S26 L2, lc_N26 L2, d2]
  exact ⟨_, rfl, R3, FrE_tr (FrE_P F2) (FrE_W F3)⟩
theorem c_inviteLoop {k l sp : Nat} (hl : l < 512) (hsp : sp ≤ 16) (n : Nat) : ∀ (h : AH) (s : St) (o f : Nat), RC h s → Bz s → uw s k → N s 4 k = l + 1 → N s 6 k ≤ 16 → N s 7 k < 65536 → N s 8 k ≠ 0 → o + n = 16 → (Pl s).length + n < 8400 → n < f →
    ∃ h', f_X4_invite_L2 f h 19 (nI (cw s k)) (pI sp) (nI o) = some h' ∧ RC h' (sCall s k l sp o n) ∧ FrE h h' (cw s k) := by
  induction n with
  | zero =>
    intro h s o f R B u h4 h6 h7 h8 ho hp hf
    obtain ⟨f, rfl⟩ : ∃ f', f = f' + 1 := ⟨f - 1, by omega⟩
    rw [f_X4_invite_L2, if_pos (show (16 : Int32) ≤ nI o from by rw [show o = 16 by omega]; decide)]
    exact ⟨h, rfl, R, FrE_rfl h _⟩
  | succ n ih =>
    intro h s o f R B u h4 h6 h7 h8 ho hp hf
    obtain ⟨f, rfl⟩ : ∃ f', f = f' + 1 := ⟨f - 1, by omega⟩
    have L := RC_L R
    have wl := cw_lt B u
    obtain ⟨r1, r2, r3, r4⟩ := RC_w R u
    obtain ⟨b1, b2, b3, b4, b5⟩ := r4 (by omega)
    have j2 := ih h s (o + 1) f R B u h4 h6 h7 h8 (by omega) (by omega) (by omega)
    have pos : o + 1 ≠ sp → (N s 6 k = o + 1 ∨ (N s 7 k).testBit o = true) → ∃ h', f_X4_invite_L31 (f_X4_invite_L2 f) h 19 (nI (cw s k)) (pI sp) (nI o) = some h' ∧ RC h' (sCall s k l sp o (n + 1)) ∧ FrE h h' (cw s k) := by
      intro hne c1
      obtain ⟨a, ea, Ra, Fa⟩ := c_L36 (o := o) (f_X4_invite_L2 f) R B u h4 h8 (by omega) hsp (by omega) hne
      have j1 := fun h => ih a _ (o + 1) f Ra B u h4 h6 h7 h8 (by omega) h (by omega)
      replace j1 := j1 (by show (Pl s ++ [_]).length + n < 8400; rw [List.length_append]; simp; omega)
      obtain ⟨b, eb, Rb, Fb⟩ := j1
      rw [ea, sCall_1 hne c1]
      exact ⟨b, eb, Rb, FrE_tr Fa Fb⟩
    have spd : o + 1 = sp → ∃ h', f_X4_invite_L31 (f_X4_invite_L2 f) h 19 (nI (cw s k)) (pI sp) (nI o) = some h' ∧ RC h' (sCall s k l sp o (n + 1)) ∧ FrE h h' (cw s k) := by
      intro he
      unfold f_X4_invite_L31 f_X4_invite_L36 f_X4_invite_L77
      rw [if_neg (show ¬ (1 : Int32) = 0 from by decide), if_pos (show nI o = pI sp from by rw [← he, pI_s]), y_lt, show (1 : Int32) = nI 1 from rfl, q_add, sCall_0 (Or.inl he)]
      exact j2
    have c0 : ¬ 16 ≤ o := by omega
    simp (disch := omega) only [f_X4_invite_L2, ↓y_gs, ↓y_gb, ↓y_lt, ↓y_bds, q_lit, q_cl, q_ib, q_add, q_mul, ↓reduceIte, decide_true, Nat.reduceAdd, Nat.reduceMul, lc_S19 L, lc_R19_3 L, lc_S22 L, lc_N22 L, lc_R19_4 L, lc_S23 L, lc_N23 L, b1, b2, q_le, c0, pI_nI, q_bit]
    by_cases cs : o + 1 = sp
    · obtain ⟨b, eb, Rb, Fb⟩ := spd cs
      refine ⟨b, ?_, Rb, Fb⟩
      by_cases c1 : N s 6 k = o + 1
      · rw [if_pos c1]; exact eb
      · rw [if_neg c1]
        by_cases c2 : (N s 7 k).testBit o = true
        · rw [if_neg (by rw [c2]; simp)]; exact eb
        · have c3 : (N s 7 k).testBit o = false := by simpa using c2
          rw [if_pos c3]
          unfold f_X4_invite_L36
          rw [if_pos (show nI 0 = 0 from rfl)]
          unfold f_X4_invite_L31 f_X4_invite_L36 at eb
          rw [if_neg (show ¬ (1 : Int32) = 0 from by decide), if_pos (show nI o = pI sp from by rw [← cs, pI_s])] at eb
          exact eb
    · by_cases c1 : N s 6 k = o + 1
      · rw [if_pos c1]; exact pos cs (Or.inl c1)
      · rw [if_neg c1]
        by_cases c2 : (N s 7 k).testBit o = true
        · rw [if_neg (by rw [c2]; simp)]; exact pos cs (Or.inr c2)
        · have c3 : (N s 7 k).testBit o = false := by simpa using c2
          rw [if_pos c3, sCall_0 (Or.inr ⟨c1, c3⟩)]
          unfold f_X4_invite_L36 f_X4_invite_L77
          rw [if_pos (show nI 0 = 0 from rfl), y_lt, show (1 : Int32) = nI 1 from rfl, q_add]
          exact j2
theorem sCall_add (k l sp n m : Nat) : ∀ (s : St) (o : Nat), sCall s k l sp o (n + m) = sCall (sCall s k l sp o n) k l sp (o + n) m := by
  induction n with
  | zero => intro s o; rw [Nat.zero_add, Nat.add_zero]; rfl
  | succ n ih =>
    intro s o
    rw [show n + 1 + m = (n + m) + 1 by omega, sCall, sCall]
    split
    · rw [ih, show o + 1 + n = o + (n + 1) by omega]
    · rw [ih, show o + 1 + n = o + (n + 1) by omega]
theorem sCall_no (k l sp n : Nat) : ∀ (s : St) (o : Nat), (∀ j, o ≤ j → j < o + n → N s 6 k ≠ j + 1 ∧ (N s 7 k).testBit j = false) → sCall s k l sp o n = s := by
  induction n with
  | zero => intro s o h; rfl
  | succ n ih =>
    intro s o h
    rw [sCall_0 (Or.inr (h o (Nat.le_refl _) (by omega))), ih s (o + 1) (fun j h1 h2 => h j (by omega) (by omega))]
/-- no core beyond those of the house -/
theorem sCall_16 {s : St} {k l sp : Nat} (h0 : N s 0 0 ≤ 16) (h6 : N s 6 k ≤ N s 0 0) (h7 : N s 7 k < 2 ^ N s 0 0) : sCall s k l sp 0 16 = sCall s k l sp 0 (N s 0 0) := by
  have := sCall_add k l sp (N s 0 0) (16 - N s 0 0) s 0
  rw [show N s 0 0 + (16 - N s 0 0) = 16 by omega, Nat.zero_add] at this
  rw [this, sCall_no]
  intro j h1 h2
  rw [sCall_N _ _ _ _ _ _ _ _ (by omega), sCall_N _ _ _ _ _ _ _ _ (by omega)]
  refine ⟨by omega, ?_⟩
  exact Nat.testBit_lt_two_pow (Nat.lt_of_lt_of_le h7 (Nat.pow_le_pow_right (by omega) h1))
theorem c_invite {h : AH} {s : St} (R : RC h s) (B : Bz s) {k l sp : Nat} (u : uw s k) (h4 : N s 4 k = l + 1) (hl : l < 512) (h6 : N s 6 k ≤ N s 0 0) (h7 : N s 7 k < 2 ^ N s 0 0) (h8 : N s 8 k ≠ 0) (hsp : sp ≤ 16) (hp : (Pl s).length + 17 < 8400) :
    ∃ h', f_X4_invite h 19 (nI (cw s k)) (pI sp) = some h' ∧ RC h' (sCall s k l sp 0 (N s 0 0)) ∧ FrE h h' (cw s k) := by
  have h0 := B.1
  have : 2 ^ N s 0 0 ≤ 2 ^ 16 := Nat.pow_le_pow_right (by omega) h0.2
  obtain ⟨a, ea, Ra, Fa⟩ := c_inviteLoop (k := k) (l := l) (sp := sp) hl hsp 16 h s 0 FU R B u h4 (by omega) (by omega) h8 rfl (by omega) (FU_gt (by omega))
  rw [sCall_16 h0.2 h6 h7] at Ra
  refine ⟨a, ?_, Ra, Fa⟩
  unfold f_X4_invite
  rw [y_lt, show (0 : Int32) = nI 0 from rfl, ea]
