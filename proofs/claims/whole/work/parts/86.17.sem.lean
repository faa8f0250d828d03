theorem lp_find2 {β : Type} (L : Nat → Int32 → Option β) (p : Nat → Bool) (F : Nat → Option β) (e : Option β) (a n : Nat)
    (hs : ∀ f j, a ≤ j → j < a + n → L (f + 1) (nI j) = if p j then F j else L f (nI (j + 1)))
    (he : ∀ f, L (f + 1) (nI (a + n)) = e) (f : Nat) (hf : n < f) : L f (nI a) = (fst p a n).elim e F := by
  induction n generalizing a f with
  | zero =>
    obtain ⟨f', rfl⟩ : ∃ f', f = f' + 1 := ⟨f - 1, by omega⟩
    exact he f'
  | succ n ih =>
    obtain ⟨f', rfl⟩ : ∃ f', f = f' + 1 := ⟨f - 1, by omega⟩
    rw [hs f' a (Nat.le_refl _) (by omega)]
    unfold fst
    by_cases c : p a = true
    · rw [if_pos c, if_pos c]; rfl
    · rw [if_neg c, if_neg c]
      exact ih (a + 1) (fun f j h1 h2 => hs f j (by omega) (by omega)) (fun f => by rw [show a + 1 + n = a + (n + 1) by omega]; exact he f) f' (by omega)
/-- INV to all that may have the line of way k: what stays -/
theorem sCall_N (k l sp n : Nat) : ∀ (s : St) (o : Nat) (F i : Nat), ¬ (F = 10 ∧ i = k) → N (sCall s k l sp o n) F i = N s F i := by
  induction n with
  | zero => intro s o F i h; rfl
  | succ n ih =>
    intro s o F i h
    unfold sCall
    split
    · rw [ih _ _ _ _ h, N_uN, if_neg h]; rfl
    · exact ih _ _ _ _ h
theorem sCall_W (k l sp n : Nat) : ∀ (s : St) (o : Nat) (F i : Nat), Wda (sCall s k l sp o n) F i = Wda s F i := by
  induction n with
  | zero => intro s o F i; rfl
  | succ n ih =>
    intro s o F i
    unfold sCall
    split
    · rw [ih]; rfl
    · exact ih _ _ _ _
theorem sCall_Q (k l sp n : Nat) : ∀ (s : St) (o : Nat), Ql (sCall s k l sp o n) = Ql s := by
  induction n with
  | zero => intro s o; rfl
  | succ n ih =>
    intro s o
    unfold sCall
    split
    · rw [ih]; rfl
    · exact ih _ _
theorem sCall_P (k l sp n : Nat) : ∀ (s : St) (o : Nat), (Pl (sCall s k l sp o n)).length ≤ (Pl s).length + n := by
  induction n with
  | zero => intro s o; exact Nat.le_refl _
  | succ n ih =>
    intro s o
    unfold sCall
    split
    · refine Nat.le_trans (ih _ _) ?_
      show (Pl s ++ [_]).length + n ≤ _
      rw [List.length_append]; simp; omega
    · exact Nat.le_trans (ih _ _) (by omega)
theorem sCall_1 {s : St} {k l sp o n : Nat} (h1 : o + 1 ≠ sp) (h2 : N s 6 k = o + 1 ∨ (N s 7 k).testBit o = true) : sCall s k l sp o (n + 1) = sCall (uN (sSend s 3 16 o l) 10 k (N s 10 k + 1)) k l sp (o + 1) n := by
  rw [sCall, if_pos ⟨h1, h2⟩]
theorem sCall_0 {s : St} {k l sp o n : Nat} (h : o + 1 = sp ∨ (¬ N s 6 k = o + 1 ∧ (N s 7 k).testBit o = false)) : sCall s k l sp o (n + 1) = sCall s k l sp (o + 1) n := by
  rw [sCall, if_neg]
  rintro ⟨h1, h2⟩
  rcases h with h | ⟨h, h'⟩
  · exact h1 h
  · rcases h2 with h2 | h2
    · exact h h2
    · rw [h'] at h2; cases h2
theorem r_L214 {m : AH} {s : St} {k l o : Nat} (K : AH → Nat → Int32 → Int32 → Option (Int32 × AH)) (R : RM m s) (hk : k < 512) (h4 : N s 4 k = l + 1) (hp : (Pl s).length < 8400) :
    ∃ m', f_X11_findWay_L214 K m 226 (nI k) (nI o) = K m' 226 (nI k) (nI (o + 1)) ∧ RM m' (uN (sSend s 3 16 o l) 10 k (N s 10 k + 1)) ∧ Fr m m' := by
  have L := rm_L R
  obtain ⟨a, ea, Ra, Fa⟩ := r_send R 3 16 o l hp
  have La := rm_L Ra
  have R1 := ru_10 (v := N s 10 k + 1) Ra hk
  unfold f_X11_findWay_L214 f_X11_findWay_L239
  simp (disch := omega) only [↓y_gs, ↓y_gb, ↓y_lt, ↓y_bds, q_lit, q_cl, q_ib, q_add, q_mul, ↓reduceIte, decide_true, Nat.reduceAdd, Nat.reduceMul, lm_S226 L, lm_R48 L, lm_S261 L, lm_N261 L, rm_4 R, h4, pI_s]
  rw [ea]
  simp (disch := omega) only [↓y_gs, ↓y_gb, ↓y_lt, ↓y_bds, q_lit, q_cl, q_ib, q_add, q_mul, ↓reduceIte, decide_true, Nat.reduceAdd, Nat.reduceMul, lm_S226 La, lm_R55 La, lm_S268 La, lm_N268 La, rm_10 Ra]
  exact ⟨_, rfl, R1, Fr_sI Fa _ rfl⟩
theorem r_recallLoop {k l : Nat} (hk : k < 512) (hl : l < 512) (n : Nat) : ∀ (m : AH) (s : St) (o f : Nat), RM m s → N s 4 k = l + 1 → N s 6 k ≤ 16 → N s 7 k < 65536 → N s 0 0 ≤ 16 → o + n = N s 0 0 → (Pl s).length + n < 8400 → n < f →
    ∃ m', f_X11_findWay_L175 f m 226 (nI k) (nI o) = some (nN, m') ∧ RM m' (sCall s k l 0 o n) ∧ Fr m m' := by
  induction n with
  | zero =>
    intro m s o f R h4 h6 h7 h0 ho hp hf
    obtain ⟨f, rfl⟩ : ∃ f', f = f' + 1 := ⟨f - 1, by omega⟩
    have L := rm_L R
    have c : N s 0 0 ≤ o := by omega
    simp (disch := omega) only [f_X11_findWay_L175, ↓y_gs, ↓y_gb, ↓y_lt, ↓y_bds, q_lit, q_cl, q_ib, q_add, q_mul, ↓reduceIte, decide_true, Nat.reduceAdd, Nat.reduceMul, lm_S226 L, lm_R21 L, lm_S239 L, lm_N239 L, rm_0 R, q_le, q_nN, c]
    exact ⟨m, rfl, R, Fr_rfl m⟩
  | succ n ih =>
    intro m s o f R h4 h6 h7 h0 ho hp hf
    obtain ⟨f, rfl⟩ : ∃ f', f = f' + 1 := ⟨f - 1, by omega⟩
    have L := rm_L R
    have c : ¬ N s 0 0 ≤ o := by omega
    obtain ⟨a, ea, Ra, Fa⟩ := r_L214 (o := o) (f_X11_findWay_L175 f) R hk h4 (by omega)
    have j1 := fun h => ih a _ (o + 1) f Ra h4 h6 h7 h0 (by show o + 1 + n = N s 0 0; omega) h (by omega)
    replace j1 := j1 (by show (Pl s ++ [_]).length + n < 8400; rw [List.length_append]; simp; omega)
    obtain ⟨b, eb, Rb, Fb⟩ := j1
    simp (disch := omega) only [f_X11_findWay_L175, ↓y_gs, ↓y_gb, ↓y_lt, ↓y_bds, q_lit, q_cl, q_ib, q_add, q_mul, ↓reduceIte, decide_true, Nat.reduceAdd, Nat.reduceMul, lm_S226 L, lm_R21 L, lm_S239 L, lm_N239 L, lm_R51 L, lm_S264 L, lm_N264 L, lm_R52 L, lm_S265 L, lm_N265 L, rm_0 R, rm_6 R, rm_7 R, q_le, c, pI_nI, q_bit]
    by_cases c1 : N s 6 k = o + 1
    · rw [if_pos c1, ea, eb, sCall_1 (by omega) (Or.inl c1)]
      exact ⟨b, rfl, Rb, Fr_tr Fa Fb⟩
    · rw [if_neg c1]
      by_cases c2 : (N s 7 k).testBit o = true
      · rw [if_pos (by rw [c2]; simp), ea, eb, sCall_1 (by omega) (Or.inr c2)]
        exact ⟨b, rfl, Rb, Fr_tr Fa Fb⟩
      · have c3 : (N s 7 k).testBit o = false := by simpa using c2
        rw [if_neg (by rw [c3]; simp), sCall_0 (Or.inr ⟨c1, c3⟩)]
        simp only [f_X11_findWay_L239, y_lt, q_lit, q_add]
        exact ih m s (o + 1) f R h4 h6 h7 h0 (by omega) (by omega) (by omega)
