/-! What each delivery lowers. -/
def wp (x : Msg) : Nat := if mKi x ≤ 1 then 79 else if mKi x = 2 then 4 else if mKi x = 3 ∨ mKi x = 4 then 2 else if mKi x = 6 ∨ mKi x = 7 ∨ mKi x = 8 then 2 else 1
def wq (x : Msg) : Nat := if mKi x ≤ 1 then 78 else 3
def ps (w : Msg → Nat) : List Msg → Nat
  | [] => 0
  | x :: L => w x + ps w L
theorem ps_app (w : Msg → Nat) (A B : List Msg) : ps w (A ++ B) = ps w A + ps w B := by
  induction A with
  | nil => show ps w B = 0 + ps w B; omega
  | cons x A ih => show w x + ps w (A ++ B) = w x + ps w A + ps w B; rw [ih]; omega
theorem ps_erase (w : Msg → Nat) (A : List Msg) : ∀ i, i < A.length → ps w (A.eraseIdx i) + w (A.getD i x0) = ps w A := by
  induction A with
  | nil => intro i h; exact absurd h (by simp)
  | cons x A ih =>
    intro i h
    cases i with
    | zero => show ps w A + w x = w x + ps w A; omega
    | succ i =>
      have := ih i (by simpa using h)
      show w x + ps w (A.eraseIdx i) + w (A.getD i x0) = w x + ps w A
      omega
theorem ps_le {w : Msg → Nat} {n : Nat} (h : ∀ x, w x ≤ n) (A : List Msg) : ps w A ≤ n * A.length := by
  induction A with
  | nil => exact Nat.zero_le _
  | cons x A ih =>
    have := h x
    show w x + ps w A ≤ n * (A.length + 1)
    rw [Nat.mul_succ]; omega
def sg (f : Nat → Nat) : Nat → Nat
  | 0 => 0
  | n + 1 => sg f n + f n
theorem sg_congr {f g : Nat → Nat} (n : Nat) (h : ∀ j, j < n → f j = g j) : sg f n = sg g n := by
  induction n with
  | zero => rfl
  | succ n ih => show sg f n + f n = sg g n + g n; rw [ih (fun j hj => h j (by omega)), h n (by omega)]
theorem sg_at (f : Nat → Nat) {k : Nat} (n : Nat) (hk : k < n) : sg f n = sg (fun j => if j = k then 0 else f j) n + f k := by
  induction n with
  | zero => omega
  | succ n ih =>
    show sg f n + f n = sg (fun j => if j = k then 0 else f j) n + (if n = k then 0 else f n) + f k
    by_cases e : n = k
    · subst e
      rw [if_pos rfl, sg_congr (f := fun j => if j = n then 0 else f j) (g := f) n (fun j hj => if_neg (by omega))]; rfl
    · rw [if_neg e, ih (by omega)]; omega
theorem sg_le {f : Nat → Nat} {a : Nat} (n : Nat) (h : ∀ j, f j ≤ a) : sg f n ≤ a * n := by
  induction n with
  | zero => exact Nat.zero_le _
  | succ n ih => have := h n; show sg f n + f n ≤ a * (n + 1); rw [Nat.mul_succ]; omega
def ww (s : St) (k : Nat) : Nat := if N s 4 k = 0 then 0 else if N s 8 k = 17 then 0 else if N s 8 k = 0 then 33 else if N s 10 k = 0 then 33 else 35
def so (s : St) (k : Nat) : Nat := sg (fun j => if j = k then 0 else ww s j) 512
def ph (s : St) : Nat := ps wp (Pl s) + ps wq (Ql s) + sg (ww s) 512
theorem ph_k (s : St) {k : Nat} (hk : k < 512) : ph s = ps wp (Pl s) + ps wq (Ql s) + so s k + ww s k := by
  unfold ph so; rw [sg_at (ww s) 512 hk]; omega
theorem ww_le (s : St) (k : Nat) : ww s k ≤ 35 := by
  unfold ww; (repeat' split) <;> omega
theorem ph_le {s : St} {b : Nat} (I : IV s b) : ph s < 1000000 := by
  have l := IV_len I
  have a1 := ps_le (w := wp) (n := 79) (fun x => by unfold wp; (repeat' split) <;> omega) (Pl s)
  have a2 := ps_le (w := wq) (n := 79) (fun x => by unfold wq; (repeat' split) <;> omega) (Ql s)
  have a3 := sg_le (f := ww s) 512 (ww_le s)
  unfold ph; omega
theorem ph_0 {s : St} (h : Pl s ≠ []) : 0 < ph s := by
  cases e : Pl s with
  | nil => exact absurd e h
  | cons x L =>
    have : 1 ≤ wp x := by unfold wp; (repeat' split) <;> omega
    unfold ph; rw [e]
    show 0 < wp x + ps wp L + _ + _
    omega
/-- off way k nothing that counts changed; what was sent weighs at most a -/
def dl (s t : St) (k a : Nat) : Prop := (∀ j, j ≠ k → N t 4 j = N s 4 j ∧ N t 8 j = N s 8 j ∧ N t 10 j = N s 10 j) ∧ ps wp (Pl t) ≤ ps wp (Pl s) + a ∧ Ql t = Ql s
theorem dl_rfl (s : St) (k : Nat) : dl s s k 0 := ⟨fun _ _ => ⟨rfl, rfl, rfl⟩, Nat.le_refl _, rfl⟩
theorem dl_tr {s t u : St} {k a b : Nat} (h1 : dl s t k a) (h2 : dl t u k b) : dl s u k (a + b) := by
  obtain ⟨a1, a2, a3⟩ := h1
  obtain ⟨b1, b2, b3⟩ := h2
  refine ⟨fun j hj => ?_, by omega, b3.trans a3⟩
  obtain ⟨x1, x2, x3⟩ := a1 j hj
  obtain ⟨y1, y2, y3⟩ := b1 j hj
  exact ⟨y1.trans x1, y2.trans x2, y3.trans x3⟩
theorem dl_N {s t : St} {k a F j v : Nat} (h : dl s t k a) (hF : j = k ∨ (F ≠ 4 ∧ F ≠ 8 ∧ F ≠ 10)) : dl s (uN t F j v) k a := by
  obtain ⟨a1, a2, a3⟩ := h
  refine ⟨fun i hi => ?_, a2, a3⟩
  rw [N_ne (by omega), N_ne (by omega), N_ne (by omega)]; exact a1 i hi
theorem dl_W {s t : St} {k a F j : Nat} {w : W4} (h : dl s t k a) : dl s (uW t F j w) k a := h
theorem dl_P {s t : St} {k a : Nat} {x : Msg} (h : dl s t k a) : dl s (sPost t x) k (a + wp x) := by
  obtain ⟨a1, a2, a3⟩ := h
  refine ⟨a1, ?_, a3⟩
  show ps wp (Pl t ++ [x]) ≤ _
  rw [ps_app]
  show ps wp (Pl t) + (wp x + 0) ≤ _
  omega
theorem dl_mono {s t : St} {k a b : Nat} (h : dl s t k a) (hb : a ≤ b) : dl s t k b := ⟨h.1, by have := h.2.1; omega, h.2.2⟩
theorem dl_call {k l sp : Nat} (n : Nat) : ∀ (s t : St) (a o : Nat), dl s t k a → dl s (sCall t k l sp o n) k (a + 2 * n) := by
  induction n with
  | zero => intro s t a o h; exact h
  | succ n ih =>
    intro s t a o h
    unfold sCall
    split
    · refine dl_mono (ih _ _ (a + 2) _ ?_) (by omega)
      exact dl_N (dl_P (x := (3, 16, o, l, 0, w0)) h) (Or.inl rfl)
    · exact dl_mono (ih _ _ a _ h) (by omega)
theorem dl_so {s t : St} {k a : Nat} (h : dl s t k a) : so t k = so s k := by
  unfold so
  refine sg_congr 512 (fun j _ => ?_)
  by_cases e : j = k
  · rw [if_pos e, if_pos e]
  · obtain ⟨x1, x2, x3⟩ := h.1 j e
    rw [if_neg e, if_neg e]; unfold ww; rw [x1, x2, x3]
theorem dl_ph {s t : St} {k a : Nat} (h : dl s t k a) (hk : k < 512) : ph t + ww s k ≤ ph s + a + ww t k := by
  have e := dl_so h
  have := h.2.1
  rw [ph_k s hk, ph_k t hk, e, h.2.2]
  omega
theorem dl_about (s : St) (k c kd : Nat) : dl s (sAbout s k c kd) k 0 := by
  unfold sAbout
  exact dl_N (dl_N (dl_N (dl_N (dl_N (dl_N (dl_N (dl_rfl s k) (Or.inr (by omega))) (Or.inl rfl)) (Or.inr (by omega))) (Or.inl rfl)) (Or.inl rfl)) (Or.inl rfl)) (Or.inl rfl)
theorem dl_serve {s : St} {k c l kd : Nat} (h : N s 0 0 ≤ 16) : dl s (sServe s k c l kd) k 34 := by
  have a := dl_about s k c kd
  have c1 := dl_call (k := k) (l := l) (sp := c + 1) (N s 0 0) s _ 0 0 a
  unfold sServe
  split
  · unfold sShares
    split
    · exact dl_mono (dl_N (dl_P (x := (4, 16, N (sAbout s k c kd) 6 k - 1, l, 0, w0)) a) (Or.inl rfl)) (by show 0 + 2 ≤ 34; omega)
    · split
      · exact dl_mono (dl_P (dl_N a (Or.inl rfl))) (by show 0 + 2 ≤ 34; omega)
      · exact dl_mono (dl_P (dl_N a (Or.inl rfl))) (by show 0 + 2 ≤ 34; omega)
  · split
    · unfold sLend
      refine dl_mono (dl_P (dl_N (dl_N c1 (Or.inl rfl)) (Or.inl rfl))) ?_
      show 0 + 2 * N s 0 0 + 2 ≤ 34
      omega
    · exact dl_mono c1 (by omega)
theorem dl_wb (s : St) (k : Nat) : dl s (sWb s k) k 0 := by
  unfold sWb; split
  · exact dl_rfl s k
  · exact dl_N (dl_W (dl_rfl s k)) (Or.inl rfl)
theorem dl_fill {s t : St} {k l a : Nat} (h : dl s t k a) : dl s (sFill t k l) k a := by
  unfold sFill
  exact dl_W (dl_N (dl_N (dl_N (dl_N (dl_N (dl_N h (Or.inl rfl)) (Or.inl rfl)) (Or.inl rfl)) (Or.inl rfl)) (Or.inl rfl)) (Or.inl rfl))
theorem dl_recall {s : St} {k : Nat} (h : N s 0 0 ≤ 16) : dl s (sRecall s k) k 32 := by
  unfold sRecall
  refine dl_mono (dl_call (N s 0 0) s _ 0 0 ?_) (by omega)
  exact dl_N (dl_N (dl_N (dl_rfl s k) (Or.inr (by omega))) (Or.inl rfl)) (Or.inl rfl)
/-- a way is sought: what is sent weighs no more than the way that is given up -/
theorem ph_find {s : St} {b l : Nat} (I : IV s b) : (∀ k t, sFind s l = (some k, t) → k < 512 ∧ dl s t k 0 ∧ N t 0 0 = N s 0 0) ∧ (∀ t, sFind s l = (none, t) → ph t ≤ ph s) := by
  obtain ⟨⟨B, hb⟩, ⟨L, W4'⟩, M, LL, Rg, Q, W, D, O⟩ := I
  have hse := hSet_le B l
  unfold sFind
  cases e : sEmpty s l with
  | some k =>
    obtain ⟨g1, g2, g3, _⟩ := fst_some e
    refine ⟨fun k' t h => ?_, fun t h => by cases (Prod.mk.inj h).1⟩
    obtain ⟨h1, h2⟩ := Prod.mk.inj h
    obtain rfl := Option.some.inj h1
    subst h2
    exact ⟨by omega, dl_fill (dl_rfl s k), by unfold sFill; rw [N_uW]; (repeat rw [N_ne (by omega)])⟩
  | none =>
    have em := fst_none.mp e
    cases e2 : sOld s l with
    | none =>
      refine ⟨fun k' t h => (by cases (Prod.mk.inj h).1), fun t h => ?_⟩
      obtain ⟨_, h2⟩ := Prod.mk.inj h
      subst h2; exact Nat.le_refl _
    | some k =>
      rcases bmin_in e2 with h' | ⟨g1, g2, g3⟩
      · cases h'
      have k512 : k < 512 := by omega
      have k4 : N s 4 k ≠ 0 := by have := em k g1 g2; simpa using this
      by_cases c : N s 6 k = 0 ∧ N s 7 k = 0
      · refine ⟨fun k' t h => ?_, fun t h => ?_⟩
        · simp only [c, and_self, ↓reduceIte] at h
          obtain ⟨h1, h2⟩ := Prod.mk.inj h
          obtain rfl := Option.some.inj h1
          subst h2
          exact ⟨k512, dl_fill (dl_wb s k), by unfold sFill; rw [N_uW]; (repeat rw [N_ne (by omega)]); rw [sWb_m, N_ne (by omega), sWm_N]⟩
        · simp only [c, and_self, ↓reduceIte] at h
          cases (Prod.mk.inj h).1
      · refine ⟨fun k' t h => ?_, fun t h => ?_⟩
        · simp only [c, ↓reduceIte] at h
          cases (Prod.mk.inj h).1
        · simp only [c, ↓reduceIte] at h
          obtain ⟨_, h2⟩ := Prod.mk.inj h
          subst h2
          have d := dl_ph (dl_recall (k := k) B.1.2) k512
          have w1 : ww s k = 33 := by unfold ww; rw [if_neg k4, if_neg (by omega), if_pos g3]
          have w2 : ww (sRecall s k) k = 0 := by
            unfold ww
            have : N (sRecall s k) 8 k = 17 := by unfold sRecall; rw [sCall_N _ _ _ _ _ _ _ _ (by omega), N_ne (by omega), N_eq]
            rw [this]; split <;> rfl
          omega
theorem ph_take {s : St} {b i : Nat} (I : IV s b) (hi : i < (Ql s).length) : ((sTake s ((Ql s).getD i x0)).1 = true → ph (uQ (sTake s ((Ql s).getD i x0)).2 ((Ql s).eraseIdx i)) ≤ ph s) ∧ ((sTake s ((Ql s).getD i x0)).1 = false → ph (sTake s ((Ql s).getD i x0)).2 ≤ ph s) := by
  have I0 := I
  obtain ⟨⟨B, hb⟩, ⟨L, W4'⟩, M, LL, Rg, Q, W, D, O⟩ := I
  have xk := M.2.2 _ (getD_mem hi)
  have er := ps_erase wq (Ql s) i hi
  have put : mKi ((Ql s).getD i x0) = 2 → ph (uQ (sPut s (mFr ((Ql s).getD i x0)) (mLi ((Ql s).getD i x0)) (mWo ((Ql s).getD i x0))) ((Ql s).eraseIdx i)) ≤ ph s := by
    intro h2
    have w3 : wq ((Ql s).getD i x0) = 3 := by unfold wq; rw [if_neg (by omega)]
    have : ∀ t : St, dl s t 512 1 → (∀ F, N t F 512 = N s F 512 ∨ True) → ph (uQ t ((Ql s).eraseIdx i)) ≤ ph s := by
      intro t d _
      have e : sg (ww t) 512 = sg (ww s) 512 := sg_congr 512 (fun j hj => by
        obtain ⟨x1, x2, x3⟩ := d.1 j (by omega)
        unfold ww; rw [x1, x2, x3])
      have := d.2.1
      show ps wp (Pl t) + ps wq ((Ql s).eraseIdx i) + sg (ww t) 512 ≤ _
      unfold ph; omega
    have snd : ∀ t : St, dl s t 512 0 → dl s (sSend t 9 16 (mFr ((Ql s).getD i x0)) (mLi ((Ql s).getD i x0))) 512 1 := fun t d => dl_mono (dl_P d) (by show 0 + 1 ≤ 1; omega)
    unfold sPut
    split
    · exact this _ (snd _ (dl_rfl s 512)) (fun _ => Or.inr trivial)
    · split
      · exact this _ (snd _ (dl_N (dl_N (dl_W (dl_rfl s 512)) (Or.inr (by omega))) (Or.inr (by omega)))) (fun _ => Or.inr trivial)
      · exact this _ (snd _ (dl_rfl s 512)) (fun _ => Or.inr trivial)
  have srv : ∀ t k, k < 512 → dl s t k 0 → N t 0 0 = N s 0 0 → mKi ((Ql s).getD i x0) ≠ 2 → ph (uQ (sServe t k (mFr ((Ql s).getD i x0)) (mLi ((Ql s).getD i x0)) (mKi ((Ql s).getD i x0))) ((Ql s).eraseIdx i)) ≤ ph s := by
    intro t k hk d n0 h2
    have w3 : wq ((Ql s).getD i x0) = 78 := by unfold wq; rw [if_pos (by omega)]
    have d2 := dl_tr d (dl_serve (s := t) (k := k) (c := mFr ((Ql s).getD i x0)) (l := mLi ((Ql s).getD i x0)) (kd := mKi ((Ql s).getD i x0)) (by rw [n0]; exact B.1.2))
    have e := dl_so d2
    have p := d2.2.1
    generalize sServe t k (mFr ((Ql s).getD i x0)) (mLi ((Ql s).getD i x0)) (mKi ((Ql s).getD i x0)) = u at *
    rw [ph_k s hk, ph_k _ hk]
    have l1 : ww (uQ u ((Ql s).eraseIdx i)) k ≤ 35 := ww_le _ _
    have l2 : so (uQ u ((Ql s).eraseIdx i)) k = so u k := rfl
    have l3 : Pl (uQ u ((Ql s).eraseIdx i)) = Pl u := rfl
    have l4 : Ql (uQ u ((Ql s).eraseIdx i)) = (Ql s).eraseIdx i := rfl
    rw [l2, l3, l4]
    omega
  unfold sTake
  cases e : hWay s (mLi ((Ql s).getD i x0)) with
  | some k =>
    have k512 := ((hWay_iff B W4').mp e).1
    by_cases c8 : N s 8 k = 0
    · simp only [c8, ne_eq, not_true_eq_false, ↓reduceIte]
      by_cases c2 : mKi ((Ql s).getD i x0) = 2
      · simp only [c2, ↓reduceIte]
        exact ⟨fun _ => put c2, fun h => by cases h⟩
      · simp only [c2, ↓reduceIte]
        exact ⟨fun _ => srv s k k512 (dl_rfl s k) rfl c2, fun h => by cases h⟩
    · simp only [c8, ne_eq, not_false_eq_true, ↓reduceIte]
      exact ⟨fun h => (by cases h), fun _ => Nat.le_refl _⟩
  | none =>
    by_cases c2 : mKi ((Ql s).getD i x0) = 2
    · simp only [c2, ↓reduceIte]
      exact ⟨fun _ => put c2, fun h => by cases h⟩
    · simp only [c2, ↓reduceIte]
      obtain ⟨f1, f2⟩ := ph_find (l := mLi ((Ql s).getD i x0)) I0
      cases e2 : sFind s (mLi ((Ql s).getD i x0)) with
      | mk o t =>
        cases o with
        | none => exact ⟨fun h => (by cases h), fun _ => f2 t e2⟩
        | some k =>
          obtain ⟨g1, g2, g3⟩ := f1 k t e2
          exact ⟨fun _ => srv t k g1 g2 g3 c2, fun h => by cases h⟩
theorem ph_go {b set : Nat} (n : Nat) : ∀ s, IV s b → ph (sGo set n s) ≤ ph s := by
  induction n with
  | zero => intro s I; exact Nat.le_refl _
  | succ n ih =>
    intro s I
    unfold sGo
    cases e : qFirst s set with
    | none => exact Nat.le_refl _
    | some i =>
      obtain ⟨t1, t2⟩ := IV_take I (qFirst_lt e)
      obtain ⟨p1, p2⟩ := ph_take I (qFirst_lt e)
      show ph (if _ then _ else _) ≤ ph s
      by_cases c : (sTake s ((Ql s).getD i x0)).1 = true
      · rw [if_pos c]; exact Nat.le_trans (ih _ (t1 c)) (p1 c)
      · rw [if_neg c]; exact p2 (by simpa using c)
