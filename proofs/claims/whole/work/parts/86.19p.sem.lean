theorem key_BACK (c l : Nat) : key (9, 16, c, l, 0, w0) = 16 + c := rfl
/-- PUT in the queue and BACK in the pool have one key -/
theorem put_mm {s u : St} {b e i c l : Nat} (I : IVe s b e) (hi : i < (Ql s).length) (hx : mKi ((Ql s).getD i x0) = 2 ∧ mFr ((Ql s).getD i x0) = c ∧ mLi ((Ql s).getD i x0) = l) (uP : Pl u = Pl s ++ [(9, 16, c, l, 0, w0)]) (uQ' : Ql u = Ql s) :
    nk (Z (uQ u ((Ql s).eraseIdx i))) ∧ (∀ κ, mm (uQ u ((Ql s).eraseIdx i)) κ = if κ = 16 + c then some (9, 16, c, l, 0, w0) else mm s κ) ∧ (∀ y, y ∈ Z (uQ u ((Ql s).eraseIdx i)) → (y ∈ Z s ∧ key y ≠ 16 + c) ∨ y = (9, 16, c, l, 0, w0)) ∧ c < N s 0 0 ∧ l < 512 ∧ N s 13 c = l + 1 ∧ vU s c = 1 ∧ mm s (16 + c) = some ((Ql s).getD i x0) := by
  obtain ⟨a1, a2, a3, a4⟩ := take_mm I hi
  obtain ⟨⟨B, hb⟩, ⟨L, W4'⟩, M, LL, Rg, Q, _⟩ := I
  have xw := M.2.1 _ a4
  have hc : c < N s 0 0 := by obtain ⟨_, _, g⟩ := xw; omega
  have xkey : key ((Ql s).getD i x0) = 16 + c := by unfold key; rw [if_neg (by omega), if_pos hx.1, hx.2.1]
  have u1 := mm_P2 M B a4 hx.1
  rw [hx.2.1] at u1
  have f1 := (Q _ a4).2.1 hx.1
  rw [hx.2.1, hx.2.2] at f1
  have mx := mm_mem M.1 a4
  rw [xkey] at mx
  generalize hs1 : uQ s ((Ql s).eraseIdx i) = s1 at *
  have P1 : Pl s1 = Pl s := by rw [← hs1]; rfl
  have Q1 : Ql s1 = (Ql s).eraseIdx i := by rw [← hs1]; rfl
  obtain ⟨b1, b2, b3⟩ := mm_list (s := s1) (t := uQ u ((Ql s).eraseIdx i)) (Ls := [(9, 16, c, l, 0, w0)]) a1 (by rw [P1]; exact uP) (by rw [Q1]; rfl) ⟨rfl, trivial⟩ (fun y hy => by
    rw [List.mem_singleton] at hy; subst hy
    rw [a2, xkey, key_BACK, if_pos rfl])
  refine ⟨b1, fun κ => ?_, fun y hy => ?_, hc, by rw [← hx.2.2]; exact xw.1, f1, u1.2, mx⟩
  · rw [b2, ak_one, key_BACK]
    by_cases g : κ = 16 + c
    · rw [if_pos g.symm, if_pos g]
    · rw [if_neg (fun w => g w.symm), if_neg g]
      show mm s1 κ = _
      rw [a2, xkey, if_neg g]
  · rcases (b3 y).mp hy with g | g
    · have := a3 y g
      rw [xkey] at this; exact Or.inl this
    · rw [List.mem_singleton] at g; exact Or.inr g
/-- a line goes back to the home -/
theorem IV_put1 {s : St} {b i c l k : Nat} (I : IV s b) (hi : i < (Ql s).length) (hx : mKi ((Ql s).getD i x0) = 2 ∧ mFr ((Ql s).getD i x0) = c ∧ mLi ((Ql s).getD i x0) = l) (hk : hWay s l = some k) (h8 : N s 8 k = 0) (h6 : N s 6 k = c + 1) : IV (uQ (sSend (uN (uN (uW s 2 k (mWo ((Ql s).getD i x0))) 5 k 1) 6 k 0) 9 16 c l) ((Ql s).eraseIdx i)) b := by
  have I0 := I
  obtain ⟨b1, b2, b3, hc, hl, f1, u1, mx⟩ := put_mm (u := sSend (uN (uN (uW s 2 k (mWo ((Ql s).getD i x0))) 5 k 1) 6 k 0) 9 16 c l) I hi hx rfl rfl
  have LIl := LI_of I0 hk hl
  obtain ⟨im, it, i10⟩ := idle_mm I0 hk hl h8
  obtain ⟨⟨B, hb⟩, ⟨L, W4'⟩, M, LL, Rg, Q, W, D, O1, O2, O3, O4, O5, O6, O7, O8⟩ := I
  obtain ⟨q1, q2, q3, q4, q5, q6, q7⟩ := D
  obtain ⟨k512, k4⟩ := (hWay_iff B W4').mp hk
  obtain ⟨c6, c7⟩ := Rg.2.2.1 k k512 (by omega)
  obtain ⟨_, _, _, _, r5, r6, r7, r8, r9, r10, _⟩ := Rg.1 k k512
  have c16 : c < 16 := by have := B.1.2; omega
  have vfc : vF s c = l + 1 := by unfold vF; rw [if_pos c16]; exact f1
  -- the shelf is live
  have g14 : N s 14 c = 0 := by
    obtain ⟨p0, p1, p2, p3, p3b, p4, p5, p6, p7, p8, p9, p10, p11, p12, p13, _⟩ := LIl
    have s0 := p13 c vfc
    rcases p4 rfl c h6 with w | w | w | w | w
    · omega
    · exact w.2.1
    · rw [it c] at w; omega
    · rw [it c] at w; omega
    · rw [it c] at w; omega
  have xm : (Ql s).getD i x0 ∈ Z s := List.mem_append_right _ (getD_mem hi)
  have words : mWo ((Ql s).getD i x0) = Wda s 0 l := by
    have := (q4 _ xm).2.2 hx.1
    rw [hx.2.1, hx.2.2] at this
    exact this g14
  generalize hu : sSend (uN (uN (uW s 2 k (mWo ((Ql s).getD i x0))) 5 k 1) 6 k 0) 9 16 c l = u at *
  have un : ∀ F j, ¬ ((F = 5 ∨ F = 6) ∧ j = k) → N u F j = N s F j := by
    intro F j h; rw [← hu, N_send, N_ne (by omega), N_ne (by omega)]; rfl
  have u5 : N u 5 k = 1 := by rw [← hu, N_send, N_ne (by omega), N_eq]
  have u6 : N u 6 k = 0 := by rw [← hu, N_send, N_eq]
  have uWd : ∀ F j, F ≠ 2 ∨ j ≠ k → Wda u F j = Wda s F j := by
    intro F j h; rw [← hu]; show Wda (uW s 2 k _) F j = _; rw [W_ne (by omega)]
  have uW2 : Wda u 2 k = Wda s 0 l := by rw [← hu]; show Wda (uW s 2 k _) 2 k = _; rw [uW_at]; exact words
  have ttk : ∀ l' d, tk (uQ u ((Ql s).eraseIdx i)) l' d = tk s l' d := fun l' d => tk_mm (by rw [b2, if_neg (by omega)])
  have tvu : ∀ d, vU (uQ u ((Ql s).eraseIdx i)) d = if d = c then 2 else vU s d := by
    intro d
    by_cases g : d = c
    · rw [if_pos g]; unfold vU; rw [if_pos (by omega), b2, if_pos (by omega)]; rfl
    · rw [if_neg g]
      by_cases g2 : d < 16
      · exact vU_mm (by rw [b2, if_neg (by omega)])
      · unfold vU; rw [if_neg g2, if_neg g2]
  refine IV_line (k := k) (l := l) I0 (Or.inl rfl) hk hl (fun F j h1 h2 h3 h4 h5 => un F j (by omega)) ⟨b1, fun y hy => ?_, fun y hy => M.2.2 y (List.mem_of_mem_eraseIdx hy)⟩ (fun l' d h => ttk l' d) (fun d h => ?_) (fun d h => ?_) ?_ ⟨?_, ?_, ?_, ?_, ?_, ?_⟩ (fun y hy => ?_) uWd (fun h => uW2) (fun h => ?_) (fun y hy => ?_) (fun d h => ?_) (Or.inl ⟨rfl, un 11 k (by omega), un 23 k (by omega), un 17 0 (by omega), un 24 0 (by omega)⟩) ?_
  · rw [show N (uQ u ((Ql s).eraseIdx i)) 0 0 = N s 0 0 from un 0 0 (by omega)]
    rcases b3 y hy with g | g
    · exact M.2.1 y g.1
    · subst g
      exact ⟨hl, Nat.zero_le 1, Or.inr ⟨Or.inr (Or.inr (Or.inr (Or.inr (Or.inr rfl)))), rfl, hc⟩⟩
  · rw [tvu, if_neg]
    rintro rfl; exact h vfc
  · rw [tvu] at h
    split at h
    · exact absurd rfl h
    · exact h
  · refine LI_eq (LI_put (c := c) (U' := fun d => if d = c then 2 else vU s d) LIl vfc rfl h8 h6 (fun _ => rfl)) (fun d => ttk l d) (fun _ => rfl) (fun _ => rfl) (fun _ => rfl) (fun _ => rfl) tvu (fun d => by show (N u 7 k).testBit d = _; rw [un 7 k (by omega)]) rfl u6 (un 8 k (by omega)) (un 10 k (by omega)) (un 9 k (by omega))
  · show N u 5 k ≤ 1; omega
  · show N u 6 k ≤ _; omega
  · show N u 7 k < _; rw [un 7 k (by omega)]; exact c7
  · show N u 8 k ≤ _; rw [un 8 k (by omega)]; exact r8
  · show N u 9 k ≤ _; rw [un 9 k (by omega)]; exact r9
  · show N u 10 k ≤ _; rw [un 10 k (by omega)]; exact r10
  · rcases b3 y hy with g | g
    · refine Or.inl ⟨g.1, fun h1 h2 => ?_⟩
      have h2' : N u 8 k = mFr y + 1 := h2
      rw [un 8 k (by omega)] at h2'; omega
    · subst g
      exact Or.inr ⟨by show 2 ≤ 9; omega, by show 9 ≠ 2; omega, fun _ => f1⟩
  · have h' : N u 5 k = 0 := h
    omega
  · rcases b3 y hy with g | g
    · exact Or.inl g.1
    · subst g
      exact Or.inr ⟨by show 9 ≠ 2; omega, by show 9 ≠ 5; omega, fun h => by have : 9 = 6 ∨ 9 = 7 ∨ 9 = 8 := h; omega⟩
  · rw [ttk, it d] at h; omega
  · have : cn (vQ (uQ u ((Ql s).eraseIdx i))) 16 = cn (vQ s) 16 := cn_congr (fun d hd => by
      have e : mm (uQ u ((Ql s).eraseIdx i)) d = mm s d := by rw [b2, if_neg (by omega)]
      unfold vQ; rw [e])
    rw [this]
    show N u 17 0 + _ ≤ b
    rw [un 17 0 (by omega)]; exact O6
/-- a PUT that comes too late -/
theorem IV_put0 {s : St} {b i c l : Nat} (I : IV s b) (hi : i < (Ql s).length) (hx : mKi ((Ql s).getD i x0) = 2 ∧ mFr ((Ql s).getD i x0) = c ∧ mLi ((Ql s).getD i x0) = l) (h6 : ∀ k, hWay s l = some k → N s 6 k ≠ c + 1) : IV (uQ (sSend s 9 16 c l) ((Ql s).eraseIdx i)) b := by
  have I0 := I
  obtain ⟨b1, b2, b3, hc, hl, f1, u1, mx⟩ := put_mm (u := sSend s 9 16 c l) I hi hx rfl rfl
  obtain ⟨⟨B, hb⟩, ⟨L, W4'⟩, M, LL, Rg, Q, W, D, O1, O2, O3, O4, O5, O6, O7, O8⟩ := I
  obtain ⟨q1, q2, q3, q4, q5, q6, q7⟩ := D
  have c16 : c < 16 := by have := B.1.2; omega
  have vfc : vF s c = l + 1 := by unfold vF; rw [if_pos c16]; exact f1
  have ttk : ∀ l' d, tk (uQ (sSend s 9 16 c l) ((Ql s).eraseIdx i)) l' d = tk s l' d := fun l' d => tk_mm (by rw [b2, if_neg (by omega)])
  have tvu : ∀ d, vU (uQ (sSend s 9 16 c l) ((Ql s).eraseIdx i)) d = if d = c then 2 else vU s d := by
    intro d
    by_cases g : d = c
    · rw [if_pos g]; unfold vU; rw [if_pos (by omega), b2, if_pos (by omega)]; rfl
    · rw [if_neg g]
      by_cases g2 : d < 16
      · exact vU_mm (by rw [b2, if_neg (by omega)])
      · unfold vU; rw [if_neg g2, if_neg g2]
  refine IV_home I0 (fun _ _ _ => rfl) W4' ⟨b1, fun y hy => ?_, fun y hy => M.2.2 y (List.mem_of_mem_eraseIdx hy)⟩ (fun l' hl2 => ?_) (fun j hj => IV_rn (s := s) (b := b) (e := 512) I0 j hj) (fun y hy => ?_) (fun _ => ⟨rfl, rfl, rfl⟩) (fun d h => ?_) q1 q2 q3 (fun y hy => ?_) (fun l' j d hw h => ?_) O3 O4 ?_ O8
  · rcases b3 y hy with g | g
    · exact M.2.1 y g.1
    · subst g
      exact ⟨hl, Nat.zero_le 1, Or.inr ⟨Or.inr (Or.inr (Or.inr (Or.inr (Or.inr rfl)))), rfl, hc⟩⟩
  · by_cases e : l' = l
    · subst e
      refine LI_eq (LI_put0 (c := c) (U' := fun d => if d = c then 2 else vU s d) (LL l' hl2) vfc (by rw [u1]; omega) (fun hX => ?_) (fun _ => rfl)) (fun d => ttk l' d) (fun _ => rfl) (fun _ => rfl) (fun _ => rfl) (fun _ => rfl) tvu (fun _ => rfl) rfl rfl rfl rfl rfl
      obtain ⟨k, ek⟩ := vX_1 hX
      unfold hv; rw [ek]; exact h6 k ek
    · refine LI_frame (LL l' hl2) (fun d => ttk l' d) (fun _ => rfl) (fun _ => rfl) (fun _ => Iff.rfl) (fun d hd => ⟨rfl, ?_⟩) (fun _ h => h) (fun _ _ _ _ _ h => h)
      rw [tvu, if_neg]
      rintro rfl; rw [vfc] at hd; omega
  · rcases b3 y hy with g | g
    · obtain ⟨z1, z2, z3⟩ := Q y g.1
      refine ⟨fun h => ⟨(z1 h).1, fun l' hX hA => ?_⟩, z2, z3⟩
      rw [ttk]; exact (z1 h).2 l' hX hA
    · subst g
      exact ⟨fun h => by have : 9 ≤ 1 := h; omega, fun h => by have : 9 = 2 := h; omega, fun _ => f1⟩
  · rw [tvu] at h
    split at h
    · exact absurd rfl h
    · exact h
  · rcases b3 y hy with g | g
    · exact q4 y g.1
    · subst g
      exact ⟨fun h => by have : 9 = 6 ∨ 9 = 7 ∨ 9 = 8 := h; omega, fun h => by have : 9 = 5 := h; omega, fun h => by have : 9 = 2 := h; omega⟩
  · rw [ttk] at h; exact q7 l' j d hw h
  · have : cn (vQ (uQ (sSend s 9 16 c l) ((Ql s).eraseIdx i))) 16 = cn (vQ s) 16 := cn_congr (fun d hd => by
      have e : mm (uQ (sSend s 9 16 c l) ((Ql s).eraseIdx i)) d = mm s d := by rw [b2, if_neg (by omega)]
      unfold vQ; rw [e])
    rw [this]; exact O6
/-- GETS, GETM or PUT comes to the home -/
theorem IV_push {s : St} {b i : Nat} (I : IV s b) (hi : i < (Pl s).length) (hK : mKi ((Pl s).getD i x0) ≤ 2) : IV (uQ (sOut s i) (Ql s ++ [(Pl s).getD i x0])) b := by
  have I0 := I
  obtain ⟨⟨B, hb⟩, ⟨L, W4'⟩, M, LL, Rg, Q, W, D, O1, O2, O3, O4, O5, O6, O7, O8⟩ := I
  obtain ⟨q1, q2, q3, q4, q5, q6, q7⟩ := D
  have xm : (Pl s).getD i x0 ∈ Z s := List.mem_append_left _ (getD_mem hi)
  generalize hx : (Pl s).getD i x0 = x at *
  have h0 : mm (sOut s i) (key x) = none := by rw [mm_out M.1 hi, hx, if_pos rfl]
  have nk' : nk (Z (uQ (sOut s i) (Ql s ++ [x]))) := nk_push (s := sOut s i) (nk_out M.1 i) h0
  have zz : ∀ y, y ∈ Z (uQ (sOut s i) (Ql s ++ [x])) ↔ y ∈ Z s := by
    intro y
    rw [show uQ (sOut s i) (Ql s ++ [x]) = uQ (sOut s i) (Ql (sOut s i) ++ [x]) from rfl, Z_push, Z_out M.1 hi, hx]
    constructor
    · rintro (g | g)
      · exact g.1
      · subst g; exact xm
    · intro g
      by_cases e : key y = key x
      · have e1 := mm_mem M.1 g
        have e2 := mm_mem M.1 xm
        rw [e, e2] at e1
        exact Or.inr (Option.some.inj e1).symm
      · exact Or.inl ⟨g, e⟩
  have mme : ∀ κ, mm (uQ (sOut s i) (Ql s ++ [x])) κ = mm s κ := fun κ => ak_ext nk' M.1 (fun y _ => zz y)
  have tn : ∀ F j, F ≠ 18 → N (uQ (sOut s i) (Ql s ++ [x])) F j = N s F j := fun F j h => N_out s i F j h
  have n := fun F j (h : F ≤ 3 ∨ (12 ≤ F ∧ F ≤ 14) ∨ F = 16 ∨ F = 21 ∨ F = 22) => tn F j (by omega)
  have ttk : ∀ l' d, tk (uQ (sOut s i) (Ql s ++ [x])) l' d = tk s l' d := fun l' d => tk_mm (mme _)
  have tvu : ∀ d, vU (uQ (sOut s i) (Ql s ++ [x])) d = vU s d := fun d => vU_mm (mme _)
  have hw := hWay_c (s := s) (t := uQ (sOut s i) (Ql s ++ [x])) (fun j => tn 0 j (by omega)) (fun j => tn 4 j (by omega))
  refine IV_home I0 n (Wl_c (fun j => tn 0 j (by omega)) (fun j => tn 4 j (by omega)) W4') ⟨nk', fun y hy => by rw [tn 0 0 (by omega)]; exact M.2.1 y ((zz y).mp hy), fun y hy => ?_⟩ (fun l' hl2 => ?_) (fun j hj => ?_) (fun y hy => ?_) (fun _ => ⟨rfl, rfl, rfl⟩) (fun d h => by rw [tvu] at h; exact h) (fun l' j hwj h => ?_) (fun l' hl2 hwn => ?_) (fun l' j hwj h => ?_) (fun y hy => ?_) (fun l' j d hwj h => ?_) ?_ ?_ ?_ ?_
  · rcases List.mem_append.mp hy with g | g
    · exact M.2.2 y g
    · rw [List.mem_singleton] at g; subst g; exact hK
  · unfold LIs
    rw [vX_c hw, hv_c hw (fun j => tn 6 j (by omega)), hv_c hw (fun j => tn 8 j (by omega)), hv_c hw (fun j => tn 10 j (by omega)), hv_c hw (fun j => tn 9 j (by omega))]
    exact LI_eq (LL l' hl2) (fun d => ttk l' d) (fun d => vS_c n l' d) (fun d => by unfold vR; rw [n 12 d (by omega)]) (fun d => by unfold vF; rw [n 13 d (by omega)]) (fun d => n 14 d (by omega)) tvu (fun d => by unfold vB; rw [hv_c hw (fun j => tn 7 j (by omega))]) rfl rfl rfl rfl rfl
  · rw [tn 4 _ (by omega), tn 5 _ (by omega), tn 6 _ (by omega), tn 7 _ (by omega), tn 8 _ (by omega), tn 9 _ (by omega), tn 10 _ (by omega), tn 11 _ (by omega), tn 23 _ (by omega)]
    exact IV_rn I0 j hj
  · obtain ⟨z1, z2, z3⟩ := Q y ((zz y).mp hy)
    rw [tn 12 _ (by omega), tn 13 _ (by omega), tn 13 _ (by omega)]
    refine ⟨fun h => ⟨(z1 h).1, fun l' hX hA => ?_⟩, z2, z3⟩
    rw [vX_c hw] at hX
    rw [hv_c hw (fun j => tn 8 j (by omega))] at hA
    rw [ttk]; exact (z1 h).2 l' hX hA
  · rw [hw] at hwj; rw [tn 6 _ (by omega)] at h; exact q1 l' j hwj h
  · rw [hw] at hwn; exact q2 l' hl2 hwn
  · rw [hw] at hwj; rw [tn 5 _ (by omega)] at h; exact q3 l' j hwj h
  · rw [tn 14 _ (by omega)]; exact q4 y ((zz y).mp hy)
  · rw [hw] at hwj; rw [ttk] at h; exact q7 l' j d hwj h
  · intro j j' hj hj' he he' g g'
    rw [tn 4 _ (by omega)] at g g'
    rw [tn 11 _ (by omega), tn 11 _ (by omega), tn 23 _ (by omega), tn 23 _ (by omega)]
    exact O3 j j' hj hj' he he' g g'
  · intro j hj he g
    rw [tn 4 _ (by omega)] at g
    rw [tn 11 _ (by omega), tn 23 _ (by omega), tn 17 _ (by omega), tn 24 _ (by omega)]
    exact O4 j hj he g
  · have : cn (vQ (uQ (sOut s i) (Ql s ++ [x]))) 16 = cn (vQ s) 16 := cn_congr (fun d hd => by unfold vQ; rw [mme])
    rw [this, tn 17 _ (by omega)]; exact O6
  · rw [tn 24 _ (by omega), tn 17 _ (by omega)]; exact O8
