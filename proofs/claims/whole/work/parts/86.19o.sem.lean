theorem ak_one (κ : Nat) (y : Msg) : ak κ [y] = if key y = κ then some y else none := rfl
theorem about_N (s : St) {k c kd F j : Nat} (h : ¬ ((8 ≤ F ∧ F ≤ 11 ∨ F = 23) ∧ j = k)) (h1 : F ≠ 17) (h2 : F ≠ 24) : N (sAbout s k c kd) F j = N s F j := by
  unfold sAbout
  rw [N_ne (by omega), N_ne (by omega), N_ne (by omega), N_ne (by omega), N_ne (by omega), N_ne (by omega), N_ne (by omega)]
theorem about_k (s : St) (k c kd : Nat) : N (sAbout s k c kd) 8 k = c + 1 ∧ N (sAbout s k c kd) 9 k = kd ∧ N (sAbout s k c kd) 10 k = 0 ∧ N (sAbout s k c kd) 17 0 = N s 17 0 + 1 ∧ N (sAbout s k c kd) 24 0 = N s 24 0 + 1 ∧ N (sAbout s k c kd) 11 k = N s 17 0 + 1 ∧ N (sAbout s k c kd) 23 k = N s 24 0 + 1 := by
  unfold sAbout
  refine ⟨?_, ?_, ?_, ?_, ?_, ?_, ?_⟩
  · rw [N_ne (by omega), N_ne (by omega), N_eq]
  · rw [N_ne (by omega), N_eq]
  · rw [N_eq]
  · rw [N_ne (by omega), N_ne (by omega), N_ne (by omega), N_ne (by omega), N_ne (by omega), N_ne (by omega), N_eq]
  · rw [N_ne (by omega), N_ne (by omega), N_ne (by omega), N_ne (by omega), N_eq]
  · rw [N_ne (by omega), N_ne (by omega), N_ne (by omega), N_ne (by omega), N_ne (by omega), N_eq]
  · rw [N_ne (by omega), N_ne (by omega), N_ne (by omega), N_eq]
theorem tb_or (n c d : Nat) : (n ||| 2 ^ c).testBit d = true ↔ n.testBit d = true ∨ d = c := by
  rw [Nat.testBit_or, Bool.or_eq_true, Nat.testBit_two_pow]
  simp only [decide_eq_true_eq]
  constructor
  · rintro (g | g)
    · exact Or.inl g
    · exact Or.inr g.symm
  · rintro (g | g)
    · exact Or.inl g
    · exact Or.inr g.symm
theorem IV_serve {s : St} {b e l k c i kd : Nat} (I : IVe s b e) (he : e = 512 ∨ e = k) (hk : hWay s l = some k) (hl : l < 512) (h8 : N s 8 k = 0) (hi : i < (Ql s).length) (hx : mKi ((Ql s).getD i x0) = kd ∧ mFr ((Ql s).getD i x0) = c ∧ mLi ((Ql s).getD i x0) = l) (hkd : kd ≤ 1) : IV (uQ (sServe s k c l kd) ((Ql s).eraseIdx i)) b := by
  have I0 := I
  have LIl := LI_of I0 hk hl
  obtain ⟨⟨B, hb⟩, ⟨L, W4'⟩, M, LL, Rg, Q, W, D, O1, O2, O3, O4, O5, O6, O7, O8⟩ := I
  obtain ⟨k512, k4⟩ := (hWay_iff B W4').mp hk
  obtain ⟨c6, c7⟩ := Rg.2.2.1 k k512 (by omega)
  obtain ⟨_, _, _, _, r5, r6, r7, r8, r9, r10, _⟩ := Rg.1 k k512
  have b0 := B.1.2
  obtain ⟨A8, A9, A10, A17, A24, A11, A23⟩ := about_k s k c kd
  have AN := fun F j h h1 h2 => about_N s (k := k) (c := c) (kd := kd) (F := F) (j := j) h h1 h2
  have a6 : N (sAbout s k c kd) 6 k = N s 6 k := AN 6 k (by omega) (by omega) (by omega)
  have a7 : N (sAbout s k c kd) 7 k = N s 7 k := AN 7 k (by omega) (by omega) (by omega)
  have a5 : N (sAbout s k c kd) 5 k = N s 5 k := AN 5 k (by omega) (by omega) (by omega)
  have aP : Pl (sAbout s k c kd) = Pl s := rfl
  have aQ : Ql (sAbout s k c kd) = Ql s := rfl
  have aW : ∀ F j, Wda (sAbout s k c kd) F j = Wda s F j := fun _ _ => rfl
  have xm : (Ql s).getD i x0 ∈ Z s := List.mem_append_right _ (getD_mem hi)
  have hcN : c < N s 0 0 := by
    have := (M.2.1 _ xm).2.2
    omega
  unfold sServe
  by_cases e0 : kd = 0
  · subst e0
    rw [if_pos rfl]
    unfold sShares
    rw [a6, a7]
    by_cases e6 : N s 6 k = 0
    · rw [if_neg (show ¬ N s 6 k ≠ 0 by omega)]
      by_cases e7 : N s 7 k = 0
      · rw [if_pos e7]
        refine IV_get (Ls := [(7, 16, c, l, 1, Wda s 0 l)]) I0 he hk hl h8 hi (Or.inr hx) hkd rfl rfl ⟨rfl, trivial⟩ (fun y hy => ?_) (fun F j h1 h2 h3 => ?_) ?_ ?_ ?_ ?_ ?_ ?_ (fun _ _ => rfl) ⟨?_, ?_, ?_, ?_⟩ (fun _ => e6) (fun _ _ _ => e6) (fun T' hT hT0 hR hc hcn hz => ?_)
        · rw [List.mem_singleton] at hy; subst hy
          exact ⟨Or.inr (Or.inr (Or.inr (Or.inl rfl))), rfl, hcN, rfl, Nat.le_refl 1, fun _ => rfl⟩
        · rw [N_give, N_ne (by omega), AN F j (by omega) h2 h3]
        · rw [N_give, N_ne (by omega)]; exact A8
        · rw [N_give, N_ne (by omega)]; exact a5
        · rw [N_give, N_ne (by omega)]; exact A17
        · rw [N_give, N_ne (by omega)]; exact A24
        · rw [N_give, N_ne (by omega), N_give, N_ne (by omega), A11, A17]
        · rw [N_give, N_ne (by omega), N_give, N_ne (by omega), A23, A24]
        · rw [N_give, N_eq]; omega
        · rw [N_give, N_ne (by omega), a7]; exact c7
        · rw [N_give, N_ne (by omega), A9]; omega
        · rw [N_give, N_ne (by omega), A10]; omega
        · refine LI_eq (LI_getE (c := c) (T' := T') LIl rfl h8 hR hc e6 (fun d => by show (N s 7 k).testBit d = false; rw [e7, Nat.zero_testBit]) (fun d => ?_)) (fun _ => rfl) (fun _ => rfl) (fun _ => rfl) (fun _ => rfl) (fun _ => rfl) (fun _ => rfl) (fun d => by rw [N_give, N_ne (by omega), a7]) rfl (by rw [N_give, N_eq]) (by rw [N_give, N_ne (by omega), A8]) (by rw [N_give, N_ne (by omega), A10]) (by rw [N_give, N_ne (by omega), A9])
          by_cases g : d < 16
          · rw [hT d g, ak_one]
            by_cases g2 : d = c
            · rw [if_pos (show key (7, 16, c, l, 1, Wda s 0 l) = 32 + 16 * l + d by rw [g2]; rfl), if_pos g2]; rfl
            · rw [if_neg (show ¬ key (7, 16, c, l, 1, Wda s 0 l) = 32 + 16 * l + d by show ¬ 32 + 16 * l + c = _; omega), if_neg g2, hz d]
          · rw [hT0 d g, if_neg (by omega), hz d]
      · rw [if_neg e7]
        refine IV_get (Ls := [(6, 16, c, l, 1, Wda s 0 l)]) I0 he hk hl h8 hi (Or.inr hx) hkd rfl rfl ⟨rfl, trivial⟩ (fun y hy => ?_) (fun F j h1 h2 h3 => ?_) ?_ ?_ ?_ ?_ ?_ ?_ (fun _ _ => rfl) ⟨?_, ?_, ?_, ?_⟩ (fun _ => e6) (fun _ _ _ => e6) (fun T' hT hT0 hR hc hcn hz => ?_)
        · rw [List.mem_singleton] at hy; subst hy
          exact ⟨Or.inr (Or.inr (Or.inl rfl)), rfl, hcN, rfl, Nat.le_refl 1, fun _ => rfl⟩
        · rw [N_give, N_ne (by omega), AN F j (by omega) h2 h3]
        · rw [N_give, N_ne (by omega)]; exact A8
        · rw [N_give, N_ne (by omega)]; exact a5
        · rw [N_give, N_ne (by omega)]; exact A17
        · rw [N_give, N_ne (by omega)]; exact A24
        · rw [N_give, N_ne (by omega), N_give, N_ne (by omega), A11, A17]
        · rw [N_give, N_ne (by omega), N_give, N_ne (by omega), A23, A24]
        · rw [N_give, N_ne (by omega), a6]; omega
        · rw [N_give, N_eq]
          exact Nat.or_lt_two_pow c7 (Nat.pow_lt_pow_right (by omega) hcN)
        · rw [N_give, N_ne (by omega), A9]; omega
        · rw [N_give, N_ne (by omega), A10]; omega
        · refine LI_eq (LI_getS (c := c) (T' := T') (Bt' := fun d => (N s 7 k ||| 2 ^ c).testBit d) LIl rfl h8 hR hc e6 (fun d => ?_) (fun d => tb_or _ _ _)) (fun _ => rfl) (fun _ => rfl) (fun _ => rfl) (fun _ => rfl) (fun _ => rfl) (fun _ => rfl) (fun d => by rw [N_give, N_eq]) rfl (by rw [N_give, N_ne (by omega), a6, e6]) (by rw [N_give, N_ne (by omega), A8]) (by rw [N_give, N_ne (by omega), A10]) (by rw [N_give, N_ne (by omega), A9])
          by_cases g : d < 16
          · rw [hT d g, ak_one]
            by_cases g2 : d = c
            · rw [if_pos (show key (6, 16, c, l, 1, Wda s 0 l) = 32 + 16 * l + d by rw [g2]; rfl), if_pos g2]; rfl
            · rw [if_neg (show ¬ key (6, 16, c, l, 1, Wda s 0 l) = 32 + 16 * l + d by show ¬ 32 + 16 * l + c = _; omega), if_neg g2, hz d]
          · rw [hT0 d g, if_neg (by omega), hz d]
    · rw [if_pos (show N s 6 k ≠ 0 from e6)]
      obtain ⟨o, ho⟩ : ∃ o, N s 6 k = o + 1 := ⟨N s 6 k - 1, by omega⟩
      rw [ho, Nat.add_sub_cancel]
      refine IV_get (Ls := [(4, 16, o, l, 0, w0)]) I0 he hk hl h8 hi (Or.inr hx) hkd rfl rfl ⟨rfl, trivial⟩ (fun y hy => ?_) (fun F j h1 h2 h3 => ?_) ?_ ?_ ?_ ?_ ?_ ?_ (fun _ _ => rfl) ⟨?_, ?_, ?_, ?_⟩ (fun h => ?_) (fun y hy h => ?_) (fun T' hT hT0 hR hc hcn hz => ?_)
      · rw [List.mem_singleton] at hy; subst hy
        exact ⟨Or.inr (Or.inl rfl), rfl, by show o < N s 0 0; omega, rfl, Nat.zero_le 1, fun h => by have : 4 = 6 ∨ 4 = 7 ∨ 4 = 8 := h; omega⟩
      · rw [N_ne (by omega), N_send, AN F j (by omega) h2 h3]
      · rw [N_ne (by omega), N_send]; exact A8
      · rw [N_ne (by omega), N_send]; exact a5
      · rw [N_ne (by omega), N_send]; exact A17
      · rw [N_ne (by omega), N_send]; exact A24
      · rw [N_ne (by omega), N_send, N_ne (by omega), N_send, A11, A17]
      · rw [N_ne (by omega), N_send, N_ne (by omega), N_send, A23, A24]
      · rw [N_ne (by omega), N_send, a6]; omega
      · rw [N_ne (by omega), N_send, a7]; exact c7
      · rw [N_ne (by omega), N_send, A9]; omega
      · rw [N_eq]; omega
      · rw [N_ne (by omega), N_send, a6] at h; exact h
      · rw [List.mem_singleton] at hy; subst hy
        have : 4 = 7 ∨ 4 = 8 := h
        omega
      · refine LI_eq (LI_getDown (c := c) (b := o) (T' := T') LIl rfl h8 hR hc ho (by omega) (fun d => ?_)) (fun _ => rfl) (fun _ => rfl) (fun _ => rfl) (fun _ => rfl) (fun _ => rfl) (fun _ => rfl) (fun d => by rw [N_ne (by omega), N_send, a7]) rfl (by rw [N_ne (by omega), N_send, a6]) (by rw [N_ne (by omega), N_send, A8]) (by rw [N_eq]) (by rw [N_ne (by omega), N_send, A9])
        by_cases g : d < 16
        · rw [hT d g, ak_one]
          by_cases g2 : d = o
          · rw [if_pos (show key (4, 16, o, l, 0, w0) = 32 + 16 * l + d by rw [g2]; rfl), if_pos g2]; rfl
          · rw [if_neg (show ¬ key (4, 16, o, l, 0, w0) = 32 + 16 * l + d by show ¬ 32 + 16 * l + o = _; omega), if_neg g2, hz d]
        · rw [hT0 d g, if_neg (by omega), hz d]
  · have e1 : kd = 1 := by omega
    subst e1
    rw [if_neg (by omega)]
    have e16 : sCall (sAbout s k c 1) k l (c + 1) 0 (N s 0 0) = sCall (sAbout s k c 1) k l (c + 1) 0 16 := (sCall_16 (s := sAbout s k c 1) B.1.2 (by rw [a6]; exact c6) (by rw [a7]; exact c7)).symm
    rw [e16]
    obtain ⟨cP, c10⟩ := sCall_L k l (c + 1) 16 (sAbout s k c 1) 0
    have cN : ∀ F j, ¬ (F = 10 ∧ j = k) → N (sCall (sAbout s k c 1) k l (c + 1) 0 16) F j = N (sAbout s k c 1) F j := fun F j h => sCall_N _ _ _ _ _ _ _ _ h
    have cW : ∀ F j, Wda (sCall (sAbout s k c 1) k l (c + 1) 0 16) F j = Wda s F j := fun F j => sCall_W _ _ _ _ _ _ _ _
    have cQ : Ql (sCall (sAbout s k c 1) k l (c + 1) 0 16) = Ql s := sCall_Q _ _ _ _ _ _
    have ec : cL (sAbout s k c 1) k l (c + 1) 0 16 = cL s k l (c + 1) 0 16 := cL_congr a6 a7 16 0
    rw [ec, aP] at cP
    rw [ec, A10, Nat.zero_add] at c10
    have cld16 : ∀ d, cld s k (c + 1) d ↔ d ≠ c ∧ (N s 6 k = d + 1 ∨ (N s 7 k).testBit d = true) := by
      intro d; unfold cld; constructor
      · rintro ⟨g1, g2⟩; exact ⟨by omega, g2⟩
      · rintro ⟨g1, g2⟩; exact ⟨by omega, g2⟩
    have cl16 : ∀ d, cld s k (c + 1) d → d < N s 0 0 := by
      intro d hd
      rcases ((cld16 d).mp hd).2 with g | g
      · omega
      · exact bit_lt c7 g
    generalize hu : sCall (sAbout s k c 1) k l (c + 1) 0 16 = u at *
    by_cases g0 : N u 10 k = 0
    · rw [if_pos g0]
      have nil : cL s k l (c + 1) 0 16 = [] := List.eq_nil_of_length_eq_zero (by omega)
      rw [nil, List.append_nil] at cP
      have none' : ∀ d, d ≠ c → N s 6 k ≠ d + 1 ∧ (N s 7 k).testBit d = false := by
        intro d hd
        have : ¬ cld s k (c + 1) d := by
          intro g
          have := (cL_mem (s := s) (k := k) (l := l) (sp := c + 1) 16 0 (3, 16, d, l, 0, w0)).mpr ⟨d, by omega, by have := cl16 d g; omega, g, rfl⟩
          rw [nil] at this; cases this
        rw [cld16] at this
        refine ⟨fun g => this ⟨hd, Or.inl g⟩, ?_⟩
        cases g : (N s 7 k).testBit d with
        | false => rfl
        | true => exact absurd ⟨hd, Or.inr g⟩ this
      have u4 : N u 4 k = l + 1 := by rw [cN 4 k (by omega), AN 4 k (by omega) (by omega) (by omega)]; exact k4
      have u8 : N u 8 k = c + 1 := by rw [cN 8 k (by omega)]; exact A8
      have lend : sLend u k = sGive (uN (uN u 6 k (c + 1)) 7 k 0) 8 c l := by unfold sLend; rw [u8, u4]; rfl
      rw [lend]
      -- no owner: the one that asks can't be
      obtain ⟨im, it, i10⟩ := idle_mm I0 hk hl h8
      have own : N s 6 k = 0 := by
        have xr := (Q _ xm).1 (by omega)
        rw [hx.2.1, hx.2.2] at xr
        have c16 : c < 16 := by omega
        have vrc : vR s c = l + 1 := by unfold vR; rw [if_pos c16]; exact xr.1
        obtain ⟨p0, p1, p2, p3, p3b, p4, p5, p6, p7, p8, p9, p10, p11, p12, _⟩ := LIl
        obtain ⟨w1, w2⟩ := p12 c vrc
        by_cases g : N s 6 k = 0
        · exact g
        · exfalso
          by_cases g2 : N s 6 k = c + 1
          · rcases p4 rfl c g2 with w | w | w | w | w
            · omega
            · exact w2 w.1
            · rw [it c] at w; omega
            · rw [it c] at w; omega
            · rw [it c] at w; omega
          · exact (none' (N s 6 k - 1) (by omega)).1 (by omega)
      refine IV_get (Ls := [(8, 16, c, l, 1, Wda u 0 l)]) I0 he hk hl h8 hi (Or.inr hx) hkd (by show Pl u ++ [_] = _; rw [cP]; rfl) cQ ⟨rfl, trivial⟩ (fun y hy => ?_) (fun F j h1 h2 h3 => ?_) ?_ ?_ ?_ ?_ ?_ ?_ (fun F j => cW F j) ⟨?_, ?_, ?_, ?_⟩ (fun _ => own) (fun _ _ _ => own) (fun T' hT hT0 hR hc hcn hz => ?_)
      · rw [List.mem_singleton] at hy; subst hy
        exact ⟨Or.inr (Or.inr (Or.inr (Or.inr rfl))), rfl, hcN, rfl, Nat.le_refl 1, fun _ => cW 0 l⟩
      · rw [N_give, N_ne (by omega), N_ne (by omega), cN F j (by omega), AN F j (by omega) h2 h3]
      · rw [N_give, N_ne (by omega), N_ne (by omega)]; exact u8
      · rw [N_give, N_ne (by omega), N_ne (by omega), cN 5 k (by omega)]; exact a5
      · rw [N_give, N_ne (by omega), N_ne (by omega), cN 17 0 (by omega)]; exact A17
      · rw [N_give, N_ne (by omega), N_ne (by omega), cN 24 0 (by omega)]; exact A24
      · rw [N_give, N_ne (by omega), N_ne (by omega), cN 11 k (by omega), N_give, N_ne (by omega), N_ne (by omega), cN 17 0 (by omega), A11, A17]
      · rw [N_give, N_ne (by omega), N_ne (by omega), cN 23 k (by omega), N_give, N_ne (by omega), N_ne (by omega), cN 24 0 (by omega), A23, A24]
      · rw [N_give, N_ne (by omega), N_eq]; omega
      · rw [N_give, N_eq]; exact Nat.two_pow_pos _
      · rw [N_give, N_ne (by omega), N_ne (by omega), cN 9 k (by omega), A9]; omega
      · rw [N_give, N_ne (by omega), N_ne (by omega)]; omega
      · refine LI_eq (LI_getM0 (c := c) (T' := T') (Bt' := fun d => (0 : Nat).testBit d) LIl rfl h8 hR hc none' (fun d => ?_) (fun d => Nat.zero_testBit d)) (fun _ => rfl) (fun _ => rfl) (fun _ => rfl) (fun _ => rfl) (fun _ => rfl) (fun _ => rfl) (fun d => by rw [N_give, N_eq]) rfl (by rw [N_give, N_ne (by omega), N_eq]) (by rw [N_give, N_ne (by omega), N_ne (by omega), u8]) (by rw [N_give, N_ne (by omega), N_ne (by omega), g0]) (by rw [N_give, N_ne (by omega), N_ne (by omega), cN 9 k (by omega), A9])
        by_cases g : d < 16
        · rw [hT d g, ak_one]
          by_cases g2 : d = c
          · rw [if_pos (show key (8, 16, c, l, 1, Wda u 0 l) = 32 + 16 * l + d by rw [g2]; rfl), if_pos g2]; rfl
          · rw [if_neg (show ¬ key (8, 16, c, l, 1, Wda u 0 l) = 32 + 16 * l + d by show ¬ 32 + 16 * l + c = _; omega), if_neg g2, hz d]
        · rw [hT0 d g, if_neg (by omega), hz d]
    · rw [if_neg g0]
      refine IV_get (Ls := cL s k l (c + 1) 0 16) I0 he hk hl h8 hi (Or.inr hx) hkd cP cQ (cL_nk 16 0) (fun y hy => ?_) (fun F j h1 h2 h3 => ?_) ?_ ?_ ?_ ?_ ?_ ?_ cW ⟨?_, ?_, ?_, ?_⟩ (fun h => ?_) (fun y hy h => ?_) (fun T' hT hT0 hR hc hcn hz => ?_)
      · obtain ⟨d, g1, g2, g3, rfl⟩ := (cL_mem 16 0 y).mp hy
        exact ⟨Or.inl rfl, rfl, cl16 d g3, rfl, Nat.zero_le 1, fun h => by have : 3 = 6 ∨ 3 = 7 ∨ 3 = 8 := h; omega⟩
      · rw [cN F j (by omega), AN F j (by omega) h2 h3]
      · rw [cN 8 k (by omega)]; exact A8
      · rw [cN 5 k (by omega)]; exact a5
      · rw [cN 17 0 (by omega)]; exact A17
      · rw [cN 24 0 (by omega)]; exact A24
      · rw [cN 11 k (by omega), cN 17 0 (by omega), A11, A17]
      · rw [cN 23 k (by omega), cN 24 0 (by omega), A23, A24]
      · rw [cN 6 k (by omega), a6]; exact c6
      · rw [cN 7 k (by omega), a7]; exact c7
      · rw [cN 9 k (by omega), A9]; omega
      · have := sCall_due k l (c + 1) 16 (sAbout s k c 1) 0
        rw [hu, A10] at this; omega
      · rw [cN 6 k (by omega), a6] at h; exact h
      · obtain ⟨d, g1, g2, g3, rfl⟩ := (cL_mem 16 0 y).mp hy
        have : 3 = 7 ∨ 3 = 8 := h
        omega
      · have Tc : ∀ d, cld s k (c + 1) d → T' d = 3 := by
          intro d hd
          have d16 : d < 16 := by have := cl16 d hd; omega
          have m := (cL_mem (s := s) (k := k) (l := l) (sp := c + 1) 16 0 (3, 16, d, l, 0, w0)).mpr ⟨d, by omega, by omega, hd, rfl⟩
          have : ak (32 + 16 * l + d) (cL s k l (c + 1) 0 16) = some (3, 16, d, l, 0, w0) := ak_mem (cL_nk 16 0) m
          rw [hT d d16, this]; rfl
        have Tn : ∀ d, ¬ cld s k (c + 1) d → T' d = 0 := by
          intro d hd
          by_cases g : d < 16
          · rw [hT d g]
            have : ak (32 + 16 * l + d) (cL s k l (c + 1) 0 16) = none := by
              rw [ak_none]
              intro y hy e
              obtain ⟨d', h1, h2, h3, rfl⟩ := (cL_mem 16 0 y).mp hy
              rw [key_INV] at e
              have : d' = d := by omega
              subst this; exact hd h3
            rw [this]
          · exact hT0 d g
        have len := cL_len (s := s) (k := k) (l := l) (sp := c + 1) (T := T') 16 0 (fun d _ _ => by
          by_cases g : cld s k (c + 1) d
          · rw [Tc d g]; exact ⟨fun _ => g, fun _ => by omega⟩
          · rw [Tn d g]; exact ⟨fun w => absurd rfl w, fun w => absurd w g⟩)
        have z : cn T' 0 = 0 := rfl
        have u10 : N u 10 k = cn T' 16 := by rw [c10]; rw [show 0 + 16 = 16 from rfl] at len; omega
        refine LI_eq (LI_getM (c := c) (T' := T') LIl rfl h8 hR hc (by omega) (fun d g => by have := bit_lt c7 g; omega) (by omega) (fun d => ?_)) (fun _ => rfl) (fun _ => rfl) (fun _ => rfl) (fun _ => rfl) (fun _ => rfl) (fun _ => rfl) (fun d => by rw [cN 7 k (by omega), a7]) rfl (by rw [cN 6 k (by omega), a6]) (by rw [cN 8 k (by omega), A8]) u10 (by rw [cN 9 k (by omega), A9])
        by_cases g : d ≠ c ∧ (N s 6 k = d + 1 ∨ (N s 7 k).testBit d = true)
        · rw [if_pos g]; exact Tc d ((cld16 d).mpr g)
        · rw [if_neg g, hz d]; exact Tn d (fun w => g ((cld16 d).mp w))
