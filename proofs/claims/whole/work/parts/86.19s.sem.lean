/-- what an ACK finds -/
theorem ack_facts {s : St} {b l k c i : Nat} (I : IV s b) (hi : i < (Pl s).length) (hx : mKi ((Pl s).getD i x0) = 5 ∧ mFr ((Pl s).getD i x0) = c ∧ mLi ((Pl s).getD i x0) = l) :
    l < 512 ∧ c < 16 ∧ (∃ k, hWay s l = some k ∧ 1 ≤ N s 10 k ∧ 1 ≤ N s 8 k ∧ N s 8 k ≤ 17 ∧ N s 8 k ≠ c + 1 ∧ (N s 8 k ≠ 17 → tk s l (N s 8 k - 1) = 0) ∧ (mFi ((Pl s).getD i x0) = 1 → N s 10 k = 1 ∧ N s 6 k = c + 1) ∧ (N s 10 k = 1 → mFi ((Pl s).getD i x0) = 0 → N s 6 k = 0) ∧ (N s 10 k = 1 → N s 8 k ≠ 17 → N s 9 k = 0 → mFi ((Pl s).getD i x0) = 1) ∧ (N s 6 k ≠ 0 → N s 7 k = 0)) ∧ (tk s l c = if mFi ((Pl s).getD i x0) = 1 then 11 else 5) ∧ key ((Pl s).getD i x0) = 32 + 16 * l + c := by
  obtain ⟨⟨B, hb⟩, ⟨L, W4'⟩, M, LL, Rg, Q, W, D, O⟩ := I
  have xm : (Pl s).getD i x0 ∈ Z s := List.mem_append_left _ (getD_mem hi)
  have xw := M.2.1 _ xm
  have hl : l < 512 := by rw [← hx.2.2]; exact xw.1
  have hc : c < N s 0 0 := by obtain ⟨_, _, g⟩ := xw; omega
  have c16 : c < 16 := by have := B.1.2; omega
  have xp : isP ((Pl s).getD i x0) := by unfold isP; omega
  have xpc : pc ((Pl s).getD i x0) = c := by unfold pc; rw [if_pos (Or.inl hx.1)]; exact hx.2.1
  have xkey : key ((Pl s).getD i x0) = 32 + 16 * l + c := by rw [key_p xp, xpc, hx.2.2]
  have tkx : tk s l c = if mFi ((Pl s).getD i x0) = 1 then 11 else 5 := by
    have := tk_of M B xm xp
    rw [hx.2.2, xpc] at this
    rw [this]; unfold tcode
    by_cases g : mFi ((Pl s).getD i x0) = 1
    · rw [if_pos ⟨hx.1, g⟩, if_pos g]
    · rw [if_neg (fun w => g w.2), if_neg g]; exact hx.1
  refine ⟨hl, c16, ?_, tkx, xkey⟩
  have h := LL l hl
  have fi := xw.2.1
  have t511 : tk s l c = 5 ∨ tk s l c = 11 := by
    rw [tkx]; split
    · exact Or.inr rfl
    · exact Or.inl rfl
  obtain ⟨hX, _, a, ha, ha2⟩ := ph_x h (c := c) (by omega)
  obtain ⟨k, ek⟩ := vX_1 hX
  have e8 : hv s l 8 = N s 8 k := by unfold hv; rw [ek]
  have e10 : hv s l 10 = N s 10 k := by unfold hv; rw [ek]
  have e6 : hv s l 6 = N s 6 k := by unfold hv; rw [ek]
  have e9 : hv s l 9 = N s 9 k := by unfold hv; rw [ek]
  have vb : ∀ d, vB s l d = (N s 7 k).testBit d := by intro d; unfold vB hv; rw [ek]
  have h7 : N s 6 k ≠ 0 → N s 7 k = 0 := by
    intro g
    have p2 := h.2.2.1 hX (by rw [e6]; exact g)
    refine Nat.eq_of_testBit_eq (fun d => ?_)
    rw [Nat.zero_testBit, ← vb d]; exact p2 d
  rw [e8] at ha
  by_cases g : mFi ((Pl s).getD i x0) = 1
  · have t11 : tk s l c = 11 := by rw [tkx, if_pos g]
    obtain ⟨_, _, hD, hO, hz, a', ha', ha2', hac⟩ := ph_11 h t11
    rw [e10] at hD; rw [e6] at hO; rw [e8] at ha'
    refine ⟨k, ek, by omega, by omega, by omega, by omega, fun g2 => ?_, fun _ => ⟨hD, hO⟩, fun _ g2 => by omega, fun _ _ _ => g, h7⟩
    have : N s 8 k - 1 = a' := by omega
    rw [this]; exact hz a' hac
  · have t5 : tk s l c = 5 := by rw [tkx, if_neg g]
    obtain ⟨_, _, hD, a', ha', ha2', hac, hK⟩ := ph_3 h (Or.inr t5)
    have p9 := h.2.2.2.2.2.2.2.2.2.2.1 hX a' ha' hD hK
    rw [e10] at hD; rw [e8] at ha'
    refine ⟨k, ek, by omega, by omega, by omega, by omega, fun g2 => ?_, fun g2 => absurd g2 g, fun g2 _ => ?_, fun _ g2 g3 => ?_, h7⟩
    · have : N s 8 k - 1 = a' := by omega
      rw [this]; exact p9.2.2.1 (by omega)
    · refine Classical.byContradiction (fun g3 => ?_)
      have q := p9.2.2.2.2 (N s 6 k - 1) (by rw [e6]; omega)
      have c1 := p9.1
      rw [e10, g2] at c1
      have z := cn_one c16 (by omega) c1.symm
      by_cases g4 : N s 6 k - 1 = c
      · rw [g4] at q; omega
      · have := z (N s 6 k - 1) (by have := h.2.2.2.2.2.2.2.2.2.2.2.2.2.2.2.2.1 (N s 6 k - 1); omega) g4
        omega
    · rw [e9] at hK
      rcases hK with w | w
      · omega
      · omega
theorem IV_ack {s : St} {b l k c i : Nat} (I : IV s b) (hi : i < (Pl s).length) (hx : mKi ((Pl s).getD i x0) = 5 ∧ mFr ((Pl s).getD i x0) = c ∧ mLi ((Pl s).getD i x0) = l) (hk : hWay s l = some k) (hne : ¬ (N s 10 k = 1 ∧ N s 8 k = 17)) : IV (sAckP (sAckD (sAckW (sOut s i) k ((Pl s).getD i x0)) k) k l).2 b := by
  have I0 := I
  obtain ⟨hl, c16, ⟨k', ek', f10, f8, f8b, f8c, f8d, ffi, ffi0, fgs, f7⟩, tkx, xkey⟩ := ack_facts (k := k) I hi hx
  rw [hk] at ek'
  obtain rfl := Option.some.inj ek'
  have LIl := LI_of I0 hk hl
  obtain ⟨⟨B, hb⟩, ⟨L, W4'⟩, M, LL, Rg, Q, W, D, O1, O2, O3, O4, O5, O6, O7, O8⟩ := I
  obtain ⟨q1, q2, q3, q4, q5, q6, q7⟩ := D
  obtain ⟨k512, k4⟩ := (hWay_iff B W4').mp hk
  obtain ⟨c6, c7⟩ := Rg.2.2.1 k k512 (by omega)
  obtain ⟨_, _, _, _, r5, r6, r7, r8, r9, r10, _⟩ := Rg.1 k k512
  have b0 := B.1.2
  have xm : (Pl s).getD i x0 ∈ Z s := List.mem_append_left _ (getD_mem hi)
  have fi := (M.2.1 _ xm).2.1
  have words : mFi ((Pl s).getD i x0) = 1 → mWo ((Pl s).getD i x0) = Wda s 0 l := by
    intro g
    have := (q4 _ xm).2.1 hx.1 g
    rw [hx.2.2] at this; exact this
  have t511 : tk s l c = 5 ∨ tk s l c = 11 := by
    rw [tkx]; split
    · exact Or.inr rfl
    · exact Or.inl rfl
  generalize hs2 : sAckD (sAckW (sOut s i) k ((Pl s).getD i x0)) k = s2 at *
  generalize hxe : (Pl s).getD i x0 = x at *
  have n2 : ∀ F j, ¬ ((F = 5 ∨ F = 10) ∧ j = k) → F ≠ 18 → N s2 F j = N s F j := by
    intro F j h1 h2
    rw [← hs2]; unfold sAckD
    rw [N_ne (by omega)]
    unfold sAckW; split
    · rw [N_ne (by omega), N_uW, N_out _ _ _ _ h2]
    · rw [N_out _ _ _ _ h2]
  have n10 : N s2 10 k = N s 10 k - 1 := by
    rw [← hs2]; unfold sAckD; rw [N_eq, sAckW_N _ _ _ _ _ (by omega), N_out _ _ _ _ (by omega)]
  have n5 : N s2 5 k = if mFi x = 1 then 1 else N s 5 k := by
    rw [← hs2]; unfold sAckD; rw [N_ne (by omega)]; unfold sAckW; split
    · rw [N_eq]
    · rw [N_out _ _ _ _ (by omega)]
  have P2 : Pl s2 = Pl (sOut s i) := by rw [← hs2]; unfold sAckD sAckW; split <;> rfl
  have Q2 : Ql s2 = Ql s := by rw [← hs2]; unfold sAckD sAckW; split <;> rfl
  have W2 : ∀ F j, F ≠ 2 ∨ j ≠ k → Wda s2 F j = Wda s F j := by
    intro F j h; rw [← hs2]; unfold sAckD sAckW; split
    · show Wda (uW _ 2 k _) F j = _; rw [W_ne (by omega)]; rfl
    · rfl
  have W22 : Wda s2 2 k = if mFi x = 1 then Wda s 0 l else Wda s 2 k := by
    rw [← hs2]; unfold sAckD sAckW
    by_cases g : mFi x = 1
    · rw [if_pos g, if_pos g]
      show Wda (uW _ 2 k _) 2 k = _
      rw [uW_at]; exact words g
    · rw [if_neg g, if_neg g]; rfl
  have n8 : N s2 8 k = N s 8 k := n2 8 k (by omega) (by omega)
  have n9 : N s2 9 k = N s 9 k := n2 9 k (by omega) (by omega)
  have n6 : N s2 6 k = N s 6 k := n2 6 k (by omega) (by omega)
  have n7 : N s2 7 k = N s 7 k := n2 7 k (by omega) (by omega)
  have n4 : N s2 4 k = l + 1 := (n2 4 k (by omega) (by omega)).trans k4
  have w20 : Wda s2 0 l = Wda s 0 l := W2 0 l (by omega)
  have g3 : ∀ u5 : Nat, u5 = N s2 5 k → u5 = 0 → Wda s2 2 k = Wda s 1 l := by
    intro u5 e1 e2
    rw [e1, n5] at e2
    by_cases g : mFi x = 1
    · rw [if_pos g] at e2; omega
    · rw [if_neg g] at e2
      rw [W22, if_neg g]; exact q3 l k hk e2
  have flat : N s 10 k = 1 → Wda s2 2 k = Wda s 0 l := by
    intro g
    rw [W22]
    by_cases g2 : mFi x = 1
    · rw [if_pos g2]
    · rw [if_neg g2]; exact q1 l k hk (ffi0 g (by omega))
  unfold sAckP
  rw [n10, n8, n9, n6]
  by_cases e1 : 0 < N s 10 k - 1
  · rw [if_pos e1]
    have nf : ¬ mFi x = 1 := fun g => by have := (ffi g).1; omega
    refine IV_ackG (Ls := []) (u := s2) I0 hk hi (by rw [hxe]; exact hx) (by rw [List.append_nil]; exact P2) Q2 trivial (fun y hy => by cases hy) (fun F j h1 h2 => n2 F j (by omega) h2) W2 ⟨?_, ?_, ?_, ?_⟩ (fun h => ?_) (fun h => g3 _ rfl h) (fun h => absurd rfl h) (fun T' hT hT0 => ?_)
    · rw [n5]; split <;> omega
    · rw [n6]; exact c6
    · rw [n7]; exact c7
    · omega
    · rw [n6] at h
      rw [W22, if_neg nf]; exact q1 l k hk h
    · refine LI_eq (LI_ack (c := c) (T' := T') LIl t511 (by omega) (fun d => ?_)) (fun _ => rfl) (fun _ => rfl) (fun _ => rfl) (fun _ => rfl) (fun _ => rfl) (fun _ => rfl) (fun d => by rw [n7]) rfl n6 n8 n10 n9
      by_cases g : d < 16
      · exact hT d g
      · rw [hT0 d g, if_neg (by omega)]
        have : tk s l d = 0 := by unfold tk; rw [if_neg g]
        exact this.symm
  · rw [if_neg e1]
    have d1 : N s 10 k = 1 := by omega
    have ne17 : N s 8 k ≠ 17 := fun g => hne ⟨d1, g⟩
    rw [if_neg ne17]
    obtain ⟨a, ha⟩ : ∃ a, N s 8 k = a + 1 := ⟨N s 8 k - 1, by omega⟩
    have ta : tk s l a = 0 := by have := f8d ne17; rw [ha, Nat.add_sub_cancel] at this; exact this
    have a16 : a < 16 := by omega
    have aR : vR s a = l + 1 := by
      have p11 := LIl.2.2.2.2.2.2.2.2.2.2.2.2.1 rfl a ha a16 (by rw [ta]; omega)
      exact p11
    have aN : a < N s 0 0 := by
      refine Classical.byContradiction (fun g => ?_)
      have := (Rg.2.1 a a16).2.2.2 (by omega)
      unfold vR at aR; rw [if_pos a16] at aR; omega
    have nd : ∀ (T' : Nat → Nat) (kd : Nat) (y : Msg), key y = 32 + 16 * l + a → tcode y = kd → (∀ d, d < 16 → (T' d = match ak (32 + 16 * l + d) [y] with | some y => tcode y | none => if d = c then 0 else tk s l d)) → (∀ d, ¬ d < 16 → T' d = 0) → ∀ d, T' d = if d = a then kd else if d = c then 0 else tk s l d := by
      intro T' kd y hy ht hT hT0 d
      by_cases g : d < 16
      · rw [hT d g, ak_one, hy]
        by_cases g2 : d = a
        · rw [if_pos (by omega), if_pos g2]; exact ht
        · rw [if_neg (by omega), if_neg g2]
      · rw [hT0 d g, if_neg (by omega), if_neg (by omega)]
        have : tk s l d = 0 := by unfold tk; rw [if_neg g]
        exact this.symm
    by_cases e9 : N s 9 k = 1
    · rw [if_pos e9]
      have le : sLend s2 k = sGive (uN (uN s2 6 k (a + 1)) 7 k 0) 8 a l := by unfold sLend; rw [n8, ha, n4]; rfl
      rw [le]
      refine IV_ackG (Ls := [(8, 16, a, l, 1, Wda s2 0 l)]) I0 hk hi (by rw [hxe]; exact hx) (by show Pl s2 ++ [_] = _; rw [P2]; rfl) Q2 ⟨rfl, trivial⟩ (fun y hy => ?_) (fun F j h1 h2 => ?_) W2 ⟨?_, ?_, ?_, ?_⟩ (fun h => ?_) (fun h => ?_) (fun _ => flat d1) (fun T' hT hT0 => ?_)
      · rw [List.mem_singleton] at hy; subst hy
        exact ⟨Or.inr rfl, rfl, aN, by show a ≠ c; omega, rfl, Nat.le_refl 1, w20, ta⟩
      · rw [N_give, N_ne (by omega), N_ne (by omega), n2 F j (by omega) h2]
      · rw [N_give, N_ne (by omega), N_ne (by omega), n5]; split <;> omega
      · rw [N_give, N_ne (by omega), N_eq]; omega
      · rw [N_give, N_eq]; exact Nat.two_pow_pos _
      · rw [N_give, N_ne (by omega), N_ne (by omega), n10]; omega
      · rw [N_give, N_ne (by omega), N_eq] at h; omega
      · rw [N_give, N_ne (by omega), N_ne (by omega)] at h
        exact g3 _ rfl h
      · refine LI_eq (LI_ackM (c := c) (a := a) (T' := T') (Bt' := fun _ => false) LIl t511 d1 ha a16 e9 (nd T' 8 _ rfl rfl hT hT0) (fun _ => rfl)) (fun _ => rfl) (fun _ => rfl) (fun _ => rfl) (fun _ => rfl) (fun _ => rfl) (fun _ => rfl) (fun d => by rw [N_give, N_eq, Nat.zero_testBit]) rfl (by rw [N_give, N_ne (by omega), N_eq]) (by rw [N_give, N_ne (by omega), N_ne (by omega), n8]) (by rw [N_give, N_ne (by omega), N_ne (by omega), n10]; omega) (by rw [N_give, N_ne (by omega), N_ne (by omega), n9])
    · rw [if_neg e9]
      have gf := fgs d1 ne17 (by omega)
      have ho := (ffi gf).2
      rw [ho, ha, Nat.add_sub_cancel, Nat.add_sub_cancel]
      have p2 : 2 ^ c < 2 ^ N s 0 0 := Nat.pow_lt_pow_right (by omega) (by omega)
      have p3 : 2 ^ a < 2 ^ N s 0 0 := Nat.pow_lt_pow_right (by omega) aN
      refine IV_ackG (Ls := [(6, 16, a, l, 1, Wda s2 0 l)]) I0 hk hi (by rw [hxe]; exact hx) (by show Pl s2 ++ [_] = _; rw [P2]; rfl) Q2 ⟨rfl, trivial⟩ (fun y hy => ?_) (fun F j h1 h2 => ?_) W2 ⟨?_, ?_, ?_, ?_⟩ (fun _ => flat d1) (fun h => ?_) (fun _ => flat d1) (fun T' hT hT0 => ?_)
      · rw [List.mem_singleton] at hy; subst hy
        exact ⟨Or.inl rfl, rfl, aN, by show a ≠ c; omega, rfl, Nat.le_refl 1, w20, ta⟩
      · show N (sGive _ _ _ _) F j = _
        rw [N_give, N_ne (by omega), N_ne (by omega), n2 F j (by omega) h2]
      · show N (sGive _ _ _ _) 5 k ≤ 1
        rw [N_give, N_ne (by omega), N_ne (by omega), n5]; split <;> omega
      · show N (sGive _ _ _ _) 6 k ≤ _
        rw [N_give, N_eq]; omega
      · show N (sGive _ _ _ _) 7 k < _
        rw [N_give, N_ne (by omega), N_eq]; exact Nat.or_lt_two_pow p2 p3
      · show N (sGive _ _ _ _) 10 k ≤ _
        rw [N_give, N_ne (by omega), N_ne (by omega), n10]; omega
      · have h' : N (sGive (uN (uN s2 7 k (2 ^ c ||| 2 ^ a)) 6 k 0) 6 a l) 5 k = 0 := h
        rw [N_give, N_ne (by omega), N_ne (by omega)] at h'
        exact g3 _ rfl h'
      · refine LI_eq (LI_ackS (c := c) (a := a) (T' := T') (Bt' := fun d => (2 ^ c ||| 2 ^ a).testBit d) LIl t511 d1 ha a16 (by omega) (nd T' 6 _ rfl rfl hT hT0) (fun d => ?_)) (fun _ => rfl) (fun _ => rfl) (fun _ => rfl) (fun _ => rfl) (fun _ => rfl) (fun _ => rfl) (fun d => by show (N (sGive _ _ _ _) 7 k).testBit d = _; rw [N_give, N_ne (by omega), N_eq]) rfl (by show N (sGive _ _ _ _) 6 k = 0; rw [N_give, N_eq]) (by show N (sGive _ _ _ _) 8 k = _; rw [N_give, N_ne (by omega), N_ne (by omega), n8]) (by show N (sGive _ _ _ _) 10 k = 0; rw [N_give, N_ne (by omega), N_ne (by omega), n10]; omega) (by show N (sGive _ _ _ _) 9 k = _; rw [N_give, N_ne (by omega), N_ne (by omega), n9])
        rw [tb_or, Nat.testBit_two_pow]
        simp only [decide_eq_true_eq]
        constructor
        · rintro (g | g)
          · exact Or.inl g.symm
          · exact Or.inr g
        · rintro (g | g)
          · exact Or.inl g.symm
          · exact Or.inr g
