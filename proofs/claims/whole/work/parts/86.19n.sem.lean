/-- a request is taken: its message leaves the queue -/
theorem take_mm {s : St} {b e i : Nat} (I : IVe s b e) (hi : i < (Ql s).length) : nk (Z (uQ s ((Ql s).eraseIdx i))) ∧ (∀ κ, mm (uQ s ((Ql s).eraseIdx i)) κ = if κ = key ((Ql s).getD i x0) then none else mm s κ) ∧ (∀ y, y ∈ Z (uQ s ((Ql s).eraseIdx i)) → y ∈ Z s ∧ key y ≠ key ((Ql s).getD i x0)) ∧ (Ql s).getD i x0 ∈ Z s := by
  obtain ⟨_, _, M, _⟩ := I
  exact ⟨nk_take M.1 i, fun κ => mm_take M.1 hi κ, fun y hy => (Z_take M.1 hi y).mp hy, List.mem_append_right _ (getD_mem hi)⟩
theorem cn_le (T : Nat → Nat) (n : Nat) : cn T n ≤ n := by
  induction n with
  | zero => exact Nat.le_refl _
  | succ n ih => unfold cn; split <;> omega
/-- what every taking of a request has in common: u is what it leads to but for the queue -/
theorem IV_get {s u : St} {b e l k c i kd : Nat} (I : IVe s b e) (he : e = 512 ∨ e = k) (hk : hWay s l = some k) (hl : l < 512) (h8 : N s 8 k = 0) (hi : i < (Ql s).length) (hx : (Ql s).getD i x0 = (kd, c, 16, l, 0, w0) ∨ (mKi ((Ql s).getD i x0) = kd ∧ mFr ((Ql s).getD i x0) = c ∧ mLi ((Ql s).getD i x0) = l)) (hkd : kd ≤ 1)
    {Ls : List Msg} (uP : Pl u = Pl s ++ Ls) (uQ' : Ql u = Ql s) (nL : nk Ls) (hL : ∀ y, y ∈ Ls → (mKi y = 3 ∨ mKi y = 4 ∨ mKi y = 6 ∨ mKi y = 7 ∨ mKi y = 8) ∧ mFr y = 16 ∧ mTo y < N s 0 0 ∧ mLi y = l ∧ mFi y ≤ 1 ∧ (mKi y = 6 ∨ mKi y = 7 ∨ mKi y = 8 → mWo y = Wda s 0 l))
    (un : ∀ F j, ¬ ((5 ≤ F ∧ F ≤ 11 ∨ F = 23) ∧ j = k) → F ≠ 17 → F ≠ 24 → N u F j = N s F j) (u8 : N u 8 k = c + 1) (u5 : N u 5 k = N s 5 k) (u17 : N u 17 0 = N s 17 0 + 1) (u24 : N u 24 0 = N s 24 0 + 1) (u11 : N u 11 k = N u 17 0) (u23 : N u 23 k = N u 24 0) (uW' : ∀ F j, Wda u F j = Wda s F j)
    (rn : N u 6 k ≤ N s 0 0 ∧ N u 7 k < 2 ^ N s 0 0 ∧ N u 9 k ≤ 1 ∧ N u 10 k ≤ 16)
    (d1 : N u 6 k = 0 → N s 6 k = 0) (d7 : ∀ y, y ∈ Ls → mKi y = 7 ∨ mKi y = 8 → N s 6 k = 0)
    (li : ∀ (T' : Nat → Nat), (∀ d, d < 16 → (T' d = match ak (32 + 16 * l + d) Ls with | some y => tcode y | none => 0)) → (∀ d, ¬ d < 16 → T' d = 0) → vR s c = l + 1 → c < 16 → c < N s 0 0 → (∀ d, tk s l d = 0) → LI T' (vS s l) (vR s) (vF s) (N s 14) (vU s) (fun d => (N u 7 k).testBit d) 1 (N u 6 k) (N u 8 k) (N u 10 k) (N u 9 k) l) :
    IV (uQ u ((Ql s).eraseIdx i)) b := by
  have I0 := I
  obtain ⟨im, it, i10⟩ := idle_mm I0 hk hl h8
  obtain ⟨a1, a2, a3, a4⟩ := take_mm I0 hi
  obtain ⟨⟨B, hb⟩, ⟨L, W4'⟩, M, LL, Rg, Q, W, D, O1, O2, O3, O4, O5, O6, O7, O8⟩ := I
  obtain ⟨q1, q2, q3, q4, q5, q6, q7⟩ := D
  have xk : mKi ((Ql s).getD i x0) = kd ∧ mFr ((Ql s).getD i x0) = c ∧ mLi ((Ql s).getD i x0) = l := by
    rcases hx with g | g
    · rw [g]; exact ⟨rfl, rfl, rfl⟩
    · exact g
  have xw := M.2.1 _ a4
  have hc : c < N s 0 0 := by obtain ⟨_, _, g⟩ := xw; omega
  have c16 : c < 16 := by have := B.1.2; omega
  have xkey : key ((Ql s).getD i x0) = c := by unfold key; rw [if_pos (by omega)]; exact xk.2.1
  have xr := (Q _ a4).1 (by omega)
  rw [xk.2.1, xk.2.2] at xr
  have vrc : vR s c = l + 1 := by unfold vR; rw [if_pos c16]; exact xr.1
  generalize hs1 : uQ s ((Ql s).eraseIdx i) = s1 at *
  have P1 : Pl s1 = Pl s := by rw [← hs1]; rfl
  have Q1 : Ql s1 = (Ql s).eraseIdx i := by rw [← hs1]; rfl
  have isPL : ∀ y, y ∈ Ls → isP y ∧ pc y = mTo y ∧ mTo y < 16 ∧ key y = 32 + 16 * l + mTo y := by
    intro y hy
    obtain ⟨g1, g2, g3, g4, _⟩ := hL y hy
    have p : isP y := by unfold isP; omega
    have p2 : pc y = mTo y := by unfold pc; rw [if_neg (by omega)]
    have := B.1.2
    exact ⟨p, p2, by omega, by rw [key_p p, p2, g4]⟩
  obtain ⟨b1, b2, b3⟩ := mm_list (s := s1) (t := uQ u ((Ql s).eraseIdx i)) (Ls := Ls) a1 (by rw [P1]; exact uP) (by rw [Q1]; rfl) nL (fun y hy => by
    obtain ⟨g1, g2, g3, g4⟩ := isPL y hy
    rw [a2, g4, if_neg (by rw [xkey]; omega)]
    exact im _ g3)
  have noL : ∀ κ, (∀ d, d < 16 → κ ≠ 32 + 16 * l + d) → ak κ Ls = none := by
    intro κ hκ
    rw [ak_none]
    intro y hy e
    obtain ⟨g1, g2, g3, g4⟩ := isPL y hy
    exact hκ _ g3 (by rw [← e, g4])
  have mo : ∀ κ, (∀ d, d < 16 → κ ≠ 32 + 16 * l + d) → mm (uQ u ((Ql s).eraseIdx i)) κ = if κ = c then none else mm s κ := by
    intro κ hκ
    rw [b2, noL κ hκ]
    show mm s1 κ = _
    rw [a2, xkey]
  have tkl : ∀ d, d < 16 → tk (uQ u ((Ql s).eraseIdx i)) l d = match ak (32 + 16 * l + d) Ls with | some y => tcode y | none => 0 := by
    intro d hd
    unfold tk
    rw [if_pos hd, b2]
    cases e : ak (32 + 16 * l + d) Ls with
    | some y => rfl
    | none =>
      show (match mm s1 (32 + 16 * l + d) with | none => 0 | some x => tcode x) = 0
      rw [a2, xkey, if_neg (by omega), im d hd]
  have tkl0 : ∀ d, ¬ d < 16 → tk (uQ u ((Ql s).eraseIdx i)) l d = 0 := fun d hd => by unfold tk; rw [if_neg hd]
  have lit := li (tk (uQ u ((Ql s).eraseIdx i)) l) tkl tkl0 vrc c16 hc it
  have tvu : ∀ d, vU (uQ u ((Ql s).eraseIdx i)) d = vU s d := by
    intro d
    by_cases g : d < 16
    · exact vU_mm (by rw [mo _ (fun d' _ => by omega), if_neg (by omega)])
    · unfold vU; rw [if_neg g, if_neg g]
  refine IV_line (k := k) (l := l) I0 he hk hl (fun F j h1 h2 h3 h4 h5 => ?_) ⟨b1, fun y hy => ?_, fun y hy => ?_⟩ (fun l' d h => ?_) (fun d _ => by rw [tvu]) (fun d h => by rw [tvu] at h; exact h) (LI_eq lit (fun _ => rfl) (fun _ => rfl) (fun _ => rfl) (fun _ => rfl) (fun _ => rfl) tvu (fun _ => rfl) rfl rfl rfl rfl rfl) ⟨?_, rn.1, rn.2.1, ?_, rn.2.2.1, rn.2.2.2⟩ (fun y hy => ?_) (fun F j _ => uW' F j) (fun h => ?_) (fun h => ?_) (fun y hy => ?_) (fun d h => ?_) (Or.inr ⟨u17, u24, u11, u23⟩) ?_
  · exact un F j h1 h2 h5
  · have e0 : N (uQ u ((Ql s).eraseIdx i)) 0 0 = N s 0 0 := un 0 0 (by omega) (by omega) (by omega)
    rw [e0]
    rcases (b3 y).mp hy with g | g
    · exact M.2.1 y (a3 y g).1
    · obtain ⟨g1, g2, g3, g4, g5, _⟩ := hL y g
      exact ⟨by rw [g4]; exact hl, g5, Or.inr ⟨by omega, g2, g3⟩⟩
  · exact M.2.2 y (List.mem_of_mem_eraseIdx hy)
  · by_cases g : d < 16
    · exact tk_mm (by rw [mo _ (fun d' _ => by omega), if_neg (by omega)])
    · unfold tk; rw [if_neg g, if_neg g]
  · show N u 5 k ≤ 1
    rw [u5]; exact (Rg.1 k ((hWay_iff B W4').mp hk).1).2.2.2.2.1
  · show N u 8 k ≤ 17
    rw [u8]; omega
  · rcases (b3 y).mp hy with g | g
    · obtain ⟨g1, g2⟩ := a3 y g
      refine Or.inl ⟨g1, fun h1 h2 => ?_⟩
      have h2' : N u 8 k = mFr y + 1 := h2
      exfalso
      apply g2
      rw [xkey]; unfold key; rw [if_pos h1]; omega
    · obtain ⟨g1, g2, g3, g4, g5, _⟩ := hL y g
      exact Or.inr ⟨by omega, by omega, fun h => by omega⟩
  · rw [uW' |> fun h => (show Wda (uQ u ((Ql s).eraseIdx i)) 2 k = Wda s 2 k from h 2 k)]
    exact q1 l k hk (d1 h)
  · have h' : N u 5 k = 0 := h
    rw [u5] at h'
    rw [show Wda (uQ u ((Ql s).eraseIdx i)) 2 k = Wda s 2 k from uW' 2 k]
    exact q3 l k hk h'
  · rcases (b3 y).mp hy with g | g
    · exact Or.inl (a3 y g).1
    · obtain ⟨g1, g2, g3, g4, g5, g6⟩ := hL y g
      exact Or.inr ⟨by omega, by omega, by rw [g4]; exact g6⟩
  · rw [show Wda (uQ u ((Ql s).eraseIdx i)) 2 k = Wda s 2 k from uW' 2 k]
    by_cases g : d < 16
    · rw [tkl d g] at h
      cases e : ak (32 + 16 * l + d) Ls with
      | none =>
        rw [e] at h
        have h' : (0 : Nat) = 7 ∨ (0 : Nat) = 8 := h
        omega
      | some y =>
        rw [e] at h
        obtain ⟨y1, y2⟩ := ak_some e
        obtain ⟨g1, _⟩ := hL y y1
        have ht : tcode y = mKi y := by unfold tcode; rw [if_neg (by omega)]
        exact q1 l k hk (d7 y y1 (by rw [← ht]; exact h))
    · rw [tkl0 d g] at h; omega
  · have ev : cn (vQ s) 16 = cn (vQ (uQ u ((Ql s).eraseIdx i))) 16 + 1 := by
      refine cn_del (c := c) c16 ?_ ?_ (fun d hd => ?_)
      · unfold vQ
        rw [if_pos ⟨c16, by
          have := mm_mem M.1 a4
          rw [xkey] at this
          rw [this]; simp⟩]; omega
      · unfold vQ
        rw [if_neg]
        rintro ⟨_, g⟩
        apply g
        rw [mo _ (fun d' _ => by omega), if_pos rfl]
      · by_cases g : d < 16
        · have e : mm (uQ u ((Ql s).eraseIdx i)) d = mm s d := by rw [mo _ (fun d' _ => by omega), if_neg hd]
          unfold vQ; rw [e]
        · unfold vQ; rw [if_neg (fun w => g w.1), if_neg (fun w => g w.1)]
    show N u 17 0 + _ ≤ b
    rw [u17]; omega
