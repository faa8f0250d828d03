/-- an ACK that ends no RECALL: u is what it leads to -/
theorem IV_ackG {s u : St} {b l k c i : Nat} (I : IV s b) (hk : hWay s l = some k) (hi : i < (Pl s).length) (hx : mKi ((Pl s).getD i x0) = 5 ∧ mFr ((Pl s).getD i x0) = c ∧ mLi ((Pl s).getD i x0) = l)
    {Ls : List Msg} (uP : Pl u = Pl (sOut s i) ++ Ls) (uQ' : Ql u = Ql s) (nL : nk Ls) (hL : ∀ y, y ∈ Ls → (mKi y = 6 ∨ mKi y = 8) ∧ mFr y = 16 ∧ mTo y < N s 0 0 ∧ mTo y ≠ c ∧ mLi y = l ∧ mFi y ≤ 1 ∧ mWo y = Wda s 0 l ∧ tk s l (mTo y) = 0)
    (un : ∀ F j, ¬ ((F = 5 ∨ F = 6 ∨ F = 7 ∨ F = 10) ∧ j = k) → F ≠ 18 → N u F j = N s F j) (uW' : ∀ F j, F ≠ 2 ∨ j ≠ k → Wda u F j = Wda s F j)
    (rn : N u 5 k ≤ 1 ∧ N u 6 k ≤ N s 0 0 ∧ N u 7 k < 2 ^ N s 0 0 ∧ N u 10 k ≤ 16)
    (d1 : N u 6 k = 0 → Wda u 2 k = Wda s 0 l) (d3 : N u 5 k = 0 → Wda u 2 k = Wda s 1 l) (d7 : Ls ≠ [] → Wda u 2 k = Wda s 0 l)
    (li : ∀ (T' : Nat → Nat), (∀ d, d < 16 → (T' d = match ak (32 + 16 * l + d) Ls with | some y => tcode y | none => if d = c then 0 else tk s l d)) → (∀ d, ¬ d < 16 → T' d = 0) → LI T' (vS s l) (vR s) (vF s) (N s 14) (vU s) (fun d => (N u 7 k).testBit d) 1 (N u 6 k) (N u 8 k) (N u 10 k) (N u 9 k) l) :
    IV u b := by
  have I0 := I
  obtain ⟨⟨B, hb⟩, ⟨L, W4'⟩, M, LL, Rg, Q, W, D, O1, O2, O3, O4, O5, O6, O7, O8⟩ := I
  obtain ⟨q1, q2, q3, q4, q5, q6, q7⟩ := D
  obtain ⟨k512, k4⟩ := (hWay_iff B W4').mp hk
  have xm : (Pl s).getD i x0 ∈ Z s := List.mem_append_left _ (getD_mem hi)
  have xw := M.2.1 _ xm
  have hl : l < 512 := by rw [← hx.2.2]; exact xw.1
  have hc : c < N s 0 0 := by obtain ⟨_, _, g⟩ := xw; omega
  have c16 : c < 16 := by have := B.1.2; omega
  have xp : isP ((Pl s).getD i x0) := by unfold isP; omega
  have xpc : pc ((Pl s).getD i x0) = c := by unfold pc; rw [if_pos (Or.inl hx.1)]; exact hx.2.1
  have xkey : key ((Pl s).getD i x0) = 32 + 16 * l + c := by rw [key_p xp, xpc, hx.2.2]
  have isPL : ∀ y, y ∈ Ls → mTo y < 16 ∧ key y = 32 + 16 * l + mTo y := by
    intro y hy
    obtain ⟨g1, g2, g3, g4, g5, _⟩ := hL y hy
    have p : isP y := by unfold isP; omega
    have p2 : pc y = mTo y := by unfold pc; rw [if_neg (by omega)]
    have := B.1.2
    exact ⟨by omega, by rw [key_p p, p2, g5]⟩
  have nomm : ∀ d, d < 16 → tk s l d = 0 → mm s (32 + 16 * l + d) = none := by
    intro d hd h
    unfold tk at h
    rw [if_pos hd] at h
    cases e : mm s (32 + 16 * l + d) with
    | none => rfl
    | some x =>
      rw [e] at h
      obtain ⟨h1, h2⟩ := mm_some e
      exact absurd h (tcode_ne (key_inv (M.2.1 x h1) B.1.2 hd h2).1)
  obtain ⟨b1, b2, b3⟩ := mm_list (s := sOut s i) (t := u) (Ls := Ls) (nk_out M.1 i) uP uQ' nL (fun y hy => by
    obtain ⟨g1, g2, g3, g4, g5, g6, g7, g8⟩ := hL y hy
    obtain ⟨g9, g10⟩ := isPL y hy
    rw [mm_out M.1 hi, g10, xkey, if_neg (by omega)]
    exact nomm _ g9 g8)
  have a3 : ∀ y, y ∈ Z (sOut s i) → y ∈ Z s := fun y hy => ((Z_out M.1 hi y).mp hy).1
  have noL : ∀ κ, (∀ d, d < 16 → κ ≠ 32 + 16 * l + d) → ak κ Ls = none := by
    intro κ hκ
    rw [ak_none]
    intro y hy e
    obtain ⟨g9, g10⟩ := isPL y hy
    exact hκ _ g9 (by rw [← e, g10])
  have mo : ∀ κ, (∀ d, d < 16 → κ ≠ 32 + 16 * l + d) → mm u κ = mm s κ := by
    intro κ hκ
    rw [b2, noL κ hκ]
    show mm (sOut s i) κ = _
    rw [mm_out M.1 hi, xkey, if_neg (hκ c c16)]
  have tkl : ∀ d, d < 16 → tk u l d = match ak (32 + 16 * l + d) Ls with | some y => tcode y | none => if d = c then 0 else tk s l d := by
    intro d hd
    unfold tk
    rw [if_pos hd, if_pos hd, b2]
    cases e : ak (32 + 16 * l + d) Ls with
    | some y => rfl
    | none =>
      show (match mm (sOut s i) (32 + 16 * l + d) with | none => 0 | some x => tcode x) = _
      rw [mm_out M.1 hi, xkey]
      by_cases g : d = c
      · rw [if_pos (by omega), if_pos g]
      · rw [if_neg (by omega), if_neg g]
        cases mm s (32 + 16 * l + d) <;> rfl
  have tkl0 : ∀ d, ¬ d < 16 → tk u l d = 0 := fun d hd => by unfold tk; rw [if_neg hd]
  have lit := li (tk u l) tkl tkl0
  have tvu : ∀ d, vU u d = vU s d := by
    intro d
    by_cases g : d < 16
    · exact vU_mm (mo _ (fun d' _ => by omega))
    · unfold vU; rw [if_neg g, if_neg g]
  obtain ⟨_, _, _, _, r5, r6, r7, r8, r9, r10, _⟩ := Rg.1 k k512
  have tcx : tk s l c = 5 ∨ tk s l c = 11 := by
    have := tk_of M B xm xp
    rw [hx.2.2, xpc] at this
    rw [this]; unfold tcode; split
    · exact Or.inr rfl
    · exact Or.inl hx.1
  refine IV_line (k := k) (l := l) I0 (Or.inl rfl) hk hl (fun F j h1 h2 h3 h4 h5 => un F j (by omega) h3) ⟨b1, fun y hy => ?_, by rw [uQ']; exact M.2.2⟩ (fun l' d h => ?_) (fun d _ => by rw [tvu]) (fun d h => by rw [tvu] at h; exact h) (LI_eq lit (fun _ => rfl) (fun _ => rfl) (fun _ => rfl) (fun _ => rfl) (fun _ => rfl) tvu (fun _ => rfl) rfl rfl rfl rfl rfl) ⟨rn.1, rn.2.1, rn.2.2.1, ?_, ?_, rn.2.2.2⟩ (fun y hy => ?_) uW' d1 d3 (fun y hy => ?_) (fun d h => ?_) (Or.inl ⟨rfl, un 11 k (by omega) (by omega), un 23 k (by omega) (by omega), un 17 0 (by omega) (by omega), un 24 0 (by omega) (by omega)⟩) ?_
  · rw [un 0 0 (by omega) (by omega)]
    rcases (b3 y).mp hy with g | g
    · exact M.2.1 y (a3 y g)
    · obtain ⟨g1, g2, g3, g4, g5, g6, g7, g8⟩ := hL y g
      exact ⟨by rw [g5]; exact hl, g6, Or.inr ⟨by omega, g2, g3⟩⟩
  · by_cases g : d < 16
    · exact tk_mm (mo _ (fun d' _ => by omega))
    · unfold tk; rw [if_neg g, if_neg g]
  · rw [un 8 k (by omega) (by omega)]; exact r8
  · rw [un 9 k (by omega) (by omega)]; exact r9
  · rcases (b3 y).mp hy with g | g
    · refine Or.inl ⟨a3 y g, fun h1 h2 => ?_⟩
      rw [un 8 k (by omega) (by omega)] at h2
      -- the request of that core has been taken: its token would be DONE, not an answer
      have hA : hv s l 8 = mFr y + 1 := by unfold hv; rw [hk]; exact h2
      have hX : vX s l = 1 := by unfold vX; rw [hk]
      have t10 := ((Q y (a3 y g)).1 h1).2 l hX hA
      obtain ⟨_, _, _, _, hz, _⟩ := ph_g (LL l hl) (c := mFr y) (Or.inr (Or.inr (Or.inr t10)))
      exfalso
      by_cases e : c = mFr y
      · rw [e, t10] at tcx; omega
      · have := hz c e; omega
    · obtain ⟨g1, _⟩ := hL y g
      exact Or.inr ⟨by omega, by omega, fun h => by omega⟩
  · rcases (b3 y).mp hy with g | g
    · exact Or.inl (a3 y g)
    · obtain ⟨g1, g2, g3, g4, g5, g6, g7, g8⟩ := hL y g
      exact Or.inr ⟨by omega, by omega, fun _ => by rw [g5]; exact g7⟩
  · by_cases g : d < 16
    · rw [tkl d g] at h
      cases e : ak (32 + 16 * l + d) Ls with
      | none =>
        rw [e] at h
        have h' : (if d = c then 0 else tk s l d) = 7 ∨ (if d = c then 0 else tk s l d) = 8 := h
        exfalso
        split at h'
        · omega
        · -- a GIVE and an answer at once: no
          next g2 =>
          obtain ⟨_, _, _, _, hz, _⟩ := ph_g (LL l hl) (c := d) (by omega)
          have := hz c (fun w => g2 w.symm); omega
      | some y =>
        refine d7 ?_
        intro g2
        rw [g2] at e; cases e
    · rw [tkl0 d g] at h; omega
  · have : cn (vQ u) 16 = cn (vQ s) 16 := cn_congr (fun d hd => by
      have e : mm u d = mm s d := mo _ (fun d' _ => by omega)
      unfold vQ; rw [e])
    rw [this, un 17 0 (by omega) (by omega)]; exact O6
