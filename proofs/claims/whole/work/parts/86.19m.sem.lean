/-- no tokens at a line whose way is about nothing -/
theorem idle_mm {s : St} {b e l k : Nat} (I : IVe s b e) (hk : hWay s l = some k) (hl : l < 512) (h8 : N s 8 k = 0) : (∀ d, d < 16 → mm s (32 + 16 * l + d) = none) ∧ (∀ d, tk s l d = 0) ∧ N s 10 k = 0 := by
  obtain ⟨⟨B, hb⟩, ⟨L, W4'⟩, M, LL, _⟩ := I
  have hx : vX s l = 1 := by unfold vX; rw [hk]
  have hA : hv s l 8 = 0 := by unfold hv; rw [hk]; exact h8
  have hD : hv s l 10 = N s 10 k := by unfold hv; rw [hk]
  obtain ⟨z1, z2⟩ := (LL l hl).2.2.2.2.2.2.2.1 hx hA
  refine ⟨fun d hd => ?_, z2, by rw [← hD]; exact z1⟩
  have := z2 d
  unfold tk at this
  rw [if_pos hd] at this
  cases e : mm s (32 + 16 * l + d) with
  | none => rfl
  | some x =>
    rw [e] at this
    obtain ⟨h1, h2⟩ := mm_some e
    exact absurd this (tcode_ne (key_inv (M.2.1 x h1) B.1.2 hd h2).1)
theorem LI_of {s : St} {b e l k : Nat} (I : IVe s b e) (hk : hWay s l = some k) (hl : l < 512) : LI (tk s l) (vS s l) (vR s) (vF s) (N s 14) (vU s) (fun d => (N s 7 k).testBit d) 1 (N s 6 k) (N s 8 k) (N s 10 k) (N s 9 k) l := by
  obtain ⟨_, _, _, LL, _⟩ := I
  have h := LL l hl
  unfold LIs vX vB hv at h
  rw [hk] at h
  exact h
theorem bit_lt {n m d : Nat} (h : n < 2 ^ m) (hd : n.testBit d = true) : d < m := by
  refine Classical.byContradiction (fun e => ?_)
  have : n.testBit d = false := Nat.testBit_lt_two_pow (Nat.lt_of_lt_of_le h (Nat.pow_le_pow_right (by omega) (by omega)))
  rw [this] at hd; cases hd
theorem no_bit {n : Nat} (h : n ≠ 0) : ∃ d, n.testBit d = true := by
  refine Classical.byContradiction (fun e => h ?_)
  refine Nat.eq_of_testBit_eq (fun i => ?_)
  rw [Nat.zero_testBit]
  cases g : n.testBit i with
  | false => rfl
  | true => exact absurd ⟨i, g⟩ e
/-- a RECALL begins -/
theorem IV_recall {s : St} {b l k : Nat} (I : IV s b) (hk : hWay s l = some k) (hl : l < 512) (h8 : N s 8 k = 0) (hh : ¬ (N s 6 k = 0 ∧ N s 7 k = 0)) : IV (sRecall s k) b := by
  have I0 := I
  obtain ⟨im, it, i10⟩ := idle_mm I0 hk hl h8
  have LIl := LI_of I0 hk hl
  obtain ⟨⟨B, hb⟩, ⟨L, W4'⟩, M, LL, Rg, Q, W, D, O1, O2, O3, O4, O5, O6, O7, O8⟩ := I
  obtain ⟨d1, d2, d3, d4, d5, d6, d7⟩ := D
  obtain ⟨k512, k4⟩ := (hWay_iff B W4').mp hk
  obtain ⟨c6, c7⟩ := Rg.2.2.1 k k512 (by omega)
  obtain ⟨_, _, _, _, r5, r6, r7, r8, r9, r10, _⟩ := Rg.1 k k512
  have e16 : sRecall s k = sCall (uN (uN (uN s 20 0 (N s 20 0 + 1)) 8 k 17) 10 k 0) k l 0 0 16 := by
    unfold sRecall
    rw [k4, Nat.add_sub_cancel]
    exact (sCall_16 (s := uN (uN (uN s 20 0 (N s 20 0 + 1)) 8 k 17) 10 k 0) B.1.2 c6 c7).symm
  generalize hs1 : uN (uN (uN s 20 0 (N s 20 0 + 1)) 8 k 17) 10 k 0 = s1 at *
  have n1 : ∀ F j, ¬ ((F = 8 ∨ F = 10) ∧ j = k) → F ≠ 20 → N s1 F j = N s F j := by
    intro F j h1 h2; rw [← hs1, N_ne (by omega), N_ne (by omega), N_ne (by omega)]
  have s18 : N s1 8 k = 17 := by rw [← hs1, N_ne (by omega), N_eq]
  have s110 : N s1 10 k = 0 := by rw [← hs1, N_eq]
  have P1 : Pl s1 = Pl s := by rw [← hs1]; rfl
  have Q1 : Ql s1 = Ql s := by rw [← hs1]; rfl
  have Z1 : Z s1 = Z s := by unfold Z; rw [P1, Q1]
  have W1 : ∀ F j, Wda s1 F j = Wda s F j := by rw [← hs1]; exact fun _ _ => rfl
  have m1 : ∀ κ, mm s1 κ = mm s κ := fun κ => by unfold mm; rw [Z1]
  have t1 : ∀ l' d, tk s1 l' d = tk s l' d := fun l' d => tk_mm (m1 _)
  obtain ⟨cP, c10⟩ := sCall_L k l 0 16 s1 0
  rw [← e16] at cP c10
  have cN : ∀ F j, ¬ (F = 10 ∧ j = k) → N (sRecall s k) F j = N s1 F j := fun F j h => by rw [e16]; exact sCall_N _ _ _ _ _ _ _ _ h
  have cW : ∀ F j, Wda (sRecall s k) F j = Wda s F j := fun F j => by rw [e16, sCall_W, W1]
  have cQ : Ql (sRecall s k) = Ql s1 := by rw [e16, sCall_Q]
  have n6 : N s1 6 k = N s 6 k := n1 6 k (by omega) (by omega)
  have n7 : N s1 7 k = N s 7 k := n1 7 k (by omega) (by omega)
  obtain ⟨a1, a2, a3, a4, a5, a6, a7⟩ := tk_cL (s := s1) (t := sRecall s k) (k := k) (l := l) (sp := 0) (by rw [Z1]; exact M.1) cP cQ (fun d hd => by rw [m1]; exact im d hd) (by rw [n6]; omega) (by rw [n7]; omega)
  have cldE : ∀ d, cld s1 k 0 d ↔ N s 6 k = d + 1 ∨ (N s 7 k).testBit d = true := by
    intro d; unfold cld; rw [n6, n7]; exact ⟨fun g => g.2, fun g => ⟨by omega, g⟩⟩
  have t10 : N (sRecall s k) 10 k = cn (tk (sRecall s k) l) 16 := by rw [c10, s110, a7]; omega
  have cnz : cn (tk (sRecall s k) l) 16 ≠ 0 := by
    intro z
    have z' := cn_zero.mp z
    apply hh
    constructor
    · by_cases e : N s 6 k = 0
      · exact e
      · have := a5 (N s 6 k - 1) ((cldE _).mpr (Or.inl (by omega)))
        have := z' (N s 6 k - 1) (by omega)
        omega
    · by_cases e : N s 7 k = 0
      · exact e
      · obtain ⟨d, hd⟩ := no_bit e
        have := a5 d ((cldE _).mpr (Or.inr hd))
        have := z' d (by have := bit_lt (m := 16) r7 hd; omega)
        omega
  have u' : ∀ d, vU (sRecall s k) d = vU s d := by
    intro d
    by_cases g : d < 16
    · exact vU_mm (by rw [a3 _ (fun d' _ => by omega), m1])
    · unfold vU; rw [if_neg g, if_neg g]
  have c8' : N (sRecall s k) 8 k = 17 := (cN 8 k (by omega)).trans s18
  have c6' : N (sRecall s k) 6 k = N s 6 k := (cN 6 k (by omega)).trans n6
  have c7' : N (sRecall s k) 7 k = N s 7 k := (cN 7 k (by omega)).trans n7
  have c9' : N (sRecall s k) 9 k = N s 9 k := (cN 9 k (by omega)).trans (n1 9 k (by omega) (by omega))
  refine IV_line (k := k) (l := l) I0 (Or.inl rfl) hk hl (fun F j h1 h2 h3 h4 h5 => ?_) ⟨a1, fun y hy => ?_, by rw [cQ, Q1]; exact M.2.2⟩ (fun l' d h => by rw [a4 l' d h, t1]) (fun d _ => by rw [u']) (fun d h => by rw [u'] at h; exact h) ?_ ⟨?_, ?_, ?_, ?_, ?_, ?_⟩ (fun y hy => ?_) (fun F j _ => cW F j) (fun h => ?_) (fun h => ?_) (fun y hy => ?_) (fun c h => ?_) (Or.inl ⟨rfl, ?_, ?_, ?_, ?_⟩) ?_
  · rw [cN F j (by omega), n1 F j (by omega) (by omega)]
  · have b0 : N (sRecall s k) 0 0 = N s 0 0 := by rw [cN 0 0 (by omega), n1 0 0 (by omega) (by omega)]
    rw [b0]
    rcases (a2 y).mp hy with g | g
    · rw [Z1] at g; exact M.2.1 y g
    · obtain ⟨d, g1, g2, g3, rfl⟩ := (cL_mem 16 0 y).mp g
      refine ⟨hl, Nat.zero_le 1, Or.inr ⟨Or.inl rfl, rfl, ?_⟩⟩
      show d < N s 0 0
      rcases (cldE d).mp g3 with g | g
      · omega
      · exact bit_lt c7 g
  · rw [c8', t10, c6', c9']
    refine LI_eq (LI_recall (T' := tk (sRecall s k) l) LIl rfl h8 (by omega) (fun d g => by have := bit_lt (m := 16) r7 g; omega) cnz (fun d => ?_)) (fun _ => rfl) (fun _ => rfl) (fun _ => rfl) (fun _ => rfl) (fun _ => rfl) u' (fun d => by rw [c7']) rfl rfl rfl rfl rfl
    by_cases g : N s 6 k = d + 1 ∨ (N s 7 k).testBit d = true
    · rw [if_pos g]; exact a5 d ((cldE d).mpr g)
    · rw [if_neg g, it d]; exact a6 d (fun w => g ((cldE d).mp w))
  · rw [cN 5 k (by omega), n1 5 k (by omega) (by omega)]; omega
  · rw [c6']; exact c6
  · rw [c7']; exact c7
  · rw [c8']; omega
  · rw [c9']; omega
  · rw [t10]
    have : ∀ n, cn (tk (sRecall s k) l) n ≤ n := by
      intro n
      induction n with
      | zero => exact Nat.le_refl _
      | succ n ih => unfold cn; split <;> omega
    exact this 16
  · rcases (a2 y).mp hy with g | g
    · rw [Z1] at g
      refine Or.inl ⟨g, fun h1 h2 => ?_⟩
      rw [c8'] at h2
      have := (M.2.1 y g).2.2
      have := B.1.2
      omega
    · obtain ⟨d, g1, g2, g3, rfl⟩ := (cL_mem 16 0 y).mp g
      exact Or.inr ⟨by show 2 ≤ 3; omega, by show 3 ≠ 2; omega, fun h => by have : 3 = 9 := h; omega⟩
  · rw [c6'] at h; rw [cW]; exact d1 l k hk h
  · rw [cN 5 k (by omega), n1 5 k (by omega) (by omega)] at h; rw [cW]; exact d3 l k hk h
  · rcases (a2 y).mp hy with g | g
    · rw [Z1] at g; exact Or.inl g
    · obtain ⟨d, g1, g2, g3, rfl⟩ := (cL_mem 16 0 y).mp g
      exact Or.inr ⟨by show 3 ≠ 2; omega, by show 3 ≠ 5; omega, fun h => by have : 3 = 6 ∨ 3 = 7 ∨ 3 = 8 := h; omega⟩
  · exfalso
    by_cases g : cld s1 k 0 c
    · rw [a5 c g] at h; omega
    · rw [a6 c g] at h; omega
  · rw [cN 11 k (by omega), n1 11 k (by omega) (by omega)]
  · rw [cN 23 k (by omega), n1 23 k (by omega) (by omega)]
  · rw [cN 17 0 (by omega), n1 17 0 (by omega) (by omega)]
  · rw [cN 24 0 (by omega), n1 24 0 (by omega) (by omega)]
  · have : cn (vQ (sRecall s k)) 16 = cn (vQ s) 16 := cn_congr (fun d hd => by
      have e : mm (sRecall s k) d = mm s d := by rw [a3 _ (fun d' _ => by omega), m1]
      unfold vQ; rw [e])
    rw [this, cN 17 0 (by omega), n1 17 0 (by omega) (by omega)]; exact O6
