/-- the last ACK of a RECALL -/
theorem IV_ackR {s : St} {b l k c i : Nat} (I : IV s b) (hi : i < (Pl s).length) (hx : mKi ((Pl s).getD i x0) = 5 ∧ mFr ((Pl s).getD i x0) = c ∧ mLi ((Pl s).getD i x0) = l) (hk : hWay s l = some k) (h10 : N s 10 k = 1) (h8 : N s 8 k = 17) : IV (sEnd (sAckD (sAckW (sOut s i) k ((Pl s).getD i x0)) k) k) b := by
  have I0 := I
  obtain ⟨hl, c16, ⟨k', ek', f10, f8, f8b, f8c, f8d, ffi, ffi0, fgs, f7⟩, tkx, xkey⟩ := ack_facts (k := k) I hi hx
  rw [hk] at ek'
  obtain rfl := Option.some.inj ek'
  have LIl := LI_of I0 hk hl
  obtain ⟨⟨B, hb⟩, ⟨L, W4'⟩, M, LL, Rg, Q, W, D, O1, O2, O3, O4, O5, O6, O7, O8⟩ := I
  obtain ⟨q1, q2, q3, q4, q5, q6, q7⟩ := D
  obtain ⟨k512, k4⟩ := (hWay_iff B W4').mp hk
  obtain ⟨c6, c7⟩ := Rg.2.2.1 k k512 (by omega)
  obtain ⟨_, _, _, _, r5, r6, r7, r8, r9, r10, _⟩ := Rg.1 k k512
  have b0 := B.1.2
  have xm : (Pl s).getD i x0 ∈ Z s := List.mem_append_left _ (getD_mem hi)
  have fi := (M.2.1 _ xm).2.1
  have words : mFi ((Pl s).getD i x0) = 1 → mWo ((Pl s).getD i x0) = Wda s 0 l := by
    intro g
    have := (q4 _ xm).2.1 hx.1 g
    rw [hx.2.2] at this; exact this
  have t511 : tk s l c = 5 ∨ tk s l c = 11 := by
    rw [tkx]; split
    · exact Or.inr rfl
    · exact Or.inl rfl
  generalize hs2 : sAckD (sAckW (sOut s i) k ((Pl s).getD i x0)) k = s2 at *
  generalize hxe : (Pl s).getD i x0 = x at *
  have n2 : ∀ F j, ¬ ((F = 5 ∨ F = 10) ∧ j = k) → F ≠ 18 → N s2 F j = N s F j := by
    intro F j h1 h2
    rw [← hs2]; unfold sAckD
    rw [N_ne (by omega)]
    unfold sAckW; split
    · rw [N_ne (by omega), N_uW, N_out _ _ _ _ h2]
    · rw [N_out _ _ _ _ h2]
  have n10 : N s2 10 k = N s 10 k - 1 := by
    rw [← hs2]; unfold sAckD; rw [N_eq, sAckW_N _ _ _ _ _ (by omega), N_out _ _ _ _ (by omega)]
  have n5 : N s2 5 k = if mFi x = 1 then 1 else N s 5 k := by
    rw [← hs2]; unfold sAckD; rw [N_ne (by omega)]; unfold sAckW; split
    · rw [N_eq]
    · rw [N_out _ _ _ _ (by omega)]
  have P2 : Pl s2 = Pl (sOut s i) := by rw [← hs2]; unfold sAckD sAckW; split <;> rfl
  have Q2 : Ql s2 = Ql s := by rw [← hs2]; unfold sAckD sAckW; split <;> rfl
  have W2 : ∀ F j, F ≠ 2 ∨ j ≠ k → Wda s2 F j = Wda s F j := by
    intro F j h; rw [← hs2]; unfold sAckD sAckW; split
    · show Wda (uW _ 2 k _) F j = _; rw [W_ne (by omega)]; rfl
    · rfl
  have W22 : Wda s2 2 k = if mFi x = 1 then Wda s 0 l else Wda s 2 k := by
    rw [← hs2]; unfold sAckD sAckW
    by_cases g : mFi x = 1
    · rw [if_pos g, if_pos g]
      show Wda (uW _ 2 k _) 2 k = _
      rw [uW_at]; exact words g
    · rw [if_neg g, if_neg g]; rfl
  have n4 : N s2 4 k = l + 1 := (n2 4 k (by omega) (by omega)).trans k4
  have flat : Wda s2 2 k = Wda s 0 l := by
    rw [W22]
    by_cases g2 : mFi x = 1
    · rw [if_pos g2]
    · rw [if_neg g2]; exact q1 l k hk (ffi0 h10 (by omega))
  generalize ht : sEnd s2 k = t
  have tn : ∀ F j, ¬ ((F = 4 ∨ F = 5 ∨ F = 6 ∨ F = 7 ∨ F = 8 ∨ F = 10) ∧ j = k) → F ≠ 18 → N t F j = N s F j := by
    intro F j h1 h2
    rw [← ht]; unfold sEnd
    rw [N_ne (by omega), N_ne (by omega), N_ne (by omega), N_ne (by omega), sWb_m, N_ne (by omega), sWm_N, n2 F j (by omega) h2]
  have t4k : N t 4 k = 0 := by rw [← ht]; unfold sEnd; rw [N_ne (by omega), N_ne (by omega), N_ne (by omega), N_eq]
  have t8k : N t 8 k = 0 := by rw [← ht]; unfold sEnd; rw [N_ne (by omega), N_ne (by omega), N_eq]
  have t6k : N t 6 k = 0 := by rw [← ht]; unfold sEnd; rw [N_ne (by omega), N_eq]
  have t7k : N t 7 k = 0 := by rw [← ht]; unfold sEnd; rw [N_eq]
  have t5k : N t 5 k = 0 := by rw [← ht]; unfold sEnd; rw [N_ne (by omega), N_ne (by omega), N_ne (by omega), N_ne (by omega), sWb_m, N_eq]
  have t10k : N t 10 k = 0 := by
    rw [← ht]; unfold sEnd
    rw [N_ne (by omega), N_ne (by omega), N_ne (by omega), N_ne (by omega), sWb_m, N_ne (by omega), sWm_N, n10, h10]
  have tP : Pl t = Pl (sOut s i) := by rw [← ht, ← P2]; unfold sEnd sWb; split <;> rfl
  have tQ : Ql t = Ql s := by rw [← ht, ← Q2]; unfold sEnd sWb; split <;> rfl
  have tZ : Z t = Z (sOut s i) := by unfold Z; rw [tP, tQ]; rfl
  have tZs : ∀ y, y ∈ Z t → y ∈ Z s := fun y hy => by rw [tZ] at hy; exact ((Z_out M.1 hi y).mp hy).1
  have tmm : ∀ κ, mm t κ = if κ = 32 + 16 * l + c then none else mm s κ := by
    intro κ
    have := mm_out M.1 hi κ
    rw [hxe, xkey] at this; unfold mm; rw [tZ]; exact this
  have tW : ∀ F j, F ≠ 1 → F ≠ 2 ∨ j ≠ k → Wda t F j = Wda s F j := by
    intro F j h h2
    rw [← ht]; unfold sEnd
    rw [W_uN, W_uN, W_uN, W_uN, sWb_m, W_uN, sWm_W _ _ _ _ h, W2 F j h2]
  have tW1 : ∀ j, j ≠ l → Wda t 1 j = Wda s 1 j := by
    intro j h
    rw [← ht]; unfold sEnd
    rw [W_uN, W_uN, W_uN, W_uN, sWb_m, W_uN]; unfold sWm; split
    · exact W2 1 j (by omega)
    · rw [W_ne (by omega)]; exact W2 1 j (by omega)
  have tW1l : Wda t 1 l = Wda s 0 l := by
    rw [← ht]; unfold sEnd
    rw [W_uN, W_uN, W_uN, W_uN, sWb_m, W_uN]; unfold sWm
    by_cases g : N s2 5 k = 0
    · rw [if_pos g, W2 1 l (by omega)]
      rw [n5] at g
      split at g
      · omega
      · next g2 => rw [← q3 l k hk g]; rw [W22, if_neg g2] at flat; exact flat
    · rw [if_neg g, n4, Nat.add_sub_cancel, uW_at]; exact flat
  have n := fun F j (h : F ≤ 3 ∨ (12 ≤ F ∧ F ≤ 14) ∨ F = 16 ∨ F = 21 ∨ F = 22) => tn F j (by omega) (by omega)
  have hset : ∀ l', hSet t l' = hSet s l' := by intro l'; unfold hSet; rw [tn 0 4 (by omega) (by omega)]
  have t4 : ∀ j, N t 4 j ≠ 0 → j ≠ k ∧ N t 4 j = N s 4 j := by
    intro j h
    have : j ≠ k := by rintro rfl; exact h t4k
    exact ⟨this, tn 4 j (by omega) (by omega)⟩
  have Wl' : Wl t := by
    refine ⟨fun j hj h => ?_, fun j j' hj hj' h h' => ?_⟩
    · obtain ⟨g1, g2⟩ := t4 j h
      rw [g2] at h ⊢
      rw [hset, tn 0 5 (by omega) (by omega)]; exact W4'.1 j hj h
    · obtain ⟨g1, g2⟩ := t4 j h
      obtain ⟨g3, g4⟩ := t4 j' (by rw [← h']; exact h)
      rw [g2] at h; rw [g2, g4] at h'
      exact W4'.2 j j' hj hj' h h'
  have t00 : ∀ j, N t 0 j = N s 0 j := fun j => tn 0 j (by omega) (by omega)
  have Bt : Bz t := by unfold Bz; simp only [t00]; exact B
  have hwv : hWay t l = none := by
    rw [hWay_no Bt Wl']
    intro j hj h
    obtain ⟨g1, g2⟩ := t4 j (by omega)
    rw [g2] at h
    exact g1 (W4'.2 j k hj k512 (by omega) (by omega))
  have hwo : ∀ l', l' ≠ l → hWay t l' = hWay s l' := by
    intro l' hl
    cases e : hWay s l' with
    | none =>
      rw [hWay_no Bt Wl']
      intro j hj h
      obtain ⟨g1, g2⟩ := t4 j (by omega)
      rw [g2] at h
      exact (hWay_no B W4').mp e j hj h
    | some j =>
      obtain ⟨j1, j2⟩ := (hWay_iff B W4').mp e
      refine (hWay_iff Bt Wl').mpr ⟨j1, ?_⟩
      rw [tn 4 j (by rintro ⟨_, rfl⟩; omega) (by omega)]; exact j2
  have hwk : ∀ l' j, l' ≠ l → hWay s l' = some j → j ≠ k := by
    rintro l' j h1 h2 rfl
    have := (hWay_iff B W4').mp h2; omega
  have thv : ∀ F l', F ≠ 18 → l' ≠ l → hv t l' F = hv s l' F := by
    intro F l' h0 h; unfold hv; rw [hwo l' h]
    cases e : hWay s l' with
    | none => rfl
    | some j => exact tn F j (fun g => hwk l' j h e g.2) h0
  have ttk : ∀ l' d, tk t l' d = if l' = l ∧ d = c then 0 else tk s l' d := by
    intro l' d
    by_cases g : d < 16
    · by_cases e : l' = l ∧ d = c
      · rw [if_pos e]; unfold tk; rw [if_pos g, tmm, if_pos (by omega)]
      · rw [if_neg e]; exact tk_mm (by rw [tmm, if_neg (by omega)])
    · unfold tk; rw [if_neg g, if_neg g, if_neg (by omega)]
  have tvu : ∀ d, vU t d = vU s d := by
    intro d
    by_cases g : d < 16
    · exact vU_mm (by rw [tmm, if_neg (by omega)])
    · unfold vU; rw [if_neg g, if_neg g]
  have vr : ∀ d, vR t d = vR s d := fun d => by unfold vR; rw [n 12 d (by omega)]
  have vf : ∀ d, vF t d = vF s d := fun d => by unfold vF; rw [n 13 d (by omega)]
  refine IV_home I0 n Wl' ⟨by rw [tZ]; exact nk_out M.1 i, fun y hy => by rw [tn 0 0 (by omega) (by omega)]; exact M.2.1 y (tZs y hy), by rw [tQ]; exact M.2.2⟩ (fun l' hl2 => ?_) (fun j hj => ?_) (fun y hy => ?_) (fun j => ⟨tW 0 j (by omega) (by omega), tW 3 j (by omega) (by omega), tW 4 j (by omega) (by omega)⟩) (fun d h => by rw [tvu] at h; exact h) (fun l' j hwj h => ?_) (fun l' hl2 hwn => ?_) (fun l' j hwj h => ?_) (fun y hy => ?_) (fun l' j d hwj h => ?_) ?_ ?_ ?_ ?_
  · unfold LIs
    by_cases e : l' = l
    · subst e
      have x0 : vX t l' = 0 := vX_0.mpr hwv
      have z : ∀ F, hv t l' F = 0 := fun F => by unfold hv; rw [hwv]
      rw [x0, z, z, z, z]
      refine LI_eq (LI_ackRecall (c := c) (T' := fun d => if d = c then 0 else tk s l' d) (Bt' := fun _ => false) (O' := 0) (A' := 0) (D' := 0) (K' := 0) LIl t511 h10 h8 (fun d hd => ?_) (fun _ => rfl) (fun _ => rfl) rfl) (fun d => ?_) (fun d => vS_c n l' d) vr vf (fun d => n 14 d (by omega)) tvu (fun d => by unfold vB; rw [z, Nat.zero_testBit]) rfl rfl rfl rfl rfl
      · refine Classical.byContradiction (fun g => ?_)
        have := Nat.testBit_lt_two_pow (x := N s 7 k) (i := d) (Nat.lt_of_lt_of_le r7 (show 2 ^ 16 ≤ 2 ^ d from Nat.pow_le_pow_right (by omega) (by omega)))
        rw [this] at hd; cases hd
      · rw [ttk]
        by_cases g : d = c
        · rw [if_pos ⟨rfl, g⟩]; show _ = if d = c then _ else _; rw [if_pos g]
        · rw [if_neg (fun w => g w.2)]; show _ = if d = c then _ else _; rw [if_neg g]
    · rw [show vX t l' = vX s l' from by unfold vX; rw [hwo l' e], thv 6 l' (by omega) e, thv 8 l' (by omega) e, thv 9 l' (by omega) e, thv 10 l' (by omega) e]
      exact LI_eq (LL l' hl2) (fun d => by rw [ttk, if_neg (fun g => e g.1)]) (fun d => vS_c n l' d) vr vf (fun d => n 14 d (by omega)) tvu (fun d => by unfold vB; rw [thv 7 l' (by omega) e]) rfl rfl rfl rfl rfl
  · obtain ⟨r1, r2, r3, r4, r5, r6, r7, r8, r9, r10, r11⟩ := IV_rn I0 j hj
    rw [tn 9 j (by omega) (by omega), tn 11 j (by omega) (by omega), tn 23 j (by omega) (by omega)]
    by_cases e : j = k
    · rw [e, t4k, t5k, t6k, t7k, t8k, t10k]
      rw [e] at r6 r8 r9
      exact ⟨by omega, by omega, by omega, by omega, by omega, r6, by omega, r8, r9, fun g => absurd rfl g, fun _ => rfl⟩
    · rw [tn 4 j (by omega) (by omega), tn 5 j (by omega) (by omega), tn 6 j (by omega) (by omega), tn 7 j (by omega) (by omega), tn 8 j (by omega) (by omega), tn 10 j (by omega) (by omega)]
      exact ⟨r1, r2, r3, r4, r5, r6, r7, r8, r9, r10, r11⟩
  · obtain ⟨z1, z2, z3⟩ := Q y (tZs y hy)
    rw [tn 12 _ (by omega) (by omega), tn 13 _ (by omega) (by omega), tn 13 _ (by omega) (by omega)]
    refine ⟨fun h => ⟨(z1 h).1, fun l' hX hA => ?_⟩, z2, z3⟩
    have e : l' ≠ l := by
      rintro rfl
      rw [vX_0.mpr hwv] at hX; omega
    rw [ttk, if_neg (fun g => e g.1)]
    refine (z1 h).2 l' ?_ ?_
    · rw [← hX]; unfold vX; rw [hwo l' e]
    · rw [← hA, thv 8 l' (by omega) e]
  · have e : l' ≠ l := by rintro rfl; rw [hwv] at hwj; cases hwj
    rw [hwo l' e] at hwj
    have jk := hwk l' j e hwj
    rw [tn 6 j (by omega) (by omega)] at h
    rw [tW 2 j (by omega) (by omega), tW 0 l' (by omega) (by omega)]; exact q1 l' j hwj h
  · rw [tW 0 l' (by omega) (by omega)]
    by_cases e : l' = l
    · subst e; exact tW1l
    · rw [hwo l' e] at hwn
      rw [tW1 l' e]; exact q2 l' hl2 hwn
  · have e : l' ≠ l := by rintro rfl; rw [hwv] at hwj; cases hwj
    rw [hwo l' e] at hwj
    have jk := hwk l' j e hwj
    rw [tn 5 j (by omega) (by omega)] at h
    rw [tW 2 j (by omega) (by omega), tW1 l' e]; exact q3 l' j hwj h
  · rw [tn 14 _ (by omega) (by omega), tW 0 _ (by omega) (by omega)]; exact q4 y (tZs y hy)
  · have e : l' ≠ l := by rintro rfl; rw [hwv] at hwj; cases hwj
    rw [hwo l' e] at hwj
    have jk := hwk l' j e hwj
    rw [ttk, if_neg (fun g => e g.1)] at h
    rw [tW 2 j (by omega) (by omega), tW 0 l' (by omega) (by omega)]; exact q7 l' j d hwj h
  · intro j j' hj hj' he he' g g'
    obtain ⟨g1, g2⟩ := t4 j g
    obtain ⟨g3, g4⟩ := t4 j' g'
    rw [g2] at g; rw [g4] at g'
    rw [tn 11 _ (by omega) (by omega), tn 11 _ (by omega) (by omega), tn 23 _ (by omega) (by omega), tn 23 _ (by omega) (by omega)]
    exact O3 j j' hj hj' he he' g g'
  · intro j hj he g
    obtain ⟨g1, g2⟩ := t4 j g
    rw [g2] at g
    rw [tn 11 _ (by omega) (by omega), tn 23 _ (by omega) (by omega), tn 17 _ (by omega) (by omega), tn 24 _ (by omega) (by omega)]
    exact O4 j hj he g
  · have : cn (vQ t) 16 = cn (vQ s) 16 := cn_congr (fun d hd => by
      have e : mm t d = mm s d := by rw [tmm, if_neg (by omega)]
      unfold vQ; rw [e])
    rw [this, tn 17 _ (by omega) (by omega)]; exact O6
  · rw [tn 24 _ (by omega) (by omega), tn 17 _ (by omega) (by omega)]; exact O8
