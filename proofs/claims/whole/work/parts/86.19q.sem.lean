theorem IV_drop {s : St} {b v k : Nat} (I : IV s b) (hk : hWay s v = some k) (hv' : v < 512) (h8 : N s 8 k = 0) (h6 : N s 6 k = 0) (h7 : N s 7 k = 0) : IV (uN (sWb s k) 4 k 0) b := by
  have I0 := I
  obtain ⟨⟨B, hb⟩, ⟨L, W4'⟩, M, LL, Rg, Q, W, D, O1, O2, O3, O4, O5, O6, O7, O8⟩ := I
  obtain ⟨q1, q2, q3, q4, q5, q6, q7⟩ := D
  obtain ⟨k512, k4⟩ := (hWay_iff B W4').mp hk
  have tn : ∀ F j, ¬ ((F = 4 ∨ F = 5) ∧ j = k) → N (uN (sWb s k) 4 k 0) F j = N s F j := by
    intro F j h; rw [N_ne (by omega), sWb_m, N_ne (by omega), sWm_N]
  have t4k : N (uN (sWb s k) 4 k 0) 4 k = 0 := N_eq _ _ _ _
  have t5 : ∀ j, N (uN (sWb s k) 4 k 0) 5 j ≤ N s 5 j := by
    intro j; rw [N_ne (by omega), sWb_m, N_uN]; split
    · omega
    · rw [sWm_N]; omega
  have tZ : Z (uN (sWb s k) 4 k 0) = Z s := by unfold sWb; split <;> rfl
  have tQ : Ql (uN (sWb s k) 4 k 0) = Ql s := by unfold sWb; split <;> rfl
  have tmm : ∀ κ, mm (uN (sWb s k) 4 k 0) κ = mm s κ := fun κ => by unfold mm; rw [tZ]
  have tW : ∀ F j, F ≠ 1 → Wda (uN (sWb s k) 4 k 0) F j = Wda s F j := by
    intro F j h; rw [W_uN, sWb_m, W_uN, sWm_W _ _ _ _ h]
  have tW1 : ∀ l, l ≠ v → Wda (uN (sWb s k) 4 k 0) 1 l = Wda s 1 l := by
    intro l h; rw [W_uN, sWb_m, W_uN]; unfold sWm; split
    · rfl
    · rw [W_ne (by omega)]
  have n := fun F j (h : F ≤ 3 ∨ (12 ≤ F ∧ F ≤ 14) ∨ F = 16 ∨ F = 21 ∨ F = 22) => tn F j (by omega)
  have hset : ∀ l', hSet (uN (sWb s k) 4 k 0) l' = hSet s l' := by intro l'; unfold hSet; rw [tn 0 4 (by omega)]
  have t4 : ∀ j, N (uN (sWb s k) 4 k 0) 4 j ≠ 0 → j ≠ k ∧ N (uN (sWb s k) 4 k 0) 4 j = N s 4 j := by
    intro j h
    have : j ≠ k := by rintro rfl; exact h t4k
    exact ⟨this, tn 4 j (by omega)⟩
  have Wl' : Wl (uN (sWb s k) 4 k 0) := by
    refine ⟨fun j hj h => ?_, fun j j' hj hj' h h' => ?_⟩
    · obtain ⟨g1, g2⟩ := t4 j h
      rw [g2] at h ⊢
      rw [hset, tn 0 5 (by omega)]; exact W4'.1 j hj h
    · obtain ⟨g1, g2⟩ := t4 j h
      obtain ⟨g3, g4⟩ := t4 j' (by rw [← h']; exact h)
      rw [g2] at h; rw [g2, g4] at h'
      exact W4'.2 j j' hj hj' h h'
  have t00 : ∀ j, N (uN (sWb s k) 4 k 0) 0 j = N s 0 j := fun j => tn 0 j (by omega)
  have Bt : Bz (uN (sWb s k) 4 k 0) := by unfold Bz; simp only [t00]; exact B
  have hwv : hWay (uN (sWb s k) 4 k 0) v = none := by
    rw [hWay_no Bt Wl']
    intro j hj h
    obtain ⟨g1, g2⟩ := t4 j (by omega)
    rw [g2] at h
    exact g1 (W4'.2 j k hj k512 (by omega) (by omega))
  have hwo : ∀ l', l' ≠ v → hWay (uN (sWb s k) 4 k 0) l' = hWay s l' := by
    intro l' hl
    cases e : hWay s l' with
    | none =>
      rw [hWay_no Bt Wl']
      intro j hj h
      obtain ⟨g1, g2⟩ := t4 j (by omega)
      rw [g2] at h
      exact (hWay_no B W4').mp e j hj h
    | some j =>
      obtain ⟨j1, j2⟩ := (hWay_iff B W4').mp e
      refine (hWay_iff Bt Wl').mpr ⟨j1, ?_⟩
      rw [tn 4 j (by rintro ⟨_, rfl⟩; omega)]; exact j2
  have hwk : ∀ l' j, l' ≠ v → hWay s l' = some j → j ≠ k := by
    rintro l' j h1 h2 rfl
    have := (hWay_iff B W4').mp h2; omega
  have thv : ∀ F l', l' ≠ v → hv (uN (sWb s k) 4 k 0) l' F = hv s l' F := by
    intro F l' h; unfold hv; rw [hwo l' h]
    cases e : hWay s l' with
    | none => rfl
    | some j => exact tn F j (fun g => hwk l' j h e g.2)
  have ttk : ∀ l' d, tk (uN (sWb s k) 4 k 0) l' d = tk s l' d := fun l' d => tk_mm (tmm _)
  have tvu : ∀ d, vU (uN (sWb s k) 4 k 0) d = vU s d := fun d => vU_mm (tmm _)
  have vr : ∀ d, vR (uN (sWb s k) 4 k 0) d = vR s d := fun d => by unfold vR; rw [n 12 d (by omega)]
  have vf : ∀ d, vF (uN (sWb s k) 4 k 0) d = vF s d := fun d => by unfold vF; rw [n 13 d (by omega)]
  refine IV_home I0 n Wl' ⟨by rw [tZ]; exact M.1, fun y hy => by rw [tZ] at hy; rw [tn 0 0 (by omega)]; exact M.2.1 y hy, by rw [tQ]; exact M.2.2⟩ (fun l' hl2 => ?_) (fun j hj => ?_) (fun y hy => ?_) (fun j => ⟨tW 0 j (by omega), tW 3 j (by omega), tW 4 j (by omega)⟩) (fun d h => by rw [tvu] at h; exact h) (fun l' j hwj h => ?_) (fun l' hl2 hwn => ?_) (fun l' j hwj h => ?_) (fun y hy => ?_) (fun l' j d hwj h => ?_) ?_ ?_ ?_ ?_
  · unfold LIs
    by_cases e : l' = v
    · subst e
      have x0 : vX (uN (sWb s k) 4 k 0) l' = 0 := vX_0.mpr hwv
      have z : ∀ F, hv (uN (sWb s k) 4 k 0) l' F = 0 := fun F => by unfold hv; rw [hwv]
      rw [x0, z, z, z, z]
      refine LI_eq (LI_drop (Bt' := fun _ => false) (A' := 0) (D' := 0) (K' := 0) (LI_of I0 hk hl2) rfl h8 h6 (fun d => by show (N s 7 k).testBit d = false; rw [h7, Nat.zero_testBit]) (fun _ => rfl)) (fun d => ttk l' d) (fun d => vS_c n l' d) vr vf (fun d => n 14 d (by omega)) tvu (fun d => by unfold vB; rw [z, Nat.zero_testBit]) rfl rfl rfl rfl rfl
    · rw [show vX (uN (sWb s k) 4 k 0) l' = vX s l' from by unfold vX; rw [hwo l' e], thv 6 l' e, thv 8 l' e, thv 9 l' e, thv 10 l' e]
      exact LI_eq (LL l' hl2) (fun d => ttk l' d) (fun d => vS_c n l' d) vr vf (fun d => n 14 d (by omega)) tvu (fun d => by unfold vB; rw [thv 7 l' e]) rfl rfl rfl rfl rfl
  · obtain ⟨r1, r2, r3, r4, r5, r6, r7, r8, r9, r10, r11⟩ := IV_rn I0 j hj
    have y5 := t5 j
    rw [tn 6 j (by omega), tn 7 j (by omega), tn 8 j (by omega), tn 9 j (by omega), tn 10 j (by omega), tn 11 j (by omega), tn 23 j (by omega)]
    refine ⟨?_, by omega, r3, r4, r5, r6, r7, r8, r9, fun g => ?_, fun g => ?_⟩
    · by_cases e : j = k
      · rw [e, t4k]; omega
      · rw [tn 4 j (by omega)]; exact r1
    · rw [(t4 j g).2] at g; exact r10 g
    · by_cases e : j = k
      · rw [e]; exact h8
      · rw [tn 4 j (by omega)] at g; exact r11 g
  · rw [tZ] at hy
    obtain ⟨z1, z2, z3⟩ := Q y hy
    rw [tn 12 _ (by omega), tn 13 _ (by omega), tn 13 _ (by omega)]
    refine ⟨fun h => ⟨(z1 h).1, fun l' hX hA => ?_⟩, z2, z3⟩
    have e : l' ≠ v := by
      rintro rfl
      rw [vX_0.mpr hwv] at hX; omega
    rw [ttk]
    refine (z1 h).2 l' ?_ ?_
    · rw [← hX]; unfold vX; rw [hwo l' e]
    · rw [← hA, thv 8 l' e]
  · have e : l' ≠ v := by rintro rfl; rw [hwv] at hwj; cases hwj
    rw [hwo l' e] at hwj
    rw [tn 6 j (by omega)] at h
    rw [tW 2 j (by omega), tW 0 l' (by omega)]; exact q1 l' j hwj h
  · rw [tW 0 l' (by omega)]
    by_cases e : l' = v
    · subst e
      rw [W_uN, sWb_m, W_uN]
      unfold sWm
      by_cases g : N s 5 k = 0
      · rw [if_pos g, ← q3 l' k hk g]; exact q1 l' k hk h6
      · rw [if_neg g, k4, Nat.add_sub_cancel, uW_at]; exact q1 l' k hk h6
    · rw [hwo l' e] at hwn
      rw [tW1 l' e]; exact q2 l' hl2 hwn
  · have e : l' ≠ v := by rintro rfl; rw [hwv] at hwj; cases hwj
    rw [hwo l' e] at hwj
    rw [tn 5 j (fun g => hwk l' j e hwj g.2)] at h
    rw [tW 2 j (by omega), tW1 l' e]; exact q3 l' j hwj h
  · rw [tZ] at hy
    rw [tn 14 _ (by omega), tW 0 _ (by omega)]; exact q4 y hy
  · have e : l' ≠ v := by rintro rfl; rw [hwv] at hwj; cases hwj
    rw [hwo l' e] at hwj
    rw [ttk] at h
    rw [tW 2 j (by omega), tW 0 l' (by omega)]; exact q7 l' j d hwj h
  · intro j j' hj hj' he he' g g'
    obtain ⟨g1, g2⟩ := t4 j g
    obtain ⟨g3, g4⟩ := t4 j' g'
    rw [g2] at g; rw [g4] at g'
    rw [tn 11 _ (by omega), tn 11 _ (by omega), tn 23 _ (by omega), tn 23 _ (by omega)]
    exact O3 j j' hj hj' he he' g g'
  · intro j hj he g
    obtain ⟨g1, g2⟩ := t4 j g
    rw [g2] at g
    rw [tn 11 _ (by omega), tn 23 _ (by omega), tn 17 _ (by omega), tn 24 _ (by omega)]
    exact O4 j hj he g
  · have : cn (vQ (uN (sWb s k) 4 k 0)) 16 = cn (vQ s) 16 := cn_congr (fun d hd => by unfold vQ; rw [tmm])
    rw [this, tn 17 _ (by omega)]; exact O6
  · rw [tn 24 _ (by omega), tn 17 _ (by omega)]; exact O8
theorem IV_fill {s : St} {b l k : Nat} (I : IV s b) (hn : hWay s l = none) (hl : l < 512) (hk : k < 512) (h4 : N s 4 k = 0) (hs1 : hSet s l ≤ k) (hs2 : k < hSet s l + N s 0 5) : IVe (sFill s k l) b k ∧ hWay (sFill s k l) l = some k ∧ N (sFill s k l) 8 k = 0 := by
  have I0 := I
  obtain ⟨⟨B, hb⟩, ⟨L, W4'⟩, M, LL, Rg, Q, W, D, O1, O2, O3, O4, O5, O6, O7, O8⟩ := I
  obtain ⟨q1, q2, q3, q4, q5, q6, q7⟩ := D
  have tn : ∀ F j, ¬ ((F = 4 ∨ F = 5 ∨ F = 6 ∨ F = 7 ∨ F = 8 ∨ F = 10) ∧ j = k) → N (sFill s k l) F j = N s F j := by
    intro F j h; unfold sFill
    rw [N_uW, N_ne (by omega), N_ne (by omega), N_ne (by omega), N_ne (by omega), N_ne (by omega), N_ne (by omega)]
  have tk4 : N (sFill s k l) 4 k = l + 1 ∧ N (sFill s k l) 5 k = 0 ∧ N (sFill s k l) 6 k = 0 ∧ N (sFill s k l) 7 k = 0 ∧ N (sFill s k l) 8 k = 0 ∧ N (sFill s k l) 10 k = 0 := by
    unfold sFill; simp [N_uN, N_uW]
  obtain ⟨f4, f5, f6, f7, f8, f10⟩ := tk4
  have tW : ∀ F j, ¬ (F = 2 ∧ j = k) → Wda (sFill s k l) F j = Wda s F j := by
    intro F j h; unfold sFill; rw [W_ne h]; rfl
  have tW2 : Wda (sFill s k l) 2 k = Wda s 1 l := by unfold sFill; rw [uW_at]
  have tmm : ∀ κ, mm (sFill s k l) κ = mm s κ := fun _ => rfl
  have n := fun F j (h : F ≤ 3 ∨ (12 ≤ F ∧ F ≤ 14) ∨ F = 16 ∨ F = 21 ∨ F = 22) => tn F j (by omega)
  have hset : ∀ l', hSet (sFill s k l) l' = hSet s l' := by intro l'; unfold hSet; rw [tn 0 4 (by omega)]
  have t4 : ∀ j, j ≠ k → N (sFill s k l) 4 j = N s 4 j := fun j h => tn 4 j (by omega)
  have nol : ∀ j, j < 512 → N s 4 j ≠ l + 1 := (hWay_no B W4').mp hn
  have Wl' : Wl (sFill s k l) := by
    refine ⟨fun j hj h => ?_, fun j j' hj hj' h h' => ?_⟩
    · by_cases e : j = k
      · subst e
        rw [f4, hset, tn 0 5 (by omega), Nat.add_sub_cancel]
        exact ⟨by omega, hs1, hs2⟩
      · rw [t4 j e] at h ⊢
        rw [hset, tn 0 5 (by omega)]; exact W4'.1 j hj h
    · by_cases e : j = k
      · by_cases e' : j' = k
        · rw [e, e']
        · rw [e, f4, t4 j' e'] at h'
          exact absurd h'.symm (nol j' hj')
      · by_cases e' : j' = k
        · rw [e', f4, t4 j e] at h'
          exact absurd h' (nol j hj)
        · rw [t4 j e] at h; rw [t4 j e, t4 j' e'] at h'
          exact W4'.2 j j' hj hj' h h'
  have t00 : ∀ j, N (sFill s k l) 0 j = N s 0 j := fun j => tn 0 j (by omega)
  have Bt : Bz (sFill s k l) := by unfold Bz; simp only [t00]; exact B
  have hwl : hWay (sFill s k l) l = some k := (hWay_iff Bt Wl').mpr ⟨hk, f4⟩
  have hwo : ∀ l', l' ≠ l → hWay (sFill s k l) l' = hWay s l' := by
    intro l' hl'
    cases e : hWay s l' with
    | none =>
      rw [hWay_no Bt Wl']
      intro j hj h
      by_cases e2 : j = k
      · rw [e2, f4] at h; omega
      · rw [t4 j e2] at h
        exact (hWay_no B W4').mp e j hj h
    | some j =>
      obtain ⟨j1, j2⟩ := (hWay_iff B W4').mp e
      refine (hWay_iff Bt Wl').mpr ⟨j1, ?_⟩
      rw [t4 j (by rintro rfl; omega)]; exact j2
  have hwk : ∀ l' j, hWay s l' = some j → j ≠ k := by
    rintro l' j h2 rfl
    have := (hWay_iff B W4').mp h2; omega
  have thv : ∀ F l', l' ≠ l → hv (sFill s k l) l' F = hv s l' F := by
    intro F l' h; unfold hv; rw [hwo l' h]
    cases e : hWay s l' with
    | none => rfl
    | some j => exact tn F j (fun g => hwk l' j e g.2)
  have thl : ∀ F, hv (sFill s k l) l F = N (sFill s k l) F k := fun F => by unfold hv; rw [hwl]
  have vr : ∀ d, vR (sFill s k l) d = vR s d := fun d => by unfold vR; rw [n 12 d (by omega)]
  have vf : ∀ d, vF (sFill s k l) d = vF s d := fun d => by unfold vF; rw [n 13 d (by omega)]
  have tvu : ∀ d, vU (sFill s k l) d = vU s d := fun d => vU_mm (tmm _)
  have ttk : ∀ l' d, tk (sFill s k l) l' d = tk s l' d := fun l' d => tk_mm (tmm _)
  have k9 := (Rg.1 k hk).2.2.2.2.2.2.2.2.1
  refine ⟨IV_home I0 n Wl' ⟨M.1, fun y hy => by rw [tn 0 0 (by omega)]; exact M.2.1 y hy, M.2.2⟩ (fun l' hl2 => ?_) (fun j hj => ?_) (fun y hy => ?_) (fun j => ⟨tW 0 j (by omega), tW 3 j (by omega), tW 4 j (by omega)⟩) (fun d h => by rw [tvu] at h; exact h) (fun l' j hwj h => ?_) (fun l' hl2 hwn => ?_) (fun l' j hwj h => ?_) (fun y hy => ?_) (fun l' j d hwj h => ?_) ?_ ?_ ?_ ?_, hwl, f8⟩
  · unfold LIs
    by_cases e : l' = l
    · subst e
      have x1 : vX (sFill s k l') l' = 1 := by unfold vX; rw [hwl]
      have x0 : vX s l' = 0 := vX_0.mpr hn
      rw [x1, thl, thl, thl, thl, f6, f8, f10]
      refine LI_eq (LI_fill (Bt' := fun _ => false) (K' := N (sFill s k l') 9 k) (LL l' hl2) x0 (by rw [tn 9 k (by omega)]; exact k9) (fun _ => rfl)) (fun d => ttk l' d) (fun d => vS_c n l' d) vr vf (fun d => n 14 d (by omega)) tvu (fun d => by unfold vB; rw [thl, f7, Nat.zero_testBit]) rfl rfl rfl rfl rfl
    · rw [show vX (sFill s k l) l' = vX s l' from by unfold vX; rw [hwo l' e], thv 6 l' e, thv 8 l' e, thv 9 l' e, thv 10 l' e]
      exact LI_eq (LL l' hl2) (fun d => ttk l' d) (fun d => vS_c n l' d) vr vf (fun d => n 14 d (by omega)) tvu (fun d => by unfold vB; rw [thv 7 l' e]) rfl rfl rfl rfl rfl
  · obtain ⟨r1, r2, r3, r4, r5, r6, r7, r8, r9, r10, r11⟩ := IV_rn I0 j hj
    by_cases e : j = k
    · subst e
      rw [f4, f5, f6, f7, f8, f10, tn 9 j (by omega), tn 11 j (by omega), tn 23 j (by omega)]
      exact ⟨by omega, by omega, by omega, by omega, by omega, r6, by omega, r8, r9, fun _ => ⟨by omega, Nat.two_pow_pos _⟩, fun g => by omega⟩
    · rw [t4 j e, tn 5 j (by omega), tn 6 j (by omega), tn 7 j (by omega), tn 8 j (by omega), tn 9 j (by omega), tn 10 j (by omega), tn 11 j (by omega), tn 23 j (by omega)]
      exact ⟨r1, r2, r3, r4, r5, r6, r7, r8, r9, r10, r11⟩
  · obtain ⟨z1, z2, z3⟩ := Q y hy
    rw [tn 12 _ (by omega), tn 13 _ (by omega), tn 13 _ (by omega)]
    refine ⟨fun h => ⟨(z1 h).1, fun l' hX hA => ?_⟩, z2, z3⟩
    have e : l' ≠ l := by
      rintro rfl
      rw [thl, f8] at hA; omega
    rw [ttk]
    refine (z1 h).2 l' ?_ ?_
    · rw [← hX]; unfold vX; rw [hwo l' e]
    · rw [← hA, thv 8 l' e]
  · rw [tW 0 l' (by omega)]
    by_cases e : l' = l
    · subst e
      rw [hwl] at hwj
      obtain rfl := Option.some.inj hwj
      rw [tW2]; exact q2 l' hl hn
    · rw [hwo l' e] at hwj
      have jk := hwk l' j hwj
      rw [tn 6 j (by omega)] at h
      rw [tW 2 j (by omega)]; exact q1 l' j hwj h
  · have e : l' ≠ l := by rintro rfl; rw [hwl] at hwn; cases hwn
    rw [hwo l' e] at hwn
    rw [tW 0 l' (by omega), tW 1 l' (by omega)]; exact q2 l' hl2 hwn
  · rw [tW 1 l' (by omega)]
    by_cases e : l' = l
    · subst e
      rw [hwl] at hwj
      obtain rfl := Option.some.inj hwj
      exact tW2
    · rw [hwo l' e] at hwj
      have jk := hwk l' j hwj
      rw [tn 5 j (by omega)] at h
      rw [tW 2 j (by omega)]; exact q3 l' j hwj h
  · rw [tn 14 _ (by omega), tW 0 _ (by omega)]; exact q4 y hy
  · rw [tW 0 l' (by omega)]
    rw [ttk] at h
    by_cases e : l' = l
    · subst e
      have := ((LL l' hl).1.2 (vX_0.mpr hn) d).1
      omega
    · rw [hwo l' e] at hwj
      have jk := hwk l' j hwj
      rw [tW 2 j (by omega)]; exact q7 l' j d hwj h
  · intro j j' hj hj' he he' g g'
    rw [t4 j he] at g; rw [t4 j' he'] at g'
    rw [tn 11 _ (by omega), tn 11 _ (by omega), tn 23 _ (by omega), tn 23 _ (by omega)]
    exact O3 j j' hj hj' (by omega) (by omega) g g'
  · intro j hj he g
    rw [t4 j he] at g
    rw [tn 11 _ (by omega), tn 23 _ (by omega), tn 17 _ (by omega), tn 24 _ (by omega)]
    exact O4 j hj (by omega) g
  · show N (sFill s k l) 17 0 + cn (vQ s) 16 ≤ b
    rw [tn 17 _ (by omega)]; exact O6
  · rw [tn 24 _ (by omega), tn 17 _ (by omega)]; exact O8
theorem sFill_4 (s : St) (k l : Nat) : sFill (uN s 4 k 0) k l = sFill s k l := by
  unfold sFill
  rw [uN_uN]
  rfl
/-- a way for a line that has none -/
theorem IV_find {s : St} {b l : Nat} (I : IV s b) (hn : hWay s l = none) (hl : l < 512) : (∀ k t, sFind s l = (some k, t) → IVe t b k ∧ hWay t l = some k ∧ N t 8 k = 0) ∧ (∀ t, sFind s l = (none, t) → IV t b) := by
  have I0 := I
  obtain ⟨⟨B, hb⟩, ⟨L, W4'⟩, M, LL, Rg, Q, W, D, O⟩ := I
  have hse := hSet_le B l
  have nol : ∀ j, j < 512 → N s 4 j ≠ l + 1 := (hWay_no B W4').mp hn
  unfold sFind
  cases e : sEmpty s l with
  | some k =>
    obtain ⟨g1, g2, g3, _⟩ := fst_some e
    have k4 : N s 4 k = 0 := by simpa using g3
    refine ⟨fun k' t h => ?_, fun t h => by cases (Prod.mk.inj h).1⟩
    obtain ⟨h1, h2⟩ := Prod.mk.inj h
    obtain rfl := Option.some.inj h1
    subst h2
    exact IV_fill I0 hn hl (by omega) k4 g1 g2
  | none =>
    have em := fst_none.mp e
    cases e2 : sOld s l with
    | none =>
      refine ⟨fun k' t h => (by cases (Prod.mk.inj h).1), fun t h => ?_⟩
      obtain ⟨_, h2⟩ := Prod.mk.inj h
      subst h2; exact I0
    | some k =>
      rcases bmin_in e2 with h' | ⟨g1, g2, g3⟩
      · cases h'
      have k512 : k < 512 := by omega
      have k4 : N s 4 k ≠ 0 := by have := em k g1 g2; simpa using this
      obtain ⟨v, hv'⟩ : ∃ v, N s 4 k = v + 1 := ⟨N s 4 k - 1, by omega⟩
      have v512 : v < 512 := by have := (Rg.1 k k512).2.2.2.1; omega
      have hkv : hWay s v = some k := (hWay_iff B W4').mpr ⟨k512, hv'⟩
      by_cases c : N s 6 k = 0 ∧ N s 7 k = 0
      · refine ⟨fun k' t h => ?_, fun t h => ?_⟩
        · simp only [c, and_self, ↓reduceIte] at h
          obtain ⟨h1, h2⟩ := Prod.mk.inj h
          obtain rfl := Option.some.inj h1
          subst h2
          have I1 := IV_drop I0 hkv v512 g3 c.1 c.2
          rw [← sFill_4]
          have n0 : ∀ j, N (uN (sWb s k) 4 k 0) 0 j = N s 0 j := by intro j; rw [N_ne (by omega), sWb_m, N_ne (by omega), sWm_N]
          have hs0 : hSet (uN (sWb s k) 4 k 0) l = hSet s l := by unfold hSet; rw [n0]
          refine IV_fill I1 ?_ hl k512 (N_eq _ _ _ _) (by rw [hs0]; exact g1) (by rw [hs0, n0]; exact g2)
          have W1 := I1.2.1.2
          have B1 := I1.1.1
          rw [hWay_no B1 W1]
          intro j hj h
          by_cases ej : j = k
          · rw [ej, N_eq] at h; omega
          · rw [N_ne (by omega), sWb_m, N_ne (by omega), sWm_N] at h
            exact nol j hj h
        · simp only [c, and_self, ↓reduceIte] at h
          cases (Prod.mk.inj h).1
      · refine ⟨fun k' t h => ?_, fun t h => ?_⟩
        · simp only [c, ↓reduceIte] at h
          cases (Prod.mk.inj h).1
        · simp only [c, ↓reduceIte] at h
          obtain ⟨_, h2⟩ := Prod.mk.inj h
          subst h2
          exact IV_recall I0 hkv v512 g3 c
/-- what waits is taken, or waits on -/
theorem IV_take {s : St} {b i : Nat} (I : IV s b) (hi : i < (Ql s).length) : ((sTake s ((Ql s).getD i x0)).1 = true → IV (uQ (sTake s ((Ql s).getD i x0)).2 ((Ql s).eraseIdx i)) b) ∧ ((sTake s ((Ql s).getD i x0)).1 = false → IV (sTake s ((Ql s).getD i x0)).2 b) := by
  have I0 := I
  obtain ⟨⟨B, hb⟩, ⟨L, W4'⟩, M, LL, Rg, Q, W, D, O⟩ := I
  have xm : (Ql s).getD i x0 ∈ Z s := List.mem_append_right _ (getD_mem hi)
  have xl := (M.2.1 _ xm).1
  have xk := M.2.2 _ (getD_mem hi)
  have put : ∀ (h2 : mKi ((Ql s).getD i x0) = 2) (hb : ∀ k, hWay s (mLi ((Ql s).getD i x0)) = some k → N s 8 k = 0), IV (uQ (sPut s (mFr ((Ql s).getD i x0)) (mLi ((Ql s).getD i x0)) (mWo ((Ql s).getD i x0))) ((Ql s).eraseIdx i)) b := by
    intro h2 hbz
    unfold sPut
    cases e : hWay s (mLi ((Ql s).getD i x0)) with
    | none => exact IV_put0 I0 hi ⟨h2, rfl, rfl⟩ (fun k hk => by rw [e] at hk; cases hk)
    | some k =>
      show IV (uQ (if N s 6 k = mFr ((Ql s).getD i x0) + 1 then _ else _) _) b
      by_cases c : N s 6 k = mFr ((Ql s).getD i x0) + 1
      · rw [if_pos c]; exact IV_put1 I0 hi ⟨h2, rfl, rfl⟩ e (hbz k e) c
      · rw [if_neg c]
        exact IV_put0 I0 hi ⟨h2, rfl, rfl⟩ (fun k' hk => by rw [e] at hk; obtain rfl := Option.some.inj hk; exact c)
  unfold sTake
  cases e : hWay s (mLi ((Ql s).getD i x0)) with
  | some k =>
    by_cases c8 : N s 8 k = 0
    · simp only [c8, ne_eq, not_true_eq_false, ↓reduceIte]
      by_cases c2 : mKi ((Ql s).getD i x0) = 2
      · simp only [c2, ↓reduceIte]
        exact ⟨fun _ => put c2 (fun k' hk => by rw [e] at hk; obtain rfl := Option.some.inj hk; exact c8), fun h => by cases h⟩
      · simp only [c2, ↓reduceIte]
        exact ⟨fun _ => IV_serve I0 (Or.inl rfl) e xl c8 hi ⟨rfl, rfl, rfl⟩ (by omega), fun h => by cases h⟩
    · simp only [c8, ne_eq, not_false_eq_true, ↓reduceIte]
      exact ⟨fun h => (by cases h), fun _ => I0⟩
  | none =>
    by_cases c2 : mKi ((Ql s).getD i x0) = 2
    · simp only [c2, ↓reduceIte]
      exact ⟨fun _ => put c2 (fun k' hk => by rw [e] at hk; cases hk), fun h => by cases h⟩
    · simp only [c2, ↓reduceIte]
      obtain ⟨f1, f2⟩ := IV_find I0 e xl
      have fq := sFind_Q s (mLi ((Ql s).getD i x0))
      cases e2 : sFind s (mLi ((Ql s).getD i x0)) with
      | mk o t =>
        rw [e2] at fq
        have fq' : Ql t = Ql s := fq
        cases o with
        | none => exact ⟨fun h => (by cases h), fun _ => f2 t e2⟩
        | some k =>
          obtain ⟨g1, g2, g3⟩ := f1 k t e2
          refine ⟨fun _ => ?_, fun h => by cases h⟩
          have := IV_serve (i := i) g1 (Or.inr rfl) g2 xl g3 (by rw [fq']; exact hi) (kd := mKi ((Ql s).getD i x0)) (c := mFr ((Ql s).getD i x0)) (by rw [fq']; exact ⟨rfl, rfl, rfl⟩) (by omega)
          rw [fq'] at this
          exact this
