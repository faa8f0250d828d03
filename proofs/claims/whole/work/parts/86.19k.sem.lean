/-- what happens at one line's way -/
theorem IV_line {s t : St} {b l k e : Nat} (I : IVe s b e) (he : e = 512 ∨ e = k) (hk : hWay s l = some k) (hl : l < 512)
    (tn : ∀ F j, ¬ ((5 ≤ F ∧ F ≤ 11 ∨ F = 23) ∧ j = k) → F ≠ 17 → F ≠ 18 → F ≠ 20 → F ≠ 24 → N t F j = N s F j) (ms : Ms t)
    (tt : ∀ l' d, l' ≠ l → tk t l' d = tk s l' d) (tu : ∀ d, vF s d ≠ l + 1 → (vU t d = 2 ↔ vU s d = 2)) (tu2 : ∀ d, vU t d ≠ 2 → vU s d ≠ 2)
    (li : LI (tk t l) (vS s l) (vR s) (vF s) (N s 14) (vU t) (fun d => (N t 7 k).testBit d) 1 (N t 6 k) (N t 8 k) (N t 10 k) (N t 9 k) l)
    (rn : N t 5 k ≤ 1 ∧ N t 6 k ≤ N s 0 0 ∧ N t 7 k < 2 ^ N s 0 0 ∧ N t 8 k ≤ 17 ∧ N t 9 k ≤ 1 ∧ N t 10 k ≤ 16)
    (rq : ∀ y, y ∈ Z t → (y ∈ Z s ∧ (mKi y ≤ 1 → N t 8 k = mFr y + 1 → tk t l (mFr y) = 10)) ∨ (2 ≤ mKi y ∧ mKi y ≠ 2 ∧ (mKi y = 9 → N s 13 (mTo y) = mLi y + 1)))
    (w : ∀ F j, F ≠ 2 ∨ j ≠ k → Wda t F j = Wda s F j) (d1 : N t 6 k = 0 → Wda t 2 k = Wda s 0 l) (d3 : N t 5 k = 0 → Wda t 2 k = Wda s 1 l)
    (d4 : ∀ y, y ∈ Z t → y ∈ Z s ∨ (mKi y ≠ 2 ∧ mKi y ≠ 5 ∧ (mKi y = 6 ∨ mKi y = 7 ∨ mKi y = 8 → mWo y = Wda s 0 (mLi y)))) (d7 : ∀ c, tk t l c = 7 ∨ tk t l c = 8 → Wda t 2 k = Wda s 0 l)
    (o : (e = 512 ∧ N t 11 k = N s 11 k ∧ N t 23 k = N s 23 k ∧ N t 17 0 = N s 17 0 ∧ N t 24 0 = N s 24 0) ∨ (N t 17 0 = N s 17 0 + 1 ∧ N t 24 0 = N s 24 0 + 1 ∧ N t 11 k = N t 17 0 ∧ N t 23 k = N t 24 0))
    (o6 : N t 17 0 + cn (vQ t) 16 ≤ b) : IV t b := by
  have I0 := I
  obtain ⟨⟨B, hb⟩, ⟨L, W4'⟩, M, LL, Rg, Q, W, D, O1, O2, O3, O4, O5, O6, O7, O8⟩ := I
  obtain ⟨e1, e2, e3, e4, e5, e6, e7⟩ := D
  obtain ⟨k512, k4⟩ := (hWay_iff B W4').mp hk
  have n : ∀ F j, F ≤ 3 ∨ (12 ≤ F ∧ F ≤ 14) ∨ F = 16 ∨ F = 21 ∨ F = 22 → N t F j = N s F j := fun F j h => tn F j (by omega) (by omega) (by omega) (by omega) (by omega)
  have t0 : ∀ j, N t 0 j = N s 0 j := fun j => n 0 j (by omega)
  have t4 : ∀ j, N t 4 j = N s 4 j := fun j => tn 4 j (by omega) (by omega) (by omega) (by omega) (by omega)
  have hw := hWay_c t0 t4
  have wk : ∀ l' j, hWay s l' = some j → j = k → l' = l := by
    intro l' j h1 h2
    have := (hWay_iff B W4').mp h1
    rw [h2] at this; omega
  have thv : ∀ F l', l' ≠ l → F ≠ 17 → F ≠ 18 → F ≠ 20 → F ≠ 24 → hv t l' F = hv s l' F := by
    intro F l' h1 h2 h3 h4 h5
    unfold hv; rw [hw]
    cases e : hWay s l' with
    | none => rfl
    | some j => exact tn F j (fun g => h1 (wk l' j e g.2)) h2 h3 h4 h5
  have thl : ∀ F, hv t l F = N t F k := by intro F; unfold hv; rw [hw, hk]
  have vr : ∀ d, vR t d = vR s d := fun d => by unfold vR; rw [n 12 d (by omega)]
  have vf : ∀ d, vF t d = vF s d := fun d => by unfold vF; rw [n 13 d (by omega)]
  refine IV_home I0 n (Wl_c t0 t4 W4') ms (fun l' hl2 => ?_) (fun j hj => ?_) (fun y hy => ?_) (fun j => ⟨w 0 j (by omega), w 3 j (by omega), w 4 j (by omega)⟩) tu2 (fun l' j hwj h6 => ?_) (fun l' hl2 hwn => ?_) (fun l' j hwj h5 => ?_) (fun y hy => ?_) (fun l' j d hwj ht => ?_) ?_ ?_ o6 ?_
  · unfold LIs
    by_cases e : l' = l
    · subst e
      rw [thl, thl, thl, thl]
      have x1 : vX t l' = 1 := by unfold vX; rw [hw, hk]
      rw [x1]
      exact LI_eq li (fun _ => rfl) (fun d => vS_c n l' d) vr vf (fun d => n 14 d (by omega)) (fun _ => rfl) (fun d => by unfold vB; rw [thl]) rfl rfl rfl rfl rfl
    · rw [vX_c hw, thv 6 l' e (by omega) (by omega) (by omega) (by omega), thv 8 l' e (by omega) (by omega) (by omega) (by omega), thv 9 l' e (by omega) (by omega) (by omega) (by omega), thv 10 l' e (by omega) (by omega) (by omega) (by omega)]
      refine LI_frame (LL l' hl2) (fun d => tt l' d e) (fun d => vS_c n l' d) (fun d => by unfold vB; rw [thv 7 l' e (by omega) (by omega) (by omega) (by omega)]) (fun d => by rw [vf]) (fun d hd => ⟨n 14 d (by omega), tu d (by omega)⟩) (fun d hd => by rw [vr] at hd; exact hd) (fun d _ _ _ _ hd => by rw [vr]; exact hd)
  · obtain ⟨r1, r2, r3, r4, r5, r6, r7, r8, r9, r10, r11⟩ := IV_rn I0 j hj
    by_cases e : j = k
    · subst e
      have b0 := B.1.2
      have : 2 ^ N s 0 0 ≤ 2 ^ 16 := Nat.pow_le_pow_right (by omega) b0
      refine ⟨by rw [t4]; exact r1, rn.1, by omega, by omega, rn.2.2.2.1, rn.2.2.2.2.1, rn.2.2.2.2.2, ?_, ?_, fun _ => ⟨rn.2.1, rn.2.2.1⟩, fun g => ?_⟩
      · rcases o with o | o <;> omega
      · rcases o with o | o <;> omega
      · rw [t4] at g; omega
    · have z := fun F h1 h2 h3 h4 => tn F j (fun g => e g.2) h1 h2 h3 h4
      rw [t4, z 5 (by omega) (by omega) (by omega) (by omega), z 6 (by omega) (by omega) (by omega) (by omega), z 7 (by omega) (by omega) (by omega) (by omega), z 8 (by omega) (by omega) (by omega) (by omega), z 9 (by omega) (by omega) (by omega) (by omega), z 10 (by omega) (by omega) (by omega) (by omega), z 11 (by omega) (by omega) (by omega) (by omega), z 23 (by omega) (by omega) (by omega) (by omega)]
      exact ⟨r1, r2, r3, r4, r5, r6, r7, r8, r9, r10, r11⟩
  · rw [n 12 _ (by omega), n 13 _ (by omega), n 13 _ (by omega)]
    rcases rq y hy with ⟨g, g2⟩ | ⟨g1, g2, g3⟩
    · obtain ⟨q1, q2, q3⟩ := Q y g
      refine ⟨fun h => ⟨(q1 h).1, fun l' hX hA => ?_⟩, q2, q3⟩
      by_cases e : l' = l
      · subst e
        rw [thl] at hA
        exact g2 h hA
      · rw [vX_c hw] at hX
        rw [thv 8 l' e (by omega) (by omega) (by omega) (by omega)] at hA
        rw [tt l' _ e]
        exact (q1 h).2 l' hX hA
    · exact ⟨fun h => by omega, fun h => absurd h g2, g3⟩
  · rw [hw] at hwj
    rw [w 0 l' (by omega)]
    by_cases e : j = k
    · have := wk l' j hwj e
      subst this; subst e; exact d1 h6
    · rw [tn 6 j (fun g => e g.2) (by omega) (by omega) (by omega) (by omega)] at h6
      rw [w 2 j (by omega)]; exact e1 l' j hwj h6
  · rw [hw] at hwn
    rw [w 0 l' (by omega), w 1 l' (by omega)]; exact e2 l' hl2 hwn
  · rw [hw] at hwj
    rw [w 1 l' (by omega)]
    by_cases e : j = k
    · have := wk l' j hwj e
      subst this; subst e; exact d3 h5
    · rw [tn 5 j (fun g => e g.2) (by omega) (by omega) (by omega) (by omega)] at h5
      rw [w 2 j (by omega)]; exact e3 l' j hwj h5
  · rw [n 14 _ (by omega), w 0 _ (by omega)]
    rcases d4 y hy with g | ⟨g1, g2, g3⟩
    · exact e4 y g
    · exact ⟨g3, fun h => absurd h g2, fun h => absurd h g1⟩
  · rw [hw] at hwj
    rw [w 0 l' (by omega)]
    by_cases e : l' = l
    · subst e
      rw [hk] at hwj
      obtain rfl := Option.some.inj hwj
      exact d7 d ht
    · rw [tt l' d e] at ht
      rw [w 2 j (Or.inr (fun g => e (wk l' j hwj g)))]; exact e7 l' j d hwj ht
  · intro j j' hj hj' _ _ g g'
    rw [t4] at g g'
    have z := fun F q (hq : q ≠ k) h1 h2 h3 h4 => tn F q (fun g => hq g.2) h1 h2 h3 h4
    have o4 := fun q (hq : q < 512) (hqk : q ≠ k) (h : N s 4 q ≠ 0) => O4 q hq (by omega) h
    rcases o with ⟨o1, o2, o3, o5, o7⟩ | ⟨o1, o2, o3, o5⟩
    · have a11 : ∀ q, N t 11 q = N s 11 q := fun q => by
        by_cases e : q = k
        · rw [e]; exact o2
        · exact z 11 q e (by omega) (by omega) (by omega) (by omega)
      have a23 : ∀ q, N t 23 q = N s 23 q := fun q => by
        by_cases e : q = k
        · rw [e]; exact o3
        · exact z 23 q e (by omega) (by omega) (by omega) (by omega)
      rw [a11, a11, a23, a23]; exact O3 j j' hj hj' (by omega) (by omega) g g'
    · by_cases e : j = k
      · by_cases e' : j' = k
        · rw [e, e']; omega
        · have := o4 j' hj' e' g'
          rw [e, z 11 j' e' (by omega) (by omega) (by omega) (by omega), z 23 j' e' (by omega) (by omega) (by omega) (by omega)]; omega
      · by_cases e' : j' = k
        · have := o4 j hj e g
          rw [e', z 11 j e (by omega) (by omega) (by omega) (by omega), z 23 j e (by omega) (by omega) (by omega) (by omega)]; omega
        · rw [z 11 j e (by omega) (by omega) (by omega) (by omega), z 23 j e (by omega) (by omega) (by omega) (by omega), z 11 j' e' (by omega) (by omega) (by omega) (by omega), z 23 j' e' (by omega) (by omega) (by omega) (by omega)]
          exact O3 j j' hj hj' (by omega) (by omega) g g'
  · intro j hj _ g
    rw [t4] at g
    have z := fun F q (hq : q ≠ k) h1 h2 h3 h4 => tn F q (fun g => hq g.2) h1 h2 h3 h4
    rcases o with ⟨o1, o2, o3, o5, o7⟩ | ⟨o1, o2, o3, o5⟩
    · have := O4 j hj (by omega) g
      by_cases e : j = k
      · rw [e] at this ⊢; omega
      · rw [z 11 j e (by omega) (by omega) (by omega) (by omega), z 23 j e (by omega) (by omega) (by omega) (by omega)]; omega
    · by_cases e : j = k
      · rw [e]; omega
      · have := O4 j hj (by omega) g
        rw [z 11 j e (by omega) (by omega) (by omega) (by omega), z 23 j e (by omega) (by omega) (by omega) (by omega)]; omega
  · rcases o with o | o <;> omega
