theorem Sl_set {s : St} (L : Sl s) {k v : Nat} (h : N s 2 k ≠ 0) : Sl (uN s 2 k v) := by
  have g : ∀ j, N (uN s 2 k v) 2 j ≠ 0 → N s 2 j ≠ 0 := by
    intro j hj
    rw [N_uN] at hj
    split at hj
    · next e => rw [e.2]; exact h
    · exact hj
  exact ⟨fun j hj h2 => L.1 j hj (g j h2), fun j j' hj hj' h2 h2' => L.2 j j' hj hj' (g j h2) (g j' h2')⟩
theorem vS_set {s : St} (B : Bz s) (L : Sl s) {k v : Nat} (hk : k < 512) (h : N s 2 k ≠ 0) (l c : Nat) : vS (uN s 2 k v) l c = if c = k / 32 ∧ l = N s 1 k then v else vS s l c := by
  have B' : Bz (uN s 2 k v) := B
  have L' := Sl_set (v := v) L h
  by_cases hc : c < 16
  · by_cases e : c = k / 32 ∧ l = N s 1 k
    · rw [if_pos e, e.1, e.2]
      by_cases hv : v = 0
      · unfold vS
        rw [if_pos (by omega)]
        have : sWay (uN s 2 k v) (k / 32) (N s 1 k) = none := by
          rw [sWay_no B' L' (by omega)]
          intro j h1 h2 h3 h4
          rw [N_uN] at h3
          split at h3
          · exact h3 hv
          · next e3 =>
            have := L.2 j k h1 hk h3 h h2 h4
            exact e3 ⟨rfl, this⟩
        rw [this, hv]
      · have := vS_of B' L' (k := k) hk (by rw [N_eq]; exact hv)
        rw [N_eq] at this; exact this
    · rw [if_neg e]
      unfold vS
      rw [if_pos hc, if_pos hc]
      cases e1 : sWay s c l with
      | some j =>
        obtain ⟨h1, h2, h3, h4⟩ := (sWay_iff B L hc).mp e1
        have jk : j ≠ k := by rintro rfl; exact e ⟨h2.symm, h4.symm⟩
        have : sWay (uN s 2 k v) c l = some j := (sWay_iff B' L' hc).mpr ⟨h1, h2, by rw [N_ne (by omega)]; exact h3, h4⟩
        rw [this]
        show N (uN s 2 k v) 2 j = N s 2 j
        rw [N_ne (by omega)]
      | none =>
        have : sWay (uN s 2 k v) c l = none := by
          rw [sWay_no B' L' hc]
          intro j h1 h2 h3 h4
          rw [N_uN] at h3
          split at h3
          · next e3 => exact e ⟨by rw [← e3.2]; exact h2.symm, by rw [← e3.2]; exact h4.symm⟩
          · exact (sWay_no B L hc).mp e1 j h1 h2 h3 h4
        rw [this]
  · have z : vS s l c = 0 := by unfold vS; rw [if_neg hc]
    have z' : vS (uN s 2 k v) l c = 0 := by unfold vS; rw [if_neg hc]
    rw [z, z', if_neg]
    rintro ⟨e, _⟩; omega
theorem LI_eq {T S R F G U T' S' R' F' G' U' : Nat → Nat} {Bt Bt' : Nat → Bool} {X O A D K l X' O' A' D' K' : Nat} (h : LI T S R F G U Bt X O A D K l) (eT : ∀ d, T' d = T d) (eS : ∀ d, S' d = S d) (eR : ∀ d, R' d = R d) (eF : ∀ d, F' d = F d) (eG : ∀ d, G' d = G d) (eU : ∀ d, U' d = U d) (eB : ∀ d, Bt' d = Bt d) (eX : X' = X) (eO : O' = O) (eA : A' = A) (eD : D' = D) (eK : K' = K) : LI T' S' R' F' G' U' Bt' X' O' A' D' K' l := by
  have e1 : T' = T := funext eT
  have e2 : S' = S := funext eS
  have e3 : R' = R := funext eR
  have e4 : F' = F := funext eF
  have e5 : G' = G := funext eG
  have e6 : U' = U := funext eU
  have e7 : Bt' = Bt := funext eB
  subst e1 e2 e3 e4 e5 e6 e7 eX eO eA eD eK
  exact h
theorem IV_up {s : St} {b b' : Nat} (I : IV s b) (h : b ≤ b') (h2 : b' ≤ 536870912) : IV s b' := by
  obtain ⟨⟨B, hb⟩, LW, M, LL, Rg, Q, W, D, O1, O2, O3, O4, O5, O6, O7, O8⟩ := I
  exact ⟨⟨B, h2⟩, LW, M, LL, Rg, Q, W, D, O1, O2, O3, O4, by omega, by omega, O7, O8⟩
theorem IV_use {s : St} {b k : Nat} (I : IV s b) (hk : k < 512) (hb' : b + 1 ≤ 536870912) : IV (sUse s k) (b + 1) := by
  obtain ⟨⟨B, hb⟩, LW, M, LL, Rg, Q, W, D, O1, O2, O3, O4, O5, O6, O7, O8⟩ := I
  have c16 : k / 32 < 16 := by omega
  have o7 := O7 (k / 32) c16
  have n2 : ∀ j, N (sUse s k) 2 j = N s 2 j := fun _ => rfl
  have n3 : ∀ j, N (sUse s k) 3 j = if j = k then N s 16 0 + 1 else N s 3 j := by
    intro j; unfold sUse; rw [N_ne (by omega), N_ne (by omega), N_uN]
    by_cases e : j = k
    · rw [if_pos ⟨rfl, e⟩, if_pos e]
    · rw [if_neg (fun g => e g.2), if_neg e]; rfl
  have n21 : ∀ j, N (sUse s k) 21 j = if j = k then N s 22 (k / 32) + 1 else N s 21 j := by
    intro j; unfold sUse; rw [N_uN]
    by_cases e : j = k
    · rw [if_pos ⟨rfl, e⟩, if_pos e]
    · rw [if_neg (fun g => e g.2), if_neg e]; rfl
  have n16 : N (sUse s k) 16 0 = N s 16 0 + 1 := rfl
  have n22 : ∀ j, N (sUse s k) 22 j = if j = k / 32 then N s 22 (k / 32) + 1 else N s 22 j := by
    intro j; unfold sUse; rw [N_ne (by omega), N_uN]
    by_cases e : j = k / 32
    · rw [if_pos ⟨rfl, e⟩, if_pos e]
    · rw [if_neg (fun g => e g.2), if_neg e]; rfl
  refine ⟨⟨B, hb'⟩, LW, M, LL, ⟨?_, Rg.2⟩, Q, W, D, ?_, ?_, O3, O4, ?_, ?_, ?_, O8⟩
  · intro j hj
    obtain ⟨a1, a2, a3, a4, a5, a6, a7, a8, a9, a10, a11, a12, a13⟩ := Rg.1 j hj
    refine ⟨a1, a2, ?_, a4, a5, a6, a7, a8, a9, a10, a11, ?_, a13⟩
    · rw [n3]; split <;> omega
    · rw [n21]; split <;> omega
  · intro j j' hj hj' h2 h2' hd
    rw [n3, n3, n21, n21]
    have x1 := O2 j hj h2
    have x2 := O2 j' hj' h2'
    have x3 := O1 j j' hj hj' h2 h2' hd
    by_cases e : j = k
    · by_cases e' : j' = k
      · rw [if_pos e, if_pos e', if_pos e, if_pos e']; omega
      · rw [if_pos e, if_neg e', if_pos e, if_neg e']
        rw [e] at hd
        rw [← hd] at x2; omega
    · by_cases e' : j' = k
      · rw [if_neg e, if_pos e', if_neg e, if_pos e']
        rw [e'] at hd
        rw [hd] at x1; omega
      · rw [if_neg e, if_neg e', if_neg e, if_neg e']; exact x3
  · intro j hj h2
    have x1 := O2 j hj h2
    rw [n3, n16, n21, n22]
    by_cases e : j = k
    · rw [if_pos e, if_pos e, if_pos (by rw [e])]; omega
    · rw [if_neg e, if_neg e]
      split
      · next e2 => rw [e2] at x1; omega
      · omega
  · rw [n16]
    show N s 16 0 + 1 + cn (vR s) 16 ≤ b + 1
    omega
  · show N s 17 0 + cn (vQ s) 16 ≤ b + 1
    omega
  · intro c hc
    have := O7 c hc
    rw [n16, n22]
    split <;> omega
theorem IV_state {s : St} {b k : Nat} (I : IV s b) (hk : k < 512) (h2 : 2 ≤ N s 2 k) : IV (uN s 2 k 3) b := by
  obtain ⟨⟨B, hb⟩, ⟨L, W4'⟩, M, LL, Rg, Q, W, D, O1, O2, O3, O4, O5, O6, O7, O8⟩ := I
  have L' := Sl_set (v := 3) L (show N s 2 k ≠ 0 by omega)
  have iff2 : ∀ j, N (uN s 2 k 3) 2 j ≠ 0 ↔ N s 2 j ≠ 0 := by
    intro j; rw [N_uN]; split
    · next e => rw [e.2]; omega
    · rfl
  have iff0 : ∀ j, N (uN s 2 k 3) 2 j = 0 ↔ N s 2 j = 0 := by
    intro j; have := iff2 j; omega
  have sw : ∀ c l, sWay (uN s 2 k 3) c l = sWay s c l := by
    intro c l
    refine fst_congr (fun j _ _ => ?_)
    have := iff2 j
    have e1 : decide (0 < N (uN s 2 k 3) 2 j) = decide (0 < N s 2 j) := decide_eq_decide.mpr (by omega)
    show (decide (0 < N (uN s 2 k 3) 2 j) && decide (N s 1 j = l)) = _
    rw [e1]
  have sf : ∀ c l, sFree (uN s 2 k 3) c l = sFree s c l := by
    intro c l
    refine fst_congr (fun j _ _ => ?_)
    exact decide_eq_decide.mpr (iff0 j)
  refine ⟨⟨B, hb⟩, ⟨L', W4'⟩, M, fun l hl => ?_, ⟨?_, Rg.2⟩, Q, ?_, ?_, ?_, ?_, O3, O4, O5, O6, O7, O8⟩
  · by_cases e : l = N s 1 k
    · refine LI_change (c := k / 32) (LL l hl) ?_ ?_
      · have := vS_of B L hk (show N s 2 k ≠ 0 by omega)
        rw [e, this]; exact h2
      · intro d
        rw [vS_set B L hk (by omega)]
        by_cases e2 : d = k / 32
        · rw [if_pos ⟨e2, e⟩, if_pos e2]
        · rw [if_neg (fun g => e2 g.1), if_neg e2]
    · refine LI_eq (LL l hl) (fun _ => rfl) (fun d => ?_) (fun _ => rfl) (fun _ => rfl) (fun _ => rfl) (fun _ => rfl) (fun _ => rfl) rfl rfl rfl rfl rfl
      rw [vS_set B L hk (by omega), if_neg (fun g => e g.2)]
  · intro j hj
    obtain ⟨a1, a2, a3⟩ := Rg.1 j hj
    refine ⟨a1, ?_, a3⟩
    rw [N_uN]; split <;> omega
  · intro c l hc h1
    rw [sw, sf]; exact W c l hc h1
  · obtain ⟨d1, d2, d3, d4, d5, d6, d7⟩ := D
    exact ⟨d1, d2, d3, d4, fun j hj h => d5 j hj ((iff2 j).mp h), d6, d7⟩
  · intro j j' hj hj' g g'
    exact O1 j j' hj hj' ((iff2 j).mp g) ((iff2 j').mp g')
  · intro j hj g
    exact O2 j hj ((iff2 j).mp g)
theorem IV_change {s : St} {b k : Nat} (I : IV s b) (hk : k < 512) (h2 : 2 ≤ N s 2 k) (hb' : b + 1 ≤ 536870912) : IV (sChange s k) (b + 1) := by
  have h := IV_state (IV_use I hk hb') hk h2
  exact h
