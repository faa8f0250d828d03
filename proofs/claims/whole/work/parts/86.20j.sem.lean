theorem Rel_x {h m h' m' : AH} {s : St} {e e' : Ex} {b b' : Nat} (R : Rel h m s e b) (e1 : h'.2 = h.2) (e3 : ∀ o k, ¬ xo o k → hI h' o k = hI h o k) (e4 : m'.2 = m.2) (e5 : ∀ o k, irr o k = false → hI m' o k = hI m o k) (X : EX h' m' s e' b') (hb : b ≤ b') (hb2 : b' ≤ 536870912) : Rel h' m' s e' b' :=
  ⟨⟨RC_x R.1.1 e1 e3, DZ_x R.1.2 e3⟩, RM_x R.2.1 e4 e5, IV_up R.2.2.1 hb hb2, R.2.2.2.1, X⟩
/-- EX at one core changed -/
theorem EX_core {h m h' m' : AH} {s : St} {e e' : Ex} {b c : Nat} (X : EX h m s e b) (lim : N s 0 1 ≤ 16)
    (f : ∀ o k, (o = 35 + 12 * c ∨ o = 36 + 12 * c ∨ o = 37 + 12 * c ∨ o = 43 + 12 * c ∨ o = 44 + 12 * c ∨ o = 34 + 12 * c) ∨ hI h' o k = hI h o k)
    (g : ∀ o k, (((o = 244 ∨ o = 245 ∨ o = 248 ∨ o = 246 ∨ o = 255 ∨ o = 256) ∧ k = c) ∨ ((o = 249 ∨ o = 250 ∨ o = 251) ∧ 16 * c ≤ k ∧ k < 16 * c + 16) ∨ (o = 243 ∧ 32 * c ≤ k ∧ k < 32 * c + 32) ∨ (o = 257 ∧ 7 * (32 * c) ≤ k ∧ k < 7 * (32 * c) + 224) ∨ (o = 226 ∧ ((40 ≤ k ∧ k ≤ 43) ∨ k = 77 ∨ k = 78))) ∨ hI m' o k = hI m o k)
    (he : ∀ F i, ((F = 0 ∨ F = 1 ∨ F = 2 ∨ F = 5) ∧ i ≠ c) ∨ ((F = 3 ∨ F = 4) ∧ ¬ (16 * c ≤ i ∧ i < 16 * c + 16)) ∨ (8 ≤ F) ∨ F = 5 → e' F i = e F i) (Xc : EXc h' m' (N s 0 1) e' b c) : EX h' m' s e' b := by
  refine ⟨fun j hj => ?_, ?_⟩
  · by_cases jc : j = c
    · subst jc; exact Xc
    · have z := EXc_of (h' := h') (m' := m') (b' := b) (X.1 j hj) hj (fun o k ho => by rcases f o k with w | w; exfalso; omega; exact w) (fun k => by
        by_cases kl : k < 32
        · refine Or.inl ?_
          rcases g 243 (32 * j + k) with w | w
          · exfalso; omega
          · exact w
        · exact Or.inr (by omega)) (fun o ho => by rcases g o j with w | w; exfalso; omega; exact w) (fun o k ho hk => by rcases g o (16 * j + k) with w | w; exfalso; omega; exact w) (fun k hk i hi => by rcases g 257 (7 * (32 * j + k) + i) with w | w; exfalso; omega; exact w) (Nat.le_refl _) lim
      obtain ⟨x1, ⟨x2, x3, x4⟩, ⟨x5, x6, x7⟩, ⟨x8, x9, x10, x11⟩, x12, ⟨x13, x14, x15⟩, x16, x17, x18⟩ := z
      unfold EXc
      rw [he 0 j (by omega), he 1 j (by omega), he 2 j (by omega), he 5 j (by omega)]
      refine ⟨x1, ⟨x2, x3, x4⟩, ⟨x5, x6, x7⟩, ⟨x8, x9, x10, x11⟩, fun i hi => ?_, ⟨x13, x14, x15⟩, x16, x17, x18⟩
      rw [he 3 _ (by omega), he 4 _ (by omega)]; exact x12 i hi
  · have z := EXg_of (h' := h') (m' := m') X.2 (fun o k ho => by rcases f o k with w | w; exfalso; omega; exact w) (fun o k ho => by rcases g o k with w | w; exfalso; omega; exact w)
    obtain ⟨⟨z1, z2⟩, z3, z4, ⟨z5, z6, z7⟩, z8, z9, z10⟩ := z
    refine ⟨⟨?_, fun j hj => ?_⟩, z3, z4, ⟨?_, ?_, ?_⟩, fun i hi => ?_, fun i hi => ?_, ?_⟩
    · rw [sg_congr (f := e' 5) (g := e 5) 16 (fun j _ => he 5 j (by omega))]; exact z1
    · rw [he 5 j (by omega)]; exact z2 j hj
    · rw [he 8 0 (by omega)]; exact z5
    · rw [he 8 1 (by omega)]; exact z6
    · rw [he 8 1 (by omega)]; exact z7
    · rw [he 8 1 (by omega)] at hi
      rw [he 9 i (by omega)]; exact z8 i hi
    · rw [he 10 i (by omega)]; exact z9 i hi
    · have : e' 10 = e 10 := by funext i; exact he 10 i (by omega)
      rw [this, he 8 2 (by omega)]; exact z10
theorem Rel_cause {h m : AH} {s : St} {e : Ex} {b c why : Nat} (R : Rel h m s e b) (hc : c < 16) (hw : why ≤ 4) : Rel (sI h (34 + 12 * c) 4 (nI why)) (sI m 245 c (nI why)) s (e2 e 1 c why) b := by
  have lim := Rel_lim R
  refine Rel_x R rfl (fun o k g => x_ne (fun w => g (by unfold xo; omega))) rfl (fun o k g => x_ne (fun w => by have := irr_f g; omega)) ?_ (Nat.le_refl _) R.2.2.1.1.2
  have X := R.2.2.2.2
  refine EX_core (c := c) X lim (fun o k => ?_) (fun o k => ?_) (fun F i h => by rw [e2_ne (by omega)]) ?_
  · by_cases w : o = 34 + 12 * c ∧ k = 4
    · exact Or.inl (by omega)
    · exact Or.inr (x_ne w)
  · by_cases w : o = 245 ∧ k = c
    · exact Or.inl (by omega)
    · exact Or.inr (x_ne w)
  · obtain ⟨x1, ⟨x2, x3, x4⟩, ⟨x5, x6, x7⟩, ⟨x8, x9, x10, x11⟩, x12, ⟨x13, x14, x15⟩, x16, x17, x18⟩ := X.1 c hc
    refine ⟨fun r hr => ?_, ⟨?_, ?_, ?_⟩, ⟨?_, ?_, ?_⟩, ⟨?_, ?_, ?_, ?_⟩, fun i hi => ?_, ⟨?_, ?_, ?_⟩, fun k hk hk2 => ?_, ?_, ?_⟩
    · rw [x_ne (by omega), x_ne (by omega)]; exact x1 r hr
    · rw [x_ne (by omega), e2_ne (by omega)]; exact x2
    · rw [x_ne (by omega), e2_ne (by omega)]; exact x3
    · rw [e2_ne (by omega)]; exact x4
    · rw [x_eq, e2_eq]
    · rw [x_eq, e2_eq]
    · rw [e2_eq]; exact hw
    · rw [x_ne (by omega), e2_ne (by omega)]; exact x8
    · rw [x_ne (by omega), e2_ne (by omega)]; exact x9
    · rw [e2_ne (by omega)]; exact x10
    · rw [x_ne (by omega)]; exact x11
    · rw [e2_ne (by omega)] at hi
      have z := x12 i hi
      rw [x_ne (by omega), x_ne (by omega), x_ne (by omega), x_ne (by omega), x_ne (by omega), x_ne (by omega), e2_ne (by omega), e2_ne (by omega)]
      exact z
    · rw [x_ne (by omega), e2_ne (by omega)]; exact x13
    · rw [x_ne (by omega), e2_ne (by omega)]; exact x14
    · rw [e2_ne (by omega)]; exact x15
    · rw [e2_ne (by omega)] at hk2 ⊢
      have z := x16 k hk hk2
      rw [x_ne (by omega)]
      refine ⟨fun j hj => ?_, z.2⟩
      rw [x_ne (by omega), x_ne (by omega)]; exact z.1 j hj
    · rw [x_ne (by omega), x_ne (by omega)]; exact x17
    · rw [x_ne (by omega), x_ne (by omega), x_ne (by omega)]; exact x18
/-- the reference's heap within a step: only what is noted for the trace differs -/
def Q2 (m m2 : AH) (w : Int32) (d : Nat) : Prop := m2.2 = m.2 ∧ (∀ o k, o ≠ 226 → hI m2 o k = hI m o k) ∧ (∀ k, k ≠ 40 → k ≠ 41 → k ≠ 42 → k ≠ 43 → k ≠ 77 → k ≠ 78 → hI m2 226 k = hI m 226 k) ∧ hI m2 226 78 = w ∧ hI m2 226 40 = nI d ∧ hI m2 226 41 = -1 ∧ hI m2 226 42 = 0 ∧ hI m2 226 43 = 0
theorem stop_both {h m m2 : AH} {s : St} {e : Ex} {b c why d : Nat} {w : Int32} (R : Rel h m s e b) (hc : c < N s 0 0) (hw : why ≤ 4) (K : Q2 m m2 w d) (hb : b + 1 ≤ 536870912) :
    ∃ h' m' e', f_X3_stopped h (34 + 12 * c) w (nI why) = some (nI 1, h') ∧ f_X11_stops m2 226 (nI c) (nI why) = some (nI 1, m') ∧ Rel h' m' s e' (b + 1) ∧ Bd h h' ∧ m'.2 = m.2 ∧ (∀ F i, 8 ≤ F → e' F i = e F i) := by
  have c16 : c < 16 := by have := R.2.2.1.1.1.1.2; omega
  obtain ⟨k1, k2, k3, k4, k5, k6, k7, k8⟩ := K
  have L := RC_L R.1.1
  have LM2 := LM_2 (rm_L R.2.1) k1
  obtain ⟨_, ⟨x2, x3, x4⟩, _⟩ := R.2.2.2.2.1 c c16
  have R1 := Rel_cause R c16 hw
  have M : M2 (sI m 245 c (nI why)) (sI (sI (sI m2 245 c (nI why)) 226 40 (0 : Int32)) 226 41 (-1 : Int32)) c 0 0 w (-1) 0 0 := by
    refine ⟨k1, fun o k h1 _ => ?_, fun h => absurd rfl h, fun k h1 h2 h3 h4 h5 h6 => ?_, ?_, ?_, ?_, ?_, ?_⟩
    · rw [x_ne (by omega), x_ne (by omega)]
      by_cases g : o = 245 ∧ k = c
      · rw [g.1, g.2, x_eq, x_eq]
      · rw [x_ne g, x_ne g, k2 o k h1]
    · rw [x_ne (by omega), x_ne (by omega), x_ne (by omega), x_ne (by omega), k3 k h1 h2 h3 h4 h5 h6]
    · rw [x_ne (by omega), x_ne (by omega), x_ne (by omega)]; exact k4
    · rw [x_ne (by omega), x_eq]; rfl
    · rw [x_eq]
    · rw [x_ne (by omega), x_ne (by omega), x_ne (by omega)]; exact k7
    · rw [x_ne (by omega), x_ne (by omega), x_ne (by omega)]; exact k8
  obtain ⟨h', m', e', a1, a2, a3, a4, a5, a6⟩ := fin_both (np := nI (e 0 c)) R1 hc (by omega) M hb
  refine ⟨h', m', e', ?_, ?_, a3, a4, a5, fun F i hF => by rw [a6 F i hF, e2_ne (by omega)]⟩
  · unfold f_X3_stopped
    have a1' : f_X3_finish (sI h (34 + 12 * c) 4 (nI why)) (34 + 12 * c) w (0 : Int32) (0 : Int32) (-1 : Int32) (0 : Int32) (0 : Int32) (nI (e 0 c)) = some (nI 1, h') := a1
    rw [y_gs, if_pos (lk_S34 L c16), y_lt, x_ne (by omega), x2, a1', y_bds]
  · unfold f_X11_stops
    have L3 : LM (sI (sI (sI m2 245 c (nI why)) 226 40 (0 : Int32)) 226 41 (-1 : Int32)) := LM2
    rw [y_gs, if_pos (lm_S226 LM2), lm_R27 LM2, y_gs, if_pos (lm_S245 LM2), lm_N245 LM2, y_gb, if_pos (q_ib c16 (by omega)), y_lt, y_lt, y_lt, q_cl (show c < 2 ^ 31 by omega), lm_R26 L3, y_gs, if_pos (lm_S244 L3), lm_N244 L3, y_gb, if_pos (q_ib c16 (by omega)), x_ne (by omega), x_ne (by omega), x_ne (by omega), k2 244 c (by omega), x3, a2, y_bds]
/-- setReg -/
theorem r_setReg {m : AH} (L : LM m) {c d : Nat} (hc : c < 16) (hd : d < 32) (v : Int32) : f_X11_setReg m 226 (nI c) (nI d) v = some (if d = 0 then m else sI m 243 (32 * c + d) v) := by
  unfold f_X11_setReg
  by_cases g : d = 0
  · rw [if_pos (show nI d ≤ 0 from by rw [g]; decide), if_pos g]
  · have nz : ¬ nI d ≤ 0 := fun w => g (by have := (q_le (show d < 2 ^ 31 by omega) (show 0 < 2 ^ 31 by omega)).mp w; omega)
    rw [if_neg nz, if_neg g, y_gs, if_pos (lm_S226 L), lm_R25 L, y_gs, if_pos (lm_S243 L), lm_N243 L, show (32 : Int32) = nI 32 from rfl, q_mul, q_add, y_gb, if_pos (q_ib (by omega) (by omega)), y_lt, q_cl (by omega)]
theorem M2_of {m m2 : AH} {w : Int32} {c d : Nat} (K : Q2 m m2 w d) (v : Int32) : M2 m (if d = 0 then m2 else sI m2 243 (32 * c + d) v) c d v w (-1) 0 0 := by
  obtain ⟨k1, k2, k3, k4, k5, k6, k7, k8⟩ := K
  by_cases g : d = 0
  · rw [if_pos g]
    exact ⟨k1, fun o k h1 _ => k2 o k h1, fun h => absurd g h, k3, k4, k5, k6, k7, k8⟩
  · rw [if_neg g]
    refine ⟨k1, fun o k h1 h2 => ?_, fun h => x_eq _ _ _ _, fun k h1 h2 h3 h4 h5 h6 => ?_, ?_, ?_, ?_, ?_, ?_⟩
    · rw [x_ne (by omega)]; exact k2 o k h1
    · rw [x_ne (by omega)]; exact k3 k h1 h2 h3 h4 h5 h6
    · rw [x_ne (by omega)]; exact k4
    · rw [x_ne (by omega)]; exact k5
    · rw [x_ne (by omega)]; exact k6
    · rw [x_ne (by omega)]; exact k7
    · rw [x_ne (by omega)]; exact k8
theorem LM_if {m : AH} (L : LM m) {d : Nat} {o k : Nat} {v : Int32} : LM (if d = 0 then m else sI m o k v) := by split <;> exact L
/-- a result is reckoned, and the place goes on by np -/
theorem reck_both {h m m2 : AH} {s : St} {e : Ex} {b c d : Nat} {w v np : Int32} (R : Rel h m s e b) (hc : c < N s 0 0) (hd : d < 32) (K : Q2 m m2 w d) (hb : b + 1 ≤ 536870912) :
    ∃ h' m' e', f_X3_finish h (34 + 12 * c) w (nI d) v (-1 : Int32) (0 : Int32) (0 : Int32) np = some (nI 1, h') ∧ f_X11_retire (if d = 0 then m2 else sI m2 243 (32 * c + d) v) 226 (nI c) np = some (nI 1, m') ∧ Rel h' m' s e' (b + 1) ∧ Bd h h' ∧ m'.2 = m.2 ∧ (∀ F i, 8 ≤ F → e' F i = e F i) :=
  fin_both R hc hd (M2_of K v) hb
