/-! The reference begins anew. -/
def bfl (m : AH) (C : Nat → Option Int32) (n : Nat) : AH := (fun o k => (match C o with | some v => if k < n then v else m.1 o k | none => m.1 o k), m.2)
theorem bfl_hI (m : AH) (C : Nat → Option Int32) (n o k : Nat) : hI (bfl m C n) o k = (match C o with | some v => if k < n then v else hI m o k | none => hI m o k) := rfl
theorem bfl_0 (m : AH) (C : Nat → Option Int32) : bfl m C 0 = m := by
  refine AH_ext rfl (fun o k => ?_)
  rw [bfl_hI]
  cases C o with
  | none => rfl
  | some v => show (if k < 0 then v else hI m o k) = _; rw [if_neg (by omega)]
theorem bfl_n {m : AH} {C : Nat → Option Int32} {n o k : Nat} (h : C o = none) : hI (bfl m C n) o k = hI m o k := by rw [bfl_hI, h]
theorem bfl_s {m : AH} {C : Nat → Option Int32} {n o k : Nat} {v : Int32} (h : C o = some v) (hk : k < n) : hI (bfl m C n) o k = v := by
  rw [bfl_hI, h]; show (if k < n then v else hI m o k) = v; rw [if_pos hk]
def cc512 (o : Nat) : Option Int32 := if o = 261 ∨ o = 264 ∨ o = 266 then some nN else if o = 243 ∨ o = 258 ∨ o = 259 ∨ o = 260 ∨ o = 263 ∨ o = 265 ∨ o = 268 ∨ o = 269 then some (nI 0) else none
def cc16 (o : Nat) : Option Int32 := if o = 252 ∨ o = 253 then some nN else if o = 244 ∨ o = 245 ∨ o = 246 ∨ o = 247 ∨ o = 248 ∨ o = 254 ∨ o = 255 ∨ o = 256 then some (nI 0) else none
theorem bfl_st {m : AH} {C : Nat → Option Int32} {j p k : Nat} (hk : k ≠ j) : hI (bfl m C (j + 1)) p k = hI (bfl m C j) p k := by
  rw [bfl_hI, bfl_hI]
  cases C p with
  | none => rfl
  | some v =>
    show (if k < j + 1 then v else hI m p k) = (if k < j then v else hI m p k)
    by_cases c : k < j
    · rw [if_pos c, if_pos (by omega)]
    · rw [if_neg c, if_neg (by omega)]
theorem b512 (m : AH) (j : Nat) : sI (sI (sI (sI (sI (sI (sI (sI (sI (sI (sI (bfl m cc512 j) 243 j (nI 0)) 259 j (nI 0)) 258 j (nI 0)) 260 j (nI 0)) 261 j nN) 266 j nN) 264 j nN) 265 j (nI 0)) 268 j (nI 0)) 269 j (nI 0)) 263 j (nI 0) = bfl m cc512 (j + 1) := by
  refine AH_ext rfl (fun p k => ?_)
  by_cases e : k = j
  · subst e
    by_cases c1 : p = 261 ∨ p = 264 ∨ p = 266
    · rw [bfl_s (v := nN) (by unfold cc512; rw [if_pos c1]) (by omega)]
      rcases c1 with rfl | rfl | rfl <;> simp (config := { decide := true }) only [x_hI_sI, ↓reduceIte, and_self, and_true, Nat.reduceEqDiff]
    · by_cases c2 : p = 243 ∨ p = 258 ∨ p = 259 ∨ p = 260 ∨ p = 263 ∨ p = 265 ∨ p = 268 ∨ p = 269
      · rw [bfl_s (v := nI 0) (by unfold cc512; rw [if_neg c1, if_pos c2]) (by omega)]
        rcases c2 with rfl | rfl | rfl | rfl | rfl | rfl | rfl | rfl <;> simp (config := { decide := true }) only [x_hI_sI, ↓reduceIte, and_self, and_true, Nat.reduceEqDiff]
      · have cn : cc512 p = none := by unfold cc512; rw [if_neg c1, if_neg c2]
        rw [bfl_n cn, x_ne (by omega), x_ne (by omega), x_ne (by omega), x_ne (by omega), x_ne (by omega), x_ne (by omega), x_ne (by omega), x_ne (by omega), x_ne (by omega), x_ne (by omega), x_ne (by omega), bfl_n cn]
  · rw [bfl_st e, x_ne (by omega), x_ne (by omega), x_ne (by omega), x_ne (by omega), x_ne (by omega), x_ne (by omega), x_ne (by omega), x_ne (by omega), x_ne (by omega), x_ne (by omega), x_ne (by omega)]
theorem b16 (m : AH) (j : Nat) : sI (sI (sI (sI (sI (sI (sI (sI (sI (sI (bfl m cc16 j) 244 j (nI 0)) 245 j (nI 0)) 255 j (nI 0)) 256 j (nI 0)) 246 j (nI 0)) 247 j (nI 0)) 248 j (nI 0)) 252 j nN) 253 j nN) 254 j (nI 0) = bfl m cc16 (j + 1) := by
  refine AH_ext rfl (fun p k => ?_)
  by_cases e : k = j
  · subst e
    by_cases c1 : p = 252 ∨ p = 253
    · rw [bfl_s (v := nN) (by unfold cc16; rw [if_pos c1]) (by omega)]
      rcases c1 with rfl | rfl <;> simp (config := { decide := true }) only [x_hI_sI, ↓reduceIte, and_self, and_true, Nat.reduceEqDiff]
    · by_cases c2 : p = 244 ∨ p = 245 ∨ p = 246 ∨ p = 247 ∨ p = 248 ∨ p = 254 ∨ p = 255 ∨ p = 256
      · rw [bfl_s (v := nI 0) (by unfold cc16; rw [if_neg c1, if_pos c2]) (by omega)]
        rcases c2 with rfl | rfl | rfl | rfl | rfl | rfl | rfl | rfl <;> simp (config := { decide := true }) only [x_hI_sI, ↓reduceIte, and_self, and_true, Nat.reduceEqDiff]
      · have cn : cc16 p = none := by unfold cc16; rw [if_neg c1, if_neg c2]
        rw [bfl_n cn, x_ne (by omega), x_ne (by omega), x_ne (by omega), x_ne (by omega), x_ne (by omega), x_ne (by omega), x_ne (by omega), x_ne (by omega), x_ne (by omega), x_ne (by omega), bfl_n cn]
  · rw [bfl_st e, x_ne (by omega), x_ne (by omega), x_ne (by omega), x_ne (by omega), x_ne (by omega), x_ne (by omega), x_ne (by omega), x_ne (by omega), x_ne (by omega), x_ne (by omega)]
theorem q_0a : (nI 0 &&& nI 1) = nI 0 := rfl
theorem clr2 {m : AH} (L : LM m) : ∀ r j f, j + r = 512 → r < f → f_X11_clear_L28 f (bfl m cc512 j) 226 (nI j) = f_X11_clear_L120 FU (bfl m cc512 512) 226 (nI 0) := by
  intro r
  induction r with
  | zero =>
    intro j f hj hf
    obtain ⟨f, rfl⟩ : ∃ q, f = q + 1 := ⟨f - 1, by omega⟩
    have : j = 512 := by omega
    subst this
    rw [f_X11_clear_L28, if_pos (show (512 : Int32) ≤ nI 512 from by decide), y_lt]; rfl
  | succ r ih =>
    intro j f hj hf
    obtain ⟨f, rfl⟩ : ∃ q, f = q + 1 := ⟨f - 1, by omega⟩
    have Lj : LM (bfl m cc512 j) := LM_2 L rfl
    have c0 : ¬ 512 ≤ j := by omega
    have := ih (j + 1) f (by omega) (by omega)
    rw [← b512] at this
    simp (disch := omega) only [f_X11_clear_L28, ↓y_gs, ↓y_gb, ↓y_lt, ↓y_bds, q_lit, q_cl, q_ib, q_add, q_mul, ↓reduceIte, decide_true, Nat.reduceAdd, Nat.reduceMul, x_hR_sI, x_hS_sI, x_hN_sI, lm_S226 Lj, lm_R25 Lj, lm_S243 Lj, lm_N243 Lj, lm_R45 Lj, lm_S259 Lj, lm_N259 Lj, lm_R44 Lj, lm_S258 Lj, lm_N258 Lj, lm_R46 Lj, lm_S260 Lj, lm_N260 Lj, lm_R48 Lj, lm_S261 Lj, lm_N261 Lj, lm_R53 Lj, lm_S266 Lj, lm_N266 Lj, lm_R51 Lj, lm_S264 Lj, lm_N264 Lj, lm_R52 Lj, lm_S265 Lj, lm_N265 Lj, lm_R55 Lj, lm_S268 Lj, lm_N268 Lj, lm_R56 Lj, lm_S269 Lj, lm_N269 Lj, lm_R50 Lj, lm_S263 Lj, lm_N263 Lj, q_le, c0, q_nN, q_0a]
    exact this
theorem clr3 {m : AH} (L : LM m) : ∀ r j f, j + r = 16 → r < f → f_X11_clear_L120 f (bfl m cc16 j) 226 (nI j) = f_X11_clear_L212 (sI (sI (bfl m cc16 16) 226 47 (nI 0)) 226 57 (nI 0)) 226 := by
  intro r
  induction r with
  | zero =>
    intro j f hj hf
    obtain ⟨f, rfl⟩ : ∃ q, f = q + 1 := ⟨f - 1, by omega⟩
    have : j = 16 := by omega
    subst this
    have Lj : LM (bfl m cc16 16) := LM_2 L rfl
    rw [f_X11_clear_L120, if_pos (show (16 : Int32) ≤ nI 16 from by decide), y_gs, if_pos (lm_S226 Lj), y_lt, y_lt]; rfl
  | succ r ih =>
    intro j f hj hf
    obtain ⟨f, rfl⟩ : ∃ q, f = q + 1 := ⟨f - 1, by omega⟩
    have Lj : LM (bfl m cc16 j) := LM_2 L rfl
    have c0 : ¬ 16 ≤ j := by omega
    have := ih (j + 1) f (by omega) (by omega)
    rw [← b16] at this
    simp (disch := omega) only [f_X11_clear_L120, ↓y_gs, ↓y_gb, ↓y_lt, ↓y_bds, q_lit, q_cl, q_ib, q_add, q_mul, ↓reduceIte, decide_true, Nat.reduceAdd, Nat.reduceMul, x_hR_sI, x_hS_sI, x_hN_sI, lm_S226 Lj, lm_R26 Lj, lm_S244 Lj, lm_N244 Lj, lm_R27 Lj, lm_S245 Lj, lm_N245 Lj, lm_R37 Lj, lm_S255 Lj, lm_N255 Lj, lm_R38 Lj, lm_S256 Lj, lm_N256 Lj, lm_R28 Lj, lm_S246 Lj, lm_N246 Lj, lm_R29 Lj, lm_S247 Lj, lm_N247 Lj, lm_R30 Lj, lm_S248 Lj, lm_N248 Lj, lm_R34 Lj, lm_S252 Lj, lm_N252 Lj, lm_R35 Lj, lm_S253 Lj, lm_N253 Lj, lm_R36 Lj, lm_S254 Lj, lm_N254 Lj, q_le, c0, q_nN, q_0a]
    exact this
/-- the six sizes copied -/
def cp6 (m : AH) (j : Nat) : AH := (fun o k => if o = 239 ∧ k < j then m.1 240 k else m.1 o k, m.2)
theorem cp6_hI (m : AH) (j o k : Nat) : hI (cp6 m j) o k = if o = 239 ∧ k < j then hI m 240 k else hI m o k := rfl
theorem clr1 {m : AH} (L : LM m) : ∀ r j f, j + r = 6 → r < f → f_X11_clear_L2 f (cp6 m j) 226 (nI j) = f_X11_clear_L28 FU (cp6 m 6) 226 (nI 0) := by
  intro r
  induction r with
  | zero =>
    intro j f hj hf
    obtain ⟨f, rfl⟩ : ∃ q, f = q + 1 := ⟨f - 1, by omega⟩
    have : j = 6 := by omega
    subst this
    rw [f_X11_clear_L2, if_pos (show (6 : Int32) ≤ nI 6 from by decide), y_lt]; rfl
  | succ r ih =>
    intro j f hj hf
    obtain ⟨f, rfl⟩ : ∃ q, f = q + 1 := ⟨f - 1, by omega⟩
    have Lj : LM (cp6 m j) := LM_2 L rfl
    have e : sI (cp6 m j) 239 j (hI (cp6 m j) 240 j) = cp6 m (j + 1) := by
      refine AH_ext rfl (fun p k => ?_)
      rw [x_hI_sI, cp6_hI, cp6_hI, cp6_hI, if_neg (show ¬ (240 = 239 ∧ j < j) by omega)]
      by_cases c1 : p = 239 ∧ k = j
      · rw [if_pos c1, if_pos ⟨c1.1, by omega⟩, c1.2]
      · rw [if_neg c1]
        by_cases c2 : p = 239 ∧ k < j
        · rw [if_pos c2, if_pos ⟨c2.1, by omega⟩]
        · rw [if_neg c2, if_neg (fun q => by omega)]
    rw [f_X11_clear_L2, if_neg (show ¬ (6 : Int32) ≤ nI j from fun q => by have := (q_le (a := 6) (by omega) (by omega)).mp q; omega), y_gs, if_pos (lm_S226 Lj), lm_R22 Lj, y_gs, if_pos (lm_S240 Lj), lm_N240 Lj, y_gb, if_pos (q_ib (by omega) (by omega)), lm_R21 Lj, y_gs, if_pos (lm_S239 Lj), lm_N239 Lj, y_gb, if_pos (q_ib (by omega) (by omega)), q_cl (by omega), y_lt, q_add1, y_lt, e]
    exact ih (j + 1) f (by omega) (by omega)
/-- the reference's heap when it has begun anew -/
def clM (m : AH) : AH := sI (sI (sI (sI (sI (sI (sI (sI (sI (bfl (bfl (cp6 m 6) cc512 512) cc16 16) 226 47 (nI 0)) 226 57 (nI 0)) 226 59 (nI 0)) 226 62 (nI 0)) 226 63 (nI 0)) 226 64 (nI 0)) 226 65 (nI 0)) 226 66 (nI 0)) 226 67 (nI 0)
theorem r_clear {m : AH} (L : LM m) : f_X11_clear m 226 = some (clM m) := by
  have e6 : cp6 m 0 = m := AH_ext rfl (fun p k => by rw [cp6_hI, if_neg (by omega)])
  have a1 := clr1 L 6 0 FU (by omega) (FU_gt (by omega))
  rw [e6] at a1
  have L6 : LM (cp6 m 6) := LM_2 L rfl
  have a2 := clr2 L6 512 0 FU (by omega) (FU_gt (by omega))
  rw [bfl_0] at a2
  have L7 : LM (bfl (cp6 m 6) cc512 512) := LM_2 L rfl
  have a3 := clr3 L7 16 0 FU (by omega) (FU_gt (by omega))
  rw [bfl_0] at a3
  unfold f_X11_clear
  have a1' : f_X11_clear_L2 FU m 226 (0 : Int32) = _ := a1
  rw [y_lt, a1', a2, a3]
  have L8 : LM (sI (sI (bfl (bfl (cp6 m 6) cc512 512) cc16 16) 226 47 (nI 0)) 226 57 (nI 0)) := LM_2 L rfl
  unfold f_X11_clear_L212
  rw [y_gs, if_pos (lm_S226 L8), y_lt, y_lt, y_lt, y_lt, y_lt, y_lt, y_lt]
  rfl
/-- what it has then -/
theorem clM_f (m : AH) : (clM m).2 = m.2 ∧ (∀ k, k < 6 → hI (clM m) 239 k = hI m 240 k) ∧ (∀ o v k, cc512 o = some v → k < 512 → hI (clM m) o k = v) ∧ (∀ o v k, cc16 o = some v → k < 16 → hI (clM m) o k = v) ∧
    (∀ k, k = 47 ∨ k = 57 ∨ k = 59 ∨ (62 ≤ k ∧ k ≤ 67) → hI (clM m) 226 k = nI 0) ∧ (∀ o k, o ≠ 239 → cc512 o = none → cc16 o = none → ¬ (o = 226 ∧ (k = 47 ∨ k = 57 ∨ k = 59 ∨ (62 ≤ k ∧ k ≤ 67))) → hI (clM m) o k = hI m o k) := by
  have n226 : ∀ o k, ¬ (o = 226 ∧ (k = 47 ∨ k = 57 ∨ k = 59 ∨ (62 ≤ k ∧ k ≤ 67))) → hI (clM m) o k = hI (bfl (bfl (cp6 m 6) cc512 512) cc16 16) o k := fun o k q => by
    unfold clM
    rw [x_ne (by omega), x_ne (by omega), x_ne (by omega), x_ne (by omega), x_ne (by omega), x_ne (by omega), x_ne (by omega), x_ne (by omega), x_ne (by omega)]
  have d1 : ∀ o v, cc512 o = some v → cc16 o = none ∧ o ≠ 226 ∧ o ≠ 239 := fun o v h => by
    unfold cc512 at h
    split at h
    · next q => refine ⟨by unfold cc16; rw [if_neg (by omega), if_neg (by omega)], by omega, by omega⟩
    · split at h
      · next q => refine ⟨by unfold cc16; rw [if_neg (by omega), if_neg (by omega)], by omega, by omega⟩
      · cases h
  have d2 : ∀ o v, cc16 o = some v → o ≠ 226 := fun o v h => by
    unfold cc16 at h
    split at h
    · omega
    · split at h
      · omega
      · cases h
  refine ⟨rfl, fun k hk => ?_, fun o v k h hk => ?_, fun o v k h hk => ?_, fun k hk => ?_, fun o k h1 h2 h3 h4 => ?_⟩
  · rw [n226 _ _ (by omega), bfl_n (by rfl), bfl_n (by rfl), cp6_hI, if_pos ⟨rfl, hk⟩]
  · obtain ⟨q1, q2, q3⟩ := d1 o v h
    rw [n226 _ _ (by omega), bfl_n q1, bfl_s h hk]
  · rw [n226 _ _ (fun q => d2 o v h q.1), bfl_s h hk]
  · have k9 : k = 47 ∨ k = 57 ∨ k = 59 ∨ k = 62 ∨ k = 63 ∨ k = 64 ∨ k = 65 ∨ k = 66 ∨ k = 67 := by omega
    unfold clM
    rcases k9 with rfl | rfl | rfl | rfl | rfl | rfl | rfl | rfl | rfl <;> simp (config := { decide := true }) only [x_hI_sI, ↓reduceIte, and_self, and_true, true_and, Nat.reduceEqDiff]
  · rw [n226 _ _ h4, bfl_n h3, bfl_n h2, cp6_hI, if_neg (fun q => h1 q.1)]
