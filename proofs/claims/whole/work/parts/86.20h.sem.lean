/-! An instruction retires. -/
def tv (p w d r a rd pt : Int32) (j : Nat) : Int32 := if j = 0 then p else if j = 1 then w else if j = 2 then d else if j = 3 then r else if j = 4 then a else if j = 5 then rd else pt
theorem c_note {h : AH} (L : LC h) {c t : Nat} (hc : c < 16) (ht : hI h (43 + 12 * c) 1 = nI t) (hb : t < 2 ^ 30) (p w d r a rd pt : Int32) :
    ∃ h', f_X9_note h (43 + 12 * c) p w d r a rd pt = some h' ∧ h'.2 = h.2 ∧ (∀ o k, ¬ (o = 44 + 12 * c ∧ 8 * (t % 32) ≤ k ∧ k < 8 * (t % 32) + 8) → ¬ (o = 43 + 12 * c ∧ k = 1) → hI h' o k = hI h o k) ∧ hI h' (43 + 12 * c) 1 = nI (t + 1) ∧ (∀ j, j < 7 → hI h' (44 + 12 * c) (8 * (t % 32) + j) = tv p w d r a rd pt j) ∧ hI h' (44 + 12 * c) (8 * (t % 32) + 7) = nI t := by
  have x2 : (nI t - nI t / (32 : Int32) * (32 : Int32)) * (8 : Int32) = nI (8 * (t % 32)) := by
    rw [show (32 : Int32) = nI 32 from rfl, q_rem (by omega) (by omega), show (8 : Int32) = nI 8 from rfl, q_mul, Nat.mul_comm]
  have tm : t % 32 < 32 := Nat.mod_lt _ (by omega)
  generalize hq : 8 * (t % 32) = q at *
  have q256 : q + 8 ≤ 256 := by omega
  unfold f_X9_note
  rw [y_gs, if_pos (lk_S43 L hc), y_lt, ht, x2]
  have ib' : ∀ j, j < 8 → ib (nI (q + j)) 256 = true := fun j hj => q_ib (by omega) (by omega)
  have cl' : ∀ j, j < 8 → (nI (q + j)).toNatClampNeg = q + j := fun j hj => q_cl (by omega)
  have add' : ∀ j : Nat, nI q + nI j = nI (q + j) := fun j => q_add q j
  have ib0 : ib (nI q) 256 = true := ib' 0 (by omega)
  have cl0 : (nI q).toNatClampNeg = q := cl' 0 (by omega)
  have lc1 : ∀ (g : AH) (o k : Nat) (v : Int32), LC g → LC (sI g o k v) := fun g o k v e => e
  rw [lk_R43_0 L hc, y_gs, if_pos (lk_S44 L hc), lk_N44 L hc, y_gb, if_pos ib0, y_lt, cl0]
  have L1 := lc1 h (44 + 12 * c) q p L
  rw [lk_R43_0 L1 hc, y_gs, if_pos (lk_S44 L1 hc), lk_N44 L1 hc, show (1 : Int32) = nI 1 from rfl, add', y_gb, if_pos (ib' 1 (by omega)), y_lt, cl' 1 (by omega)]
  have L2 := lc1 _ (44 + 12 * c) (q + 1) w L1
  rw [lk_R43_0 L2 hc, y_gs, if_pos (lk_S44 L2 hc), lk_N44 L2 hc, show (2 : Int32) = nI 2 from rfl, add', y_gb, if_pos (ib' 2 (by omega)), y_lt, cl' 2 (by omega)]
  have L3 := lc1 _ (44 + 12 * c) (q + 2) d L2
  rw [lk_R43_0 L3 hc, y_gs, if_pos (lk_S44 L3 hc), lk_N44 L3 hc, show (3 : Int32) = nI 3 from rfl, add', y_gb, if_pos (ib' 3 (by omega)), y_lt, cl' 3 (by omega)]
  have L4 := lc1 _ (44 + 12 * c) (q + 3) r L3
  rw [lk_R43_0 L4 hc, y_gs, if_pos (lk_S44 L4 hc), lk_N44 L4 hc, show (4 : Int32) = nI 4 from rfl, add', y_gb, if_pos (ib' 4 (by omega)), y_lt, cl' 4 (by omega)]
  have L5 := lc1 _ (44 + 12 * c) (q + 4) a L4
  rw [lk_R43_0 L5 hc, y_gs, if_pos (lk_S44 L5 hc), lk_N44 L5 hc, show (5 : Int32) = nI 5 from rfl, add', y_gb, if_pos (ib' 5 (by omega)), y_lt, cl' 5 (by omega)]
  have L6 := lc1 _ (44 + 12 * c) (q + 5) rd L5
  rw [lk_R43_0 L6 hc, y_gs, if_pos (lk_S44 L6 hc), lk_N44 L6 hc, show (6 : Int32) = nI 6 from rfl, add', y_gb, if_pos (ib' 6 (by omega)), y_lt, cl' 6 (by omega)]
  have L7 := lc1 _ (44 + 12 * c) (q + 6) pt L6
  rw [lk_R43_0 L7 hc, y_gs, if_pos (lk_S44 L7 hc), lk_N44 L7 hc, show (7 : Int32) = nI 7 from rfl, add', y_gb, if_pos (ib' 7 (by omega)), y_lt, cl' 7 (by omega)]
  have t7 : hI (sI (sI (sI (sI (sI (sI (sI h (44 + 12 * c) q p) (44 + 12 * c) (q + 1) w) (44 + 12 * c) (q + 2) d) (44 + 12 * c) (q + 3) r) (44 + 12 * c) (q + 4) a) (44 + 12 * c) (q + 5) rd) (44 + 12 * c) (q + 6) pt) (43 + 12 * c) 1 = nI t := by
    rw [x_ne (by omega), x_ne (by omega), x_ne (by omega), x_ne (by omega), x_ne (by omega), x_ne (by omega), x_ne (by omega)]; exact ht
  rw [t7]
  unfold f_X9_note_L99
  have L8 := lc1 _ (44 + 12 * c) (q + 7) (nI t) L7
  rw [y_gs, if_pos (lk_S43 L8 hc), y_lt, x_ne (by omega), t7, show (1 : Int32) = nI 1 from rfl, q_add]
  refine ⟨_, rfl, rfl, fun o k g1 g2 => ?_, x_eq _ _ _ _, fun j hj => ?_, ?_⟩
  · rw [x_ne (by omega), x_ne (by omega), x_ne (by omega), x_ne (by omega), x_ne (by omega), x_ne (by omega), x_ne (by omega), x_ne (by omega), x_ne (by omega)]
  · rw [x_ne (by omega), x_ne (by omega)]
    unfold tv
    have : j = 0 ∨ j = 1 ∨ j = 2 ∨ j = 3 ∨ j = 4 ∨ j = 5 ∨ j = 6 := by omega
    rcases this with rfl | rfl | rfl | rfl | rfl | rfl | rfl
    · rw [x_ne (by omega), x_ne (by omega), x_ne (by omega), x_ne (by omega), x_ne (by omega), x_ne (by omega), show q + 0 = q from rfl, x_eq]; rfl
    · rw [x_ne (by omega), x_ne (by omega), x_ne (by omega), x_ne (by omega), x_ne (by omega), x_eq]; rfl
    · rw [x_ne (by omega), x_ne (by omega), x_ne (by omega), x_ne (by omega), x_eq]; rfl
    · rw [x_ne (by omega), x_ne (by omega), x_ne (by omega), x_eq]; rfl
    · rw [x_ne (by omega), x_ne (by omega), x_eq]; rfl
    · rw [x_ne (by omega), x_eq]; rfl
    · rw [x_eq]; rfl
  · rw [x_ne (by omega), x_eq]
theorem r_retire {m : AH} (L : LM m) {c t d : Nat} {np w p r a rd pt : Int32} (hc : c < 16) (ht : hI m 246 c = nI t) (hb : t < 2 ^ 30) (h78 : hI m 226 78 = w) (h40 : hI m 226 40 = nI d) (hd : d < 32) (h41 : hI m 226 41 = a) (h42 : hI m 226 42 = rd) (h43 : hI m 226 43 = pt) (hp : hI m 244 c = p) (hr : hI m 243 (32 * c + d) = r) :
    ∃ m', f_X11_retire m 226 (nI c) np = some (nI 1, m') ∧ m'.2 = m.2 ∧ (∀ o k, ¬ (o = 257 ∧ 7 * (32 * c + t % 32) ≤ k ∧ k < 7 * (32 * c + t % 32) + 7) → ¬ ((o = 244 ∨ o = 246 ∨ o = 255) ∧ k = c) → ¬ (o = 226 ∧ k = 62) → hI m' o k = hI m o k) ∧ hI m' 246 c = nI (t + 1) ∧ hI m' 244 c = np &&& (8191 : Int32) ∧ hI m' 255 c = 0 ∧ hI m' 226 62 = hI m 226 62 + (1 : Int32) ∧ (∀ j, j < 7 → hI m' 257 (7 * (32 * c + t % 32) + j) = tv p w (nI d) r a rd pt j) := by
  have x2 : (7 : Int32) * ((32 : Int32) * nI c + (nI t - nI t / (32 : Int32) * (32 : Int32))) = nI (7 * (32 * c + t % 32)) := by
    rw [show (32 : Int32) = nI 32 from rfl, q_rem (by omega) (by omega), q_mul, q_add, show (7 : Int32) = nI 7 from rfl, q_mul]
  have tm : t % 32 < 32 := Nat.mod_lt _ (by omega)
  generalize hq : 7 * (32 * c + t % 32) = q at *
  have qb : q + 7 ≤ 3584 := by omega
  have ib' : ∀ j, j < 7 → ib (nI (q + j)) 3584 = true := fun j hj => q_ib (by omega) (by omega)
  have cl' : ∀ j, j < 7 → (nI (q + j)).toNatClampNeg = q + j := fun j hj => q_cl (by omega)
  have add' : ∀ j : Nat, nI q + nI j = nI (q + j) := fun j => q_add q j
  have ib0 : ib (nI q) 3584 = true := ib' 0 (by omega)
  have cl0 : (nI q).toNatClampNeg = q := cl' 0 (by omega)
  have ibc : ib (nI c) 16 = true := q_ib hc (by omega)
  have clc : (nI c).toNatClampNeg = c := q_cl (by omega)
  have lm1 : ∀ (g : AH) (o k : Nat) (v : Int32), LM g → LM (sI g o k v) := fun g o k v e => e
  unfold f_X11_retire
  rw [y_gs, if_pos (lm_S226 L), lm_R28 L, y_gs, if_pos (lm_S246 L), lm_N246 L, y_gb, if_pos ibc, y_lt, clc, ht, x2]
  rw [lm_R26 L, y_gs, if_pos (lm_S244 L), lm_N244 L, y_gb, if_pos ibc, lm_R39 L, y_gs, if_pos (lm_S257 L), lm_N257 L, y_gb, if_pos ib0, y_lt, cl0, hp]
  have L1 := lm1 m 257 q p L
  rw [lm_R39 L1, y_gs, if_pos (lm_S257 L1), lm_N257 L1, show (1 : Int32) = nI 1 from rfl, add', y_gb, if_pos (ib' 1 (by omega)), y_lt, cl' 1 (by omega), x_ne (by omega), h78]
  have L2 := lm1 _ 257 (q + 1) w L1
  rw [lm_R39 L2, y_gs, if_pos (lm_S257 L2), lm_N257 L2, show (2 : Int32) = nI 2 from rfl, add', y_gb, if_pos (ib' 2 (by omega)), y_lt, cl' 2 (by omega), x_ne (by omega), x_ne (by omega), h40]
  have L3 := lm1 _ 257 (q + 2) (nI d) L2
  have e40 : hI (sI (sI (sI m 257 q p) 257 (q + 1) w) 257 (q + 2) (nI d)) 226 40 = nI d := by
    rw [x_ne (by omega), x_ne (by omega), x_ne (by omega)]; exact h40
  have reg : f_X11_reg (sI (sI (sI m 257 q p) 257 (q + 1) w) 257 (q + 2) (nI d)) 226 (nI c) (nI d) = some r := by
    unfold f_X11_reg
    rw [y_gs, if_pos (lm_S226 L3), lm_R25 L3, y_gs, if_pos (lm_S243 L3), lm_N243 L3, show (32 : Int32) = nI 32 from rfl, q_mul, q_add, y_gb, if_pos (q_ib (by omega) (by omega)), q_cl (by omega), x_ne (by omega), x_ne (by omega), x_ne (by omega), hr]
  rw [e40, reg, y_bds, lm_R39 L3, y_gs, if_pos (lm_S257 L3), lm_N257 L3, show (3 : Int32) = nI 3 from rfl, add', y_gb, if_pos (ib' 3 (by omega)), y_lt, cl' 3 (by omega)]
  have L4 := lm1 _ 257 (q + 3) r L3
  rw [lm_R39 L4, y_gs, if_pos (lm_S257 L4), lm_N257 L4, show (4 : Int32) = nI 4 from rfl, add', y_gb, if_pos (ib' 4 (by omega)), y_lt, cl' 4 (by omega), x_ne (by omega), x_ne (by omega), x_ne (by omega), x_ne (by omega), h41]
  have L5 := lm1 _ 257 (q + 4) a L4
  rw [lm_R39 L5, y_gs, if_pos (lm_S257 L5), lm_N257 L5, show (5 : Int32) = nI 5 from rfl, add', y_gb, if_pos (ib' 5 (by omega)), y_lt, cl' 5 (by omega), x_ne (by omega), x_ne (by omega), x_ne (by omega), x_ne (by omega), x_ne (by omega), h42]
  have L6 := lm1 _ 257 (q + 5) rd L5
  generalize hm6 : sI (sI (sI (sI (sI (sI m 257 q p) 257 (q + 1) w) 257 (q + 2) (nI d)) 257 (q + 3) r) 257 (q + 4) a) 257 (q + 5) rd = m6 at L6
  have f6 : ∀ o k, ¬ (o = 257 ∧ q ≤ k ∧ k < q + 6) → hI m6 o k = hI m o k := by
    intro o k g
    rw [← hm6, x_ne (by omega), x_ne (by omega), x_ne (by omega), x_ne (by omega), x_ne (by omega), x_ne (by omega)]
  have v6 : ∀ j, j < 6 → hI m6 257 (q + j) = tv p w (nI d) r a rd pt j := by
    intro j hj
    rw [← hm6]
    unfold tv
    have : j = 0 ∨ j = 1 ∨ j = 2 ∨ j = 3 ∨ j = 4 ∨ j = 5 := by omega
    rcases this with rfl | rfl | rfl | rfl | rfl | rfl
    · rw [x_ne (by omega), x_ne (by omega), x_ne (by omega), x_ne (by omega), x_ne (by omega), show q + 0 = q from rfl, x_eq]; rfl
    · rw [x_ne (by omega), x_ne (by omega), x_ne (by omega), x_ne (by omega), x_eq]; rfl
    · rw [x_ne (by omega), x_ne (by omega), x_ne (by omega), x_eq]; rfl
    · rw [x_ne (by omega), x_ne (by omega), x_eq]; rfl
    · rw [x_ne (by omega), x_eq]; rfl
    · rw [x_eq]; rfl
  have e6 : m6.2 = m.2 := by rw [← hm6]; rfl
  unfold f_X11_retire_L95
  rw [y_gs, if_pos (lm_S226 L6), lm_R39 L6, y_gs, if_pos (lm_S257 L6), lm_N257 L6, show (6 : Int32) = nI 6 from rfl, add', y_gb, if_pos (ib' 6 (by omega)), y_lt, cl' 6 (by omega), f6 226 43 (by omega), h43]
  have L7 := lm1 _ 257 (q + 6) pt L6
  rw [lm_R26 L7, y_gs, if_pos (lm_S244 L7), lm_N244 L7, y_gb, if_pos ibc, y_lt, clc]
  have L8 := lm1 _ 244 c (np &&& (8191 : Int32)) L7
  rw [lm_R28 L8, y_gs, if_pos (lm_S246 L8), lm_N246 L8, y_gb, if_pos ibc, y_gb, if_pos ibc, y_lt]
  have e246 : hI (sI (sI m6 257 (q + 6) pt) 244 c (np &&& (8191 : Int32))) 246 c = nI t := by
    rw [x_ne (by omega), x_ne (by omega), f6 246 c (by omega)]; exact ht
  rw [e246, show (1 : Int32) = nI 1 from rfl, q_add]
  have L9 := lm1 _ 246 c (nI (t + 1)) L8
  rw [lm_R37 L9, y_gs, if_pos (lm_S255 L9), lm_N255 L9, y_gb, if_pos ibc, y_lt, y_lt]
  refine ⟨_, rfl, ?_, fun o k g1 g2 g3 => ?_, ?_, ?_, ?_, ?_, fun j hj => ?_⟩
  · exact e6
  · rw [x_ne (by omega), x_ne (by omega), x_ne (by omega), x_ne (by omega), x_ne (by omega), f6 o k (by omega)]
  · rw [x_ne (by omega), x_ne (by omega), x_eq]
  · rw [x_ne (by omega), x_ne (by omega), x_ne (by omega), x_eq]
  · rw [x_ne (by omega), x_eq]
  · rw [x_eq, x_ne (by omega), x_ne (by omega), x_ne (by omega), x_ne (by omega), f6 226 62 (by omega)]
  · rw [x_ne (by omega), x_ne (by omega), x_ne (by omega), x_ne (by omega)]
    by_cases e : j = 6
    · subst e; rw [x_eq]; rfl
    · rw [x_ne (by omega)]; exact v6 j (by omega)
