/-! A drain in both. -/
def sh3 (m : AH) (c j : Nat) : AH := (fun p k => if (p = 249 ∨ p = 250 ∨ p = 251) ∧ 16 * c ≤ k ∧ k < 16 * c + j then m.1 p (k + 1) else m.1 p k, m.2)
theorem sh3_hI (m : AH) (c j p k : Nat) : hI (sh3 m c j) p k = if (p = 249 ∨ p = 250 ∨ p = 251) ∧ 16 * c ≤ k ∧ k < 16 * c + j then hI m p (k + 1) else hI m p k := rfl
theorem sh3_0 (m : AH) (c : Nat) : sh3 m c 0 = m := by
  have : (sh3 m c 0).1 = m.1 := by
    funext p k
    show (if _ then _ else _) = _
    rw [if_neg (by omega)]
  show ((sh3 m c 0).1, m.2) = (m.1, m.2)
  rw [this]
theorem AH_ext {a b : AH} (h1 : a.2 = b.2) (h2 : ∀ o k, hI a o k = hI b o k) : a = b := by
  have : a.1 = b.1 := by funext o k; exact h2 o k
  show (a.1, a.2) = (b.1, b.2)
  rw [this, h1]
theorem r_shift3 {m : AH} (L : LM m) {c n : Nat} (hc : c < 16) (hn : n < 16) (h248 : hI m 248 c = nI n) (d : Nat) : ∀ (j f : Nat), j + d = n → f_X11_drainOf_L91 (f + (d + 1)) (sh3 m c j) 226 (nI c) (nI (16 * c + j)) = some (nI 1, sh3 m c n) := by
  induction d with
  | zero =>
    intro j f hj
    have L' : LM (sh3 m c j) := L
    have e8 : hI (sh3 m c j) 248 c = nI n := by rw [sh3_hI, if_neg (by omega)]; exact h248
    unfold f_X11_drainOf_L91
    rw [y_gs, if_pos (lm_S226 L'), lm_R30 L', y_gs, if_pos (lm_S248 L'), lm_N248 L', y_gb, if_pos (q_ib hc (by omega)), q_cl (show c < 2 ^ 31 by omega), e8, show (16 : Int32) = nI 16 from rfl, q_mul, q_add, if_pos ((q_le (by omega) (by omega)).mpr (by omega)), show j = n by omega]; rfl
  | succ d ih =>
    intro j f hj
    have L' : LM (sh3 m c j) := L
    have e8 : hI (sh3 m c j) 248 c = nI n := by rw [sh3_hI, if_neg (by omega)]; exact h248
    unfold f_X11_drainOf_L91
    have L2 := fun v => (show LM (sI (sh3 m c j) 249 (16 * c + j) v) from L)
    rw [y_gs, if_pos (lm_S226 L'), lm_R30 L', y_gs, if_pos (lm_S248 L'), lm_N248 L', y_gb, if_pos (q_ib hc (by omega)), q_cl (show c < 2 ^ 31 by omega), e8, show (16 : Int32) = nI 16 from rfl, q_mul, q_add, if_neg (fun w => by have := (q_le (by omega) (by omega)).mp w; omega), show (1 : Int32) = nI 1 from rfl, q_add, lm_R31 L', y_gs, if_pos (lm_S249 L'), lm_N249 L', y_gb, if_pos (q_ib (by omega) (by omega)), y_gb, if_pos (q_ib (by omega) (by omega)), y_lt, q_cl (show 16 * c + j < 2 ^ 31 by omega), q_cl (show 16 * c + j + 1 < 2 ^ 31 by omega), lm_R32 (L2 _), y_gs, if_pos (lm_S250 (L2 _)), lm_N250 (L2 _), y_gb, if_pos (q_ib (by omega) (by omega)), y_gb, if_pos (q_ib (by omega) (by omega)), y_lt]
    have L3 := fun v w => (show LM (sI (sI (sh3 m c j) 249 (16 * c + j) v) 250 (16 * c + j) w) from L)
    rw [lm_R33 (L3 _ _), y_gs, if_pos (lm_S251 (L3 _ _)), lm_N251 (L3 _ _), y_gb, if_pos (q_ib (by omega) (by omega)), y_gb, if_pos (q_ib (by omega) (by omega)), y_lt, y_lt]
    have st : sI (sI (sI (sh3 m c j) 249 (16 * c + j) (hI (sh3 m c j) 249 (16 * c + j + 1))) 250 (16 * c + j) (hI (sI (sh3 m c j) 249 (16 * c + j) (hI (sh3 m c j) 249 (16 * c + j + 1))) 250 (16 * c + j + 1))) 251 (16 * c + j) (hI (sI (sI (sh3 m c j) 249 (16 * c + j) (hI (sh3 m c j) 249 (16 * c + j + 1))) 250 (16 * c + j) (hI (sI (sh3 m c j) 249 (16 * c + j) (hI (sh3 m c j) 249 (16 * c + j + 1))) 250 (16 * c + j + 1))) 251 (16 * c + j + 1)) = sh3 m c (j + 1) := by
      refine AH_ext rfl (fun o k => ?_)
      by_cases g : o = 251 ∧ k = 16 * c + j
      · rw [g.1, g.2, x_eq, x_ne (by omega), x_ne (by omega), sh3_hI, sh3_hI, if_neg (by omega), if_pos (by omega)]
      · rw [x_ne g]
        by_cases g2 : o = 250 ∧ k = 16 * c + j
        · rw [g2.1, g2.2, x_eq, x_ne (by omega), sh3_hI, sh3_hI, if_neg (by omega), if_pos (by omega)]
        · rw [x_ne g2]
          by_cases g3 : o = 249 ∧ k = 16 * c + j
          · rw [g3.1, g3.2, x_eq, sh3_hI, sh3_hI, if_neg (by omega), if_pos (by omega)]
          · rw [x_ne g3, sh3_hI, sh3_hI]
            by_cases g4 : (o = 249 ∨ o = 250 ∨ o = 251) ∧ 16 * c ≤ k ∧ k < 16 * c + j
            · rw [if_pos g4, if_pos (by omega)]
            · rw [if_neg g4, if_neg (by omega)]
    rw [st]
    exact ih (j + 1) f (by omega)
def eD (e : Ex) (c n : Nat) : Ex := fun F i => if F = 2 ∧ i = c then n else if (F = 3 ∨ F = 4) ∧ 16 * c ≤ i ∧ i < 16 * c + n then e F (i + 1) else e F i
theorem pop_both {h m : AH} {s : St} {e : Ex} {b c : Nat} (R : Rel h m s e b) (c16 : c < 16) (hn : 1 ≤ e 2 c) :
    ∃ h' m', f_X7_removeOldest h (36 + 12 * c) = some h' ∧ f_X11_drainOf_L85 (sI m 248 c (nI (e 2 c - 1))) 226 (nI c) = some (nI 1, m') ∧ Rel h' m' s (eD e c (e 2 c - 1)) b ∧ h'.2 = h.2 ∧ m'.2 = m.2 := by
  have lim := Rel_lim R
  have L := RC_L R.1.1
  have LM' := rm_L R.2.1
  have X := R.2.2.2.2
  obtain ⟨u1, ⟨u2, u3, u4⟩, ⟨u5, u6, u7⟩, ⟨u8, u9, u10, u11⟩, u12, ⟨u13, u14, u15⟩, u16, u17, u18⟩ := X.1 c c16
  have L3 : LC (sI h (36 + 12 * c) 1 (nI (e 2 c - 1))) := L
  generalize hg : va_cpy (hI (sI h (36 + 12 * c) 1 (nI (e 2 c - 1))) (37 + 12 * c)) (hI (sI h (36 + 12 * c) 1 (nI (e 2 c - 1))) (37 + 12 * c)) 3 0 ((e 2 c - 1) * 3) = g
  have rem : f_X7_removeOldest h (36 + 12 * c) = some (sA (sI h (36 + 12 * c) 1 (nI (e 2 c - 1))) (37 + 12 * c) g) := by
    unfold f_X7_removeOldest
    rw [y_gs, if_pos (lk_S36 L c16), y_lt, u8, show (1 : Int32) = nI 1 from rfl, q_sub (by omega), lk_R36_0 L3 c16, y_gs, if_pos (lk_S37 L3 c16), lk_N37 L3 c16, x_eq, show (3 : Int32) = nI 3 from rfl, show (0 : Int32) = nI 0 from rfl, q_mul, y_gb, if_pos (cpok_t (show 3 + (e 2 c - 1) * 3 ≤ 48 by omega) (by omega) (by omega) (by omega)), y_lt, q_cl (show 3 < 2 ^ 31 by omega), q_cl (show 0 < 2 ^ 31 by omega), q_cl (show (e 2 c - 1) * 3 < 2 ^ 31 by omega), hg]
  have LM3 : LM (sI m 248 c (nI (e 2 c - 1))) := LM'
  have sh := r_shift3 (m := sI m 248 c (nI (e 2 c - 1))) LM3 c16 (show e 2 c - 1 < 16 by omega) (x_eq _ _ _ _) (e 2 c - 1) 0 (FU - (e 2 c - 1 + 1)) (by omega)
  rw [sh3_0, show FU - (e 2 c - 1 + 1) + (e 2 c - 1 + 1) = FU from by unfold FU; omega] at sh
  have sh' : f_X11_drainOf_L85 (sI m 248 c (nI (e 2 c - 1))) 226 (nI c) = some (nI 1, sh3 (sI m 248 c (nI (e 2 c - 1))) c (e 2 c - 1)) := by
    unfold f_X11_drainOf_L85
    rw [y_lt, show (16 : Int32) = nI 16 from rfl, q_mul]; exact sh
  refine ⟨_, _, rem, sh', ?_, rfl, rfl⟩
  have hch : ∀ o q, ¬ xo o q → hI (sA (sI h (36 + 12 * c) 1 (nI (e 2 c - 1))) (37 + 12 * c) g) o q = hI h o q := by
    intro o q gx
    have : ¬ o = 37 + 12 * c ∧ ¬ o = 36 + 12 * c := by unfold xo at gx; omega
    rw [x_neA this.1, x_ne (by omega)]
  have mch : ∀ o q, irr o q = false → hI (sh3 (sI m 248 c (nI (e 2 c - 1))) c (e 2 c - 1)) o q = hI m o q := by
    intro o q gx
    have gf := irr_f gx
    rw [sh3_hI, if_neg (by omega), x_ne (by omega)]
  refine Rel_x R rfl hch rfl mch ?_ (Nat.le_refl _) R.2.2.1.1.2
  have gI : ∀ i j, i < e 2 c - 1 → j < 3 → g (3 * i + j) = hI h (37 + 12 * c) (3 * (i + 1) + j) := by
    intro i j hi hj
    rw [← hg]; unfold va_cpy
    rw [if_pos (by omega), x_ne (by omega)]
    congr 1; omega
  have ch : ∀ o q, o ≠ 36 + 12 * c → o ≠ 37 + 12 * c → hI (sA (sI h (36 + 12 * c) 1 (nI (e 2 c - 1))) (37 + 12 * c) g) o q = hI h o q := fun o q g1 g2 => by rw [x_neA g2, x_ne (by omega)]
  have cm : ∀ o q, o ≠ 248 → o ≠ 249 → o ≠ 250 → o ≠ 251 → hI (sh3 (sI m 248 c (nI (e 2 c - 1))) c (e 2 c - 1)) o q = hI m o q := fun o q g1 g2 g3 g4 => by rw [sh3_hI, if_neg (by omega), x_ne (by omega)]
  refine EX_core (c := c) X lim (fun o q => ?_) (fun o q => ?_) (fun F i hh => ?_) ?_
  · by_cases w : o = 36 + 12 * c ∨ o = 37 + 12 * c
    · exact Or.inl (by omega)
    · exact Or.inr (ch o q (by omega) (by omega))
  · by_cases w : (o = 248 ∧ q = c) ∨ ((o = 249 ∨ o = 250 ∨ o = 251) ∧ 16 * c ≤ q ∧ q < 16 * c + 16)
    · exact Or.inl (by omega)
    · exact Or.inr (by rw [sh3_hI, if_neg (by omega), x_ne (by omega)])
  · unfold eD; rw [if_neg (by omega), if_neg (by omega)]
  · have eF : ∀ F i, F ≠ 2 → F ≠ 3 → F ≠ 4 → eD e c (e 2 c - 1) F i = e F i := fun F i g1 g2 g3 => by unfold eD; rw [if_neg (by omega), if_neg (by omega)]
    have e2c : eD e c (e 2 c - 1) 2 c = e 2 c - 1 := by unfold eD; rw [if_pos ⟨rfl, rfl⟩]
    have e34 : ∀ F i, F = 3 ∨ F = 4 → i < e 2 c - 1 → eD e c (e 2 c - 1) F (16 * c + i) = e F (16 * c + (i + 1)) := by
      intro F i hF hi; unfold eD; rw [if_neg (by omega), if_pos (by omega)]; rfl
    have e0 := eF 0 c (by omega) (by omega) (by omega)
    have e1 := eF 1 c (by omega) (by omega) (by omega)
    have e5 := eF 5 c (by omega) (by omega) (by omega)
    refine ⟨fun r hr => ?_, ⟨?_, ?_, ?_⟩, ⟨?_, ?_, ?_⟩, ⟨?_, ?_, ?_, ?_⟩, fun i hi => ?_, ⟨?_, ?_, ?_⟩, fun q hq hq2 => ?_, ?_, ?_⟩
    · rw [ch _ _ (by omega) (by omega), cm _ _ (by omega) (by omega) (by omega) (by omega)]; exact u1 r hr
    · rw [ch _ _ (by omega) (by omega), e0]; exact u2
    · rw [cm _ _ (by omega) (by omega) (by omega) (by omega), e0]; exact u3
    · rw [e0]; exact u4
    · rw [ch _ _ (by omega) (by omega), e1]; exact u5
    · rw [cm _ _ (by omega) (by omega) (by omega) (by omega), e1]; exact u6
    · rw [e1]; exact u7
    · rw [x_neA (by omega), x_eq, e2c]
    · rw [sh3_hI, if_neg (by omega), x_eq, e2c]
    · rw [e2c]; omega
    · rw [x_neA (by omega), x_ne (by omega)]; exact u11
    · rw [e2c] at hi
      have z := u12 (i + 1) (by omega)
      rw [x_eqA, x_eqA, x_eqA, show 3 * i = 3 * i + 0 from rfl, gI i 0 hi (by omega), gI i 1 hi (by omega), gI i 2 hi (by omega), sh3_hI, if_pos (by omega), x_ne (by omega), sh3_hI, if_pos (by omega), x_ne (by omega), sh3_hI, if_pos (by omega), x_ne (by omega), e34 3 i (by omega) hi, e34 4 i (by omega) hi]
      exact z
    · rw [ch _ _ (by omega) (by omega), e5]; exact u13
    · rw [cm _ _ (by omega) (by omega) (by omega) (by omega), e5]; exact u14
    · rw [e5]; exact u15
    · rw [e5] at hq2 ⊢
      have z := u16 q hq hq2
      refine ⟨fun j hj => ?_, ?_⟩
      · rw [ch _ _ (by omega) (by omega), cm _ _ (by omega) (by omega) (by omega) (by omega)]; exact z.1 j hj
      · rw [ch _ _ (by omega) (by omega)]; exact z.2
    · rw [ch _ _ (by omega) (by omega), cm _ _ (by omega) (by omega) (by omega) (by omega)]; exact u17
    · rw [ch _ 14 (by omega) (by omega), ch _ 13 (by omega) (by omega), cm _ _ (by omega) (by omega) (by omega) (by omega)]; exact u18
theorem drain_both {h m : AH} {s : St} {e : Ex} {b c : Nat} (R : Rel h m s e b) (hc : c < N s 0 0) (hb : b + 1 ≤ 536870912) :
    ∃ h' m' s' e' r, f_X3_settle h (34 + 12 * c) = some (nI r, h') ∧ f_X11_drainOf m 226 (nI c) = some (nI r, m') ∧ r ≤ 2 ∧ Rel h' m' s' e' (b + 1) ∧ Bd h h' ∧ m'.2 = m.2 ∧ (∀ i, N s' 0 i = N s 0 i) ∧ (∀ F i, 8 ≤ F → e' F i = e F i) := by
  have R0 := R
  obtain ⟨⟨RC', D⟩, RM', I, C, X⟩ := R
  have b0 := I.1.1.1.2
  have lim := Rel_lim R0
  have c16 : c < 16 := by omega
  have L := RC_L RC'
  have LM' := rm_L RM'
  obtain ⟨x1, ⟨x2, x3, x4⟩, ⟨x5, x6, x7⟩, ⟨x8, x9, x10, x11⟩, x12, ⟨x13, x14, x15⟩, x16, x17, x18⟩ := X.1 c c16
  unfold f_X3_settle f_X11_drainOf
  rw [y_gs, if_pos (lk_S34 L c16), lk_R34_5 L c16, y_gs, if_pos (lk_S36 L c16), x8, y_gs, if_pos (lm_S226 LM'), lm_R30 LM', y_gs, if_pos (lm_S248 LM'), lm_N248 LM', y_gb, if_pos (q_ib c16 (by omega)), q_cl (show c < 2 ^ 31 by omega), x9]
  by_cases z : e 2 c = 0
  · have z0 : nI (e 2 c) = 0 := by rw [z]; rfl
    rw [if_neg (fun g => g z0), if_neg (fun g => g z0)]
    exact ⟨h, m, s, e, 0, rfl, rfl, by omega, ⟨⟨RC', D⟩, RM', IV_up I (by omega) hb, C, EX_fr X (FrC_rfl h) (Fr_rfl m) (fun _ => rfl) (by omega) lim⟩, Bd_rfl h, rfl, fun _ => rfl, fun _ _ _ => rfl⟩
  · have nz : ¬ nI (e 2 c) = 0 := fun g => z ((q_eq (by omega) (show 0 < 2 ^ 31 by omega)).mp g)
    obtain ⟨w1, w2, w3, w4', w5, w6, w7, w8⟩ := x12 0 (by omega)
    rw [show 16 * c + 0 = 16 * c from rfl] at w1 w2 w3 w4' w5 w6 w7 w8
    generalize hA : e 3 (16 * c) = A at *
    generalize hB : e 4 (16 * c) = B at *
    rw [if_pos nz, if_pos nz, show (0 : Int32) = nI 0 from rfl, x7_get L c16 (show 0 < 16 by omega) (by omega), y_bds, show 3 * 0 + 0 = 3 * 0 from rfl, w1, lm_R31 LM', y_gs, if_pos (lm_S249 LM'), lm_N249 LM', show (16 : Int32) = nI 16 from rfl, q_mul, y_gb, if_pos (q_ib (by omega) (by omega)), y_lt, q_cl (show 16 * c < 2 ^ 31 by omega), w2]
    obtain ⟨h1, m1, s1, ⟨R1, B1, M1, N1, _⟩, cases'⟩ := change_both R0 hc w3 hb
    rcases cases' with ⟨e1, em1⟩ | ⟨k, k1, k2, k3, k4, e1, em1⟩
    · rw [e1, y_bds, em1, y_bds, y_lt, if_neg (show ¬ nI 0 ≤ (nN, h1).1 from (by decide : ¬ nI 0 ≤ nN)), if_neg (fun g => g rfl)]
      exact ⟨h1, m1, s1, e, 2, rfl, rfl, by omega, R1, B1, M1, N1, fun _ _ _ => rfl⟩
    · rw [e1, y_bds, em1, y_bds, y_lt]
      have L1 := RC_L R1.1.1
      have LM1 := rm_L R1.2.1
      obtain ⟨wo, R2⟩ := write_both (v := (hI m1 241 A &&& (BB B ^^^ (-1 : Int32))) ||| hI m1 251 (16 * c)) R1 w3 k1 k2 k3 k4
      obtain ⟨u1, ⟨u2, u3, u4⟩, ⟨u5, u6, u7⟩, ⟨u8, u9, u10, u11⟩, u12, ⟨u13, u14, u15⟩, u16, u17, u18⟩ := R1.2.2.2.2.1 c c16
      obtain ⟨v1, v2, v3, v4, v5, v6, v7, v8⟩ := u12 0 (by omega)
      rw [show 16 * c + 0 = 16 * c from rfl, hB] at v4 v5 v6 v8
      rw [show 16 * c + 0 = 16 * c from rfl] at v7
      have a15 : nI B &&& (15 : Int32) = nI B := by
        have := q_and (a := B) (k := 4) (by omega) (by omega)
        rw [Nat.mod_eq_of_lt (by omega)] at this; exact this
      have lim1 : N s1 0 1 ≤ 16 := by rw [N1]; exact lim
      -- the class
      generalize hat : 4 * (k % 32) + A % 4 = at_ at *
      have at128 : at_ < 128 := by omega
      generalize hv : (hI m1 241 A &&& (BB B ^^^ (-1 : Int32))) ||| hI m1 251 (16 * c) = v at *
      have L2 : LC (sI h1 (42 + 12 * c) at_ v) := L1
      have get1 : f_X7_get h1 (36 + 12 * c) (nI 0) (nI 1) = some (nI B) := by rw [x7_get L1 c16 (show 0 < 16 by omega) (by omega), show 3 * 0 + 1 = 3 * 0 + 1 from rfl, v4]
      have get2 : f_X7_get h1 (36 + 12 * c) (nI 0) (nI 2) = some (hI m1 251 (16 * c)) := by rw [x7_get L1 c16 (show 0 < 16 by omega) (by omega), v7]
      have cnt : hI (sI h1 (42 + 12 * c) at_ v) (36 + 12 * c) 1 = nI (e 2 c) := by rw [x_ne (by omega)]; exact u8
      have LM2 : LM (sI m1 241 A v) := LM1
      obtain ⟨h2, m2, rem, sh', R3, H3, M3⟩ := pop_both R2 c16 (by omega)
      have d4 : nI (4 * A) / (4 : Int32) = nI A := by
        rw [show (4 : Int32) = nI 4 from rfl, q_div (by omega) (by omega)]; congr 1; omega
      have e248 : hI (sI m1 241 A v) 248 c = nI (e 2 c) := by rw [x_ne (by omega)]; exact u9
      have v' : (hI m1 241 A &&& (tBB.getD B 0 ^^^ (-1 : Int32))) ||| hI m1 251 (16 * c) = v := hv
      have hat0 : (nI 0 : Int32) ≤ (nI at_, h1).1 := Int32.not_lt.mp (lt0 (show at_ < 2 ^ 31 by omega))
      rw [if_pos hat0, if_pos (show ¬ (nI 1, m1).1 = nI 0 from (by decide : ¬ nI 1 = nI 0))]
      refine ⟨h2, m2, sWrite s1 k A v, eD e c (e 2 c - 1), 1, ?_, ?_, by omega, R3, Bd_tr B1 (Bd_2 H3), M3.trans M1, N1, fun F i hF => by unfold eD; rw [if_neg (by omega), if_neg (by omega)]⟩
      · rw [y_gs, if_pos (lk_S34 L1 c16), lk_R34_5 L1 c16, y_gs, if_pos (lk_S36 L1 c16), show (1 : Int32) = nI 1 from rfl, get1, y_bds, a15, y_gb, if_pos (q_ib w6 (by omega)), y_lt, q_cl (show B < 2 ^ 31 by omega), lk_R34_6 L1 c16, y_gs, if_pos (lk_S38 L1 c16), lk_R38_3 L1 c16, y_gs, if_pos (lk_S42 L1 c16), lk_N42 L1 c16, y_gb, if_pos (q_ib at128 (by omega)), show (2 : Int32) = nI 2 from rfl, get2, y_bds, y_gb, if_pos (q_ib at128 (by omega)), y_lt, q_cl (show at_ < 2 ^ 31 by omega), wo]
        have v'' : (hI m1 241 A &&& (tBB.getD B (nI 0) ^^^ (-nI 1 : Int32))) ||| hI m1 251 (16 * c) = v := hv
        rw [v'', lk_R34_5 L2 c16, y_gs, if_pos (lk_S36 L2 c16), rem, y_bds]
      · dsimp only
        rw [y_gs, if_pos (lm_S226 LM1), lm_R32 LM1, y_gs, if_pos (lm_S250 LM1), lm_N250 LM1, y_gb, if_pos (q_ib (show 16 * c < 256 by omega) (by omega)), v5, r_maskOf m1 w6, y_bds, lm_R23 LM1, y_gs, if_pos (lm_S241 LM1), lm_N241 LM1, d4, y_gb, if_pos (q_ib (show A < 2048 by omega) (by omega)), lm_R33 LM1, y_gs, if_pos (lm_S251 LM1), lm_N251 LM1, y_gb, if_pos (q_ib (show 16 * c < 256 by omega) (by omega)), y_gb, if_pos (q_ib (show A < 2048 by omega) (by omega)), y_lt, q_cl (show A < 2 ^ 31 by omega), hv, lm_R30 LM2, y_gs, if_pos (lm_S248 LM2), lm_N248 LM2, y_gb, if_pos (q_ib c16 (by omega)), y_gb, if_pos (q_ib c16 (by omega)), y_lt, e248, show (1 : Int32) = nI 1 from rfl, q_sub (by omega), sh']
