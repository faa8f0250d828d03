/-! assemble. -/
theorem RM_new {m mF : AH} {s : St} {z t23 : Nat → Nat} {f : Nat → Int32} (R : RM m s) (e2 : mF.2.2 = m.2.2) (h239 : ∀ k, k < 6 → hI mF 239 k = nI (z k)) (c5 : ∀ o v k, cc512 o = some v → k < 512 → hI mF o k = v) (c6 : ∀ o v k, o ≠ 244 → cc16 o = some v → k < 16 → hI mF o k = v) (h226 : ∀ k, k = 47 ∨ k = 57 ∨ k = 59 ∨ (62 ≤ k ∧ k ≤ 67) → hI mF 226 k = nI 0)
    (kp : (∀ k, hI mF 267 k = hI m 267 k) ∧ (∀ k, hI mF 262 k = hI m 262 k) ∧ hI mF 226 79 = hI m 226 79) (fl' : ∀ j, j < 2048 → hI mF 241 j = f j ∧ hI mF 242 j = f j) : RM mF (sNew s z t23 (mem4 f)) := by
  have z0 : ∀ {F i : Nat}, F ≠ 0 ∧ F ≠ 9 ∧ F ≠ 17 ∧ F ≠ 21 ∧ F ≠ 23 → N (sNew s z t23 (mem4 f)) F i = 0 := fun h => sNew_z h
  refine ⟨LM_3 (rm_L R) e2, fun F i hF hi => ?_, fun F i j hF hi hj => ?_, ?_, fun i j hi => absurd hi (Nat.not_lt_zero i), ?_, fun i j hi => absurd hi (Nat.not_lt_zero i)⟩
  · have F21 : F = 0 ∨ F = 1 ∨ F = 2 ∨ F = 3 ∨ F = 4 ∨ F = 5 ∨ F = 6 ∨ F = 7 ∨ F = 8 ∨ F = 9 ∨ F = 10 ∨ F = 11 ∨ F = 12 ∨ F = 13 ∨ F = 14 ∨ F = 15 ∨ F = 16 ∨ F = 17 ∨ F = 18 ∨ F = 19 ∨ F = 20 := by omega
    rcases F21 with rfl | rfl | rfl | rfl | rfl | rfl | rfl | rfl | rfl | rfl | rfl | rfl | rfl | rfl | rfl | rfl | rfl | rfl | rfl | rfl | rfl
    · exact h239 i hi
    · rw [z0 (by omega)]; exact c5 258 (nI 0) i rfl hi
    · rw [z0 (by omega)]; exact c5 259 (nI 0) i rfl hi
    · rw [z0 (by omega)]; exact c5 260 (nI 0) i rfl hi
    · rw [z0 (by omega)]; exact c5 261 nN i rfl hi
    · rw [z0 (by omega)]; exact c5 263 (nI 0) i rfl hi
    · rw [z0 (by omega)]; exact c5 264 nN i rfl hi
    · rw [z0 (by omega)]; exact c5 265 (nI 0) i rfl hi
    · rw [z0 (by omega)]; exact c5 266 nN i rfl hi
    · show hI mF 267 i = nI (N s 9 i)
      rw [kp.1]; exact rm_9 R hi
    · rw [z0 (by omega)]; exact c5 268 (nI 0) i rfl hi
    · rw [z0 (by omega)]; exact c5 269 (nI 0) i rfl hi
    · rw [z0 (by omega)]; exact c6 252 nN i (by omega) rfl hi
    · rw [z0 (by omega)]; exact c6 253 nN i (by omega) rfl hi
    · rw [z0 (by omega)]; exact c6 254 (nI 0) i (by omega) rfl hi
    · rw [z0 (by omega)]; exact c6 247 (nI 0) i (by omega) rfl hi
    · rw [z0 (by omega)]; exact h226 47 (by omega)
    · have i0 : i = 0 := by have : i < 1 := hi; omega
      subst i0
      show hI mF 226 79 = nI (N s 17 0)
      rw [kp.2.2]; exact rm_17 R
    · rw [z0 (by omega)]; exact h226 63 (by omega)
    · rw [z0 (by omega)]; exact h226 64 (by omega)
    · rw [z0 (by omega)]; exact h226 65 (by omega)
  · have F3 : F = 0 ∨ F = 1 ∨ F = 2 := by omega
    rcases F3 with rfl | rfl | rfl
    · show hI mF 241 (4 * i + j) = w4 (mem4 f i) j
      rw [(fl' _ (by omega)).1, mem4_w f i hj]
    · show hI mF 242 (4 * i + j) = w4 (mem4 f i) j
      rw [(fl' _ (by omega)).2, mem4_w f i hj]
    · show hI mF 262 (4 * i + j) = w4 (Wda s 2 i) j
      rw [kp.2.1]; exact rw_2 R hi hj
  · exact h226 59 (by omega)
  · exact h226 57 (by omega)
theorem mn_all {f : Nat → Nat} : ∀ n, mn f n = 100000 → ∀ k, k < n → 100000 ≤ f k
  | 0, _, k, hk => absurd hk (by omega)
  | n + 1, h, k, hk => by
    have h' : min (mn f n) (f n) = 100000 := h
    by_cases e : k = n
    · subst e; omega
    · exact mn_all n (by have := mn_le f n; omega) k (by omega)
/-- the class begins anew with the text's words -/
theorem c_beginAnew {h h0 : AH} {g : Gh} {L n : Nat} {z : Nat → Nat} (L1 : LC h) (n375 : n ≤ 375) (h1 : hI h 4 1 = nI n) (items : ∀ k, k < n → EI h h0 g L k) (st : ∀ d, d < 16 → hI h 15 d = nI (g 8 d % 8192)) (hz : ∀ i, i < 6 → hI h 33 i = nI (z i)) :
    ∃ hE h', f_X10_beginAnew h 1 = some (sI (sI h' 1 9 (0 : Int32)) 1 10 (0 : Int32)) ∧ BG hE h' (fun d => nI (g 8 d % 8192)) (nI (z 1)) (nI (z 2)) (nI (z 3)) 16 ∧ hE.2 = h.2 ∧ (∀ i, i < 6 → hI hE 32 i = nI (z i)) ∧ (hI hE 16 1 = 0 ∧ hI hE 16 2 = 0) ∧ (hI hE 19 12 = 0 ∧ hI hE 19 13 = nI (z 4) ∧ hI hE 19 14 = nI (z 5) ∧ hI hE 19 15 = 0 ∧ hI hE 19 16 = 0) ∧ (∀ j, j < 2048 → hI hE 20 j = mw h0 g L (fun _ => 0) n j) ∧ (∀ j, j < 512 → hI hE 21 j = (-1 : Int32) ∧ hI hE 24 j = (-1 : Int32)) ∧ (∀ o k, o ≠ 32 → ¬ (o = 16 ∧ (k = 1 ∨ k = 2)) → ¬ (o = 19 ∧ 12 ≤ k ∧ k ≤ 16) → o ≠ 20 → o ≠ 21 → o ≠ 24 → hI hE o k = hI h o k) := by
  obtain ⟨ha, hha⟩ : ∃ q, q = sA h 32 (va_cpy (hI h 33) (hI h 32) 0 0 6) := ⟨_, rfl⟩
  have a2 : ha.2 = h.2 := by rw [hha]; rfl
  have aI : ∀ o k, o ≠ 32 → hI ha o k = hI h o k := fun o k q => by rw [hha, x_neA q]
  have a32 : ∀ i, i < 6 → hI ha 32 i = nI (z i) := fun i hi => by
    rw [hha, x_eqA]
    unfold va_cpy
    rw [if_pos (by omega), show 0 + (i - 0) = i by omega]; exact hz i hi
  have La : LC ha := LC_2 L1 (by rw [a2])
  obtain ⟨hb, hhb⟩ : ∃ q, q = sI (sI ha 16 1 (0 : Int32)) 16 2 (0 : Int32) := ⟨_, rfl⟩
  have b2 : hb.2 = ha.2 := by rw [hhb]; rfl
  have bI : ∀ o k, ¬ (o = 16 ∧ (k = 1 ∨ k = 2)) → hI hb o k = hI ha o k := fun o k q => by rw [hhb, x_ne (by omega), x_ne (by omega)]
  have b16' : hI hb 16 1 = 0 ∧ hI hb 16 2 = 0 := by rw [hhb]; exact ⟨by rw [x_ne (by omega), x_eq], by rw [x_eq]⟩
  have Lb : LC hb := LC_2 La (by rw [b2])
  obtain ⟨hc, hhc⟩ : ∃ q, q = flR (flR (flR (sI (sI hb 19 13 (nI (z 4))) 19 14 (nI (z 5))) 20 2048 (0 : Int32)) 21 512 (-1 : Int32)) 24 512 (-1 : Int32) := ⟨_, rfl⟩
  have c2 : hc.2 = hb.2 := by rw [hhc]; rfl
  have cI : ∀ o k, ¬ (o = 19 ∧ (k = 13 ∨ k = 14)) → o ≠ 20 → o ≠ 21 → o ≠ 24 → hI hc o k = hI hb o k := fun o k q1 q2 q3 q4 => by rw [hhc, flR_ne (by omega), flR_ne (by omega), flR_ne (by omega), x_ne (by omega), x_ne (by omega)]
  have c19 : hI hc 19 13 = nI (z 4) ∧ hI hc 19 14 = nI (z 5) := by
    rw [hhc]
    exact ⟨by rw [flR_ne (by omega), flR_ne (by omega), flR_ne (by omega), x_ne (by omega), x_eq], by rw [flR_ne (by omega), flR_ne (by omega), flR_ne (by omega), x_eq]⟩
  have c20 : ∀ j, j < 2048 → hI hc 20 j = 0 := fun j hj => by rw [hhc, flR_ne (by omega), flR_ne (by omega), flR_eq hj]
  have c21 : ∀ j, j < 512 → hI hc 21 j = (-1 : Int32) ∧ hI hc 24 j = (-1 : Int32) := fun j hj => by rw [hhc]; exact ⟨by rw [flR_ne (by omega), flR_eq hj], by rw [flR_eq hj]⟩
  obtain ⟨hd, hhd⟩ : ∃ q, q = sI (sI (sI hc 19 12 (0 : Int32)) 19 15 (0 : Int32)) 19 16 (0 : Int32) := ⟨_, rfl⟩
  have d2 : hd.2 = hc.2 := by rw [hhd]; rfl
  have dI : ∀ o k, ¬ (o = 19 ∧ (k = 12 ∨ k = 15 ∨ k = 16)) → hI hd o k = hI hc o k := fun o k q => by rw [hhd, x_ne (by omega), x_ne (by omega), x_ne (by omega)]
  have d19 : hI hd 19 12 = 0 ∧ hI hd 19 15 = 0 ∧ hI hd 19 16 = 0 := by
    rw [hhd]
    exact ⟨by rw [x_ne (by omega), x_ne (by omega), x_eq], by rw [x_ne (by omega), x_eq], by rw [x_eq]⟩
  have Lc : LC hc := LC_2 Lb (by rw [c2])
  have Ld : LC hd := LC_2 Lc (by rw [d2])
  have dh : hd.2 = h.2 := by rw [d2, c2, b2, a2]
  have old : ∀ o k, o ≠ 32 → ¬ (o = 16 ∧ (k = 1 ∨ k = 2)) → ¬ (o = 19 ∧ 12 ≤ k ∧ k ≤ 16) → o ≠ 20 → o ≠ 21 → o ≠ 24 → hI hd o k = hI h o k := fun o k q1 q2 q3 q4 q5 q6 => by
    rw [dI o k (by omega), cI o k (by omega) q4 q5 q6, bI o k q2, aI o k q1]
  have items' : ∀ k, k < n → EI hd h0 g L k := fun k hk => by
    obtain ⟨i1, i2, i3, i4, i5, i6, i7⟩ := items k hk
    have hl : hL hd 11 k = hL h 11 k := by show hd.2.1 11 k = h.2.1 11 k; rw [dh]
    refine ⟨i1, ?_, ?_, ?_, ?_, hl.trans i6, i7⟩
    · rw [old 5 k (by omega) (by omega) (by omega) (by omega) (by omega) (by omega)]; exact i2
    · rw [old 7 k (by omega) (by omega) (by omega) (by omega) (by omega) (by omega)]; exact i3
    · rw [old 8 k (by omega) (by omega) (by omega) (by omega) (by omega) (by omega)]; exact i4
    · rw [old 9 k (by omega) (by omega) (by omega) (by omega) (by omega) (by omega)]; exact i5
  obtain ⟨hE, m1, m2, m3, m4⟩ := c_emit Ld n375 (by rw [old 4 1 (by omega) (by omega) (by omega) (by omega) (by omega) (by omega)]; exact h1) items' n 0 FU hd (by omega) (FU_gt (by omega)) ⟨rfl, fun _ _ _ => rfl, fun _ => rfl⟩
  have LE : LC hE := LC_2 Ld (by rw [m2])
  have E32 : ∀ i, i < 6 → hI hE 32 i = nI (z i) := fun i hi => by rw [m3 32 i (by omega), dI 32 i (by omega), cI 32 i (by omega) (by omega) (by omega) (by omega), bI 32 i (by omega)]; exact a32 i hi
  obtain ⟨h', n1, n2⟩ := c_beginL LE (st := fun d => nI (g 8 d % 8192)) (fun c hc' => by rw [m3 15 c (by omega), old 15 c (by omega) (by omega) (by omega) (by omega) (by omega) (by omega)]; exact st c hc') (E32 1 (by omega)) (E32 2 (by omega)) (E32 3 (by omega)) 16 0 FU hE (by omega) (FU_gt (by omega)) ⟨rfl, fun _ _ _ => rfl, fun c hc' => absurd hc' (by omega)⟩
  refine ⟨hE, h', ?_, n2, by rw [m2, dh], E32, ⟨?_, ?_⟩, ⟨?_, ?_, ?_, ?_, ?_⟩, fun j hj => ?_, fun j hj => ?_, fun o k q1 q2 q3 q4 q5 q6 => ?_⟩
  · have m1' : f_X1_emit_L2 FU hd 4 20 (0 : Int32) = some hE := m1
    have n1' : f_X10_beginAnew_L60 FU hE 1 (0 : Int32) = some (sI (sI h' 1 9 (0 : Int32)) 1 10 (0 : Int32)) := n1
    have Lx : LC (sI (sI hb 19 13 (nI (z 4))) 19 14 (nI (z 5))) := LC_2 Lb rfl
    have Ly : LC (flR (sI (sI hb 19 13 (nI (z 4))) 19 14 (nI (z 5))) 20 2048 (0 : Int32)) := LC_2 Lb rfl
    have Lz : LC (flR (flR (sI (sI hb 19 13 (nI (z 4))) 19 14 (nI (z 5))) 20 2048 (0 : Int32)) 21 512 (-1 : Int32)) := LC_2 Lb rfl
    have cp : cpok (0 : Int32) (0 : Int32) (nI 6) 6 6 = true := by decide
    have b4 : hI hb 32 4 = nI (z 4) := by rw [bI 32 4 (by omega)]; exact a32 4 (by omega)
    have b5 : hI hb 32 5 = nI (z 5) := by rw [bI 32 5 (by omega)]; exact a32 5 (by omega)
    unfold f_X10_beginAnew f_X6_clear f_X4_begin f_X1_emit
    rw [y_gs, if_pos (lc_S1 L1), lc_R1_5 L1, y_gs, if_pos (lc_S32 L1), lc_R1_6 L1, y_gs, if_pos (lc_S33 L1), lc_N32 L1, lc_N33 L1, y_gb, if_pos cp, show (0 : Int32).toNatClampNeg = 0 from by decide, show (nI 6).toNatClampNeg = 6 from by decide, y_lt, ← hha, lc_R1_2 La, y_gs, if_pos (lc_S16 La), y_gs, if_pos (lc_S16 La), y_lt, y_lt, y_bds, ← hhb, y_gs, if_pos (lc_S1 Lb), lc_R1_5 Lb, y_gs, if_pos (lc_S32 Lb), lc_N32 Lb, y_gb, if_pos (show ib (4 : Int32) 6 = true from by decide), y_gb, if_pos (show ib (5 : Int32) 6 = true from by decide), lc_R1_3 Lb, y_gs, if_pos (lc_S19 Lb), show (4 : Int32).toNatClampNeg = 4 from by decide, show (5 : Int32).toNatClampNeg = 5 from by decide, b4, b5, y_gs, if_pos (lc_S19 Lb), y_lt, y_lt, lc_R19_1 Lx, c_fill53 _ (lc_S20 Lx) (lc_N20 Lx) (by omega), y_bds, y_gs, if_pos (lc_S19 Ly), lc_R19_2 Ly, c_fill53 _ (lc_S21 Ly) (lc_N21 Ly) (by omega), y_bds, y_gs, if_pos (lc_S19 Lz), lc_R19_5 Lz, c_fill53 _ (lc_S24 Lz) (lc_N24 Lz) (by omega), y_bds, ← hhc, y_gs, if_pos (lc_S19 Lc), y_lt, y_lt, y_lt, ← hhd, y_bds, y_gs, if_pos (lc_S1 Ld), lc_R1_3 Ld, y_gs, if_pos (lc_S19 Ld), lc_R1_1 Ld, y_gs, if_pos (lc_S4 Ld), lc_R19_1 Ld, y_lt, m1', y_bds, y_lt, n1']
  · rw [m3 _ _ (by omega), dI _ _ (by omega), cI _ _ (by omega) (by omega) (by omega) (by omega)]; exact b16'.1
  · rw [m3 _ _ (by omega), dI _ _ (by omega), cI _ _ (by omega) (by omega) (by omega) (by omega)]; exact b16'.2
  · rw [m3 _ _ (by omega)]; exact d19.1
  · rw [m3 _ _ (by omega), dI _ _ (by omega)]; exact c19.1
  · rw [m3 _ _ (by omega), dI _ _ (by omega)]; exact c19.2
  · rw [m3 _ _ (by omega)]; exact d19.2.1
  · rw [m3 _ _ (by omega)]; exact d19.2.2
  · rw [m4 j]
    exact mw_congr (M := 2048) (fun j hj => by rw [dI _ _ (by omega)]; exact c20 j hj) n j hj
  · rw [m3 _ _ (by omega), m3 _ _ (by omega), dI _ _ (by omega), dI _ _ (by omega)]; exact c21 j hj
  · rw [m3 o k q4]; exact old o k q1 q2 q3 q4 q5 q6
