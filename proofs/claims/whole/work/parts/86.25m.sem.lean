/-- cores, places, tapes behind a text -/
def eN (e : Ex) (pl : Nat → Nat) : Ex := fun F i => if F = 0 then pl i else if F ≤ 8 then 0 else e F i
def eF (e : Ex) (v : Nat) : Ex := fun F i => if F = 8 then (if i = 2 then v else 0) else e F i
theorem r_asmHead {m m' : AH} (L : LM m) (Lm : LM m') (rd : f_X11_readAll (sI (sI m 226 3 (0 : Int32)) 226 4 (0 : Int32)) 226 = some m') : f_X11_assemble m 226 = if hI m' 226 3 = 0 then (bd (f_X11_clear (sI (sI m' 226 2 (0 : Int32)) 226 0 (0 : Int32)) 226) fun q13 => f_X11_assemble_L43 FU q13 226 (0 : Int32)) else some ((0 : Int32), sI (sI m' 226 2 (0 : Int32)) 226 0 (1 : Int32)) := by
  have L8 : LM (sI m' 226 2 (0 : Int32)) := Lm
  unfold f_X11_assemble
  rw [y_gs, if_pos (lm_S226 L), y_lt, y_lt, rd, y_bds, y_gs, if_pos (lm_S226 Lm), y_lt, x_ne (by omega), r_raise L8]
  by_cases c : hI m' 226 3 = 0
  · rw [if_pos c, if_pos c, y_lt]; simp only [y_lt]
  · rw [if_neg c, if_neg c, y_bds]
theorem c_asmHead {h h' : AH} {r : Int32} (L : LC h) (Lh : LC h') (tr : f_X1_translate h 4 = some (r, h')) : f_X10_assemble h 1 = if hI h' 4 16 = 0 then (bd (f_X10_beginAnew (sI (sI (sI h' 2 1 (0 : Int32)) 1 7 (hI h' 4 16)) 1 8 (hI h' 4 17)) 1) fun q16 => some (some r, q16)) else some (none, hT (sI (sI (sI h' 2 1 (0 : Int32)) 1 7 (hI h' 4 16)) 1 8 (hI h' 4 17))) := by
  have L7 : LC (sI h' 2 1 (0 : Int32)) := Lh
  have L10 : ∀ v, LC (sI (sI h' 2 1 (0 : Int32)) 1 7 v) := fun v => Lh
  unfold f_X10_assemble f_X8_clear
  rw [y_gs, if_pos (lc_S1 L), lc_R1_1 L, y_gs, if_pos (lc_S4 L), tr, y_bds, y_lt, y_gs, if_pos (lc_S1 Lh), lc_R1_0 Lh, y_gs, if_pos (lc_S2 Lh), y_gs, if_pos (lc_S2 Lh), y_lt, y_bds, y_gs, if_pos (lc_S1 L7), lc_R1_1 L7, y_gs, if_pos (lc_S4 L7), y_lt, x_ne (by omega), lc_R1_1 (L10 _), y_gs, if_pos (lc_S4 (L10 _)), y_lt]
  dsimp only
  rw [show hI (sI (sI h' 2 1 (0 : Int32)) 1 7 (hI h' 4 16)) 4 17 = hI h' 4 17 from by rw [x_ne (by omega), x_ne (by omega)], show hI (sI (sI (sI h' 2 1 (0 : Int32)) 1 7 (hI h' 4 16)) 1 8 (hI h' 4 17)) 1 7 = hI h' 4 16 from by rw [x_ne (by omega), x_eq]]
/-- a refused text -/
theorem asm_no {h m h' m' : AH} {s : St} {e : Ex} {b : Nat} {r : Int32} (R : Rel h m s e b) (he : e 8 0 = e 8 1) (tr : f_X1_translate h 4 = some (r, h')) (rd : f_X11_readAll (sI (sI m 226 3 (0 : Int32)) 226 4 (0 : Int32)) 226 = some m') (fa : FA h h') (fb : FB m m') (e1 : hI h' 4 16 = hI m' 226 3) (e2' : hI h' 4 17 = hI m' 226 4) (ne : ¬ hI h' 4 16 = 0) : Ch 0 h m e b (f_X10_assemble h 1) (f_X11_assemble m 226) := by
  have L := RC_L R.1.1
  have L2 := rm_L R.2.1
  have Lh : LC h' := LC_2 L fa.1
  have Lm : LM m' := LM_3 L2 fb.1
  rw [c_asmHead L Lh tr, if_neg ne, r_asmHead L2 Lm rd, if_neg (by rw [← e1]; exact ne)]
  obtain ⟨⟨y1, y2⟩, ⟨y3, y4⟩, ⟨y5, y6⟩, ⟨y7, y8, y9⟩, y10, y11, y12, y13, y14⟩ := R.2.2.2.2.2
  have hI' : ∀ o k, ¬ (4 ≤ o ∧ o ≤ 15) → ¬ (o = 2 ∧ (1 ≤ k ∧ k ≤ 4)) → ¬ (o = 1 ∧ (k = 7 ∨ k = 8)) → hI (sI (sI (sI h' 2 1 (0 : Int32)) 1 7 (hI h' 4 16)) 1 8 (hI h' 4 17)) o k = hI h o k := fun o k q1 q2 q3 => by
    rw [x_ne (by omega), x_ne (by omega), x_ne (by omega)]; exact fa.2 o k q1 (by omega)
  have mI' : ∀ o k, ¬ (228 ≤ o ∧ o ≤ 238) → ¬ (o = 226 ∧ (k = 0 ∨ k = 2 ∨ k = 3 ∨ k = 4 ∨ k = 5 ∨ k = 9 ∨ k = 10 ∨ k = 13 ∨ k = 20 ∨ k = 71 ∨ k = 73 ∨ k = 75 ∨ k = 76)) → hI (sI (sI m' 226 2 (0 : Int32)) 226 0 (1 : Int32)) o k = hI m o k := fun o k q1 q2 => by
    rw [x_ne (by omega), x_ne (by omega)]; exact fb.2 o k q1 (by omega)
  have hbd : Bd h (sI (sI (sI h' 2 1 (0 : Int32)) 1 7 (hI h' 4 16)) 1 8 (hI h' 4 17)) := by
    have eR : hR h' 16 0 = hR h 16 0 := by show h'.2.2.1 16 0 = h.2.2.1 16 0; rw [fa.1]
    have eN : ∀ o, hN h' o = hN h o := fun o => by show h'.2.2.2.2.1 o = h.2.2.2.2.1 o; rw [fa.1]
    have eZ : hZ h' = hZ h := by show h'.2.2.2.2.2.1 = h.2.2.2.2.2.1; rw [fa.1]
    have eV : hV h' = hV h := by show h'.2.2.2.2.2.2 = h.2.2.2.2.2.2; rw [fa.1]
    show hV h' + 2 * hN h (hR h 16 0) = hV h + 2 * hN h' (hR h' 16 0) ∧ 576 * hZ h' + hN h (hR h 16 0) ≤ 576 * hZ h + hN h' (hR h' 16 0)
    rw [eR, eN, eZ, eV]; exact ⟨rfl, Nat.le_refl _⟩
  refine ⟨sI (sI (sI h' 2 1 (0 : Int32)) 1 7 (hI h' 4 16)) 1 8 (hI h' 4 17), sI (sI m' 226 2 (0 : Int32)) 226 0 (1 : Int32), s, eF e 1, 0, ?_, hbd, fb.1, rfl, rfl, Or.inr ⟨rfl, rfl⟩⟩
  refine Rel_g (e' := eF e 1) R fa.1 (fun o k q => hI' o k (by omega) (by omega) (by omega)) fb.1 (fun o k q => mI' o k (by omega) (by omega)) (fun F i hF => if_neg (by omega)) ?_
  refine ⟨⟨?_, y2⟩, ⟨?_, ?_⟩, ⟨?_, ?_⟩, ⟨?_, ?_, Nat.zero_le _⟩, fun i hi => absurd hi (Nat.not_lt_zero i), fun i hi => ?_, y12, ?_, ?_⟩
  · rw [mI' _ _ (by omega) (by omega)]; exact y1
  · rw [hI' _ _ (by omega) (by omega) (by omega), mI' _ _ (by omega) (by omega)]; exact y3
  · rw [hI' _ _ (by omega) (by omega) (by omega), mI' _ _ (by omega) (by omega)]; exact y4
  · rw [x_ne (by omega), x_eq, x_ne (by omega), x_ne (by omega)]; exact e1
  · rw [x_eq, x_ne (by omega), x_ne (by omega)]; exact e2'
  · rw [x_ne (by omega), x_ne (by omega), x_eq]; rfl
  · rw [x_ne (by omega), x_eq]; rfl
  · rw [hI' _ _ (by omega) (by omega) (by omega), mI' _ _ (by omega) (by omega)]; exact y11 i hi
  · rw [x_eq]; rfl
  · exact cst_of y14 (fun o k q => mI' o k (by omega) (by omega))
theorem call_assemble {h m : AH} {s : St} {e : Ex} {b : Nat} (R : Rel h m s e b) (he : e 8 0 = e 8 1) (NM : NR m) : Ch 0 h m e b (f_X10_assemble h 1) (f_X11_assemble m 226) := by
  rcases read_both R he NM with ⟨h0, m0, h', m', n, L, a, g, x, t1, t2, A, L0, M0, C, K, FC', FK', hx, ⟨n1, n2, n3⟩, fa, fb⟩ | ⟨h', m', p, t1, t2, p15, u1, u2, u3, u4, fa, fb⟩
  rotate_left
  · exact asm_no R he t1 t2 fa fb (by rw [u1, u3]) (by rw [u2, u4]) (by rw [u1]; decide)
  by_cases xz : x = 100000
  rotate_left
  · rcases FC' with ⟨q, _⟩ | ⟨c1, c2, c3, c4⟩
    · exact absurd q xz
    · rcases FK' with ⟨q, _⟩ | ⟨d1, d2, d3, d4⟩
      · exact absurd q xz
      · exact asm_no R he t1 t2 fa fb (by rw [c3, d3]) (by rw [c4, d4]) (by rw [c3]; exact fun q => by have := (q_eq (b := 0) (by omega) (by omega)).mp q; omega)
  have f1 : hI h' 4 16 = 0 ∧ hI h' 4 17 = 0 := by rcases FC' with ⟨_, q⟩ | ⟨q, _⟩; exact q; omega
  have f2 : hI m' 226 3 = 0 ∧ hI m' 226 4 = 0 := by rcases FK' with ⟨_, q⟩ | ⟨q, _⟩; exact q; omega
  have Lc := RC_L R.1.1
  have L2 := rm_L R.2.1
  have Lh : LC h' := LC_2 Lc fa.1
  have Lm : LM m' := LM_3 L2 fb.1
  obtain ⟨⟨y1, y2⟩, ⟨y3, y4⟩, ⟨y5, y6⟩, ⟨y7, y8, y9⟩, y10, y11, y12, y13, y14⟩ := R.2.2.2.2.2
  -- no item has a fault
  have allK : ∀ k, k < n → 100000 ≤ KI h0 g L k := mn_all n (by have := mn_le (KI h0 g L) n; omega)
  have room : ∀ k, k < n → wds (g 0 k) (g 3 k) (hL h0 11 k) ≠ 0 → g 2 k + 4 * wds (g 0 k) (g 3 k) (hL h0 11 k) ≤ 8192 := fun k hk w => by
    have q := allK k hk
    obtain ⟨_, i3, _⟩ := A.im k hk
    unfold KI KA at q
    by_cases z : 8192 < g 2 k + 4 * wds (g 0 k) (g 3 k) (hL h0 11 k)
    · rw [if_pos ⟨w, z⟩] at q
      have := i3.2; omega
    · omega
  have labs : ∀ k, k < n → g 3 k = 2 → lfi h0 (hL h0 11 k) L ≠ none := fun k hk e2 q => by
    have w := allK k hk
    obtain ⟨_, _, _, ⟨_, _, i7, _⟩, _⟩ := A.im k hk
    unfold KI KB at w
    rw [if_pos e2, q] at w
    have w' : 100000 ≤ min (KA h0 g k) (4 * g 4 k + 2) := w
    omega
  -- the class
  obtain ⟨hq, hhq⟩ : ∃ q, q = sI (sI (sI h' 2 1 (0 : Int32)) 1 7 (hI h' 4 16)) 1 8 (hI h' 4 17) := ⟨_, rfl⟩
  have hqI : ∀ o k, ¬ (o = 2 ∧ k = 1) → ¬ (o = 1 ∧ (k = 7 ∨ k = 8)) → hI hq o k = hI h' o k := fun o k q1 q2 => by rw [hhq, x_ne (by omega), x_ne (by omega), x_ne (by omega)]
  have hqL : ∀ o k, hL hq o k = hL h' o k := fun o k => by rw [hhq]; rfl
  have hq2 : hq.2.2 = h.2.2 := by rw [hhq]; exact fa.1
  have Lq : LC hq := LC_2 Lc hq2
  have hqF : ∀ o k, ¬ (4 ≤ o ∧ o ≤ 15) → ¬ (o = 2 ∧ (1 ≤ k ∧ k ≤ 4)) → ¬ (o = 1 ∧ (k = 7 ∨ k = 8)) → hI hq o k = hI h o k := fun o k q1 q2 q3 => by
    rw [hqI o k (by omega) q3]; exact fa.2 o k q1 (by omega)
  have h7 : hI hq 1 7 = 0 ∧ hI hq 1 8 = 0 ∧ hI hq 2 1 = 0 := by
    rw [hhq]
    exact ⟨by rw [x_ne (by omega), x_eq]; exact f1.1, by rw [x_eq]; exact f1.2, by rw [x_ne (by omega), x_ne (by omega), x_eq]⟩
  have items : ∀ k, k < n → EI hq h0 g L k := fun k hk => by
    obtain ⟨⟨i1, i2⟩, i3, i4, ⟨i5, i6, i7, i8, i9, i10, i11⟩, i12, i13⟩ := A.im k hk
    have qf := op_f1 (g 0 k) i1
    refine ⟨i1, ?_, ?_, ?_, ?_, by rw [hqL]; exact C.2.2.2 k hk, i6, ⟨fun q => qf.2.2.2.mpr (i9.mp q), fun q => i9.mpr (qf.2.2.2.mp q)⟩, i11, i4.2.1, room k hk, i4.2.2⟩
    · rw [hqI _ _ (by omega) (by omega), C.2.1 _ _ (by omega)]; exact i2
    · rw [hqI _ _ (by omega) (by omega), C.2.1 _ _ (by omega)]; exact i4.1
    · rw [hqI _ _ (by omega) (by omega), C.2.1 _ _ (by omega)]
    · rw [hqI _ _ (by omega) (by omega), C.2.1 _ _ (by omega)]; exact i5
  obtain ⟨hE, hB, v1, ⟨B1, B2, B3⟩, v2, v3, v4, v5, v6, v7, v8⟩ := c_beginAnew (h := hq) (h0 := h0) (g := g) (L := L) (n := n) (z := e 10) Lq n1 (by rw [hqI _ _ (by omega) (by omega), C.2.1 _ _ (by omega)]; exact A.it.1) items (fun d hd => by rw [hqI _ _ (by omega) (by omega), C.2.1 _ _ (by omega)]; exact (A.st d hd).1) (fun i hi => by rw [hqF _ _ (by omega) (by omega) (by omega)]; exact (y11 i hi).1)
  obtain ⟨hF, hhF⟩ : ∃ q, q = sI (sI hB 1 9 (0 : Int32)) 1 10 (0 : Int32) := ⟨_, rfl⟩
  have X : f_X10_assemble h 1 = some (some (nI (g 7 n)), hF) := by
    rw [c_asmHead Lc Lh t1, if_pos f1.1, ← hhq, v1, y_bds, ← hhF]
  have hFB : ∀ o k, ¬ (o = 1 ∧ (k = 9 ∨ k = 10)) → hI hF o k = hI hB o k := fun o k q => by rw [hhF, x_ne (by omega), x_ne (by omega)]
  have hF9 : hI hF 1 9 = 0 ∧ hI hF 1 10 = 0 := by rw [hhF]; exact ⟨by rw [x_ne (by omega), x_eq], x_eq _ _ _ _⟩
  have hF2 : hF.2.2 = h.2.2 := by
    have : hF.2 = hq.2 := by rw [hhF]; show hB.2 = hq.2; rw [B1, v2]
    rw [this]; exact hq2
  have lo : ∀ o k, o < 34 → ¬ (o = 1 ∧ (k = 9 ∨ k = 10)) → hI hF o k = hI hE o k := fun o k q1 q2 => by
    rw [hFB o k q2]; exact B2 o k (fun c _ w => by have := bcell_in w; omega)
  have keep : ∀ c o k, c < 16 → 34 + 12 * c ≤ o → o ≤ 45 + 12 * c → ¬ bcell c o k → hI hF o k = hI h o k := fun c o k hc o1 o2 q => by
    rw [hFB o k (by omega), B2 o k (fun c' hc' w => by
      have w2 := bcell_in w
      have : c' = c := by omega
      subst this; exact q w), v8 o k (by omega) (by omega) (by omega) (by omega) (by omega) (by omega)]
    exact hqF o k (by omega) (by omega) (by omega)
  have CFF : ∀ c, c < 16 → CF hF c (nI (g 8 c % 8192)) (nI (e 10 1)) (nI (e 10 2)) (nI (e 10 3)) := fun c hc => CF_fr (B3 c hc) (fun o k w1 w2 => hFB o k (by omega))
  obtain ⟨RCn, DZn⟩ := RC_new (h := h) (hF := hF) (s := s) (z := e 10) (f := mw h0 g L (fun _ => 0) n) (st := fun c => nI (g 8 c % 8192)) R.1.1 y12 hF2 (fun c hc => ⟨keep c _ _ hc (by omega) (by omega) (by unfold bcell; omega), fun j _ => keep c _ _ hc (by omega) (by omega) (by unfold bcell; omega), fun j _ => keep c _ _ hc (by omega) (by omega) (by unfold bcell; omega), fun j _ => keep c _ _ hc (by omega) (by omega) (by unfold bcell; omega)⟩) CFF (fun i hi => by rw [lo _ _ (by omega) (by omega)]; exact v3 i hi) (by rw [lo _ _ (by omega) (by omega), lo _ _ (by omega) (by omega)]; exact v4) (by rw [lo 19 12 (by omega) (by omega), lo 19 13 (by omega) (by omega), lo 19 14 (by omega) (by omega), lo 19 15 (by omega) (by omega), lo 19 16 (by omega) (by omega)]; exact v5) (fun j hj => by rw [lo _ _ (by omega) (by omega)]; exact v6 j hj) (fun j hj => by rw [lo _ _ (by omega) (by omega), lo _ _ (by omega) (by omega)]; exact v7 j hj)
  -- the reference
  obtain ⟨mq, hmq⟩ : ∃ q, q = sI (sI m' 226 2 (0 : Int32)) 226 0 (0 : Int32) := ⟨_, rfl⟩
  have mqI : ∀ o k, ¬ (o = 226 ∧ (k = 0 ∨ k = 2)) → hI mq o k = hI m' o k := fun o k q => by rw [hmq, x_ne (by omega), x_ne (by omega)]
  have mq0 : hI mq 226 0 = 0 ∧ hI mq 226 2 = 0 := by rw [hmq]; exact ⟨x_eq _ _ _ _, by rw [x_ne (by omega), x_eq]⟩
  have Lmq : LM mq := by rw [hmq]; exact Lm
  have mq2 : mq.2.2 = m.2.2 := by rw [hmq]; exact fb.1
  obtain ⟨w1', w2, w3, w4', w5, w6⟩ := clM_f mq
  have Lcl : LM (clM mq) := LM_2 Lmq w1'
  have cI : ∀ o k, 233 ≤ o → o ≤ 238 → hI (clM mq) o k = hI m' o k := fun o k o1 o2 => by
    rw [w6 o k (by omega) (by unfold cc512; rw [if_neg (by omega), if_neg (by omega)]) (by unfold cc16; rw [if_neg (by omega), if_neg (by omega)]) (by omega)]; exact mqI o k (by omega)
  have c13 : hI (clM mq) 226 13 = nI (g 7 n) := by
    rw [w6 _ _ (by omega) rfl rfl (by omega), mqI _ _ (by omega), K.2.1 _ _ (by omega) (by omega)]; exact A.it.2.1
  have parts : ∀ k, k < n → EJ (clM mq) h0 g L k := fun k hk => by
    obtain ⟨⟨i1, i2⟩, i3, i4, ⟨i5, i6, i7, i8, i9, i10, i11⟩, i12, p1, p2'⟩ := A.im k hk
    obtain ⟨P1, P2⟩ := K.2.2 k hk
    refine ⟨i12, i4.2.1, room k hk, fun w => ?_, fun w => ?_⟩
    · rw [cI _ _ (by omega) (by omega), cI _ _ (by omega) (by omega), K.2.1 233 _ (by omega) (by omega)]
      exact ⟨(p1 w).1, P1 w (labs k hk)⟩
    · obtain ⟨s1, s2, _⟩ := p2' w
      obtain ⟨q1, q2⟩ := P2 w (labs k hk)
      rw [cI _ _ (by omega) (by omega), cI _ _ (by omega) (by omega), cI _ _ (by omega) (by omega), cI _ _ (by omega) (by omega), K.2.1 233 _ (by omega) (by omega), K.2.1 233 _ (by omega) (by omega)]
      exact ⟨s1, s2, q1, q2⟩
  obtain ⟨mF, r1, r2, r3, r4, r5⟩ := r_asm (mc := clM mq) (h := h0) (g := g) (L := L) (n := n) Lcl n3 A.g0 c13 (fun k hk => g7_le A (n - k) k (by omega)) parts (fun d hd => by rw [cI _ _ (by omega) (by omega), K.2.1 _ _ (by omega) (by omega)]; exact (A.st d hd).2)
  have Y : f_X11_assemble m 226 = some (nI (g 7 n), mF) := by
    rw [r_asmHead L2 Lm t2, if_pos f2.1, ← hmq, r_clear Lmq, y_bds, r1]
  have mF2 : mF.2.2 = m.2.2 := by rw [r2, w1']; exact mq2
  have mFk : ∀ o k, o ≠ 239 → cc512 o = none → cc16 o = none → o ≠ 241 → o ≠ 242 → ¬ (228 ≤ o ∧ o ≤ 238) → o ≠ 226 → hI mF o k = hI m o k := fun o k q1 q2 q3 q4 q5 q6 q7 => by
    have q8 : o ≠ 244 := fun z => (by subst z; cases q3)
    rw [r3 o k q4 q5 q8, w6 o k q1 q2 q3 (by omega), mqI o k (by omega)]; exact fb.2 o k q6 (by omega)
  have mF226 : ∀ k, ¬ (k = 47 ∨ k = 57 ∨ k = 59 ∨ (62 ≤ k ∧ k ≤ 67)) → ¬ (k = 0 ∨ k = 2) → hI mF 226 k = hI m' 226 k := fun k q1 q2 => by
    rw [r3 226 k (by omega) (by omega) (by omega), w6 226 k (by omega) rfl rfl (by omega)]; exact mqI _ _ (by omega)
  have mFc : ∀ k, k = 47 ∨ k = 57 ∨ k = 59 ∨ (62 ≤ k ∧ k ≤ 67) → hI mF 226 k = nI 0 := fun k q => by
    rw [r3 226 k (by omega) (by omega) (by omega)]; exact w5 k q
  have m5 : ∀ o v k, cc512 o = some v → k < 512 → hI mF o k = v := fun o v k q hk => by
    have no : o ≠ 241 ∧ o ≠ 242 ∧ o ≠ 244 := ⟨fun z => (by subst z; cases q), fun z => (by subst z; cases q), fun z => (by subst z; cases q)⟩
    rw [r3 o k no.1 no.2.1 no.2.2]; exact w3 o v k q hk
  have m6 : ∀ o v k, o ≠ 244 → cc16 o = some v → k < 16 → hI mF o k = v := fun o v k n4 q hk => by
    have no : o ≠ 241 ∧ o ≠ 242 := ⟨fun z => (by subst z; cases q), fun z => (by subst z; cases q)⟩
    rw [r3 o k no.1 no.2 n4]; exact w4' o v k q hk
  have RMn : RM mF (sNew s (e 10) (t23w hF (e 10)) (mem4 (mw h0 g L (fun _ => 0) n))) := RM_new R.2.1 mF2 (fun k hk => by
      rw [r3 239 k (by omega) (by omega) (by omega), w2 k hk, mqI _ _ (by omega), fb.2 _ _ (by omega) (by omega)]; exact (y11 k hk).2) m5 m6 mFc
    ⟨fun k => mFk 267 k (by omega) rfl rfl (by omega) (by omega) (by omega) (by omega), fun k => mFk 262 k (by omega) rfl rfl (by omega) (by omega) (by omega) (by omega), by rw [mF226 79 (by omega) (by omega)]; exact fb.2 _ _ (by omega) (by omega)⟩ r4
  rw [X, Y]
  have hbd : Bd h hF := by
    have eR : hR hF 16 0 = hR h 16 0 := by show hF.2.2.1 16 0 = h.2.2.1 16 0; rw [hF2]
    have eN' : ∀ o, hN hF o = hN h o := fun o => by show hF.2.2.2.2.1 o = h.2.2.2.2.1 o; rw [hF2]
    have eZ : hZ hF = hZ h := by show hF.2.2.2.2.2.1 = h.2.2.2.2.2.1; rw [hF2]
    have eV : hV hF = hV h := by show hF.2.2.2.2.2.2 = h.2.2.2.2.2.2; rw [hF2]
    unfold Bd
    rw [eR, eN', eZ, eV]; exact ⟨rfl, Nat.le_refl _⟩
  refine ⟨hF, mF, sNew s (e 10) (t23w hF (e 10)) (mem4 (mw h0 g L (fun _ => 0) n)), eN e (fun c => g 8 c % 8192), nI (g 7 n), ⟨⟨RCn, DZn⟩, RMn, IV_new R.2.2.1 y12, CN_new _ _ _ _, fun c hc => ?_, ?_⟩, hbd, mF2, rfl, rfl, Or.inl ⟨rfl, rfl⟩⟩
  · obtain ⟨f1', f2', f3', f4', f5', f6', f7'⟩ := CFF c hc
    refine ⟨fun r hr => ?_, ⟨f2'.1, r5 c hc, ?_⟩, ⟨f2'.2, m6 245 (nI 0) c (by omega) rfl hc, Nat.zero_le _⟩, ⟨f3'.1, m6 248 (nI 0) c (by omega) rfl hc, Nat.zero_le _, f3'.2⟩, fun i hi => absurd hi (Nat.not_lt_zero i), ⟨f6', m6 246 (nI 0) c (by omega) rfl hc, Nat.zero_le _⟩, fun k _ hk => absurd hk (Nat.not_lt_zero k), ?_, ?_, ?_⟩
    · rw [f1' r hr, m5 243 (nI 0) (32 * c + r) rfl (by omega)]; rfl
    · show g 8 c % 8192 < 8192; omega
    · rw [f7'.2.2.2.2.1, m6 255 (nI 0) c (by omega) rfl hc]; rfl
    · rw [f7'.2.2.2.2.2.1, m6 256 (nI 0) c (by omega) rfl hc]; rfl
    · rw [f7'.2.2.2.2.1, f7'.2.2.2.2.2.1]; exact ⟨by decide, by decide⟩
  · refine ⟨⟨?_, fun c _ => rfl⟩, ⟨?_, ?_⟩, ⟨?_, ?_⟩, ⟨?_, ?_, Nat.zero_le _⟩, fun i hi => absurd hi (Nat.not_lt_zero i), fun i hi => ?_, y12, ?_, ?_⟩
    · rw [mFc 62 (by omega)]; rfl
    · rw [hF9.1, mFc 66 (by omega)]; rfl
    · rw [hF9.2, mFc 67 (by omega)]; rfl
    · rw [lo 1 7 (by omega) (by omega), v8 _ _ (by omega) (by omega) (by omega) (by omega) (by omega) (by omega), h7.1, mF226 3 (by omega) (by omega), f2.1]
    · rw [lo 1 8 (by omega) (by omega), v8 _ _ (by omega) (by omega) (by omega) (by omega) (by omega) (by omega), h7.2.1, mF226 4 (by omega) (by omega), f2.2]
    · rw [lo 2 1 (by omega) (by omega), v8 _ _ (by omega) (by omega) (by omega) (by omega) (by omega) (by omega), h7.2.2]; rfl
    · rw [r3 226 2 (by omega) (by omega) (by omega), w6 226 2 (by omega) rfl rfl (by omega), mq0.2]; rfl
    · rw [lo 33 i (by omega) (by omega), v8 _ _ (by omega) (by omega) (by omega) (by omega) (by omega) (by omega), hqF _ _ (by omega) (by omega) (by omega), mFk 240 i (by omega) rfl rfl (by omega) (by omega) (by omega) (by omega)]; exact y11 i hi
    · rw [r3 226 0 (by omega) (by omega) (by omega), w6 226 0 (by omega) rfl rfl (by omega), mq0.1]; rfl
    · exact cst_of y14 (fun o k q => by
        rcases q with rfl | rfl
        · exact mFk 274 k (by omega) rfl rfl (by omega) (by omega) (by omega) (by omega)
        · exact mFk 275 k (by omega) rfl rfl (by omega) (by omega) (by omega) (by omega))
