theorem cw_N {s t : St} (e : N t 0 5 = N s 0 5) (k : Nat) : cw t k = cw s k := by unfold cw; rw [e]
theorem uw_N {s t : St} (e : ∀ i, N t 0 i = N s 0 i) {k : Nat} (u : uw s k) : uw t k := by unfold uw; rw [e, e]; exact u
/-- one of a way's fields -/
theorem c_wayF {h : AH} {s : St} (R : RC h s) (B : Bz s) {k o F v : Nat} {x : Int32} (u : uw s k)
    (hf : (o = 22 ∧ F = 6 ∧ x = pI v) ∨ (o = 23 ∧ F = 7 ∧ x = nI v) ∨ (o = 27 ∧ F = 5 ∧ x = nI v) ∨ (o = 26 ∧ F = 10 ∧ x = nI v) ∨ (o = 25 ∧ F = 9 ∧ x = nI v) ∨ (o = 28 ∧ F = 23 ∧ x = nI v) ∨ (o = 24 ∧ F = 8 ∧ x = pI v ∧ (v = 0 ∨ N s 4 k = 0 ∨ (hI h 26 (cw s k) = nI (N s 10 k) ∧ (v = 17 ∨ hI h 25 (cw s k) = nI (N s 9 k))))) ∨ (o = 21 ∧ F = 4 ∧ x = pI v ∧ v = 0)) :
    RC (sI h o (cw s k) x) (uN s F k v) ∧ FrW h (sI h o (cw s k) x) (cw s k) := by
  obtain ⟨r1, r2, r3, r4⟩ := RC_w R u
  obtain ⟨s1, s2, s3, s4⟩ := RC_s R
  have Fw : FrW h (sI h o (cw s k) x) (cw s k) := FrW_sI (FrW_rfl h _) _ (by omega)
  refine ⟨RC_H R B u Fw ?_ (fun G j => Or.inl rfl) rfl rfl ?_ ?_ ?_ ?_, Fw⟩
  · intro G j
    simp only [N_uN]
    (repeat' split) <;> omega
  · rw [x_ne (by omega), N_ne (by omega)]; exact s3
  · rw [x_ne (by omega), N_ne (by omega)]; exact s4
  · intro l j hl hj; rw [x_ne (by omega)]; exact R.2.2.2.2.2.1 l j hl hj
  · rcases hf with ⟨rfl, rfl, rfl⟩ | ⟨rfl, rfl, rfl⟩ | ⟨rfl, rfl, rfl⟩ | ⟨rfl, rfl, rfl⟩ | ⟨rfl, rfl, rfl⟩ | ⟨rfl, rfl, rfl⟩ | ⟨rfl, rfl, rfl, hv⟩ | ⟨rfl, rfl, rfl, rfl⟩
    · refine ⟨by rw [x_ne (by omega)]; exact r1, by rw [x_ne (by omega)]; exact r2, by rw [x_ne (by omega)]; exact r3, fun g => ?_⟩
      obtain ⟨b1, b2, b3, b4, b5⟩ := r4 g
      refine ⟨by rw [x_eq, N_eq], by rw [x_ne (by omega)]; exact b2, by rw [x_ne (by omega)]; exact b3, fun j hj => by rw [x_ne (by omega)]; exact b4 j hj, by rw [x_ne (by omega), x_ne (by omega)]; exact b5⟩
    · refine ⟨by rw [x_ne (by omega)]; exact r1, by rw [x_ne (by omega)]; exact r2, by rw [x_ne (by omega)]; exact r3, fun g => ?_⟩
      obtain ⟨b1, b2, b3, b4, b5⟩ := r4 g
      refine ⟨by rw [x_ne (by omega)]; exact b1, by rw [x_eq, N_eq], by rw [x_ne (by omega)]; exact b3, fun j hj => by rw [x_ne (by omega)]; exact b4 j hj, by rw [x_ne (by omega), x_ne (by omega)]; exact b5⟩
    · refine ⟨by rw [x_ne (by omega)]; exact r1, by rw [x_ne (by omega)]; exact r2, by rw [x_ne (by omega)]; exact r3, fun g => ?_⟩
      obtain ⟨b1, b2, b3, b4, b5⟩ := r4 g
      refine ⟨by rw [x_ne (by omega)]; exact b1, by rw [x_ne (by omega)]; exact b2, by rw [x_eq, N_eq], fun j hj => by rw [x_ne (by omega)]; exact b4 j hj, by rw [x_ne (by omega), x_ne (by omega)]; exact b5⟩
    · refine ⟨by rw [x_ne (by omega)]; exact r1, by rw [x_ne (by omega)]; exact r2, by rw [x_ne (by omega)]; exact r3, fun g => ?_⟩
      obtain ⟨b1, b2, b3, b4, b5⟩ := r4 g
      refine ⟨by rw [x_ne (by omega)]; exact b1, by rw [x_ne (by omega)]; exact b2, by rw [x_ne (by omega)]; exact b3, fun j hj => by rw [x_ne (by omega)]; exact b4 j hj, fun g2 => ⟨by rw [x_eq, N_eq], by rw [x_ne (by omega)]; exact (b5 g2).2⟩⟩
    · refine ⟨by rw [x_ne (by omega)]; exact r1, by rw [x_ne (by omega)]; exact r2, by rw [x_ne (by omega)]; exact r3, fun g => ?_⟩
      obtain ⟨b1, b2, b3, b4, b5⟩ := r4 g
      refine ⟨by rw [x_ne (by omega)]; exact b1, by rw [x_ne (by omega)]; exact b2, by rw [x_ne (by omega)]; exact b3, fun j hj => by rw [x_ne (by omega)]; exact b4 j hj, fun g2 => ⟨by rw [x_ne (by omega)]; exact (b5 g2).1, fun _ => by rw [x_eq, N_eq]⟩⟩
    · refine ⟨by rw [x_ne (by omega)]; exact r1, by rw [x_ne (by omega)]; exact r2, by rw [x_eq, N_eq], fun g => ?_⟩
      obtain ⟨b1, b2, b3, b4, b5⟩ := r4 g
      refine ⟨by rw [x_ne (by omega)]; exact b1, by rw [x_ne (by omega)]; exact b2, by rw [x_ne (by omega)]; exact b3, fun j hj => by rw [x_ne (by omega)]; exact b4 j hj, by rw [x_ne (by omega), x_ne (by omega)]; exact b5⟩
    · refine ⟨by rw [x_ne (by omega)]; exact r1, by rw [x_eq, N_eq], by rw [x_ne (by omega)]; exact r3, fun g => ?_⟩
      obtain ⟨b1, b2, b3, b4, b5⟩ := r4 g
      refine ⟨by rw [x_ne (by omega)]; exact b1, by rw [x_ne (by omega)]; exact b2, by rw [x_ne (by omega)]; exact b3, fun j hj => by rw [x_ne (by omega)]; exact b4 j hj, fun g2 => ?_⟩
      rw [N_eq] at g2
      rw [N_eq, x_ne (by omega), x_ne (by omega), N_ne (by omega), N_ne (by omega)]
      rcases hv with hv | hv | ⟨hv, hv2⟩
      · exact absurd hv g2
      · exact absurd hv g
      · refine ⟨hv, fun g3 => ?_⟩
        rcases hv2 with hv2 | hv2
        · exact absurd hv2 g3
        · exact hv2
    · refine ⟨by rw [x_eq, N_eq], by rw [x_ne (by omega)]; exact r2, by rw [x_ne (by omega)]; exact r3, fun g => ?_⟩
      rw [N_eq] at g; exact absurd rfl g
/-- a way's four words -/
theorem c_wayW {h : AH} {s : St} (R : RC h s) (B : Bz s) {k : Nat} {f : Nat → Int32} {w : W4} (u : uw s k) (hf : ∀ q, f q = if cw s k * 4 ≤ q ∧ q < cw s k * 4 + 4 then w4 w (q - cw s k * 4) else hI h 29 q) :
    RC (sA h 29 f) (uW s 2 k w) ∧ FrW h (sA h 29 f) (cw s k) := by
  obtain ⟨r1, r2, r3, r4⟩ := RC_w R u
  obtain ⟨s1, s2, s3, s4⟩ := RC_s R
  have Fw : FrW h (sA h 29 f) (cw s k) := by
    refine ⟨rfl, fun o q e1 e2 e3 e4 => ?_⟩
    by_cases e : o = 29
    · subst e; rw [x_eqA, hf, if_neg (by omega)]
    · rw [x_neA e]
  refine ⟨RC_H R B u Fw (fun G j => Or.inl rfl) ?_ rfl rfl ?_ ?_ ?_ ?_, Fw⟩
  · intro G j
    rw [W_uW]
    split
    · omega
    · exact Or.inl rfl
  · rw [x_neA (by omega)]; exact s3
  · rw [x_neA (by omega)]; exact s4
  · intro l j hl hj; rw [x_neA (by omega)]; exact R.2.2.2.2.2.1 l j hl hj
  · refine ⟨by rw [x_neA (by omega)]; exact r1, by rw [x_neA (by omega)]; exact r2, by rw [x_neA (by omega)]; exact r3, fun g => ?_⟩
    obtain ⟨b1, b2, b3, b4, b5⟩ := r4 g
    refine ⟨by rw [x_neA (by omega)]; exact b1, by rw [x_neA (by omega)]; exact b2, by rw [x_neA (by omega)]; exact b3, fun j hj => ?_, by rw [x_neA (by omega), x_neA (by omega)]; exact b5⟩
    rw [x_eqA, hf, if_pos (by omega), W_uW, if_pos ⟨rfl, rfl⟩, show 4 * cw s k + j - cw s k * 4 = j by omega]
/-- due of other ways -/
def DW (h h' : AH) (w : Nat) : Prop := ∀ q, q ≠ w → hI h' 26 q = hI h 26 q
theorem DW_W {h h' : AH} {w : Nat} (F : FrW h h' w) : DW h h' w := fun q hq => F.2 26 q (by omega) (by omega) (by omega) (by omega)
theorem DW_P {h h' : AH} {w : Nat} (F : FrP h h') : DW h h' w := fun q _ => F.1 26 q (by omega) (by omega) (by omega)
theorem DW_tr {a b c : AH} {w : Nat} (h1 : DW a b w) (h2 : DW b c w) : DW a c w := fun q hq => (h2 q hq).trans (h1 q hq)
def FrE (h h' : AH) (w : Nat) : Prop := FrC h h' ∧ DW h h' w
theorem FrE_rfl (h : AH) (w : Nat) : FrE h h w := ⟨FrC_rfl h, fun _ _ => rfl⟩
theorem FrE_tr {a b c : AH} {w : Nat} (h1 : FrE a b w) (h2 : FrE b c w) : FrE a c w := ⟨FrC_tr h1.1 h2.1, DW_tr h1.2 h2.2⟩
theorem FrE_W {h h' : AH} {w : Nat} (F : FrW h h' w) : FrE h h' w := ⟨FrC_W F, DW_W F⟩
theorem FrE_P {h h' : AH} {w : Nat} (F : FrP h h') : FrE h h' w := ⟨FrC_P F, DW_P F⟩
theorem c_srcW {h : AH} {s : St} (R : RC h s) (B : Bz s) {k : Nat} (u : uw s k) (g : N s 4 k ≠ 0) (w : W4) (e : Wda s 2 k = w) : Src h 29 (cw s k * 4) 1 w := by
  have L := RC_L R
  have := cw_lt B u
  obtain ⟨r1, r2, r3, r4⟩ := RC_w R u
  refine Or.inr ⟨by omega, by omega, by omega, by omega, rfl, lc_S29 L, by rw [lc_N29 L]; omega, by rw [lc_N29 L]; omega, fun j hj => ?_⟩
  rw [show cw s k * 4 + j = 4 * cw s k + j by omega, (r4 g).2.2.2.1 j hj, e]
theorem c_giveShared {h : AH} {s : St} (R : RC h s) (B : Bz s) {k c l : Nat} (u : uw s k) (h4 : N s 4 k = l + 1) (hl : l < 512) (h7 : N s 7 k < 65536) (hc : c < 16) (hw : Wda s 2 k = Wda s 0 l) (hp : (Pl s).length < 8400) :
    ∃ h', f_X4_giveShared h 19 (nI (cw s k)) (nI c) = some h' ∧ RC h' (sGive (uN s 7 k (N s 7 k ||| 2 ^ c)) 6 c l) ∧ FrE h h' (cw s k) := by
  have L := RC_L R
  have wl := cw_lt B u
  obtain ⟨r1, r2, r3, r4⟩ := RC_w R u
  obtain ⟨b1, b2, b3, b4, b5⟩ := r4 (by omega)
  have p2 : 2 ^ c < 2 ^ 31 := Nat.pow_lt_pow_right (by omega) (by omega)
  obtain ⟨R1, F1⟩ := c_wayF R B (o := 23) (F := 7) (v := N s 7 k ||| 2 ^ c) (x := nI (N s 7 k ||| 2 ^ c)) u (Or.inr (Or.inl ⟨rfl, rfl, rfl⟩))
  have L1 := RC_L R1
  have S1 : Src (sI h 23 (cw s k) (nI (N s 7 k ||| 2 ^ c))) 29 (cw s k * 4) 1 (Wda s 0 l) := c_srcW R1 B u (by show N s 4 k ≠ 0; omega) (Wda s 0 l) hw
  obtain ⟨h2, e2, R2, F2⟩ := c_send R1 (kd := 6) (fr := 16) (to := c) (l := l) S1 hp
  refine ⟨h2, ?_, R2, FrE_tr (FrE_W F1) (FrE_P F2)⟩
  unfold f_X4_giveShared
  simp (disch := omega) only [↓y_gs, ↓y_gb, ↓y_lt, ↓y_bds, q_lit, q_cl, q_ib, q_add, q_mul, ↓reduceIte, decide_true, Nat.reduceAdd, Nat.reduceMul, x_hI_sI, x_hR_sI, x_hS_sI, x_hN_sI, lc_S19 L, lc_R19_4 L, lc_S23 L, lc_N23 L, b2, q_shl1, q_or, lc_R19_2 L, lc_S21 L, lc_N21 L, lc_R19_0 L, lc_S16 L, lc_R19_10 L, r1, h4, pI_s, Nat.reduceEqDiff, false_and]
  rw [e2]; rfl
theorem c_giveAlone {h : AH} {s : St} (R : RC h s) (B : Bz s) {k c l : Nat} (u : uw s k) (h4 : N s 4 k = l + 1) (hl : l < 512) (h8 : N s 8 k = c + 1) (hw : Wda s 2 k = Wda s 0 l) (hp : (Pl s).length < 8400) :
    ∃ h', f_X4_giveAlone h 19 (nI (cw s k)) (nI c) = some h' ∧ RC h' (sLend s k) ∧ FrE h h' (cw s k) := by
  have L := RC_L R
  have wl := cw_lt B u
  obtain ⟨r1, r2, r3, r4⟩ := RC_w R u
  obtain ⟨R1, F1⟩ := c_wayF R B (o := 22) (F := 6) (v := c + 1) (x := nI c) u (Or.inl ⟨rfl, rfl, rfl⟩)
  obtain ⟨R2, F2⟩ := c_wayF R1 B (o := 23) (F := 7) (v := 0) (x := nI 0) u (Or.inr (Or.inl ⟨rfl, rfl, rfl⟩))
  have S2 : Src (sI (sI h 22 (cw s k) (nI c)) 23 (cw s k) (nI 0)) 29 (cw s k * 4) 1 (Wda s 0 l) := c_srcW R2 B u (by show N s 4 k ≠ 0; omega) (Wda s 0 l) hw
  obtain ⟨h3, e3, R3, F3⟩ := c_send R2 (kd := 8) (fr := 16) (to := c) (l := l) S2 hp
  refine ⟨h3, ?_, ?_, FrE_tr (FrE_W F1) (FrE_tr (FrE_W F2) (FrE_P F3))⟩
  · unfold f_X4_giveAlone
    simp (disch := omega) only [↓y_gs, ↓y_gb, ↓y_lt, ↓y_bds, q_lit, q_cl, q_ib, q_add, q_mul, ↓reduceIte, decide_true, Nat.reduceAdd, Nat.reduceMul, x_hI_sI, x_hR_sI, x_hS_sI, x_hN_sI, lc_S19 L, lc_R19_3 L, lc_S22 L, lc_N22 L, lc_R19_4 L, lc_S23 L, lc_N23 L, lc_R19_2 L, lc_S21 L, lc_N21 L, lc_R19_0 L, lc_S16 L, lc_R19_10 L, r1, h4, pI_s, Nat.reduceEqDiff, false_and]
    rw [show sI (sI h 22 (cw s k) (nI c)) 23 (cw (uN s 6 k (c + 1)) k) (nI 0) = sI (sI h 22 (cw s k) (nI c)) 23 (cw s k) (nI 0) from rfl] at e3
    rw [e3]; rfl
  · unfold sLend
    rw [h8, h4]; exact R3
