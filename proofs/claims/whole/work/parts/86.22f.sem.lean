/-! play. -/
theorem Rel_ff {h m h' m' : AH} {s : St} {e : Ex} {b : Nat} (R : Rel h m s e b) (e1 : h'.2 = h.2) (e2' : m'.2 = m.2) (f : ∀ o k, ¬ (o = 1 ∧ (k = 7 ∨ k = 8)) → hI h' o k = hI h o k) (g : ∀ o k, ¬ (o = 226 ∧ (k = 3 ∨ k = 4)) → hI m' o k = hI m o k) (h7 : hI h' 1 7 = hI m' 226 3) (h8 : hI h' 1 8 = hI m' 226 4) : Rel h' m' s e b := by
  refine Rel_g R (by rw [e1]) (fun o k q => f o k (by omega)) (by rw [e2']) (fun o k q => g o k (by omega)) (fun _ _ _ => rfl) ?_
  obtain ⟨⟨y1, y2⟩, ⟨y3, y4⟩, ⟨y5, y6⟩, ⟨y7, y8, y9⟩, y10, y11, y12, y13, y14⟩ := R.2.2.2.2.2
  refine ⟨⟨?_, y2⟩, ⟨?_, ?_⟩, ⟨h7, h8⟩, ⟨?_, ?_, y9⟩, fun i hi => ?_, fun i hi => ?_, y12, ?_, cst_of y14 (fun o k q => g o k (by omega))⟩
  · rw [g _ _ (by omega)]; exact y1
  · rw [f _ _ (by omega), g _ _ (by omega)]; exact y3
  · rw [f _ _ (by omega), g _ _ (by omega)]; exact y4
  · rw [f _ _ (by omega)]; exact y7
  · rw [g _ _ (by omega)]; exact y8
  · rw [f _ _ (by omega), g _ _ (by omega)]; exact y10 i hi
  · rw [f _ _ (by omega), g _ _ (by omega)]; exact y11 i hi
  · rw [g _ _ (by omega)]; exact y13
theorem Rel_len0 {h m : AH} {s : St} {e : Ex} {b : Nat} (R : Rel h m s e b) : Rel (sI h 2 1 (0 : Int32)) m s (e2 e 8 0 0) b := by
  refine Rel_g R rfl (fun o k q => x_ne (by omega)) rfl (fun _ _ _ => rfl) (fun F i hF => by rw [e2_ne (by omega)]) ?_
  obtain ⟨⟨y1, y2⟩, ⟨y3, y4⟩, ⟨y5, y6⟩, ⟨y7, y8, y9⟩, y10, y11, y12, y13, y14⟩ := R.2.2.2.2.2
  have q : ∀ F i, F ≠ 8 → e2 e 8 0 0 F i = e F i := fun F i g => by rw [e2_ne (by omega)]
  have q5 : e2 e 8 0 0 5 = e 5 := funext (fun i => q 5 i (by omega))
  have q9 : e2 e 8 0 0 9 = e 9 := funext (fun i => q 9 i (by omega))
  have q10 : e2 e 8 0 0 10 = e 10 := funext (fun i => q 10 i (by omega))
  unfold EXg
  rw [q5, q9, q10, e2_eq, e2_ne (show ¬ (8 = 8 ∧ 1 = 0) by omega), e2_ne (show ¬ (8 = 8 ∧ 2 = 0) by omega)]
  refine ⟨⟨y1, y2⟩, ⟨?_, ?_⟩, ⟨?_, ?_⟩, ⟨?_, y8, y9⟩, fun i hi => ?_, fun i hi => ?_, y12, y13, y14⟩
  · rw [x_ne (by omega)]; exact y3
  · rw [x_ne (by omega)]; exact y4
  · rw [x_ne (by omega)]; exact y5
  · rw [x_ne (by omega)]; exact y6
  · rw [x_eq]; rfl
  · rw [x_ne (by omega)]; exact y10 i hi
  · rw [x_ne (by omega)]; exact y11 i hi
theorem Rel_tap0 {h m : AH} {s : St} {e : Ex} {b : Nat} (R : Rel h m s e b) : Rel h (sI m 226 2 (0 : Int32)) s (e2 e 8 1 0) b := by
  refine Rel_g R rfl (fun _ _ _ => rfl) rfl (fun o k q => x_ne (by omega)) (fun F i hF => by rw [e2_ne (by omega)]) ?_
  obtain ⟨⟨y1, y2⟩, ⟨y3, y4⟩, ⟨y5, y6⟩, ⟨y7, y8, y9⟩, y10, y11, y12, y13, y14⟩ := R.2.2.2.2.2
  have q : ∀ F i, F ≠ 8 → e2 e 8 1 0 F i = e F i := fun F i g => by rw [e2_ne (by omega)]
  have q5 : e2 e 8 1 0 5 = e 5 := funext (fun i => q 5 i (by omega))
  have q9 : e2 e 8 1 0 9 = e 9 := funext (fun i => q 9 i (by omega))
  have q10 : e2 e 8 1 0 10 = e 10 := funext (fun i => q 10 i (by omega))
  unfold EXg
  rw [q5, q9, q10, e2_eq, e2_ne (show ¬ (8 = 8 ∧ 0 = 1) by omega), e2_ne (show ¬ (8 = 8 ∧ 2 = 1) by omega)]
  refine ⟨⟨?_, y2⟩, ⟨?_, ?_⟩, ⟨?_, ?_⟩, ⟨y7, ?_, by omega⟩, fun i hi => by omega, fun i hi => ?_, y12, ?_, cst_of y14 (fun o k q => x_ne (by omega))⟩
  · rw [x_ne (by omega)]; exact y1
  · rw [x_ne (by omega)]; exact y3
  · rw [x_ne (by omega)]; exact y4
  · rw [x_ne (by omega)]; exact y5
  · rw [x_ne (by omega)]; exact y6
  · rw [x_eq]; rfl
  · rw [x_ne (by omega)]; exact y11 i hi
  · rw [x_ne (by omega)]; exact y13
theorem Rel_cnt {h m : AH} {s : St} {e : Ex} {b : Nat} (R : Rel h m s e b) (x y : Int32) : Rel (sI (sI h 1 9 x) 1 10 y) (sI (sI m 226 66 x) 226 67 y) s e b := by
  refine Rel_g R rfl (fun o k q => by rw [x_ne (by omega), x_ne (by omega)]) rfl (fun o k q => by rw [x_ne (by omega), x_ne (by omega)]) (fun _ _ _ => rfl) ?_
  obtain ⟨⟨y1, y2⟩, ⟨y3, y4⟩, ⟨y5, y6⟩, ⟨y7, y8, y9⟩, y10, y11, y12, y13, y14⟩ := R.2.2.2.2.2
  refine ⟨⟨?_, y2⟩, ⟨?_, ?_⟩, ⟨?_, ?_⟩, ⟨?_, ?_, y9⟩, fun i hi => ?_, fun i hi => ?_, y12, ?_, cst_of y14 (fun o k q => by rw [x_ne (by omega), x_ne (by omega)])⟩
  · rw [x_ne (by omega), x_ne (by omega)]; exact y1
  · rw [x_ne (by omega), x_eq, x_ne (by omega), x_eq]
  · rw [x_eq, x_eq]
  · rw [x_ne (by omega), x_ne (by omega), x_ne (by omega), x_ne (by omega)]; exact y5
  · rw [x_ne (by omega), x_ne (by omega), x_ne (by omega), x_ne (by omega)]; exact y6
  · rw [x_ne (by omega), x_ne (by omega)]; exact y7
  · rw [x_ne (by omega), x_ne (by omega)]; exact y8
  · rw [x_ne (by omega), x_ne (by omega), x_ne (by omega), x_ne (by omega)]; exact y10 i hi
  · rw [x_ne (by omega), x_ne (by omega), x_ne (by omega), x_ne (by omega)]; exact y11 i hi
  · rw [x_ne (by omega), x_ne (by omega)]; exact y13
theorem vs_e {e e' : Ex} (h : ∀ F i, 8 ≤ F → e' F i = e F i) : tat e' = tat e ∧ (∀ k, bad e' k = bad e k) ∧ (∀ r k, vs e' r k → vs e r k) ∧ (∀ r k, vs e r k → vs e' r k) := by
  have t : tat e' = tat e := by funext k; unfold tat; rw [h 8 1 (by omega), h 9 k (by omega)]
  have bb : ∀ k, bad e' k = bad e k := by intro k; unfold bad bdg; rw [t]
  refine ⟨t, bb, ?_, ?_⟩
  · intro r
    induction r with
    | zero => intro k _; trivial
    | succ r ih =>
      intro k v
      unfold vs at v ⊢
      rw [h 8 1 (by omega), t, bb] at v
      rcases v with v | ⟨v1, v2, v3⟩ | ⟨v1, v2, v3, v4⟩
      · exact Or.inl v
      · exact Or.inr (Or.inl ⟨v1, v2, ih _ v3⟩)
      · exact Or.inr (Or.inr ⟨v1, v2, v3, ih _ v4⟩)
  · intro r
    induction r with
    | zero => intro k _; trivial
    | succ r ih =>
      intro k v
      unfold vs at v ⊢
      rw [h 8 1 (by omega), t, bb]
      rcases v with v | ⟨v1, v2, v3⟩ | ⟨v1, v2, v3, v4⟩
      · exact Or.inl v
      · exact Or.inr (Or.inl ⟨v1, v2, ih _ v3⟩)
      · exact Or.inr (Or.inr ⟨v1, v2, v3, ih _ v4⟩)
/-- an entry in both -/
theorem entry_both {h m : AH} {s : St} {e : Ex} {b k : Nat} (R : Rel h m s e b) (hb3 : b + 3 ≤ 536870912) (kT : k < e 8 1) (hb : bad e k = none) (K : KC) (a2 a3 : Int32) :
    ∃ h0 h' m' s' e', f_X10_growWaits h 1 = some h0 ∧ opC K h0 1 a2 a3 (nI k) (nI (mny (tat e k))) (oI (dgt (tat e (k + 1)))) (oI (dgt (tat e (k + mny (tat e k))))) = K h' 1 a2 a3 (nI (k + 1 + mny (tat e k))) ∧ f_X11_entry m 226 (nI k) = some m' ∧ Rel h' m' s' e' (b + 3) ∧ Bd h h' ∧ m'.2 = m.2 ∧ (∀ F i, 8 ≤ F → e' F i = e F i) := by
  have n16 := FR_b R
  obtain ⟨h0, m0, g1, g2, R0, g4, g5⟩ := grow_both (nI k) (N s 0 0) R 0 FU FU (by omega) (FU_gt (by omega)) (FU_gt (by omega))
  obtain ⟨h1, m1, s1, e1, d, d1, p1, p2, R1, p4, p5, p6, p7⟩ := op_both R0 hb3 kT hb K a2 a3
  have L1 := RC_L R1.1.1
  have LM1 := rm_L R1.2.1
  have y3 : hI h1 1 9 = hI m1 226 66 := R1.2.2.2.2.2.2.1.1
  have y4 : hI h1 1 10 = hI m1 226 67 := R1.2.2.2.2.2.2.1.2
  have R2 := Rel_cnt R1 (hI h1 1 9 + (1 : Int32)) (hI h1 1 10 + (if d = 0 then (1 : Int32) else 0))
  refine ⟨h0, _, _, s1, e1, ?_, ?_, ?_, R2, ?_, ?_, p7⟩
  · unfold f_X10_growWaits; rw [y_lt]; exact g1
  · rw [p1]
    unfold f_X10_play_L282 f_X10_play_L307 f_X10_play_L318
    have La : LC (sI h1 1 9 (hI h1 1 9 + (1 : Int32))) := L1
    have s10 : hI (sI h1 1 9 (hI h1 1 9 + (1 : Int32))) 1 10 = hI h1 1 10 := x_ne (by omega)
    rw [y_gs, if_pos (lc_S1 L1), y_lt, s10, y_gs, if_pos (lc_S1 La), y_gs, if_pos (lc_S1 La), y_lt, y_lt, y_lt, y_lt, y_lt, y_lt, q_add, show (1 : Int32) = nI 1 from rfl, q_add, show k + mny (tat e k) + 1 = k + 1 + mny (tat e k) by omega]
    by_cases z : d = 0
    · rw [if_pos (show nI d = 0 from by rw [z]; rfl), if_pos z]
    · rw [if_neg (show ¬ nI d = 0 from fun q => z ((q_eq (b := 0) (by omega) (by omega)).mp q)), if_neg z]
  · unfold f_X11_entry; rw [y_lt]
    have g2' : f_X11_entry_L2 FU m 226 (nI k) (0 : Int32) = entE m0 (nI k) := g2
    rw [g2']; unfold entE f_X11_entry_L107
    have La : LM (sI m1 226 66 (hI m1 226 66 + (1 : Int32))) := LM1
    have s67 : hI (sI m1 226 66 (hI m1 226 66 + (1 : Int32))) 226 67 = hI m1 226 67 := x_ne (by omega)
    rw [p2, y_bds, y_lt, y_gs, if_pos (lm_S226 LM1), y_lt, s67, y_gs, if_pos (lm_S226 La), y_gs, if_pos (lm_S226 La), y_lt, y_lt, y3, y4]
    by_cases z : d = 0
    · rw [if_pos (show nI d = 0 from by rw [z]; rfl), if_pos z]
    · rw [if_neg (show ¬ nI d = 0 from fun q => z ((q_eq (b := 0) (by omega) (by omega)).mp q)), if_neg z]
  · exact Bd_tr (Bd_2 g4) (Bd_tr p4 (Bd_2 rfl))
  · show m1.2 = m.2
    rw [p5, g5]
theorem play_both (v : Int32) : ∀ (r : Nat) {h m : AH} {s : St} {e : Ex} {b : Nat}, Rel h m s e b → ∀ k f g, vs e r k → e 8 1 ≤ k + r → k ≤ 1503 → r < f → r < g → b + 3 * r ≤ 536870912 →
    ∃ h' m' s' e' z, f_X10_play_L76 f h 1 (nI (e 8 1)) v (nI k) = some (some z, h') ∧ f_X11_play_L88 g m 226 (nI k) v = some (z, m') ∧ Rel h' m' s' e' (b + 3 * r) ∧ Bd h h' ∧ m'.2 = m.2 ∧ e' 8 0 = e 8 0 ∧ e' 8 1 = 0 ∧ e' 8 2 = e 8 2 := by
  have fin : ∀ {h m : AH} {s : St} {e : Ex} {b k : Nat} (f g : Nat), Rel h m s e b → e 8 1 ≤ k → k ≤ 1503 → 0 < f → 0 < g → ∃ m' e' z, f_X10_play_L76 f h 1 (nI (e 8 1)) v (nI k) = some (some z, h) ∧ f_X11_play_L88 g m 226 (nI k) v = some (z, m') ∧ Rel h m' s e' b ∧ m'.2 = m.2 ∧ e' 8 0 = e 8 0 ∧ e' 8 1 = 0 ∧ e' 8 2 = e 8 2 := by
    intro h m s e b k f g R gT hk hf hg
    have L := RC_L R.1.1
    have L2 := rm_L R.2.1
    obtain ⟨f', rfl⟩ : ∃ f', f = f' + 1 := ⟨f - 1, by omega⟩
    obtain ⟨g', rfl⟩ : ∃ g', g = g' + 1 := ⟨g - 1, by omega⟩
    obtain ⟨⟨y1, y2⟩, ⟨y3, y4⟩, ⟨y5, y6⟩, ⟨y7, y8, y9⟩, _⟩ := R.2.2.2.2.2
    refine ⟨_, _, hI h 1 10 - v, ?_, ?_, Rel_tap0 R, rfl, by rw [e2_ne (by omega)], by rw [e2_eq], by rw [e2_ne (by omega)]⟩
    · unfold f_X10_play_L76
      rw [if_pos ((q_le (by omega) (by omega)).mpr gT), y_gs, if_pos (lc_S1 L)]
    · unfold f_X11_play_L88
      rw [y_gs, if_pos (lm_S226 L2), y8, if_pos ((q_le (by omega) (by omega)).mpr gT), y_lt, x_ne (by omega), y4]
  intro r
  induction r with
  | zero =>
    intro h m s e b R k f g hv hk hk2 hf hg hb
    obtain ⟨m', e', z, a1, a2, a3, a4, a5, a6, a7⟩ := fin f g R (by omega) hk2 (by omega) (by omega)
    exact ⟨h, m', s, e', z, a1, a2, a3, Bd_rfl h, a4, a5, a6, a7⟩
  | succ r ih =>
    intro h m s e b R k f g hv hk hk2 hf hg hb
    by_cases gT : e 8 1 ≤ k
    · obtain ⟨m', e', z, a1, a2, a3, a4, a5, a6, a7⟩ := fin f g R gT hk2 (by omega) (by omega)
      exact ⟨h, m', s, e', z, a1, a2, Rel_up a3 (by omega) hb, Bd_rfl h, a4, a5, a6, a7⟩
    · have kT : k < e 8 1 := by omega
      have L := RC_L R.1.1
      have L2 := rm_L R.2.1
      obtain ⟨f', rfl⟩ : ∃ f', f = f' + 1 := ⟨f - 1, by omega⟩
      obtain ⟨g', rfl⟩ : ∃ g', g = g' + 1 := ⟨g - 1, by omega⟩
      obtain ⟨_, _, _, ⟨y7, y8, y9⟩, _⟩ := R.2.2.2.2.2
      obtain ⟨k1, k2, k3, k4⟩ := c_mark R kT
      have lt := tat_lt R k
      have ml := mny_le (tat e k)
      have nle : ¬ nI (e 8 1) ≤ nI k := fun q => by have := (q_le (by omega) (by omega)).mp q; omega
      have add1 : ∀ i, nI i + (1 : Int32) = nI (i + 1) := fun i => by rw [show (1 : Int32) = nI 1 from rfl, q_add]
      have hv' : (tat e k = 32 ∧ vs e r (k + 1)) ∨ (tat e k ≠ 32 ∧ bad e k = none ∧ vs e r (k + 1 + mny (tat e k))) := by
        unfold vs at hv
        rcases hv with q | ⟨_, q⟩ | ⟨_, q⟩
        · omega
        · exact Or.inl q
        · exact Or.inr q
      rcases hv' with ⟨c32, hv2⟩ | ⟨c32, hbad, hv2⟩
      · obtain ⟨h', m', s', e', z, b1, b2, b3, b4, b5, b6⟩ := ih R (k + 1) f' g' hv2 (by omega) (by omega) (by omega) (by omega) (by omega)
        refine ⟨h', m', s', e', z, ?_, ?_, Rel_up b3 (by omega) hb, b4, b5, b6⟩
        · rw [f_X10_play_L76]; unfold f_X10_play_L318
          rw [if_neg nle, y_gs, if_pos (lc_S1 L), lc_R1_0 L, y_gs, if_pos (lc_S2 L), y_gs, if_pos k1, y_gb, if_pos k2, k3, c_many h _ lt, y_bds, if_pos (show nI (mny (tat e k)) ≤ 0 from by rw [c32]; decide), y_lt, add1]
          exact b1
        · have z32 : nI (tat e k) = (32 : Int32) := by rw [c32]; rfl
          rw [f_X11_play_L88]; unfold f_X11_play_L111 f_X11_play_L132
          rw [y_gs, if_pos (lm_S226 L2), y8, if_neg nle, r_see R (by omega), y_bds, if_pos z32, y_gs, if_pos (lm_S226 L2), y_bds, if_neg (fun q => q z32), add1]
          exact b2
      · have m0 := bad_m hbad
        have z32 : ¬ nI (tat e k) = (32 : Int32) := fun q => c32 ((q_eq (by omega) (show 32 < 2 ^ 31 by omega)).mp q)
        obtain ⟨h0, h1, m1, s1, e1, p1, p2, p3, R1, p5, p6, p7⟩ := entry_both R (by omega) kT hbad (f_X10_play_L76 f') (nI (e 8 1)) v
        obtain ⟨t1, t2, t3, t4⟩ := vs_e p7
        obtain ⟨h', m', s', e', z, b1, b2, b3, b4, b5, b6, b7, b8⟩ := ih R1 (k + 1 + mny (tat e k)) f' g' (t4 _ _ hv2) (by rw [p7 8 1 (by omega)]; omega) (by omega) (by omega) (by omega) (by omega)
        rw [p7 8 1 (by omega)] at b1
        refine ⟨h', m', s', e', z, ?_, ?_, Rel_up b3 (by omega) hb, Bd_tr p5 b4, b5.trans p6, b6.trans (p7 8 0 (by omega)), b7, b8.trans (p7 8 2 (by omega))⟩
        · have kd : k + 1 < e 8 1 ∧ k + mny (tat e k) < e 8 1 := by
            have q := bad_d hbad
            have lo : ∀ j d, dgt (tat e j) = some d → j < e 8 1 := by
              intro j d hd
              by_cases w : j < e 8 1
              · exact w
              · unfold tat at hd; rw [if_neg w] at hd; cases hd
            obtain ⟨⟨d, hd, _⟩, q2⟩ := q
            refine ⟨lo _ _ hd, ?_⟩
            by_cases m1 : mny (tat e k) = 1
            · rw [m1]; exact lo _ _ hd
            · have m2 : mny (tat e k) = 2 := by omega
              obtain ⟨d2, hd2, _⟩ := q2 m2
              rw [m2]; exact lo _ _ hd2
          obtain ⟨j1, j2, j3, j4⟩ := c_mark R kd.1
          obtain ⟨i1, i2, i3, i4⟩ := c_mark R kd.2
          have X : f_X10_play_L76 (f' + 1) h 1 (nI (e 8 1)) v (nI k) = bd (f_X10_growWaits h 1) fun q13 => opC (f_X10_play_L76 f') q13 1 (nI (e 8 1)) v (nI k) (nI (mny (tat e k))) (oI (dgt (tat e (k + 1)))) (oI (dgt (tat e (k + mny (tat e k))))) := by
            rw [f_X10_play_L76]
            rw [if_neg nle, y_gs, if_pos (lc_S1 L), lc_R1_0 L, y_gs, if_pos (lc_S2 L), y_gs, if_pos k1, y_gb, if_pos k2, k3, c_many h _ lt, y_bds, if_neg (show ¬ nI (mny (tat e k)) ≤ 0 from fun q => by have := (q_le (b := 0) (by omega) (by omega)).mp q; omega), add1, q_add, y_gb, if_pos j2, j3, c_digit h _ (tat_lt R _), y_bds, y_gb, if_pos i2, i3, c_digit h _ (tat_lt R _), y_bds]
            rfl
          rw [X, p1, y_bds, p2]
          exact b1
        · have L1 := rm_L R1.2.1
          rw [f_X11_play_L88]; unfold f_X11_play_L111 f_X11_play_L132
          have s1' := r_see R1 (k := k) (by omega)
          have e1' := r_endOf R1 (k := k) (by omega)
          rw [t1] at s1'
          have eo1 : eo e1 k = nI (k + 1 + mny (tat e k)) := by unfold eo; rw [t2, hbad, t1]
          rw [eo1] at e1'
          rw [y_gs, if_pos (lm_S226 L2), y8, if_neg nle, r_see R (by omega), y_bds, if_neg z32, p3, y_bds, y_gs, if_pos (lm_S226 L1), s1', y_bds, if_pos z32, e1', y_bds]
          exact b2
