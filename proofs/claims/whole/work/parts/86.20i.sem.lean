/-- the heap behind a step before it retires -/
def M2 (m m2 : AH) (c d : Nat) (v w a rd pt : Int32) : Prop :=
  m2.2 = m.2 ∧ (∀ o k, o ≠ 226 → ¬ (o = 243 ∧ k = 32 * c + d ∧ d ≠ 0) → hI m2 o k = hI m o k) ∧ (d ≠ 0 → hI m2 243 (32 * c + d) = v) ∧
  (∀ k, k ≠ 40 → k ≠ 41 → k ≠ 42 → k ≠ 43 → k ≠ 77 → k ≠ 78 → hI m2 226 k = hI m 226 k) ∧ hI m2 226 78 = w ∧ hI m2 226 40 = nI d ∧ hI m2 226 41 = a ∧ hI m2 226 42 = rd ∧ hI m2 226 43 = pt
def e2 (e : Ex) (F i v : Nat) : Ex := fun G j => if G = F ∧ j = i then v else e G j
theorem e2_eq (e : Ex) (F i v : Nat) : e2 e F i v F i = v := if_pos ⟨rfl, rfl⟩
theorem e2_ne {e : Ex} {F i v G j : Nat} (h : ¬ (G = F ∧ j = i)) : e2 e F i v G j = e G j := if_neg h
theorem RM_x {m m' : AH} {s : St} (R : RM m s) (e : m'.2 = m.2) (h : ∀ o k, irr o k = false → hI m' o k = hI m o k) : RM m' s := RM_sm R ⟨by rw [e], h⟩
theorem LM_2 {m m' : AH} (L : LM m) (e : m'.2 = m.2) : LM m' := by
  unfold LM at *
  simp only [hR_2 e, hS_2 e, hN_2 e]; exact L
theorem irr_f {o k : Nat} (h : irr o k = false) : o ≠ 227 ∧ o ≠ 240 ∧ o ≠ 243 ∧ o ≠ 244 ∧ o ≠ 245 ∧ o ≠ 246 ∧ o ≠ 248 ∧ o ≠ 249 ∧ o ≠ 250 ∧ o ≠ 251 ∧ o ≠ 255 ∧ o ≠ 256 ∧ o ≠ 257 ∧ ¬ (o = 226 ∧ (k = 0 ∨ k = 2 ∨ k = 3 ∨ k = 4 ∨ k = 62 ∨ k = 66 ∨ k = 67 ∨ k = 77 ∨ k = 78 ∨ (40 ≤ k ∧ k ≤ 43))) := by
  have g : ∀ P : Prop, (P → irr o k = true ∧ o ≠ 272 ∧ o ≠ 276) → ¬ P := fun P f p => by
    have := (f p).1; rw [h] at this; cases this
  refine ⟨g _ (fun p => irr_x (by omega)), g _ (fun p => irr_x (by omega)), g _ (fun p => irr_x (by omega)), g _ (fun p => irr_x (by omega)), g _ (fun p => irr_x (by omega)), g _ (fun p => irr_x (by omega)), g _ (fun p => irr_x (by omega)), g _ (fun p => irr_x (by omega)), g _ (fun p => irr_x (by omega)), g _ (fun p => irr_x (by omega)), g _ (fun p => irr_x (by omega)), g _ (fun p => irr_x (by omega)), g _ (fun p => irr_x (by omega)), g _ (fun p => irr_x (by omega))⟩
theorem sg_up {f g : Nat → Nat} {c : Nat} (n : Nat) (hc : c < n) (h1 : g c = f c + 1) (h2 : ∀ j, j ≠ c → g j = f j) : sg g n = sg f n + 1 := by
  rw [sg_at g n hc, sg_at f n hc, h1]
  have : sg (fun j => if j = c then 0 else g j) n = sg (fun j => if j = c then 0 else f j) n := sg_congr n (fun j _ => by
    by_cases e : j = c
    · rw [if_pos e, if_pos e]
    · rw [if_neg e, if_neg e, h2 j e])
  omega
theorem fin_both {h m m2 : AH} {s : St} {e : Ex} {b c d : Nat} {v w a rd pt np : Int32} (R : Rel h m s e b) (hc : c < N s 0 0) (hd : d < 32) (K : M2 m m2 c d v w a rd pt) (hb : b + 1 ≤ 536870912) :
    ∃ h' m' e', f_X3_finish h (34 + 12 * c) w (nI d) v a rd pt np = some (nI 1, h') ∧ f_X11_retire m2 226 (nI c) np = some (nI 1, m') ∧ Rel h' m' s e' (b + 1) ∧ Bd h h' ∧ m'.2 = m.2 ∧ (∀ F i, 8 ≤ F → e' F i = e F i) := by
  obtain ⟨⟨RC', D⟩, RM', I, C, X⟩ := R
  have b0 := I.1.1.1.2
  have lim : N s 0 1 ≤ 16 := I.1.1.2.1.2
  have hb0 := I.1.2
  have c16 : c < 16 := by omega
  have L := RC_L RC'
  have Xc := X.1 c c16
  obtain ⟨x1, ⟨x2, x3, x4⟩, ⟨x5, x6, x7⟩, ⟨x8, x9, x10, x11⟩, x12, ⟨x13, x14, x15⟩, x16, x17, x18⟩ := Xc
  obtain ⟨k1, k2, k3, k4, k5, k6, k7, k8, k9⟩ := K
  obtain ⟨np', hn1, hn2⟩ := msk_n np (j := 13) (by omega)
  have hn2' : np &&& (8191 : Int32) = nI np' := hn2
  generalize ht : e 5 c = t at *
  -- the class
  generalize hh5 : (if d = 0 then h else sI h (35 + 12 * c) d v) = h5
  have f5 : ∀ o k, ¬ (o = 35 + 12 * c ∧ k = d ∧ d ≠ 0) → hI h5 o k = hI h o k := by
    intro o k g; rw [← hh5]
    split
    · rfl
    · exact x_ne (by omega)
  have e5 : h5.2 = h.2 := by rw [← hh5]; split <;> rfl
  have L5 : LC h5 := by rw [← hh5]; split <;> exact L
  have r5 : ∀ r, r < 32 → hI h5 (35 + 12 * c) r = hI m2 243 (32 * c + r) := by
    intro r hr
    by_cases g : r = d ∧ d ≠ 0
    · rw [← hh5, if_neg g.2, g.1, x_eq, k3 g.2]
    · rw [f5 _ _ (by omega), k2 _ _ (by omega) (by omega)]; exact x1 r hr
  have cls : f_X3_finish h (34 + 12 * c) w (nI d) v a rd pt np = f_X3_finish_L11 h5 (34 + 12 * c) w (nI d) a rd pt np := by
    unfold f_X3_finish
    by_cases g : d = 0
    · rw [if_pos (by rw [g]; rfl), ← hh5, if_pos g]
    · have nz : ¬ nI d = 0 := fun w => g ((q_eq (by omega) (show 0 < 2 ^ 31 by omega)).mp w)
      rw [if_neg nz, y_gs, if_pos (lk_S34 L c16), lk_R34_2 L c16, y_gs, if_pos (lk_S35 L c16), lk_N35 L c16, y_gb, if_pos (q_ib hd (by omega)), y_lt, q_cl (by omega), ← hh5, if_neg g]
  obtain ⟨h6, n1, n2, n3, n4, n5, n6⟩ := c_note (t := t) L5 c16 (by rw [f5 _ _ (by omega)]; exact x13) (by omega) (nI (e 0 c)) w (nI d) (hI h5 (35 + 12 * c) d) a rd pt
  have L6 : LC h6 := lc_of L5 (fun o k _ _ => hR_2 n2 o k) (fun o _ => ⟨hS_2 n2 o, hN_2 n2 o⟩)
  have hcl : f_X3_finish h (34 + 12 * c) w (nI d) v a rd pt np = some (nI 1, sI (sI h6 (34 + 12 * c) 3 (nI np')) (34 + 12 * c) 13 0) := by
    rw [cls]
    unfold f_X3_finish_L11
    rw [y_gs, if_pos (lk_S34 L5 c16), lk_R34_2 L5 c16, y_gs, if_pos (lk_S35 L5 c16), lk_N35 L5 c16, y_gb, if_pos (q_ib hd (by omega)), lk_R34_7 L5 c16, y_gs, if_pos (lk_S43 L5 c16), q_cl (by omega), f5 (34 + 12 * c) 3 (by omega), x2, n1, y_bds, y_gs, if_pos (lk_S34 L6 c16), y_lt, y_lt, hn2']; rfl
  -- the reference
  obtain ⟨m', y1, y2, y3, y4, y5, y6, y7, y8⟩ := r_retire (np := np) (LM_2 (rm_L RM') k1) (t := t) (d := d) c16 (by rw [k2 _ _ (by omega) (by omega)]; exact x14) (by omega) k5 k6 hd k7 k8 k9 ((k2 244 c (by omega) (by omega)).trans x3) rfl
  rw [hn2'] at y5
  have m2s : ∀ o k, irr o k = false → hI m2 o k = hI m o k := by
    intro o k g
    have gf := irr_f g
    by_cases g1 : o = 226
    · subst g1; exact k4 k (by omega) (by omega) (by omega) (by omega) (by omega) (by omega)
    · exact k2 o k g1 (by omega)
  have ch : ∀ o k, ¬ xo o k → hI (sI (sI h6 (34 + 12 * c) 3 (nI np')) (34 + 12 * c) 13 0) o k = hI h o k := by
    intro o k g
    have gx : ¬ (o = 35 + 12 * c) ∧ ¬ (o = 43 + 12 * c) ∧ ¬ (o = 44 + 12 * c) ∧ ¬ (o = 34 + 12 * c ∧ (k = 3 ∨ k = 13)) := by unfold xo at g; omega
    rw [x_ne (by omega), x_ne (by omega), n3 o k (by omega) (by omega), f5 o k (by omega)]
  have e5' : ∀ j, j ≠ c → e2 (e2 e 0 c np') 5 c (t + 1) 5 j = e 5 j := by
    intro j hj; rw [e2_ne (by omega), e2_ne (by omega)]
  refine ⟨_, m', e2 (e2 e 0 c np') 5 c (t + 1), hcl, y1, ⟨⟨RC_x RC' (n2.trans e5) ch, DZ_x D ch⟩, RM_x RM' (y2.trans k1) (fun o k g => ?_), IV_up I (by omega) hb, C, fun j hj => ?_, ?_⟩, Bd_2 (n2.trans e5), y2.trans k1, fun F i hF => by rw [e2_ne (by omega), e2_ne (by omega)]⟩
  · have gf := irr_f g
    rw [y3 o k (by omega) (by omega) (by omega)]; exact m2s o k g
  · by_cases g : j = c
    · subst g
      refine ⟨fun r hr => ?_, ⟨?_, ?_, ?_⟩, ⟨?_, ?_, ?_⟩, ⟨?_, ?_, ?_, ?_⟩, fun i hi => ?_, ⟨?_, ?_, ?_⟩, fun k hk hk2 => ?_, ?_, ?_⟩
      · rw [x_ne (by omega), x_ne (by omega), n3 _ _ (by omega) (by omega), r5 r hr, y3 _ _ (by omega) (by omega) (by omega)]
      · rw [x_ne (by omega), x_eq, e2_ne (by omega), e2_eq]
      · rw [y5, e2_ne (by omega), e2_eq]
      · rw [e2_ne (by omega), e2_eq]; exact hn1
      · rw [x_ne (by omega), x_ne (by omega), n3 _ _ (by omega) (by omega), f5 _ _ (by omega), e2_ne (by omega), e2_ne (by omega)]; exact x5
      · rw [y3 _ _ (by omega) (by omega) (by omega), k2 _ _ (by omega) (by omega), e2_ne (by omega), e2_ne (by omega)]; exact x6
      · rw [e2_ne (by omega), e2_ne (by omega)]; exact x7
      · rw [x_ne (by omega), x_ne (by omega), n3 _ _ (by omega) (by omega), f5 _ _ (by omega), e2_ne (by omega), e2_ne (by omega)]; exact x8
      · rw [y3 _ _ (by omega) (by omega) (by omega), k2 _ _ (by omega) (by omega), e2_ne (by omega), e2_ne (by omega)]; exact x9
      · rw [e2_ne (by omega), e2_ne (by omega)]; exact x10
      · rw [x_ne (by omega), x_ne (by omega), n3 _ _ (by omega) (by omega), f5 _ _ (by omega)]; exact x11
      · rw [e2_ne (by omega), e2_ne (by omega)] at hi
        have z := x12 i hi
        rw [x_ne (by omega), x_ne (by omega), n3 _ _ (by omega) (by omega), f5 _ _ (by omega), x_ne (by omega), x_ne (by omega), n3 _ _ (by omega) (by omega), f5 _ _ (by omega), x_ne (by omega), x_ne (by omega), n3 _ _ (by omega) (by omega), f5 _ _ (by omega), y3 249 _ (by omega) (by omega) (by omega), k2 249 _ (by omega) (by omega), y3 250 _ (by omega) (by omega) (by omega), k2 250 _ (by omega) (by omega), y3 251 _ (by omega) (by omega) (by omega), k2 251 _ (by omega) (by omega), e2_ne (G := 3) (by omega), e2_ne (G := 3) (by omega), e2_ne (G := 4) (by omega), e2_ne (G := 4) (by omega)]
        exact z
      · rw [x_ne (by omega), x_ne (by omega), n4, e2_eq]
      · rw [y4, e2_eq]
      · rw [e2_eq]; omega
      · rw [e2_eq] at hk2 ⊢
        by_cases k0 : k = 0
        · subst k0
          rw [show t + 1 - 1 - 0 = t by omega]
          refine ⟨fun i hi => ?_, ?_⟩
          · rw [x_ne (by omega), x_ne (by omega), n5 i hi, y8 i hi, r5 d hd]
          · rw [x_ne (by omega), x_ne (by omega), n6]
        · have z := x16 (k - 1) (by omega) (by omega)
          rw [show t - 1 - (k - 1) = t - k by omega] at z
          rw [show t + 1 - 1 - k = t - k by omega]
          have md : (t - k) % 32 ≠ t % 32 := by omega
          have m1 : (t - k) % 32 < 32 := Nat.mod_lt _ (by omega)
          have m2' : t % 32 < 32 := Nat.mod_lt _ (by omega)
          refine ⟨fun i hi => ?_, ?_⟩
          · rw [x_ne (by omega), x_ne (by omega), n3 _ _ (by omega) (by omega), f5 _ _ (by omega), y3 _ _ (by omega) (by omega) (by omega), k2 _ _ (by omega) (by omega)]; exact z.1 i hi
          · rw [x_ne (by omega), x_ne (by omega), n3 _ _ (by omega) (by omega), f5 _ _ (by omega)]; exact z.2
      · rw [x_eq, y6]
      · have i13 : hI (sI (sI h6 (34 + 12 * j) 3 (nI np')) (34 + 12 * j) 13 0) (34 + 12 * j) 13 = 0 := x_eq _ _ _ _
        rw [i13, x_ne (by omega), x_ne (by omega), n3 _ _ (by omega) (by omega), f5 _ _ (by omega), y3 _ _ (by omega) (by omega) (by omega), k2 _ _ (by omega) (by omega)]; exact ⟨x18.1, x18.2.2, x18.2.2⟩
    · have z := EXc_of (h' := sI (sI h6 (34 + 12 * c) 3 (nI np')) (34 + 12 * c) 13 0) (m' := m') (b' := b + 1) (X.1 j hj) hj (fun o k ho => by rw [x_ne (by omega), x_ne (by omega), n3 o k (by omega) (by omega), f5 o k (by omega)]) (fun k => by
          by_cases kl : k < 32
          · exact Or.inl (by rw [y3 _ _ (by omega) (by omega) (by omega), k2 _ _ (by omega) (by omega)])
          · exact Or.inr (by omega)) (fun o ho => by rw [y3 o j (by omega) (by omega) (by omega), k2 o j (by omega) (by omega)]) (fun o k ho hk => by rw [y3 o _ (by omega) (by omega) (by omega), k2 o _ (by omega) (by omega)]) (fun k hk i hi => by
          have : t % 32 < 32 := Nat.mod_lt _ (by omega)
          rw [y3 _ _ (by omega) (by omega) (by omega), k2 _ _ (by omega) (by omega)]) (by omega) lim
      unfold EXc at z ⊢
      rw [e5' j g, show e2 (e2 e 0 c np') 5 c (t + 1) 0 j = e 0 j from by rw [e2_ne (by omega), e2_ne (by omega)], show e2 (e2 e 0 c np') 5 c (t + 1) 1 j = e 1 j from by rw [e2_ne (by omega), e2_ne (by omega)], show e2 (e2 e 0 c np') 5 c (t + 1) 2 j = e 2 j from by rw [e2_ne (by omega), e2_ne (by omega)], show e2 (e2 e 0 c np') 5 c (t + 1) 3 = e 3 from by funext i; rw [e2_ne (by omega), e2_ne (by omega)], show e2 (e2 e 0 c np') 5 c (t + 1) 4 = e 4 from by funext i; rw [e2_ne (by omega), e2_ne (by omega)]]
      exact z
  · have z := EXg_of (h' := sI (sI h6 (34 + 12 * c) 3 (nI np')) (34 + 12 * c) 13 0) (m' := sI m' 226 62 (hI m 226 62)) X.2 (fun o k ho => by rw [x_ne (by omega), x_ne (by omega), n3 o k (by omega) (by omega), f5 o k (by omega)]) (fun o k ho => by
      by_cases g : o = 226 ∧ k = 62
      · rw [g.1, g.2, x_eq]
      · rw [x_ne g, y3 o k (by omega) (by omega) (by omega)]
        by_cases g2 : o = 226
        · subst g2; exact k4 k (by omega) (by omega) (by omega) (by omega) (by omega) (by omega)
        · exact k2 o k g2 (by omega))
    obtain ⟨⟨z1, z2⟩, ⟨z3, z3'⟩, ⟨z4, z4'⟩, ⟨z5, z6, z7⟩, z8, z9, z10, z11, z12⟩ := z
    have ne : ∀ k, k ≠ 62 → hI (sI m' 226 62 (hI m 226 62)) 226 k = hI m' 226 k := fun k g => x_ne (by omega)
    have ne2 : ∀ o k, o ≠ 226 → hI (sI m' 226 62 (hI m 226 62)) o k = hI m' o k := fun o k g => x_ne (by omega)
    rw [x_eq] at z1
    rw [ne _ (by omega)] at z3 z3' z4 z4' z6 z11
    have ex : ∀ F i, F ≠ 0 → F ≠ 5 → e2 (e2 e 0 c np') 5 c (t + 1) F i = e F i := fun F i g1 g2 => by rw [e2_ne (by omega), e2_ne (by omega)]
    refine ⟨⟨?_, fun j hj => ?_⟩, ⟨z3, z3'⟩, ⟨z4, z4'⟩, ⟨?_, ?_, ?_⟩, fun i hi => ?_, fun i hi => ?_, ?_⟩
    · rw [y7, k4 62 (by omega) (by omega) (by omega) (by omega) (by omega) (by omega), z1, show (1 : Int32) = nI 1 from rfl, q_add, sg_up (g := e2 (e2 e 0 c np') 5 c (t + 1) 5) (f := e 5) (c := c) 16 c16 (by rw [e2_eq, ht]) (fun j hj => e5' j hj)]
    · rw [e5' j (by omega)]; exact z2 j hj
    · rw [ex 8 0 (by omega) (by omega)]; exact z5
    · rw [ex 8 1 (by omega) (by omega)]; exact z6
    · rw [ex 8 1 (by omega) (by omega)]; exact z7
    · rw [ex 8 1 (by omega) (by omega)] at hi
      have q := z8 i hi
      rw [ne2 _ _ (by omega)] at q
      rw [ex 9 i (by omega) (by omega)]; exact q
    · have q := z9 i hi
      rw [ne2 _ _ (by omega)] at q
      rw [ex 10 i (by omega) (by omega)]; exact q
    · have : e2 (e2 e 0 c np') 5 c (t + 1) 10 = e 10 := by funext i; exact ex 10 i (by omega) (by omega)
      rw [this, ex 8 2 (by omega) (by omega)]; exact ⟨z10, z11, cst_of z12 (fun o k q => (ne2 o k (by omega)).symm)⟩
