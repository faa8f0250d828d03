theorem c_makeRoom {h : AH} {s : St} (R : RC h s) (B : Bz s) (G : Rg s) (G21 : ∀ k, k < 512 → N s 21 k < 2 ^ 30) (C1 : ∀ k, k < 512 → N s 1 k < 512) {c l : Nat} (hc : c < 16) (hl : l < 512) (hp : (Pl s).length < 8400)
    (ho : sFree s c l = none → sSlot s c l = sLru s c l) (hw : sFree s c l = none → 1 < N s 2 (sLru s c l) → Wda s 4 (sLru s c l) = Wda s 0 (N s 1 (sLru s c l))) :
    ∃ h', f_X3_makeRoom h (34 + 12 * c) (nI l) = some ((if sFree s c l = none ∧ 1 < N s 2 (sLru s c l) ∧ N s 13 c ≠ 0 then nI 0 else nI 1), h') ∧ RC h' (if sFree s c l ≠ none then s else if 1 < N s 2 (sLru s c l) then (if N s 13 c ≠ 0 then s else uN (sShelve s c (sLru s c l)) 2 (sLru s c l) 0) else uN s 2 (sLru s c l) 0) ∧ FrD h h' := by
  have L := RC_L R
  obtain ⟨k1, k2, k3, k4, k5, k6, k7, k8, k9, k10⟩ := R.2.2.1 c hc
  have hs := sSet_le B c l
  have hk := sSlot_lt B (l := l) hc
  have g2 := G 2 (sSlot s c l) (by omega) (by show _ < 512; omega)
  have g13 := G 13 c (by omega) hc
  have c1k := C1 (sSlot s c l) (by omega)
  have l92 : ∀ (b : AH) (t : St), RC b t → FrD h b → ∃ h', f_X3_makeRoom_L92 b (34 + 12 * c) (nI (lo c (sSlot s c l))) = some (nI 1, h') ∧ RC h' (uN t 2 (sSlot s c l) 0) ∧ FrD h h' := by
    intro b t Rb Fb
    have Lb := RC_L Rb
    have hi : lo c (sSlot s c l) < 32 := by unfold lo; omega
    have hkk : 32 * c + lo c (sSlot s c l) = sSlot s c l := by unfold lo; omega
    obtain ⟨R2, F2⟩ := c_state Rb (v := 0) hc hi (Or.inl rfl)
    rw [hkk] at R2
    unfold f_X3_makeRoom_L92
    simp (disch := omega) only [↓y_gs, ↓y_gb, ↓y_lt, ↓y_bds, q_lit, q_cl, q_ib, q_add, q_mul, ↓reduceIte, decide_true, Nat.reduceAdd, Nat.reduceMul, lk_S34 Lb hc, lk_R34_6 Lb hc, lk_S38 Lb hc, lk_R38_1 Lb hc, lk_S40 Lb hc, lk_N40 Lb hc]
    exact ⟨_, rfl, R2, FrD_tr Fb (FrD_K F2)⟩
  have hi : lo c (sSlot s c l) < 32 := by unfold lo; omega
  have hkk : 32 * c + lo c (sSlot s c l) = sSlot s c l := by unfold lo; omega
  obtain ⟨d1, d2, d3, d4⟩ := R.2.2.2.1 c (lo c (sSlot s c l)) hc hi
  rw [hkk] at d1 d2 d4
  unfold f_X3_makeRoom
  rw [y_gs, if_pos (lk_S34 L hc), lk_R34_6 L hc, y_gs, if_pos (lk_S38 L hc), c_slotFor R B G G21 hc hl, y_bds, lk_R38_1 L hc, y_gs, if_pos (lk_S40 L hc), lk_N40 L hc, y_gb, if_pos (q_ib hi (by omega)), q_cl (show lo c (sSlot s c l) < 2 ^ 31 by omega), d1]
  cases ef : sFree s c l with
  | some k =>
    have es : sSlot s c l = k := by unfold sSlot; rw [ef]; rfl
    obtain ⟨f0, f1, _, _⟩ := sFree_lt B hc ef
    rw [if_pos (show nI (N s 2 (sSlot s c l)) < (2 : Int32) from (q_lt (b := 2) (by omega) (by omega)).mpr (by rw [es]; omega)), if_neg (show ¬ (some k = none ∧ 1 < N s 2 (sLru s c l) ∧ N s 13 c ≠ 0) from by simp), if_pos (show some k ≠ none from by simp)]
    obtain ⟨h', e', R', F'⟩ := l92 h s R (FrD_rfl h)
    rw [uN_id (show N s 2 (sSlot s c l) = 0 by rw [es]; exact f1)] at R'
    exact ⟨h', e', R', F'⟩
  | none =>
    have es := ho ef
    rw [es] at g2 c1k hi hkk d1 d2 d4 l92 hk ⊢
    rw [if_neg (show ¬ (none : Option Nat) ≠ none from by simp)]
    by_cases c1 : 1 < N s 2 (sLru s c l)
    · rw [if_neg (show ¬ nI (N s 2 (sLru s c l)) < (2 : Int32) from fun h => by have := (q_lt (b := 2) (by omega) (by omega)).mp h; omega), if_pos c1, k5]
      by_cases c2 : N s 13 c = 0
      · rw [if_pos (show pI (N s 13 c) = (-1 : Int32) from (pI_nN (by omega)).mpr c2), if_neg (show ¬ N s 13 c ≠ 0 by omega), if_neg (show ¬ ((none : Option Nat) = none ∧ 1 < N s 2 (sLru s c l) ∧ N s 13 c ≠ 0) from fun h => h.2.2 c2)]
        have d2' := d2 (by omega)
        -- shelfGone first, then the line: the order of the two doesn't matter
        obtain ⟨R0, F0⟩ := c_field R (c := c) (f := 9) (F := 14) (v := 0) (x := nI 0) hc (Or.inr (Or.inl ⟨rfl, rfl, rfl⟩))
        obtain ⟨R1, F1⟩ := c_field R0 (c := c) (f := 8) (F := 13) (v := N s 1 (sLru s c l) + 1) (x := pI (N s 1 (sLru s c l) + 1)) hc (Or.inl ⟨rfl, rfl, rfl, Or.inr (by rw [x_eq, N_eq])⟩)
        have sw : sI (sI h (34 + 12 * c) 9 (nI 0)) (34 + 12 * c) 8 (pI (N s 1 (sLru s c l) + 1)) = sI (sI h (34 + 12 * c) 8 (nI (N s 1 (sLru s c l)))) (34 + 12 * c) 9 (nI 0) := by
          rw [pI_s]
          unfold sI
          congr 1
          funext a b
          unfold up2
          simp only
          split <;> split <;> first | rfl | omega
        rw [sw] at R1 F1
        rw [uN_comm s (by omega)] at R1
        obtain ⟨R2, F2⟩ := c_shelfW R1 hc hi
        rw [hkk] at R2
        have L1 := RC_L R1
        have L2 := RC_L R2
        rw [lk_R38_0 L hc, y_gs, if_pos (lk_S39 L hc), lk_N39 L hc, y_gb, if_pos (q_ib hi (by omega)), y_lt, d2', y_lt, show (0 : Int32) = nI 0 from rfl]
        have F3 : FrK h (sI (sI h (34 + 12 * c) 8 (nI (N s 1 (sLru s c l)))) (34 + 12 * c) 9 (nI 0)) c := FrK_tr F0 F1
        have e8 : hI (sI (sI h (34 + 12 * c) 8 (nI (N s 1 (sLru s c l)))) (34 + 12 * c) 9 (nI 0)) (34 + 12 * c) 8 = nI (N s 1 (sLru s c l)) := by rw [x_ne (by omega), x_eq]
        have e0 : hI (sI (sI h (34 + 12 * c) 8 (nI (N s 1 (sLru s c l)))) (34 + 12 * c) 9 (nI 0)) (34 + 12 * c) 0 = nI c := by rw [x_ne (by omega), x_ne (by omega)]; exact k4
        generalize sI (sI h (34 + 12 * c) 8 (nI (N s 1 (sLru s c l)))) (34 + 12 * c) 9 (nI 0) = m1 at *
        rw [lk_R34_6 L1 hc, y_gs, if_pos (lk_S38 L1 hc), lk_R38_3 L1 hc, y_gs, if_pos (lk_S42 L1 hc), lk_R34_10 L1 hc, y_gs, if_pos (lk_S45 L1 hc), lk_N42 L1 hc, lk_N45 L1 hc, show (4 : Int32) = nI 4 from rfl, q_mul, y_gb, if_pos (cpok_t (by omega) (by omega) (by omega) (by omega)), y_lt, q_cl (show lo c (sLru s c l) * 4 < 2 ^ 31 by omega), q_cl (show 0 < 2 ^ 31 by omega), q_cl (show 4 < 2 ^ 31 by omega)]
        have e8' : hI (sA m1 (45 + 12 * c) (va_cpy (hI m1 (42 + 12 * c)) (hI m1 (45 + 12 * c)) (lo c (sLru s c l) * 4) 0 4)) (34 + 12 * c) 8 = nI (N s 1 (sLru s c l)) := by rw [x_neA (by omega)]; exact e8
        have e0' : hI (sA m1 (45 + 12 * c) (va_cpy (hI m1 (42 + 12 * c)) (hI m1 (45 + 12 * c)) (lo c (sLru s c l) * 4) 0 4)) (34 + 12 * c) 0 = nI c := by rw [x_neA (by omega)]; exact e0
        generalize sA m1 (45 + 12 * c) (va_cpy (hI m1 (42 + 12 * c)) (hI m1 (45 + 12 * c)) (lo c (sLru s c l) * 4) 0 4) = m2 at *
        have w2 := (R2.2.2.1 c hc).2.2.2.2.2.2.2.2.2
        rw [W_uW, if_pos ⟨rfl, rfl⟩] at w2
        obtain ⟨h3, e3, R3, F4⟩ := c_send R2 (kd := 2) (fr := c) (to := 16) (l := N s 1 (sLru s c l)) (wid := 45 + 12 * c) (idx := 0) (fi := 1) (ws := Wda s 0 (N s 1 (sLru s c l))) (Or.inr ⟨by omega, by omega, by omega, by omega, rfl, lk_S45 L2 hc, by rw [lk_N45 L2 hc]; omega, by rw [lk_N45 L2 hc]; omega, fun j hj => by rw [Nat.zero_add, w2 j hj]; exact congrArg (fun w => w4 w j) (hw ef c1)⟩) (show (Pl s).length < 8400 from hp)
        rw [lk_R34_1 L2 hc, y_gs, if_pos (lc_S16 L2), e0', e8', lk_R34_10 L2 hc, show (2 : Int32) = nI 2 from rfl, show (16 : Int32) = nI 16 from rfl, e3, y_bds]
        obtain ⟨h5, e5, R5, F5⟩ := l92 h3 _ R3 (FrD_tr (FrD_K F3) (FrD_tr (FrD_K F2) (FrD_P F4)))
        exact ⟨h5, e5, R5, F5⟩
      · rw [if_neg (show ¬ pI (N s 13 c) = (-1 : Int32) from fun h => c2 ((pI_nN (by omega)).mp h)), if_pos c2, if_pos (show (none : Option Nat) = none ∧ 1 < N s 2 (sLru s c l) ∧ N s 13 c ≠ 0 from ⟨rfl, c1, c2⟩)]
        exact ⟨h, rfl, R, FrD_rfl h⟩
    · rw [if_pos (show nI (N s 2 (sLru s c l)) < (2 : Int32) from (q_lt (b := 2) (by omega) (by omega)).mpr (by omega)), if_neg c1, if_neg (show ¬ ((none : Option Nat) = none ∧ 1 < N s 2 (sLru s c l) ∧ N s 13 c ≠ 0) from fun h => c1 h.2.1)]
      exact l92 h s R (FrD_rfl h)
theorem c_miss {h : AH} {s : St} (R : RC h s) (B : Bz s) (G : Rg s) (G21 : ∀ k, k < 512 → N s 21 k < 2 ^ 30) (C1 : ∀ k, k < 512 → N s 1 k < 512) {c l kd : Nat} (hc : c < 16) (hl : l < 512) (hp : (Pl s).length + 1 < 8400)
    (ho : sFree s c l = none → sSlot s c l = sLru s c l) (hw : sFree s c l = none → 1 < N s 2 (sLru s c l) → Wda s 4 (sLru s c l) = Wda s 0 (N s 1 (sLru s c l))) :
    ∃ h', f_X3_miss h (34 + 12 * c) (nI l) (nI kd) = some h' ∧ RC h' (sMiss s c l kd) ∧ FrD h h' := by
  have L := RC_L R
  obtain ⟨k1, k2, k3, k4, k5, k6, k7, k8, k9, k10⟩ := R.2.2.1 c hc
  have g12 := G 12 c (by omega) hc
  have g13 := G 13 c (by omega) hc
  have l37 : ∀ (b : AH) (t : St), RC b t → FrD h b → (Pl t).length < 8400 → ∃ h', f_X3_miss_L37 b (34 + 12 * c) (nI l) (nI kd) = some h' ∧ RC h' (sReq t c l kd) ∧ FrD h h' := by
    intro b t Rb Fb hb
    have Lb := RC_L Rb
    obtain ⟨R1, F1⟩ := c_field Rb (c := c) (f := 11) (F := 12) (v := l + 1) (x := nI l) hc (Or.inr (Or.inr (Or.inl ⟨rfl, rfl, rfl⟩)))
    obtain ⟨R2, F2⟩ := c_field R1 (c := c) (f := 12) (F := 15) (v := N t 15 c + 1) (x := nI (N t 15 c + 1)) hc (Or.inr (Or.inr (Or.inr (Or.inl ⟨rfl, rfl, rfl⟩))))
    have L2 := RC_L R2
    have n2 := (R2.2.2.1 c hc).2.2.2.1
    have e12 : hI (sI b (34 + 12 * c) 11 (nI l)) (34 + 12 * c) 12 = nI (N t 15 c) := (R1.2.2.1 c hc).2.2.2.2.2.2.2.1
    unfold f_X3_miss_L37
    rw [y_gs, if_pos (lk_S34 Lb hc), y_lt, y_lt, e12, show (1 : Int32) = nI 1 from rfl, q_add, lk_R34_1 L2 hc, y_gs, if_pos (lc_S16 L2), n2]
    obtain ⟨h3, e3, R3, F3⟩ := c_send R2 (kd := kd) (fr := c) (to := 16) (l := l) (wid := 0) (idx := 0) (fi := 0) (ws := w0) (Or.inl ⟨rfl, rfl, rfl⟩) (show (Pl t).length < 8400 from hb)
    rw [show (16 : Int32) = nI 16 from rfl, show (0 : Int32) = nI 0 from rfl, e3]
    exact ⟨h3, rfl, R3, FrD_tr Fb (FrD_tr (FrD_K F1) (FrD_tr (FrD_K F2) (FrD_P F3)))⟩
  unfold f_X3_miss sMiss
  rw [y_gs, if_pos (lk_S34 L hc), k7]
  by_cases c1 : N s 12 c = 0
  · rw [if_neg (show ¬ ¬ pI (N s 12 c) = (-1 : Int32) from fun h => h ((pI_nN (by omega)).mpr c1)), k5]
    by_cases c2 : N s 13 c = l + 1
    · rw [if_neg (show ¬ ¬ pI (N s 13 c) = nI l from fun h => h ((pI_nI (by omega) (by omega)).mpr c2)), if_pos (Or.inr c2)]
      exact ⟨h, rfl, R, FrD_rfl h⟩
    · rw [if_pos (show ¬ pI (N s 13 c) = nI l from fun h => c2 ((pI_nI (by omega) (by omega)).mp h)), if_neg (show ¬ (N s 12 c ≠ 0 ∨ N s 13 c = l + 1) from fun h => by omega), lk_R34_6 L hc, y_gs, if_pos (lk_S38 L hc), c_find R B G hc hl, y_bds]
      cases e : sWay s c l with
      | some k =>
        obtain ⟨hk, h2, hk1, g1, g2⟩ := sWay_lt B hc e
        rw [show oI ((some k).map (lo c)) = nI (lo c k) from rfl, if_pos (ge0 (show lo c k < 2 ^ 31 by unfold lo; omega)), if_pos (Or.inl (by simp))]
        exact l37 h s R (FrD_rfl h) (by omega)
      | none =>
        rw [show oI (none.map (lo c)) = nN from rfl, if_neg (show ¬ 0 ≤ nN from by decide)]
        obtain ⟨a, ea, Ra, Fa⟩ := c_makeRoom R B G G21 C1 hc hl (by omega) ho hw
        rw [ea, y_bds]
        cases e2 : sFree s c l with
        | some k =>
          rw [e2, if_pos (show some k ≠ none from by simp)] at Ra
          rw [if_neg (show ¬ (some k = none ∧ 1 < N s 2 (sLru s c l) ∧ N s 13 c ≠ 0) from by simp), if_pos (show ¬ (nI 1, a).1 = (0 : Int32) from by show ¬ nI 1 = 0; decide), if_pos (Or.inr (by simp))]
          exact l37 a s Ra Fa (by omega)
        | none =>
          rw [e2, if_neg (show ¬ (none : Option Nat) ≠ none from by simp)] at Ra
          rw [if_neg (show ¬ ((none : Option Nat) ≠ none ∨ (none : Option Nat) ≠ none) from by simp)]
          by_cases d1 : 1 < N s 2 (sLru s c l)
          · by_cases d2 : N s 13 c = 0
            · rw [if_pos d1, if_neg (show ¬ N s 13 c ≠ 0 by omega)] at Ra
              rw [if_neg (show ¬ ((none : Option Nat) = none ∧ 1 < N s 2 (sLru s c l) ∧ N s 13 c ≠ 0) from fun h => h.2.2 d2), if_pos d1, if_neg (show ¬ N s 13 c ≠ 0 by omega), if_pos (show ¬ (nI 1, a).1 = (0 : Int32) from by show ¬ nI 1 = 0; decide)]
              exact l37 a _ Ra Fa (by show (Pl s ++ [_]).length < 8400; rw [List.length_append]; simp; omega)
            · rw [if_pos d1, if_pos d2] at Ra
              rw [if_pos (show (none : Option Nat) = none ∧ 1 < N s 2 (sLru s c l) ∧ N s 13 c ≠ 0 from ⟨rfl, d1, d2⟩), if_pos d1, if_pos d2, if_neg (show ¬ ¬ (nI 0, a).1 = (0 : Int32) from fun h => h rfl)]
              exact ⟨a, rfl, Ra, Fa⟩
          · rw [if_neg d1] at Ra
            rw [if_neg (show ¬ ((none : Option Nat) = none ∧ 1 < N s 2 (sLru s c l) ∧ N s 13 c ≠ 0) from fun h => d1 h.2.1), if_neg d1, if_pos (show ¬ (nI 1, a).1 = (0 : Int32) from by show ¬ nI 1 = 0; decide)]
            exact l37 a _ Ra Fa (show (Pl s).length < 8400 by omega)
  · rw [if_pos (show ¬ pI (N s 12 c) = (-1 : Int32) from fun h => c1 ((pI_nN (by omega)).mp h)), if_pos (Or.inl c1)]
    exact ⟨h, rfl, R, FrD_rfl h⟩
