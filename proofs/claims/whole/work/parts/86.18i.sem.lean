theorem uN_id {s : St} {F i v : Nat} (e : N s F i = v) : uN s F i v = s := by
  unfold uN
  have : up2 s.1 F i v = s.1 := by
    funext a b; unfold up2; split
    · next c => rw [c.1, c.2]; exact e.symm
    · rfl
  rw [this]
/-- nothing of the heap changes, and what changes isn't looked at -/
theorem RC_same {h : AH} {s : St} (R : RC h s) {c v : Nat} (hc : c < 16) (e : N s 13 c = 0) : RC h (uN s 14 c v) := by
  obtain ⟨k1, k2, k3, k4, k5, k6, k7, k8, k9, k10⟩ := R.2.2.1 c hc
  refine RC_K R hc (FrK_rfl h c) ?_ (fun G j => Or.inl rfl) rfl rfl ⟨k3, k5, ?_, k7, k8, k9, k10, rfl, rfl⟩ ?_
  · intro G j
    simp only [N_uN]
    (repeat' split) <;> omega
  · intro g; exact absurd e g
  · intro i hi; exact R.2.2.2.1 c i hc hi
/-- the message that was taken out of the pool -/
def TK (h : AH) (x : Msg) : Prop := ∀ j, j < 9 → hI h 18 j = mp x j
theorem sSlot_lt {s : St} (B : Bz s) {c l : Nat} (hc : c < 16) : sSet s c l ≤ sSlot s c l ∧ sSlot s c l < sSet s c l + N s 0 3 := by
  have h2 := bz_ways B
  unfold sSlot
  cases e : sFree s c l with
  | some k =>
    obtain ⟨g0, g1, g2, g3⟩ := sFree_lt B hc e
    show sSet s c l ≤ k ∧ k < _; omega
  | none =>
    show sSet s c l ≤ amin (N s 21) (sSet s c l) (sSet s c l) (N s 0 3) ∧ amin (N s 21) (sSet s c l) (sSet s c l) (N s 0 3) < _
    rcases @amin_in (N s 21) (N s 0 3) (sSet s c l) (sSet s c l) with h | h <;> omega
theorem lt0 {n : Nat} (h : n < 2 ^ 31) : ¬ nI n < 0 := by rw [show (0 : Int32) = nI 0 from rfl, q_lt h (by omega)]; omega
theorem ge0 {n : Nat} (h : n < 2 ^ 31) : 0 ≤ nI n := by rw [show (0 : Int32) = nI 0 from rfl, q_le (by omega) h]; omega
theorem c_put {h : AH} {s : St} (R : RC h s) (B : Bz s) (G : Rg s) (G21 : ∀ k, k < 512 → N s 21 k < 2 ^ 30) {c l v : Nat} {x : Msg} (T : TK h x) (hc : c < 16) (hl : l < 512) (hv : v ≠ 0) (hf : sWay s c l = none → sFree s c l ≠ none) :
    ∃ h', f_X2_put h (38 + 12 * c) (nI l) (nI v) 18 (nI 5) = some h' ∧ (∃ k, sAt s c l = some k ∧ RC h' (sUse (uW (uN (uN s 1 k l) 2 k v) 4 k (mWo x)) k)) ∧ FrK h h' c := by
  have L := RC_L R
  have hs := sSet_le B c l
  have hw : ∀ j, j < 4 → hI h 18 (5 + j) = w4 (mWo x) j := by
    intro j hj
    rw [T (5 + j) (by omega)]
    unfold mp
    rw [if_neg (by omega), if_neg (by omega), if_neg (by omega), if_neg (by omega), if_neg (by omega), show 5 + j - 5 = j by omega]
  unfold f_X2_put sAt
  rw [y_gs, if_pos (lk_S38 L hc), c_find R B G hc hl, y_bds]
  cases e : sWay s c l with
  | some k =>
    obtain ⟨hk, h2, hk1, g1, g2⟩ := sWay_lt B hc e
    have hi : lo c k < 32 := by unfold lo; omega
    have hkk : 32 * c + lo c k = k := by unfold lo; omega
    rw [show oI ((some k).map (lo c)) = nI (lo c k) from rfl, if_neg (lt0 (by omega))]
    obtain ⟨h', e', R', F'⟩ := c_put22 R (l := l) (v := v) hc hi hv (lc_S18 L) (at_ := 5) (by rw [lc_N18 L]; omega) (by rw [lc_N18 L]; omega) (Or.inl (by omega)) hw
    rw [hkk] at R'
    exact ⟨h', e', ⟨k, rfl, R'⟩, F'⟩
  | none =>
    rw [show oI (none.map (lo c)) = nN from rfl, if_pos (show nN < 0 from by decide), c_slotFor R B G G21 hc hl, y_bds]
    cases e2 : sFree s c l with
    | none => exact absurd e2 (hf e)
    | some k =>
      obtain ⟨g0, g1, g2, g3⟩ := sFree_lt B hc e2
      have es : sSlot s c l = k := by unfold sSlot; rw [e2]; rfl
      rw [es]
      have hi : lo c k < 32 := by unfold lo; omega
      have hkk : 32 * c + lo c k = k := by unfold lo; omega
      obtain ⟨h', e', R', F'⟩ := c_put22 R (l := l) (v := v) hc hi hv (lc_S18 L) (at_ := 5) (by rw [lc_N18 L]; omega) (by rw [lc_N18 L]; omega) (Or.inl (by omega)) hw
      rw [hkk] at R'
      exact ⟨h', e', ⟨k, rfl, R'⟩, F'⟩
theorem c_receive {h : AH} {s : St} (R : RC h s) (B : Bz s) (G : Rg s) (G21 : ∀ k, k < 512 → N s 21 k < 2 ^ 30) {c : Nat} {x : Msg} (T : TK h x) (hc : c < 16) (hl : mLi x < 512) (hK : mKi x = 3 ∨ mKi x = 4 ∨ mKi x = 6 ∨ mKi x = 7 ∨ mKi x = 8 ∨ mKi x = 9)
    (hf : mKi x = 6 ∨ mKi x = 7 ∨ mKi x = 8 → sWay s c (mLi x) = none → sFree s c (mLi x) ≠ none) (hp : (Pl s).length < 8400)
    (hw1 : mKi x = 3 ∨ mKi x = 4 → ∀ k, sWay s c (mLi x) = some k → 1 < N s 2 k → Wda s 4 k = Wda s 0 (mLi x)) (hw2 : mKi x = 3 ∨ mKi x = 4 → N s 13 c = mLi x + 1 → N s 14 c = 0 → Wda s 3 c = Wda s 0 (mLi x)) :
    ∃ h', f_X3_receive h (34 + 12 * c) 18 = some h' ∧ RC h' (sCore s c x) ∧ FrD h h' := by
  have L := RC_L R
  obtain ⟨k1, k2, k3, k4, k5, k6, k7, k8, k9, k10⟩ := R.2.2.1 c hc
  have t0 : hI h 18 0 = nI (mKi x) := T 0 (by omega)
  have t3 : hI h 18 3 = nI (mLi x) := T 3 (by omega)
  unfold f_X3_receive sCore
  rw [y_gs, if_pos (lc_S18 L), lc_N18 L, y_gb, if_pos (show ib (3 : Int32) 9 = true from rfl), y_lt, show (3 : Int32).toNatClampNeg = 3 from rfl, t3, y_gb, if_pos (show ib (0 : Int32) 9 = true from rfl), show (0 : Int32).toNatClampNeg = 0 from rfl, t0]
  have kne : ∀ n, n < 16 → mKi x ≠ n → ¬ nI (mKi x) = nI n := fun n hn h1 h2 => h1 ((q_eq (by omega) (by omega)).mp h2)
  by_cases h3 : mKi x = 3
  · rw [if_pos (show nI (mKi x) = (3 : Int32) from by rw [h3]; rfl), if_pos h3, y_gs, if_pos (lk_S34 L hc)]
    obtain ⟨h', e', R', F'⟩ := c_answer R B G (v := 0) hc hl (by omega) hp (hw1 (Or.inl h3)) (hw2 (Or.inl h3))
    rw [show (0 : Int32) = nI 0 from rfl, e']
    exact ⟨h', rfl, R', F'⟩
  · rw [if_neg (show ¬ nI (mKi x) = (3 : Int32) from kne 3 (by omega) h3), if_neg h3]
    by_cases h4 : mKi x = 4
    · rw [if_pos (show nI (mKi x) = (4 : Int32) from by rw [h4]; rfl), if_pos h4, y_gs, if_pos (lk_S34 L hc)]
      obtain ⟨h', e', R', F'⟩ := c_answer R B G (v := 1) hc hl (by omega) hp (hw1 (Or.inr h4)) (hw2 (Or.inr h4))
      rw [show (1 : Int32) = nI 1 from rfl, e']
      exact ⟨h', rfl, R', F'⟩
    · rw [if_neg (show ¬ nI (mKi x) = (4 : Int32) from kne 4 (by omega) h4), if_neg h4]
      by_cases h9 : mKi x = 9
      · rw [if_pos (show nI (mKi x) = (9 : Int32) from by rw [h9]; rfl), if_pos h9, y_gs, if_pos (lk_S34 L hc), y_lt]
        obtain ⟨R1, F1⟩ := c_field R (c := c) (f := 8) (F := 13) (v := 0) (x := pI 0) hc (Or.inl ⟨rfl, rfl, rfl, Or.inl rfl⟩)
        exact ⟨_, rfl, RC_same R1 hc (N_eq _ _ _ _), FrD_K F1⟩
      · rw [if_neg (show ¬ nI (mKi x) = (9 : Int32) from kne 9 (by omega) h9), if_neg h9, y_gs, if_pos (lk_S34 L hc), y_gb, if_pos (show ib (0 : Int32) 9 = true from rfl), lk_R34_6 L hc, y_gs, if_pos (lk_S38 L hc), show (6 : Int32) = nI 6 from rfl, q_sub (show 6 ≤ mKi x by omega), show (1 : Int32) = nI 1 from rfl, q_add, show mKi x - 6 + 1 = mKi x - 5 by omega]
        obtain ⟨h1, e1, ⟨k, ek, R1⟩, F1⟩ := c_put R B G G21 (v := mKi x - 5) T hc hl (by omega) (hf (by omega))
        have L1 := RC_L R1
        rw [show (5 : Int32) = nI 5 from rfl, e1, y_bds, y_gs, if_pos (lk_S34 L1 hc), y_lt]
        obtain ⟨R2, F2⟩ := c_field R1 (c := c) (f := 11) (F := 12) (v := 0) (x := pI 0) hc (Or.inr (Or.inr (Or.inl ⟨rfl, rfl, rfl⟩)))
        rw [pI_0] at R2 F2
        have L2 := RC_L R2
        have n2 := (R2.2.2.1 c hc).2.2.2.1
        obtain ⟨h3', e3, R3, F3⟩ := c_send R2 (kd := 10) (fr := c) (to := 16) (l := mLi x) (wid := 0) (idx := 0) (fi := 0) (ws := w0) (Or.inl ⟨rfl, rfl, rfl⟩) (show (Pl s).length < 8400 from hp)
        rw [q_nN, lk_R34_1 L2 hc, y_gs, if_pos (lc_S16 L2), n2, show (10 : Int32) = nI 10 from rfl, show (16 : Int32) = nI 16 from rfl, show (0 : Int32) = nI 0 from rfl, e3]
        refine ⟨h3', rfl, ?_, FrD_tr (FrD_K F1) (FrD_tr (FrD_K F2) (FrD_P F3))⟩
        unfold sFillC
        rw [ek]
        exact R3
/-- the row of a shelf gets a slot's words -/
theorem c_shelfW {h : AH} {s : St} (R : RC h s) {c i : Nat} (hc : c < 16) (hi : i < 32) : RC (sA h (45 + 12 * c) (va_cpy (hI h (42 + 12 * c)) (hI h (45 + 12 * c)) (i * 4) 0 4)) (uW s 3 c (Wda s 4 (32 * c + i))) ∧ FrK h (sA h (45 + 12 * c) (va_cpy (hI h (42 + 12 * c)) (hI h (45 + 12 * c)) (i * 4) 0 4)) c := by
  obtain ⟨k1, k2, k3, k4, k5, k6, k7, k8, k9, k10⟩ := R.2.2.1 c hc
  obtain ⟨d1, d2, d3, d4⟩ := R.2.2.2.1 c i hc hi
  have F : FrK h (sA h (45 + 12 * c) (va_cpy (hI h (42 + 12 * c)) (hI h (45 + 12 * c)) (i * 4) 0 4)) c := FrK_sA (FrK_rfl h c) _ (by omega)
  refine ⟨RC_K R hc F (fun G j => Or.inl rfl) ?_ rfl rfl ?_ ?_, F⟩
  · intro G j
    rw [W_uW]
    split
    · omega
    · exact Or.inl rfl
  · refine ⟨?_, ?_, ?_, ?_, ?_, ?_, ?_, ?_, ?_⟩
    · rw [x_neA (by omega)]; exact k3
    · rw [x_neA (by omega)]; exact k5
    · rw [x_neA (by omega)]; exact k6
    · rw [x_neA (by omega)]; exact k7
    · rw [x_neA (by omega)]; exact k8
    · rw [x_neA (by omega)]; exact k9
    · intro j hj
      rw [x_eqA, W_uW, if_pos ⟨rfl, rfl⟩]
      unfold va_cpy
      rw [if_pos (by omega), show i * 4 + (j - 0) = 4 * i + j by omega]
      exact d4 j hj
    · rw [x_neA (by omega)]
    · rw [x_neA (by omega)]
  · intro i' hi'
    obtain ⟨d1, d2, d3, d4⟩ := R.2.2.2.1 c i' hc hi'
    refine ⟨?_, ?_, ?_, ?_⟩
    · rw [x_neA (by omega)]; exact d1
    · rw [x_neA (by omega)]; exact d2
    · rw [x_neA (by omega)]; exact d3
    · intro j hj; rw [x_neA (by omega), W_ne (by omega)]; exact d4 j hj
