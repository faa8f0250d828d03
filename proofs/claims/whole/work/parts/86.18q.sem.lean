def DZ (h : AH) (s : St) : Prop := ∀ k, uw s k → N s 4 k ≠ 0 → N s 8 k = 0 → hI h 26 (cw s k) = nI 0
/-- what CoreHouse's home needs of the state -/
def CH (s : St) : Prop := (∀ k, k < 512 → N s 4 k ≠ 0 → N s 23 k < 2 ^ 30) ∧ (∀ k, uw s k → N s 4 k ≠ 0 → N s 6 k ≤ N s 0 0 ∧ N s 7 k < 2 ^ N s 0 0) ∧ (∀ k, uw s k → N s 4 k = 0 → N s 8 k = 0) ∧ (∀ l, l < 512 → sEmpty s l = none → bmin (N s 23) (N s 8) none (hSet s l) (N s 0 5) = sOld s l)
/-- what a waiting message needs -/
def TkOk (s : St) (x : Msg) : Prop := (∀ k, hWay s (mLi x) = some k → N s 8 k = 0 → mKi x ≠ 2 → (N s 6 k = 0 → Wda s 2 k = Wda s 0 (mLi x)) ∧ N s 6 k ≠ mFr x + 1) ∧ (hWay s (mLi x) = none → Wda s 1 (mLi x) = Wda s 0 (mLi x))
theorem mp_w {x : Msg} {j : Nat} (hj : j < 4) : mp x (5 + j) = w4 (mWo x) j := by
  unfold mp
  rw [if_neg (by omega), if_neg (by omega), if_neg (by omega), if_neg (by omega), if_neg (by omega), show 5 + j - 5 = j by omega]
theorem c_takeBack {h : AH} {s : St} (R : RC h s) (B : Bz s) (H : Hr s) {i : Nat} {x : Msg} (hi : i < (Ql s).length) (hq : (Ql s).length ≤ 32) (hx : (Ql s).getD i x0 = x) (hc : mFr x < 16) (hl : mLi x < 512) (hp : (Pl s).length < 8400) :
    ∃ h', f_X4_takeBack h 19 (oI ((hWay s (mLi x)).map (cw s))) (nI (i * 9)) = some h' ∧ RC h' (sPut s (mFr x) (mLi x) (mWo x)) ∧ FrD h h' := by
  have L := RC_L R
  have qr := R.2.2.2.2.2.2.2.2
  have q1 : hI h 30 (i * 9 + 1) = nI (mFr x) := by rw [show i * 9 + 1 = 9 * i + 1 by omega, qr i 1 hi (by omega), hx]; rfl
  have q3 : ∀ (b : AH) (t : St), RC b t → Ql t = Ql s → hI b 30 (i * 9 + 3) = nI (mLi x) := by
    intro b t Rb et
    rw [show i * 9 + 3 = 9 * i + 3 by omega, Rb.2.2.2.2.2.2.2.2 i 3 (by rw [et]; exact hi) (by omega), et, hx]; rfl
  have l55 : ∀ (b : AH) (t : St), RC b t → FrD h b → Ql t = Ql s → (Pl t).length < 8400 → ∃ h', f_X4_takeBack_L55 b 19 (nI (i * 9)) (nI (mFr x)) = some h' ∧ RC h' (sSend t 9 16 (mFr x) (mLi x)) ∧ FrD h h' := by
    intro b t Rb Fb et hb
    have Lb := RC_L Rb
    have q3b := q3 b t Rb et
    obtain ⟨a, ea, Ra, Fa⟩ := c_send Rb (kd := 9) (fr := 16) (to := mFr x) (l := mLi x) (wid := 0) (idx := 0) (fi := 0) (ws := w0) (Or.inl ⟨rfl, rfl, rfl⟩) hb
    unfold f_X4_takeBack_L55
    simp (disch := omega) only [↓y_gs, ↓y_gb, ↓y_lt, ↓y_bds, q_lit, q_cl, q_ib, q_add, q_mul, ↓reduceIte, decide_true, Nat.reduceAdd, Nat.reduceMul, lc_S19 Lb, lc_R19_11 Lb, lc_S30 Lb, lc_N30 Lb, lc_R19_0 Lb, lc_S16 Lb, q3b]
    rw [ea]
    exact ⟨a, rfl, Ra, FrD_tr Fb (FrD_P Fa)⟩
  unfold f_X4_takeBack sPut
  rw [y_gs, if_pos (lc_S19 L), lc_R19_11 L, y_gs, if_pos (lc_S30 L), lc_N30 L, show (1 : Int32) = nI 1 from rfl, q_add, y_gb, if_pos (q_ib (show i * 9 + 1 < 288 by omega) (by omega)), y_lt, q_cl (show i * 9 + 1 < 2 ^ 31 by omega), q1]
  cases e : hWay s (mLi x) with
  | none =>
    rw [show oI ((none : Option Nat).map (cw s)) = nN from rfl, if_pos (show nN < 0 from by decide)]
    exact l55 h s R (FrD_rfl h) rfl hp
  | some k =>
    obtain ⟨hk, h4, _, _⟩ := hWay_lt B e
    have u := hWay_u B e
    have wl := cw_lt B u
    obtain ⟨r1, r2, r3, r4⟩ := RC_w R u
    obtain ⟨b1, b2, b3, b4, b5⟩ := r4 (by omega)
    have m6 := (H k hk).2.2.1
    rw [show oI ((some k).map (cw s)) = nI (cw s k) from rfl, if_neg (lt0 (show cw s k < 2 ^ 31 by omega)), lc_R19_3 L, y_gs, if_pos (lc_S22 L), lc_N22 L, y_gb, if_pos (q_ib wl (by omega)), q_cl (show cw s k < 2 ^ 31 by omega), b1]
    show ∃ h', _ = some h' ∧ RC h' (if N s 6 k = mFr x + 1 then sSend (uN (uN (uW s 2 k (mWo x)) 5 k 1) 6 k 0) 9 16 (mFr x) (mLi x) else sSend s 9 16 (mFr x) (mLi x)) ∧ FrD h h'
    by_cases c6 : N s 6 k = mFr x + 1
    · rw [if_neg (show ¬ ¬ pI (N s 6 k) = nI (mFr x) from fun h => h ((pI_nI (by omega) (by omega)).mpr c6)), if_pos c6]
      have hg : ∀ q, va_cpy (hI h 30) (hI h 29) (i * 9 + 5) (cw s k * 4) 4 q = if cw s k * 4 ≤ q ∧ q < cw s k * 4 + 4 then w4 (mWo x) (q - cw s k * 4) else hI h 29 q := by
        intro q
        unfold va_cpy
        split
        · rw [show i * 9 + 5 + (q - cw s k * 4) = 9 * i + (5 + (q - cw s k * 4)) by omega, qr i _ hi (by omega), hx, mp_w (by omega)]
        · rfl
      obtain ⟨R1, F1⟩ := c_wayW R B u hg
      obtain ⟨R2, F2⟩ := c_wayF R1 B (k := k) (o := 27) (F := 5) (v := 1) (x := nI 1) u (Or.inr (Or.inr (Or.inl ⟨rfl, rfl, rfl⟩)))
      obtain ⟨R3, F3⟩ := c_wayF R2 B (k := k) (o := 22) (F := 6) (v := 0) (x := nN) u (Or.inl ⟨rfl, rfl, rfl⟩)
      simp (disch := omega) only [↓y_gs, ↓y_gb, ↓y_lt, ↓y_bds, q_lit, q_cl, q_ib, q_add, q_mul, ↓reduceIte, decide_true, Nat.reduceAdd, Nat.reduceMul, x_hI_sI, x_hR_sI, x_hS_sI, x_hN_sI, lc_R19_10 L, lc_S29 L, lc_N29 L, cpok_t, x_hR_sA, x_hS_sA, x_hN_sA, lc_R19_8 L, lc_S27 L, lc_N27 L, lc_R19_3 L, lc_S22 L, lc_N22 L, q_11, q_nN]
      obtain ⟨a, ea, Ra, Fa⟩ := l55 _ _ R3 ⟨FrC_tr (FrC_W F1) (FrC_tr (FrC_W F2) (FrC_W F3)), fun q => by rw [x_ne (by omega), x_ne (by omega), x_neA (by omega)]⟩ rfl hp
      refine ⟨a, ?_, Ra, Fa⟩
      rw [← ea]; rfl
    · rw [if_pos (show ¬ pI (N s 6 k) = nI (mFr x) from fun h => c6 ((pI_nI (by omega) (by omega)).mp h)), if_neg c6]
      exact l55 h s R (FrD_rfl h) rfl hp
theorem N_give (s : St) (kd c l F i : Nat) : N (sGive s kd c l) F i = N s F i := rfl
theorem N_send (s : St) (kd a b l F i : Nat) : N (sSend s kd a b l) F i = N s F i := rfl
theorem N_post (s : St) (x : Msg) (F i : Nat) : N (sPost s x) F i = N s F i := rfl
theorem sServe_N (s : St) {k c l kd F j : Nat} (h : F = 0 ∨ (j ≠ k ∧ F ≠ 17 ∧ F ≠ 24)) (hF : F = 0 ∨ (4 ≤ F ∧ F ≤ 23)) : N (sServe s k c l kd) F j = N s F j := by
  have ha : N (sAbout s k c kd) F j = N s F j := by
    unfold sAbout
    rw [N_ne (by omega), N_ne (by omega), N_ne (by omega), N_ne (by omega), N_ne (by omega), N_ne (by omega), N_ne (by omega)]
  unfold sServe
  split
  · unfold sShares
    split
    · rw [N_ne (by omega), N_send]; exact ha
    · split
      · rw [N_give, N_ne (by omega)]; exact ha
      · rw [N_give, N_ne (by omega)]; exact ha
  · split
    · unfold sLend
      rw [N_give, N_ne (by omega), N_ne (by omega), sCall_N _ _ _ _ _ _ _ _ (by omega)]; exact ha
    · rw [sCall_N _ _ _ _ _ _ _ _ (by omega)]; exact ha
theorem sServe_8 (s : St) (k c l kd : Nat) : N (sServe s k c l kd) 8 k = c + 1 := by
  have ha : N (sAbout s k c kd) 8 k = c + 1 := by
    unfold sAbout
    rw [N_ne (by omega), N_ne (by omega), N_eq]
  unfold sServe
  split
  · unfold sShares
    split
    · rw [N_ne (by omega), N_send]; exact ha
    · split
      · rw [N_give, N_ne (by omega)]; exact ha
      · rw [N_give, N_ne (by omega)]; exact ha
  · split
    · unfold sLend
      rw [N_give, N_ne (by omega), N_ne (by omega), sCall_N _ _ _ _ _ _ _ _ (by omega)]; exact ha
    · rw [sCall_N _ _ _ _ _ _ _ _ (by omega)]; exact ha
theorem sPut_N (s : St) {c l F j : Nat} {w : W4} (h : F ≠ 5 ∧ F ≠ 6) : N (sPut s c l w) F j = N s F j := by
  unfold sPut
  split
  · rfl
  · split
    · rw [N_send, N_ne (by omega), N_ne (by omega)]; rfl
    · rfl
theorem c_take {h : AH} {s : St} (R : RC h s) (D : DZ h s) (B : Bz s) (H : Hr s) (C : CH s) {i : Nat} {x : Msg} (hi : i < (Ql s).length) (hq : (Ql s).length ≤ 32) (hx : (Ql s).getD i x0 = x) (hK : mKi x ≤ 2) (hc : mFr x < 16) (hl : mLi x < 512) (T : TkOk s x) (hp : (Pl s).length + 17 < 8400) :
    ∃ h', f_X4_take h 19 (nI (i * 9)) = some (bI (sTake s x).1, h') ∧ RC h' (sTake s x).2 ∧ DZ h' (sTake s x).2 ∧ FrC h h' := by
  have L := RC_L R
  obtain ⟨C1, C2, C3, C4⟩ := C
  have qr := R.2.2.2.2.2.2.2.2
  have q0 : hI h 30 (9 * i + 0) = nI (mKi x) := by rw [qr i 0 hi (by omega), hx]; rfl
  have q1 : hI h 30 (i * 9 + 1) = nI (mFr x) := by rw [show i * 9 + 1 = 9 * i + 1 by omega, qr i 1 hi (by omega), hx]; rfl
  have q3 : hI h 30 (i * 9 + 3) = nI (mLi x) := by rw [show i * 9 + 3 = 9 * i + 3 by omega, qr i 3 hi (by omega), hx]; rfl
  unfold f_X4_take
  rw [y_gs, if_pos (lc_S19 L), lc_R19_11 L, y_gs, if_pos (lc_S30 L), lc_N30 L, show (3 : Int32) = nI 3 from rfl, show (1 : Int32) = nI 1 from rfl, q_add, q_add, y_gb, if_pos (q_ib (show i * 9 + 3 < 288 by omega) (by omega)), y_lt, y_gb, if_pos (q_ib (show i * 9 + 1 < 288 by omega) (by omega)), y_lt, q_cl (show i * 9 + 1 < 2 ^ 31 by omega), q_cl (show i * 9 + 3 < 2 ^ 31 by omega), q1, q3, c_hfind R B H hl, y_bds]
  have put : mKi x = 2 → ∃ h', f_X4_take_L43 h 19 (nI (i * 9)) (nI (mLi x)) (nI (mFr x)) (oI ((hWay s (mLi x)).map (cw s))) = some (nI 1, h') ∧ RC h' (sPut s (mFr x) (mLi x) (mWo x)) ∧ DZ h' (sPut s (mFr x) (mLi x) (mWo x)) ∧ FrC h h' := by
    intro k2
    obtain ⟨a, ea, Ra, Fa⟩ := c_takeBack R B H hi hq hx hc hl (by omega)
    unfold f_X4_take_L43
    rw [y_gs, if_pos (lc_S19 L), lc_R19_11 L, y_gs, if_pos (lc_S30 L), lc_N30 L, show (0 : Int32) = nI 0 from rfl, q_add, y_gb, if_pos (q_ib (show i * 9 + 0 < 288 by omega) (by omega)), q_cl (show i * 9 + 0 < 2 ^ 31 by omega), show i * 9 + 0 = 9 * i + 0 by omega, q0, if_neg (show ¬ ¬ nI (mKi x) = (2 : Int32) from fun h => h (by rw [k2]; rfl)), ea]
    refine ⟨a, rfl, Ra, fun k u g4 g8 => ?_, Fa.1⟩
    rw [cw_N (sPut_N s (by omega)), Fa.2]
    rw [sPut_N s (by omega)] at g4 g8
    exact D k (uw_N (fun i => (sPut_N s (by omega)).symm) u) g4 g8
  have l43 : mKi x ≠ 2 → ∀ v, f_X4_take_L43 h 19 (nI (i * 9)) (nI (mLi x)) (nI (mFr x)) v = if 0 ≤ v then f_X4_take_L76 h 19 (nI (i * 9)) (nI (mFr x)) v else bd (f_X4_makeRoom h 19 (nI (mLi x))) fun q6 => lt (q6.1) fun x7 => f_X4_take_L76 q6.2 19 (nI (i * 9)) (nI (mFr x)) x7 := by
    intro k2 v
    unfold f_X4_take_L43
    rw [y_gs, if_pos (lc_S19 L), lc_R19_11 L, y_gs, if_pos (lc_S30 L), lc_N30 L, y_gb, show (ib (nI (i * 9) + 0) 288) = true from by rw [show (0 : Int32) = nI 0 from rfl, q_add]; exact q_ib (by omega) (by omega), if_pos rfl, show (nI (i * 9) + 0).toNatClampNeg = 9 * i + 0 from by rw [show (0 : Int32) = nI 0 from rfl, q_add, q_cl (by omega)]; omega, q0, if_pos (show ¬ nI (mKi x) = (2 : Int32) from fun h => k2 ((q_eq (b := 2) (by omega) (by omega)).mp h))]
  unfold sTake
  cases e : hWay s (mLi x) with
  | some k =>
    obtain ⟨hk, h4, _, _⟩ := hWay_lt B e
    have u := hWay_u B e
    have wl := cw_lt B u
    obtain ⟨r1, r2, r3, r4⟩ := RC_w R u
    obtain ⟨m4, m5, m6, m7, m8, m9, m10, m11⟩ := H k hk
    rw [show oI ((some k).map (cw s)) = nI (cw s k) from rfl, if_neg (lt0 (show cw s k < 2 ^ 31 by omega)), lc_R19_5 L, y_gs, if_pos (lc_S24 L), lc_N24 L, y_gb, if_pos (q_ib wl (by omega)), q_cl (show cw s k < 2 ^ 31 by omega), r2]
    by_cases c8 : N s 8 k = 0
    · rw [if_pos (show pI (N s 8 k) = -nI 1 from (pI_nN (by omega)).mpr c8)]
      simp only [c8, ne_eq, not_true_eq_false, ↓reduceIte]
      by_cases c2 : mKi x = 2
      · simp only [c2, ↓reduceIte]
        obtain ⟨a, ea, Ra, Da, Fa⟩ := put c2
        rw [e, show oI ((some k).map (cw s)) = nI (cw s k) from rfl] at ea
        exact ⟨a, ea, Ra, Da, Fa⟩
      · simp only [c2, ↓reduceIte]
        have t1 := T.1 k e c8 c2
        obtain ⟨a, ea, Ra, Fa⟩ := c_serve R B (c := mFr x) (l := mLi x) (kd := mKi x) (i := i) u h4 hl (C2 k u (by omega)).1 (C2 k u (by omega)).2 hc (by omega) (by omega) q0 t1.1 t1.2 hp
        rw [l43 c2, if_pos (ge0 (show cw s k < 2 ^ 31 by omega)), ea]
        refine ⟨a, rfl, Ra, fun j uj g4 g8 => ?_, Fa.1⟩
        have hjk : j ≠ k := by rintro rfl; rw [sServe_8] at g8; omega
        have uj' : uw s j := uw_N (fun i => (sServe_N s (Or.inl rfl) (Or.inl rfl)).symm) uj
        rw [sServe_N s (Or.inr ⟨hjk, by omega, by omega⟩) (by omega)] at g4 g8
        rw [cw_N (sServe_N s (Or.inl rfl) (Or.inl rfl)), Fa.2 _ (fun e => hjk (cw_inj uj' u e))]
        exact D j uj' g4 g8
    · rw [if_neg (show ¬ pI (N s 8 k) = -nI 1 from fun h => c8 ((pI_nN (by omega)).mp h))]
      simp only [c8, ne_eq, not_false_eq_true, ↓reduceIte]
      exact ⟨h, rfl, R, D, FrC_rfl h⟩
  | none =>
    rw [show oI ((none : Option Nat).map (cw s)) = nN from rfl, if_pos (show nN < 0 from by decide)]
    by_cases c2 : mKi x = 2
    · simp only [c2, ↓reduceIte]
      obtain ⟨a, ea, Ra, Da, Fa⟩ := put c2
      rw [e, show oI ((none : Option Nat).map (cw s)) = nN from rfl] at ea
      exact ⟨a, ea, Ra, Da, Fa⟩
    · simp only [c2, ↓reduceIte]
      rw [l43 c2, if_neg (show ¬ 0 ≤ nN from by decide)]
      obtain ⟨a, ea, Ra, Fa, Qa⟩ := c_room R B H C1 C2 C3 hl hp (C4 _ hl)
      rw [ea, y_bds, y_lt]
      cases e2 : sFind s (mLi x) with
      | mk o t =>
        rw [e2] at Ra Qa
        have e0 : ∀ i, N t 0 i = N s 0 i := by
          intro i
          have : t = (sFind s (mLi x)).2 := by rw [e2]
          rw [this]
          unfold sFind
          split
          · unfold sFill; rw [N_uW, N_ne (by omega), N_ne (by omega), N_ne (by omega), N_ne (by omega), N_ne (by omega), N_ne (by omega)]
          · split
            · rfl
            · split
              · show N (sFill _ _ _) _ _ = _
                unfold sFill; rw [N_uW, N_ne (by omega), N_ne (by omega), N_ne (by omega), N_ne (by omega), N_ne (by omega), N_ne (by omega)]
                unfold sWb; split <;> rfl
              · show N (sRecall _ _) _ _ = _
                unfold sRecall; rw [sCall_N _ _ _ _ _ _ _ _ (by omega), N_ne (by omega), N_ne (by omega), N_ne (by omega)]
        have Da : o = none → DZ a t := by
          intro ho j uj g4 g8
          have uj' : uw s j := uw_N (fun i => (e0 i).symm) uj
          obtain ⟨d1, d2, d3⟩ := Qa j uj' (by rw [ho]; simp) g4 g8
          rw [cw_N (e0 5), d3]
          exact D j uj' d1 d2
        cases o with
        | none =>
          show ∃ h', f_X4_take_L76 a 19 (nI (i * 9)) (nI (mFr x)) nN = _ ∧ _
          unfold f_X4_take_L76
          rw [if_neg (show ¬ 0 ≤ nN from by decide)]
          exact ⟨a, rfl, Ra, Da rfl, Fa⟩
        | some k =>
          obtain ⟨hk, h4, h6, h7, h0, hP⟩ := sFind_facts B H hl e2
          have Bt : Bz t := by unfold Bz; simp only [e0]; exact B
          have hQ : Ql t = Ql s := by have := sFind_Q s (mLi x); rw [e2] at this; exact this
          have Ra' : RC a t := Ra
          have uk : uw t k := by
            have : t = (sFind s (mLi x)).2 := by rw [e2]
            have e3 : (sFind s (mLi x)).1 = some k := by rw [e2]
            refine uw_N e0 ?_
            unfold sFind at e3
            split at e3
            · next j hj =>
              obtain rfl := Option.some.inj e3
              obtain ⟨g1, g2, _, _⟩ := fst_some hj
              exact (set_u B g1 g2).1
            · split at e3
              · cases e3
              · next j hj =>
                split at e3
                · obtain rfl := Option.some.inj e3
                  rcases bmin_in hj with h' | ⟨g1, g2, _⟩
                  · cases h'
                  · exact (set_u B g1 g2).1
                · cases e3
          have hwd : Wda t 2 k = Wda t 0 (mLi x) := by
            have tt : t = (sFind s (mLi x)).2 := by rw [e2]
            have e3 : (sFind s (mLi x)).1 = some k := by rw [e2]
            have m0 := T.2 e
            rw [tt]
            unfold sFind at e3 ⊢
            split at e3
            · next j hj =>
              obtain rfl := Option.some.inj e3
              show Wda (sFill s j (mLi x)) 2 j = Wda (sFill s j (mLi x)) 0 (mLi x)
              unfold sFill
              rw [W_uW, if_pos ⟨rfl, rfl⟩, W_ne (by omega)]; exact m0
            · split at e3
              · cases e3
              · next j hj =>
                split at e3
                · next hc =>
                  obtain rfl := Option.some.inj e3
                  simp only [hc, and_self, ↓reduceIte]
                  have w1 : Wda (sWb s j) 1 (mLi x) = Wda s 1 (mLi x) := by
                    rw [sWb_m, W_uN]
                    unfold sWm
                    split
                    · rfl
                    · rw [W_ne]
                      rintro ⟨_, h9⟩
                      -- the line that goes is another one
                      rcases bmin_in hj with h' | ⟨g1, g2, _⟩
                      · cases h'
                      have hn := fst_none.mp e j g1 g2
                      have hn2 : N s 4 j ≠ mLi x + 1 := by simpa using hn
                      have hn3 := fst_none.mp (by assumption : sEmpty s (mLi x) = none) j g1 g2
                      have hn4 : N s 4 j ≠ 0 := by simpa using hn3
                      omega
                  have w0' : Wda (sWb s j) 0 (mLi x) = Wda s 0 (mLi x) := by rw [sWb_m, W_uN, sWm_W _ _ _ _ (by omega)]
                  show Wda (sFill (sWb s j) j (mLi x)) 2 j = Wda (sFill (sWb s j) j (mLi x)) 0 (mLi x)
                  unfold sFill
                  rw [W_uW, if_pos ⟨rfl, rfl⟩, W_ne (by omega)]
                  simp only [W_uN]
                  rw [w1, w0']; exact m0
                · cases e3
          obtain ⟨b, eb, Rb, Fb⟩ := c_serve Ra' Bt (c := mFr x) (l := mLi x) (kd := mKi x) (i := i) uk h4 hl (by rw [h6]; omega) (by rw [h7]; exact Nat.two_pow_pos _) hc (by omega) (by omega) (by rw [Ra'.2.2.2.2.2.2.2.2 i 0 (by rw [hQ]; exact hi) (by omega), hQ, hx]; rfl) (fun _ => hwd) (by rw [h6]; omega) (by rw [hP]; exact hp)
          rw [cw_N (e0 5)] at eb Fb
          show ∃ h', f_X4_take_L76 a 19 (nI (i * 9)) (nI (mFr x)) (nI (cw s k)) = _ ∧ _
          rw [eb]
          refine ⟨b, rfl, Rb, fun j uj g4 g8 => ?_, FrC_tr Fa Fb.1⟩
          have hjk : j ≠ k := by rintro rfl; rw [sServe_8] at g8; omega
          have ujt : uw t j := uw_N (fun i => (sServe_N t (Or.inl rfl) (Or.inl rfl)).symm) uj
          have uj' : uw s j := uw_N (fun i => (e0 i).symm) ujt
          have uk' : uw s k := uw_N (fun i => (e0 i).symm) uk
          rw [sServe_N t (Or.inr ⟨hjk, by omega, by omega⟩) (by omega)] at g4 g8
          obtain ⟨d1, d2, d3⟩ := Qa j uj' (fun h => hjk (Option.some.inj h).symm) g4 g8
          rw [cw_N (sServe_N t (Or.inl rfl) (Or.inl rfl)), cw_N (e0 5), Fb.2 _ (fun e => hjk (cw_inj uj' uk' e)), d3]
          exact D j uj' d1 d2
