theorem c_ackW {h : AH} {s : St} (R : RC h s) (D : DZ h s) (B : Bz s) {x : Msg} (T : TK h x) {k : Nat} (u : uw s k) :
    RC (sI (sA h 29 (va_cpy (hI h 18) (hI h 29) 5 (cw s k * 4) 4)) 27 (cw s k) (nI 1)) (uN (uW s 2 k (mWo x)) 5 k 1) ∧ DZ (sI (sA h 29 (va_cpy (hI h 18) (hI h 29) 5 (cw s k * 4) 4)) 27 (cw s k) (nI 1)) (uN (uW s 2 k (mWo x)) 5 k 1) ∧ FrC h (sI (sA h 29 (va_cpy (hI h 18) (hI h 29) 5 (cw s k * 4) 4)) 27 (cw s k) (nI 1)) := by
  have hg : ∀ q, va_cpy (hI h 18) (hI h 29) 5 (cw s k * 4) 4 q = if cw s k * 4 ≤ q ∧ q < cw s k * 4 + 4 then w4 (mWo x) (q - cw s k * 4) else hI h 29 q := by
    intro q
    unfold va_cpy
    split
    · rw [T _ (by omega), mp_w (by omega)]
    · rfl
  obtain ⟨R1, F1⟩ := c_wayW R B u hg
  obtain ⟨R2, F2⟩ := c_wayF R1 B (k := k) (o := 27) (F := 5) (v := 1) (x := nI 1) u (Or.inr (Or.inr (Or.inl ⟨rfl, rfl, rfl⟩)))
  refine ⟨R2, fun j uj g4 g8 => ?_, FrC_tr (FrC_W F1) (FrC_W F2)⟩
  rw [x_ne (by omega), x_neA (by omega)]
  exact D j uj g4 g8
theorem sAckW_N (s : St) (k : Nat) (x : Msg) (F i : Nat) (h : F ≠ 5) : N (sAckW s k x) F i = N s F i := by
  unfold sAckW; split
  · rw [N_ne (by omega)]; rfl
  · rfl
theorem Hr_ackW {s : St} (H : Hr s) (k : Nat) (x : Msg) : Hr (sAckW s k x) := by
  intro j hj
  have := H j hj
  unfold sAckW
  split
  · simp only [N_uN, N_uW, Nat.reduceEqDiff, false_and, ↓reduceIte, true_and]
    split <;> omega
  · exact this
theorem c_acknowledge {h : AH} {s : St} (R : RC h s) (D : DZ h s) (B : Bz s) (H : Hr s) {x : Msg} (T : TK h x) {k : Nat} (e : hWay s (mLi x) = some k) (hl : mLi x < 512) (hf : mFi x ≤ 1) (hd : 1 ≤ N s 10 k) (h8 : 1 ≤ N s 8 k)
    (h9 : N s 10 k = 1 → N s 8 k ≠ 17 → N s 9 k ≠ 1 → 1 ≤ N s 6 k ∧ N s 7 k = 0) (hw : N s 10 k = 1 → N s 8 k ≠ 17 → Wda (sAckW s k x) 2 k = Wda s 0 (mLi x)) (hp : (Pl s).length + 17 < 8400) :
    ∃ h', f_X4_acknowledge h 19 18 = some (bI (sAckP (sAckD (sAckW s k x) k) k (mLi x)).1, h') ∧ RC h' (sAckP (sAckD (sAckW s k x) k) k (mLi x)).2 ∧ DZ h' (sAckP (sAckD (sAckW s k x) k) k (mLi x)).2 ∧ FrC h h' := by
  have L := RC_L R
  obtain ⟨hk, h4, _, _⟩ := hWay_lt B e
  have u := hWay_u B e
  have wl := cw_lt B u
  obtain ⟨r1, r2, r3, r4⟩ := RC_w R u
  obtain ⟨b1, b2, b3, b4, b5⟩ := r4 (by omega)
  obtain ⟨b6, b7⟩ := b5 (by omega)
  have m10 := (H k hk).2.2.2.2.2.2.1
  have t3 : hI h 18 3 = nI (mLi x) := T 3 (by omega)
  have t4 : hI h 18 4 = nI (mFi x) := T 4 (by omega)
  unfold f_X4_acknowledge
  rw [y_gs, if_pos (lc_S18 L), lc_N18 L, y_gb, if_pos (show ib (3 : Int32) 9 = true from rfl), y_gs, if_pos (lc_S19 L), show (3 : Int32).toNatClampNeg = 3 from rfl, t3, c_hfind R B H hl, y_bds, e, show oI ((some k).map (cw s)) = nI (cw s k) from rfl, if_neg (lt0 (show cw s k < 2 ^ 31 by omega)), lc_R19_7 L, y_gs, if_pos (lc_S26 L), lc_N26 L, y_gb, if_pos (q_ib wl (by omega)), q_cl (show cw s k < 2 ^ 31 by omega), b6, if_pos (show ¬ nI (N s 10 k) = 0 from fun h => by have := (q_eq (b := 0) (by omega) (by omega)).mp h; omega), y_gb, if_pos (show ib (4 : Int32) 9 = true from rfl), show (4 : Int32).toNatClampNeg = 4 from rfl, t4]
  by_cases c : mFi x = 1
  · rw [if_neg (show ¬ ¬ nI (mFi x) = (1 : Int32) from fun h => h (by rw [c]; rfl))]
    have e1 : sAckW s k x = uN (uW s 2 k (mWo x)) 5 k 1 := by unfold sAckW; rw [if_pos c]
    obtain ⟨R1, D1, F1⟩ := c_ackW R D B T u
    rw [← e1] at R1 D1
    have B1 : Bz (sAckW s k x) := by unfold Bz; simp only [sAckW_N s k x 0 _ (by omega)]; exact B
    have u1 : uw (sAckW s k x) k := uw_N (fun i => sAckW_N s k x 0 i (by omega)) u
    have c1 : cw (sAckW s k x) k = cw s k := cw_N (sAckW_N s k x 0 5 (by omega)) k
    have nn := fun F hF i => sAckW_N s k x F i hF
    have wd0 : Wda (sAckW s k x) 0 (mLi x) = Wda s 0 (mLi x) := by rw [e1]; rfl
    have P1 : Pl (sAckW s k x) = Pl s := by rw [e1]; rfl
    obtain ⟨a, ea, Ra, Da, Fa⟩ := c_ackE R1 D1 B1 (Hr_ackW H k x) (l := mLi x) u1 hk (by rw [nn 4 (by omega)]; exact h4) hl (by rw [nn 10 (by omega)]; exact hd) (by rw [nn 8 (by omega)]; exact h8) (by rw [nn 10 (by omega), nn 8 (by omega), nn 9 (by omega), nn 6 (by omega), nn 7 (by omega)]; exact h9) (by rw [nn 10 (by omega), nn 8 (by omega), wd0]; exact hw) (by rw [P1]; exact hp)
    rw [c1] at ea
    simp (disch := omega) only [↓y_gs, ↓y_gb, ↓y_lt, ↓y_bds, q_lit, q_cl, q_ib, q_add, q_mul, ↓reduceIte, decide_true, Nat.reduceAdd, Nat.reduceMul, x_hI_sI, x_hR_sI, x_hS_sI, x_hN_sI, lc_R19_10 L, lc_S29 L, lc_N29 L, lc_N18 L, cpok_t, x_hR_sA, x_hS_sA, x_hN_sA, lc_R19_8 L, lc_S27 L, lc_N27 L, q_11]
    rw [ea]
    exact ⟨a, rfl, Ra, Da, FrC_tr F1 Fa⟩
  · rw [if_pos (show ¬ nI (mFi x) = (1 : Int32) from fun h => c ((q_eq (b := 1) (by omega) (by omega)).mp h))]
    have e1 : sAckW s k x = s := by unfold sAckW; rw [if_neg c]
    rw [e1] at hw ⊢
    exact c_ackE R D B H u hk h4 hl hd h8 h9 hw hp
theorem c_endRequest {h : AH} {s : St} (R : RC h s) (D : DZ h s) (B : Bz s) (H : Hr s) {l k : Nat} (e : hWay s l = some k) (hl : l < 512) (h8 : N s 8 k ≠ 0) (h10 : N s 10 k = 0) :
    ∃ h', f_X4_endRequest h 19 (nI l) = some h' ∧ RC h' (uN s 8 k 0) ∧ DZ h' (uN s 8 k 0) ∧ FrC h h' := by
  have L := RC_L R
  obtain ⟨hk, h4, _, _⟩ := hWay_lt B e
  have u := hWay_u B e
  have wl := cw_lt B u
  obtain ⟨r1, r2, r3, r4⟩ := RC_w R u
  obtain ⟨b1, b2, b3, b4, b5⟩ := r4 (by omega)
  obtain ⟨b6, b7⟩ := b5 h8
  obtain ⟨R1, F1⟩ := c_wayF R B (k := k) (o := 24) (F := 8) (v := 0) (x := nN) u (Or.inr (Or.inr (Or.inr (Or.inr (Or.inr (Or.inr (Or.inl ⟨rfl, rfl, rfl, Or.inl rfl⟩)))))))
  unfold f_X4_endRequest
  rw [y_gs, if_pos (lc_S19 L), c_hfind R B H hl, y_bds, e, show oI ((some k).map (cw s)) = nI (cw s k) from rfl, if_neg (lt0 (show cw s k < 2 ^ 31 by omega)), lc_R19_5 L, y_gs, if_pos (lc_S24 L), lc_N24 L, y_gb, if_pos (q_ib wl (by omega)), q_cl (show cw s k < 2 ^ 31 by omega), y_lt]
  refine ⟨_, rfl, R1, fun j uj g4 g8 => ?_, FrC_W F1⟩
  rw [show cw (uN s 8 k 0) j = cw s j from rfl, x_ne (by omega)]
  by_cases c : j = k
  · subst c; rw [b6, h10]
  · rw [N_ne (by omega)] at g4 g8
    exact D j uj g4 g8
/-- what CoreHouse's home needs of what comes -/
def HomeC (I : St → Prop) (s : St) (x : Msg) : Prop :=
  (mKi x = 5 → ∃ k, hWay s (mLi x) = some k ∧ 1 ≤ N s 10 k ∧ 1 ≤ N s 8 k ∧ (N s 10 k = 1 → N s 8 k ≠ 17 → N s 9 k ≠ 1 → 1 ≤ N s 6 k ∧ N s 7 k = 0) ∧ (N s 10 k = 1 → N s 8 k ≠ 17 → Wda (sAckW s k x) 2 k = Wda s 0 (mLi x)) ∧ (N s 10 k = 1 → N s 8 k = 17 → I (sEnd (sAckD (sAckW s k x) k) k))) ∧
  (mKi x = 10 → ∃ k, hWay s (mLi x) = some k ∧ N s 8 k ≠ 0 ∧ N s 10 k = 0 ∧ I (uN s 8 k 0)) ∧
  (mKi x ≠ 5 → mKi x ≠ 10 → (Ql s).length < 32 ∧ I (uQ s (Ql s ++ [x])))
theorem c_home (I : St → Prop) (hO : ∀ s, I s → OkC s) (hT : ∀ set, HT I set) {h : AH} {s : St} (R : RC h s) (D : DZ h s) (B : Bz s) (H : Hr s) {x : Msg} (T : TK h x) (hK : mKi x ≤ 10) (hl : mLi x < 512) (hf : mFi x ≤ 1) (hx : HomeC I s x) (hp : (Pl s).length + 17 < 8400) :
    ∃ h', f_X4_receive h 19 18 = some h' ∧ RC h' (sHome s x) ∧ DZ h' (sHome s x) ∧ FrC h h' := by
  have L := RC_L R
  have t0 : hI h 18 0 = nI (mKi x) := T 0 (by omega)
  have t3 : hI h 18 3 = nI (mLi x) := T 3 (by omega)
  have q1 := R.2.2.2.2.2.2.2.1
  unfold f_X4_receive sHome
  rw [y_gs, if_pos (lc_S18 L), lc_N18 L, y_gb, if_pos (show ib (3 : Int32) 9 = true from rfl), y_lt, show (3 : Int32).toNatClampNeg = 3 from rfl, t3, y_gb, if_pos (show ib (0 : Int32) 9 = true from rfl), y_lt, y_lt, show (0 : Int32).toNatClampNeg = 0 from rfl, t0]
  by_cases k5 : mKi x = 5
  · rw [if_neg (show ¬ ¬ nI (mKi x) = (5 : Int32) from fun h => h (by rw [k5]; rfl)), if_pos k5, y_gs, if_pos (lc_S19 L)]
    obtain ⟨k, e, a1, a2, a3, a4, a5⟩ := hx.1 k5
    obtain ⟨a, ea, Ra, Da, Fa⟩ := c_acknowledge R D B H T e hl hf a1 a2 a3 a4 hp
    rw [ea, y_bds, y_lt]
    unfold sAck
    rw [e]
    change ∃ h', f_X4_receive_L77 a 19 (nI (mLi x)) (bI (sAckP (sAckD (sAckW s k x) k) k (mLi x)).1) = some h' ∧ RC h' (sAckE (sAckD (sAckW s k x) k) k (mLi x)) ∧ DZ h' (sAckE (sAckD (sAckW s k x) k) k (mLi x)) ∧ FrC h h'
    rw [sAckE_P]
    have n04 : N (sAckD (sAckW s k x) k) 0 4 = N s 0 4 := by unfold sAckD; rw [N_ne (by omega), sAckW_N s k x 0 4 (by omega)]
    cases ep : (sAckP (sAckD (sAckW s k x) k) k (mLi x)).1 with
    | false =>
      simp only [Bool.false_eq_true, ↓reduceIte]
      refine ⟨a, ?_, Ra, Da, Fa⟩
      unfold f_X4_receive_L77
      obtain ⟨f, hf⟩ : ∃ f, FU = f + 1 := ⟨4294967295, rfl⟩
      rw [y_lt, hf, f_X4_receive_L81, if_pos (show bI false = 0 from rfl)]
    | true =>
      simp only [↓reduceIte]
      have n10 : N (sAckD (sAckW s k x) k) 10 k = N s 10 k - 1 := by unfold sAckD; rw [N_eq, sAckW_N s k x 10 k (by omega)]
      have n8 : N (sAckD (sAckW s k x) k) 8 k = N s 8 k := by unfold sAckD; rw [N_ne (by omega), sAckW_N s k x 8 k (by omega)]
      have hc : N s 10 k = 1 ∧ N s 8 k = 17 := by
        unfold sAckP at ep
        rw [n10, n8] at ep
        by_cases g1 : 0 < N s 10 k - 1
        · rw [if_pos g1] at ep; cases ep
        · rw [if_neg g1] at ep
          by_cases g2 : N s 8 k = 17
          · exact ⟨by omega, g2⟩
          · rw [if_neg g2] at ep
            split at ep <;> cases ep
      have e2 : (sAckP (sAckD (sAckW s k x) k) k (mLi x)).2 = sEnd (sAckD (sAckW s k x) k) k := by
        unfold sAckP
        rw [n10, n8, if_neg (by omega), if_pos hc.2]
      rw [e2] at Ra Da ⊢
      have n04' : N (sEnd (sAckD (sAckW s k x) k) k) 0 4 = N s 0 4 := by
        unfold sEnd
        rw [N_ne (by omega), N_ne (by omega), N_ne (by omega), N_ne (by omega), sWb_m, N_ne (by omega), sWm_N]; exact n04
      obtain ⟨b, eb, Rb, Db, Fb⟩ := c_goOn I hO hl (hT _) (a5 hc.1 hc.2) Ra Da
      rw [n04'] at Rb Db
      rw [n04]
      exact ⟨b, eb, Rb, Db, FrC_tr Fa Fb⟩
  · rw [if_pos (show ¬ nI (mKi x) = (5 : Int32) from fun h => k5 ((q_eq (b := 5) (by omega) (by omega)).mp h)), if_neg k5]
    by_cases k10 : mKi x = 10
    · rw [if_neg (show ¬ ¬ nI (mKi x) = (10 : Int32) from fun h => h (by rw [k10]; rfl)), if_pos k10, y_gs, if_pos (lc_S19 L)]
      obtain ⟨k, e, a1, a2, a3⟩ := hx.2.1 k10
      obtain ⟨a, ea, Ra, Da, Fa⟩ := c_endRequest R D B H e hl a1 a2
      rw [ea, y_bds, e]
      obtain ⟨b, eb, Rb, Db, Fb⟩ := c_goOn I hO hl (hT _) a3 Ra Da
      rw [show N (uN s 8 k 0) 0 4 = N s 0 4 from rfl] at Rb Db
      exact ⟨b, eb, Rb, Db, FrC_tr Fa Fb⟩
    · rw [if_pos (show ¬ nI (mKi x) = (10 : Int32) from fun h => k10 ((q_eq (b := 10) (by omega) (by omega)).mp h)), if_neg k10, y_gs, if_pos (lc_S19 L), q1]
      obtain ⟨a1, a2⟩ := hx.2.2 k5 k10
      rw [if_neg (show ¬ (32 : Int32) ≤ nI (Ql s).length from fun h => by have := (q_le (a := 32) (by omega) (by omega)).mp h; omega)]
      obtain ⟨R1, D1, F1⟩ := c_push R D T a1
      have hcp : cpok (nI 0) (nI ((Ql s).length * 9)) (nI 9) 9 288 = true := cpok_t (by omega) (by omega) (by omega) (by omega)
      rw [lc_R19_11 L, y_gs, if_pos (lc_S30 L), lc_N30 L, show (0 : Int32) = nI 0 from rfl, show (9 : Int32) = nI 9 from rfl, q_mul, y_gb, if_pos hcp, y_lt, y_lt, q_cl (show 9 < 2 ^ 31 by omega), q_cl (show (Ql s).length * 9 < 2 ^ 31 by omega), x_neA (by omega), q1, show (1 : Int32) = nI 1 from rfl, q_add]
      obtain ⟨b, eb, Rb, Db, Fb⟩ := c_goOn I hO hl (hT _) a2 R1 D1
      rw [show N (uQ s (Ql s ++ [x])) 0 4 = N s 0 4 from rfl] at Rb Db
      exact ⟨b, eb, Rb, Db, FrC_tr F1 Fb⟩
theorem c_takeOut {h : AH} {s : St} (R : RC h s) (D : DZ h s) {i : Nat} (hi : i < (Pl s).length) (hp : (Pl s).length < 8400) :
    ∃ h', f_X6_takeOut h 16 (nI i) = some (nI 1, h') ∧ RC h' (sOut s i) ∧ DZ h' (sOut s i) ∧ FrC h h' ∧ TK h' ((Pl s).getD i x0) := by
  have L := RC_L R
  have Rp := R.2.2.2.2.2.2.1
  obtain ⟨a1, a2, a3, a4, a5, a6, a7, a8⟩ := Rp
  obtain ⟨c1, c2, c3, c4, c5, c6⟩ := R.2.1
  have r18 : ¬ hR h 16 0 = 18 := by omega
  have r16 : ¬ hR h 16 0 = 16 := by omega
  unfold f_X6_takeOut
  rw [if_neg (lt0 (show i < 2 ^ 31 by omega)), y_gs, if_pos (lc_S16 L), a1, if_pos ((q_lt (by omega) (by omega)).mpr hi), y_gs, if_pos a2, lc_R16_3 L, y_gs, if_pos (lc_S18 L), lc_N18 L, show (9 : Int32) = nI 9 from rfl, show (0 : Int32) = nI 0 from rfl, q_mul, y_gb, if_pos (cpok_t (show i * 9 + 9 ≤ hN h (hR h 16 0) by omega) (by omega) (by omega) (by omega)), y_lt, q_cl (show i * 9 < 2 ^ 31 by omega), q_cl (show 0 < 2 ^ 31 by omega), q_cl (show 9 < 2 ^ 31 by omega)]
  have hcp : cpok (nI ((i + 1) * 9)) (nI (i * 9)) (nI (((Pl s).length - i - 1) * 9)) (hN h (hR h 16 0)) (hN h (hR h 16 0)) = true := cpok_t (by omega) (by omega) (by omega) (by omega)
  generalize hg : va_cpy (hI h (hR h 16 0)) (hI h 18) (i * 9) 0 9 = g
  have hR1 : hR (sA h 18 g) 16 0 = hR h 16 0 := rfl
  have hS1 : hS (sA h 18 g) (hR h 16 0) = 21 := a2
  have hN1 : hN (sA h 18 g) (hR h 16 0) = hN h (hR h 16 0) := rfl
  have e1 : hI (sA h 18 g) 16 1 = nI (Pl s).length := by rw [x_neA (by omega)]; exact a1
  rw [hR1, y_gs, if_pos hS1, hN1, e1, q_sub (show i ≤ (Pl s).length by omega), show (1 : Int32) = nI 1 from rfl, q_sub (show 1 ≤ (Pl s).length - i by omega), q_add, q_mul, q_mul, y_gb, if_pos hcp, y_lt, q_cl (show (i + 1) * 9 < 2 ^ 31 by omega), q_cl (show ((Pl s).length - i - 1) * 9 < 2 ^ 31 by omega), y_lt, y_lt]
  generalize hg2 : va_cpy (hI (sA h 18 g) (hR h 16 0)) (hI (sA h 18 g) (hR h 16 0)) ((i + 1) * 9) (i * 9) (((Pl s).length - i - 1) * 9) = g2
  have e2 : hI (sA (sA h 18 g) (hR h 16 0) g2) 16 1 = nI (Pl s).length := by rw [x_neA (by omega)]; exact e1
  have e3 : hI (sI (sA (sA h 18 g) (hR h 16 0) g2) 16 1 (nI ((Pl s).length - 1))) 16 2 = nI (N s 18 0) := by rw [x_ne (by omega), x_neA (by omega), x_neA (by omega)]; exact c6
  rw [e2, q_sub (show 1 ≤ (Pl s).length by omega), e3, q_add]
  have ag : ∀ o k, o ≤ 225 → o ≠ 16 → o ≠ 17 → o ≠ 18 → hI (sI (sI (sA (sA h 18 g) (hR h 16 0) g2) 16 1 (nI ((Pl s).length - 1))) 16 2 (nI (N s 18 0 + 1))) o k = hI h o k := by
    intro o k h1 h2 h3 h4
    rw [x_ne (by omega), x_ne (by omega), x_neA (by omega), x_neA (by omega)]
  obtain ⟨⟨L, z⟩, rs, rk, rc, rh, rm, rp, rq⟩ := R
  refine ⟨_, rfl, ⟨⟨L, z⟩, ?_, ?_, ?_, ?_, ?_, ?_, ?_⟩, ?_, ?_, ?_⟩
  · refine ⟨fun i hi => (ag 32 i (by omega) (by omega) (by omega) (by omega)).trans (c1 i hi), (ag _ _ (by omega) (by omega) (by omega) (by omega)).trans c2, (ag _ _ (by omega) (by omega) (by omega) (by omega)).trans c3, (ag _ _ (by omega) (by omega) (by omega) (by omega)).trans c4, (ag _ _ (by omega) (by omega) (by omega) (by omega)).trans c5, ?_⟩
    unfold sOut
    rw [x_eq, N_eq]
  · exact RCk_ag rk (fun c k hc _ _ => ag _ _ (by omega) (by omega) (by omega) (by omega)) (fun c k hc _ => ag _ _ (by omega) (by omega) (by omega) (by omega)) (fun c k hc => ag _ _ (by omega) (by omega) (by omega) (by omega)) (fun i => by unfold sOut; rw [N_ne (by omega)]; rfl) (fun F c hc hF => by unfold sOut; rw [N_ne (by omega)]; rfl) (fun _ _ => rfl)
  · exact RCc_ag rc (fun c r k hc _ _ => ag _ _ (by omega) (by omega) (by omega) (by omega)) (fun F k hk hF => by unfold sOut; rw [N_ne (by omega)]; rfl) (fun _ _ => rfl)
  · exact RCh_ag rh (fun o k _ _ => ag _ _ (by omega) (by omega) (by omega) (by omega)) (fun i => by unfold sOut; rw [N_ne (by omega)]; rfl) (fun F k hF => by unfold sOut; rw [N_ne (by omega)]; rfl) (fun _ => rfl)
  · exact RCm_ag rm (fun k => ag _ _ (by omega) (by omega) (by omega) (by omega)) (fun _ _ => rfl)
  · have eP : Pl (sOut s i) = (Pl s).eraseIdx i := rfl
    refine ⟨?_, a2, a3, a4, a5, a6, ?_, ?_⟩
    · rw [x_ne (by omega), x_eq, eP, List.length_eraseIdx_of_lt hi]
    · rw [eP, List.length_eraseIdx_of_lt hi]
      show 9 * ((Pl s).length - 1) ≤ hN h (hR h 16 0)
      omega
    · intro k j hk hj
      rw [eP, List.length_eraseIdx_of_lt hi] at hk
      show hI (sI (sI (sA (sA h 18 g) (hR h 16 0) g2) 16 1 _) 16 2 _) (hR h 16 0) (9 * k + j) = _
      rw [x_ne (by omega), x_ne (by omega), x_eqA, eP, getD_erase, ← hg2]
      unfold va_cpy
      by_cases c : k < i
      · rw [if_neg (by omega), if_pos c, x_neA (by omega)]; exact a8 k j (by omega) hj
      · rw [if_pos (by omega), if_neg c, x_neA (by omega), show (i + 1) * 9 + (9 * k + j - i * 9) = 9 * (k + 1) + j by omega]; exact a8 (k + 1) j (by omega) hj
  · exact RCq_ag rq (ag _ _ (by omega) (by omega) (by omega) (by omega)) (fun k => ag _ _ (by omega) (by omega) (by omega) (by omega)) rfl
  · intro k u g4 g8
    have e0 : ∀ i', N (sOut s i) 0 i' = N s 0 i' := fun i' => by unfold sOut; rw [N_ne (by omega)]; rfl
    rw [cw_N (e0 5), ag _ _ (by omega) (by omega) (by omega) (by omega)]
    have n4 : N (sOut s i) 4 k = N s 4 k := by unfold sOut; rw [N_ne (by omega)]; rfl
    have n8 : N (sOut s i) 8 k = N s 8 k := by unfold sOut; rw [N_ne (by omega)]; rfl
    rw [n4] at g4; rw [n8] at g8
    exact D k (uw_N (fun i => (e0 i).symm) u) g4 g8
  · refine ⟨fun o k e => ?_, fun _ _ _ => rfl, fun _ _ _ _ => rfl, fun _ _ => ⟨rfl, rfl⟩, rfl, Nat.le_refl _⟩
    have g0 : ¬ (16 ≤ o ∧ o ≤ 30) := fun g2 => by rw [crr_h k g2] at e; cases e
    have g1 : o ≤ 225 := by
      unfold crr at e; simp only [Bool.and_eq_true, decide_eq_true_eq] at e; exact e.1.1
    exact ag o k g1 (by omega) (by omega) (by omega)
  · intro j hj
    show hI (sI (sI (sA (sA h 18 g) (hR h 16 0) g2) 16 1 _) 16 2 _) 18 j = _
    rw [x_ne (by omega), x_ne (by omega), x_neA (by omega), x_eqA, ← hg]
    unfold va_cpy
    rw [if_pos (by omega), show i * 9 + (j - 0) = 9 * i + j by omega]
    exact a8 i j hi hj
