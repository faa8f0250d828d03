/-! The whole text in both. -/
/-- a row's first n places are v -/
def flR (h : AH) (o n : Nat) (v : Int32) : AH := sA h o (fun k => if k < n then v else hI h o k)
theorem flR_hI (h : AH) (o n : Nat) (v : Int32) (p k : Nat) : hI (flR h o n v) p k = if p = o ∧ k < n then v else hI h p k := by
  unfold flR
  rw [x_hI_sA]
  by_cases e : p = o
  · subst e
    by_cases e2 : k < n
    · rw [if_pos rfl, if_pos e2, if_pos ⟨rfl, e2⟩]
    · rw [if_pos rfl, if_neg e2, if_neg (fun q => e2 q.2)]
  · rw [if_neg e, if_neg (fun q => e q.1)]
theorem flR_ne {h : AH} {o n : Nat} {v : Int32} {p k : Nat} (e : ¬ (p = o ∧ k < n)) : hI (flR h o n v) p k = hI h p k := by rw [flR_hI, if_neg e]
theorem flR_eq {h : AH} {o n : Nat} {v : Int32} {k : Nat} (e : k < n) : hI (flR h o n v) o k = v := by rw [flR_hI, if_pos ⟨rfl, e⟩]
theorem flR_2 (h : AH) (o n : Nat) (v : Int32) : (flR h o n v).2 = h.2 := rfl
theorem c_fill53 {h : AH} {o n : Nat} (v : Int32) (s21 : hS h o = 21) (hn : hN h o = n) (n31 : n < 2 ^ 31) : f_J7_fill_53178 h o v = some (flR h o n v) := by
  have lp : ∀ r j f, j + r = n → r < f → f_J7_fill_53178_L5 f (flR h o j v) o v (nI j) (nI n) = some (flR h o n v) := by
    intro r
    induction r with
    | zero =>
      intro j f hj hf
      obtain ⟨f, rfl⟩ : ∃ q, f = q + 1 := ⟨f - 1, by omega⟩
      have : j = n := by omega
      subst this
      rw [f_J7_fill_53178_L5, if_pos (Int32.le_refl _)]
    | succ r ih =>
      intro j f hj hf
      obtain ⟨f, rfl⟩ : ∃ q, f = q + 1 := ⟨f - 1, by omega⟩
      have e : sI (flR h o j v) o j v = flR h o (j + 1) v := by
        refine AH_ext rfl (fun p k => ?_)
        rw [x_hI_sI, flR_hI, flR_hI]
        by_cases c1 : p = o ∧ k = j
        · rw [if_pos c1, if_pos ⟨c1.1, by omega⟩]
        · rw [if_neg c1]
          by_cases c2 : p = o ∧ k < j
          · rw [if_pos c2, if_pos ⟨c2.1, by omega⟩]
          · rw [if_neg c2, if_neg (fun q => by omega)]
      rw [f_J7_fill_53178_L5, if_neg (show ¬ nI n ≤ nI j from fun q => by have := (q_le (by omega) (by omega)).mp q; omega), y_gs, if_pos (show hS (flR h o j v) o = 21 from s21), show hN (flR h o j v) o = n from hn, y_gb, if_pos (q_ib (by omega) (by omega)), q_cl (by omega), y_lt, q_add1, y_lt, e]
      exact ih (j + 1) f (by omega) (by omega)
  unfold f_J7_fill_53178
  have e0 : flR h o 0 v = h := AH_ext rfl (fun p k => flR_ne (by omega))
  have := lp n 0 FU (by omega) (FU_gt (by omega))
  rw [e0] at this
  rw [y_lt, y_gs, if_pos s21, hn, y_lt]; exact this
/-- the text's characters -/
def tch (e : Ex) (i : Nat) : Nat := if i < e 8 1 then e 9 i else 0
theorem Rel_CT {h m : AH} {s : St} {e : Ex} {b : Nat} (R : Rel h m s e b) (he : e 8 0 = e 8 1) : CT h (tch e) (e 8 1) ∧ RT m (tch e) (e 8 1) := by
  obtain ⟨_, _, _, ⟨y7, y8, y9⟩, y10, _⟩ := R.2.2.2.2.2
  have tc : ∀ i, i < e 8 1 → tch e i = e 9 i := fun i hi => if_pos hi
  refine ⟨⟨RC_L R.1.1, by rw [y7, he], fun i hi => by rw [tc i hi]; exact (y10 i hi).1, y9, fun i hi => by rw [tc i hi]; exact (y10 i hi).2.2⟩, ⟨rm_L R.2.1, y8, fun i hi => by rw [tc i hi]; exact (y10 i hi).2.1, y9, fun i hi => by rw [tc i hi]; exact (y10 i hi).2.2, fun i hi => if_neg (by omega)⟩⟩
/-- the class's heap when the reading begins -/
def tr0 (h : AH) (c : Nat → Nat) (T : Nat) : AH := tkH (sI (flR (sI (sI (sI (sI (sI (sI h 4 1 (0 : Int32)) 4 9 (0 : Int32)) 4 13 (0 : Int32)) 4 14 (0 : Int32)) 4 16 (0 : Int32)) 4 17 (0 : Int32)) 15 16 (0 : Int32)) 2 2 (nI 0)) c T (ts c T 0)
theorem tr0_e {h : AH} {c : Nat → Nat} {T : Nat} (C : CT h c T) : f_X1_translate h 4 = f_X1_translate_L49 FU (tr0 h c T) 4 (nI 1500) := by
  have L := C.1
  have L6 : LC (sI (sI (sI (sI (sI (sI h 4 1 (0 : Int32)) 4 9 (0 : Int32)) 4 13 (0 : Int32)) 4 14 (0 : Int32)) 4 16 (0 : Int32)) 4 17 (0 : Int32)) := L
  have L7 : LC (flR (sI (sI (sI (sI (sI (sI h 4 1 (0 : Int32)) 4 9 (0 : Int32)) 4 13 (0 : Int32)) 4 14 (0 : Int32)) 4 16 (0 : Int32)) 4 17 (0 : Int32)) 15 16 (0 : Int32)) := L
  have C8 : CT (sI (flR (sI (sI (sI (sI (sI (sI h 4 1 (0 : Int32)) 4 9 (0 : Int32)) 4 13 (0 : Int32)) 4 14 (0 : Int32)) 4 16 (0 : Int32)) 4 17 (0 : Int32)) 15 16 (0 : Int32)) 2 2 (nI 0)) c T := CT_of C rfl (fun o k q => by rw [x_ne (by omega), flR_ne (by omega), x_ne (by omega), x_ne (by omega), x_ne (by omega), x_ne (by omega), x_ne (by omega), x_ne (by omega)])
  have nx0 : f_X8_next (sI (flR (sI (sI (sI (sI (sI (sI h 4 1 (0 : Int32)) 4 9 (0 : Int32)) 4 13 (0 : Int32)) 4 14 (0 : Int32)) 4 16 (0 : Int32)) 4 17 (0 : Int32)) 15 16 (0 : Int32)) 2 2 (0 : Int32)) 2 = some (tr0 h c T) := next_c (p := 0) C8 (x_eq _ _ _ _) (by omega)
  unfold f_X1_translate f_X8_rewind
  rw [y_gs, if_pos (lc_S4 L), y_lt, y_lt, y_lt, y_lt, y_lt, y_lt, lc_R4_15 L6, c_fill53 _ (lc_S15 L6) (lc_N15 L6) (by omega), y_bds, y_gs, if_pos (lc_S4 L7), lc_R4_0 L7, y_gs, if_pos (lc_S2 L7), y_gs, if_pos (lc_S2 L7), y_lt, nx0, y_bds, y_bds, y_lt]
  rfl
theorem tr0_f (h : AH) (c : Nat → Nat) (T : Nat) : FA h (tr0 h c T) ∧ hI (tr0 h c T) 4 1 = 0 ∧ hI (tr0 h c T) 4 9 = 0 ∧ hI (tr0 h c T) 4 13 = 0 ∧ hI (tr0 h c T) 4 14 = 0 ∧ hI (tr0 h c T) 4 16 = 0 ∧ hI (tr0 h c T) 4 17 = 0 ∧ (∀ d, d < 16 → hI (tr0 h c T) 15 d = 0) := by
  unfold tr0
  obtain ⟨x1, x2, x3⟩ := tkH_f (sI (flR (sI (sI (sI (sI (sI (sI h 4 1 (0 : Int32)) 4 9 (0 : Int32)) 4 13 (0 : Int32)) 4 14 (0 : Int32)) 4 16 (0 : Int32)) 4 17 (0 : Int32)) 15 16 (0 : Int32)) 2 2 (nI 0)) c T (ts c T 0)
  refine ⟨⟨x3, fun o k h1 h2 => ?_⟩, ?_, ?_, ?_, ?_, ?_, ?_, fun d hd => ?_⟩
  · rw [x1 o k (by omega), x_ne (by omega), flR_ne (by omega), x_ne (by omega), x_ne (by omega), x_ne (by omega), x_ne (by omega), x_ne (by omega), x_ne (by omega)]
  · rw [x1 _ _ (by omega), x_ne (by omega), flR_ne (by omega), x_ne (by omega), x_ne (by omega), x_ne (by omega), x_ne (by omega), x_ne (by omega), x_eq]
  · rw [x1 _ _ (by omega), x_ne (by omega), flR_ne (by omega), x_ne (by omega), x_ne (by omega), x_ne (by omega), x_ne (by omega), x_eq]
  · rw [x1 _ _ (by omega), x_ne (by omega), flR_ne (by omega), x_ne (by omega), x_ne (by omega), x_ne (by omega), x_eq]
  · rw [x1 _ _ (by omega), x_ne (by omega), flR_ne (by omega), x_ne (by omega), x_ne (by omega), x_eq]
  · rw [x1 _ _ (by omega), x_ne (by omega), flR_ne (by omega), x_ne (by omega), x_eq]
  · rw [x1 _ _ (by omega), x_ne (by omega), flR_ne (by omega), x_eq]
  · rw [x1 _ _ (by omega), x_ne (by omega), flR_eq hd]
/-- the reference's heap when the reading begins -/
theorem rd0 {m : AH} (L : LM m) : ∃ m', f_X11_readAll_L26 FU m 226 (0 : Int32) = f_X11_readAll_L47 FU m' 226 (1 : Int32) ∧ m'.2 = m.2 ∧ (∀ o k, o ≠ 238 → hI m' o k = hI m o k) ∧ ∀ d, d < 16 → hI m' 238 d = 0 := by
  have lp : ∀ r j f, j + r = 16 → r < f → f_X11_readAll_L26 f (flR m 238 j 0) 226 (nI j) = f_X11_readAll_L47 FU (flR m 238 16 0) 226 (1 : Int32) := by
    intro r
    induction r with
    | zero =>
      intro j f hj hf
      obtain ⟨f, rfl⟩ : ∃ q, f = q + 1 := ⟨f - 1, by omega⟩
      have : j = 16 := by omega
      subst this
      rw [f_X11_readAll_L26, if_pos (show (16 : Int32) ≤ nI 16 from by decide), y_lt]
    | succ r ih =>
      intro j f hj hf
      obtain ⟨f, rfl⟩ : ∃ q, f = q + 1 := ⟨f - 1, by omega⟩
      have Lj : LM (flR m 238 j 0) := LM_2 L rfl
      have e : sI (flR m 238 j 0) 238 j 0 = flR m 238 (j + 1) 0 := by
        refine AH_ext rfl (fun p k => ?_)
        rw [x_hI_sI, flR_hI, flR_hI]
        by_cases c1 : p = 238 ∧ k = j
        · rw [if_pos c1, if_pos ⟨c1.1, by omega⟩]
        · rw [if_neg c1]
          by_cases c2 : p = 238 ∧ k < j
          · rw [if_pos c2, if_pos ⟨c2.1, by omega⟩]
          · rw [if_neg c2, if_neg (fun q => by omega)]
      rw [f_X11_readAll_L26, if_neg (show ¬ (16 : Int32) ≤ nI j from fun q => by have := (q_le (a := 16) (by omega) (by omega)).mp q; omega), y_gs, if_pos (lm_S226 Lj), lm_R19 Lj, y_gs, if_pos (lm_S238 Lj), lm_N238 Lj, y_gb, if_pos (q_ib (by omega) (by omega)), q_cl (by omega), y_lt, q_add1, y_lt, e]
      exact ih (j + 1) f (by omega) (by omega)
  have e0 : flR m 238 0 0 = m := AH_ext rfl (fun p k => flR_ne (by omega))
  have := lp 16 0 FU (by omega) (FU_gt (by omega))
  rw [e0] at this
  exact ⟨_, this, rfl, fun o k q => flR_ne (by omega), fun d hd => flR_eq hd⟩
theorem FrTk_B {m m' : AH} (F : FrTk m m') : FB m m' := ⟨F.1, fun o k h1 h2 => F.2.1 o k (by omega) (by omega) (by omega)⟩
/-- both have read the text: it tells, or both refuse -/
def TB (h m : AH) (X : Option (Int32 × AH)) (Y : Option AH) : Prop :=
  (∃ h0 m0 h' m' n L a g x, X = some (nI (g 7 n), h') ∧ Y = some m' ∧ AC h0 m0 n L a g ∧ LC h0 ∧ LM m0 ∧ CKi h0 h' g L n ∧ RK h0 m0 m' g L n ∧ FC h' x ∧ FK m' x ∧ x = min (mn (DL h0 g) L) (mn (KI h0 g L) n) ∧ (n ≤ 375 ∧ L ≤ 750 ∧ g 7 n ≤ 375) ∧ FA h h' ∧ FB m m') ∨
  (∃ h' m' p, X = some ((-1 : Int32), h') ∧ Y = some m' ∧ p ≤ 1500 ∧ hI h' 4 16 = (1 : Int32) ∧ hI h' 4 17 = nI p ∧ hI m' 226 3 = (1 : Int32) ∧ hI m' 226 4 = nI p ∧ FA h h' ∧ FB m m')
theorem CK_A {h hk : AH} {g : Gh} {L k : Nat} (C : CKi h hk g L k) : FA h hk := ⟨C.1, fun o j h1 h2 => C.2.1 o j (by omega)⟩
theorem RK_B {h m mk : AH} {g : Gh} {L k : Nat} (R : RK h m mk g L k) : FB m mk := ⟨by rw [R.1], fun o j h1 h2 => R.2.1 o j (by omega) (by omega)⟩
theorem read_both {h m : AH} {s : St} {e : Ex} {b : Nat} (R : Rel h m s e b) (he : e 8 0 = e 8 1) (NM : NR m) : TB h m (f_X1_translate h 4) (f_X11_readAll (sI (sI m 226 3 (0 : Int32)) 226 4 (0 : Int32)) 226) := by
  obtain ⟨C, M⟩ := Rel_CT R he
  have CS : cst m := R.2.2.2.2.2.2.2.2.2.2.2.2.2
  have zc : ∀ i, e 8 1 ≤ i → tch e i = 0 := M.2.2.2.2.2
  have T15 := C.2.2.2.1
  have F34 : FN m (sI (sI m 226 3 (0 : Int32)) 226 4 (0 : Int32)) := FN_34 m 0 0
  have M' : RT (sI (sI m 226 3 (0 : Int32)) 226 4 (0 : Int32)) (tch e) (e 8 1) := RT_of M rfl (fun o k q => F34.2 o k (by omega))
  obtain ⟨mt, Nn, t1, t2, t3, t4, t5, t6⟩ := r_tokenize M'
  have Lt : LM mt := LM_3 M'.1 t2.1
  obtain ⟨m4, hm4⟩ : ∃ q, q = sI (sI (sI (sI mt 226 9 (0 : Int32)) 226 10 (0 : Int32)) 226 13 (0 : Int32)) 226 20 (0 : Int32) := ⟨_, rfl⟩
  have m4f : m4.2 = mt.2 ∧ (∀ o k, ¬ (o = 226 ∧ (k = 9 ∨ k = 10 ∨ k = 13 ∨ k = 20)) → hI m4 o k = hI mt o k) ∧ hI m4 226 9 = 0 ∧ hI m4 226 10 = 0 ∧ hI m4 226 13 = 0 ∧ hI m4 226 20 = 0 := by
    rw [hm4]
    refine ⟨rfl, fun o k q => ?_, ?_, ?_, ?_, ?_⟩
    · rw [x_ne (by omega), x_ne (by omega), x_ne (by omega), x_ne (by omega)]
    · rw [x_ne (by omega), x_ne (by omega), x_ne (by omega), x_eq]
    · rw [x_ne (by omega), x_ne (by omega), x_eq]
    · rw [x_ne (by omega), x_eq]
    · rw [x_eq]
  obtain ⟨f0, f1, f9, f10, f13, f20⟩ := m4f
  have L4 : LM m4 := LM_2 Lt f0
  obtain ⟨m5, z1, z2, z3, z4⟩ := rd0 L4
  have L5 : LM m5 := LM_2 L4 z2
  have Y : f_X11_readAll (sI (sI m 226 3 (0 : Int32)) 226 4 (0 : Int32)) 226 = f_X11_readAll_L47 FU m5 226 (1 : Int32) := by
    unfold f_X11_readAll
    rw [y_gs, if_pos (lm_S226 M'.1), t1, y_bds, y_gs, if_pos (lm_S226 Lt), y_lt, y_lt, y_lt, y_lt, y_lt, ← hm4, z1]
  obtain ⟨a0, a1, a2, a3, a4, a5, a6, a7⟩ := tr0_f h (tch e) (e 8 1)
  have X := tr0_e C
  have fb5 : FB m m5 := FB_tr (FN_B F34) (FB_tr (FrTk_B t2) (FB_tr ⟨by rw [f0], fun o k h1 h2 => f1 o k (by omega)⟩ ⟨by rw [z2], fun o k h1 h2 => z3 o k (by omega)⟩))
  have L0 : LC (tr0 h (tch e) (e 8 1)) := LC_2 C.1 a0.1
  have m5i : ∀ o k, o ≠ 238 → ¬ (o = 226 ∧ (k = 9 ∨ k = 10 ∨ k = 13 ∨ k = 20)) → hI m5 o k = hI mt o k := fun o k q1 q2 => (z3 o k q1).trans (f1 o k q2)
  have m5L : ∀ o k, hL m5 o k = hL mt o k := fun o k => by show m5.2.1 o k = mt.2.1 o k; rw [z2, f0]
  have AC0 : AC (tr0 h (tch e) (e 8 1)) m5 0 0 0 (fun _ _ => 0) := by
    refine ⟨⟨a1, ?_, a4⟩, ⟨a2, ?_⟩, ⟨a3, ?_, rfl, by omega⟩, fun j hj => absurd hj (by omega), fun k hk => absurd hk (by omega), fun d hd => ⟨a7 d hd, z4 d hd, Nat.zero_le _⟩, ⟨a5, a6⟩, ⟨?_, ?_⟩, rfl⟩
    · rw [z3 _ _ (by omega)]; exact f13
    · rw [z3 _ _ (by omega)]; exact f10
    · rw [z3 _ _ (by omega)]; exact f20
    · exact cst_of CS (fun o k q => fb5.2 o k (by omega) (by omega))
    · intro k hk
      have : hR m5 273 k = hR m 273 k := by show m5.2.2.1 273 k = m.2.2.1 273 k; rw [fb5.1]
      rw [this]; exact NM k hk
  have TQ0 : TQ (tr0 h (tch e) (e 8 1)) m5 (tch e) (e 8 1) Nn 0 := by
    refine ⟨⟨CT_of C a0.1 (fun o k q => a0.2 o k (by omega) (by omega)), ?_, ?_, ?_, ?_⟩, ⟨L5, fun j hj => ?_, ?_⟩, by omega, t3, t5, t6⟩
    · unfold tr0 tkH; rw [x_hI_sL, x_ne (by omega), x_ne (by omega), x_eq]
    · unfold tr0 tkH; rw [x_hI_sL, x_ne (by omega), x_eq]
    · unfold tr0 tkH; rw [x_hI_sL, x_eq]
    · unfold tr0 tkH; rw [x_hL_sL, if_pos (⟨rfl, rfl⟩ : (2 : Nat) = 2 ∧ (5 : Nat) = 5)]
    · have := t4 j hj
      unfold tkA at this ⊢
      rw [m5i 228 _ (by omega) (by omega), m5i 229 _ (by omega) (by omega), m5L]; exact this
    · rw [z3 _ _ (by omega)]; exact f9
  have FK0 : FK m5 (KX (tr0 h (tch e) (e 8 1)) (fun _ _ => 0) 0 0) := by
    left
    refine ⟨rfl, ?_, ?_⟩
    · rw [m5i _ _ (by omega) (by omega), t2.2.1 _ _ (by omega) (by omega) (by omega), x_ne (by omega), x_eq]
    · rw [m5i _ _ (by omega) (by omega), t2.2.1 _ _ (by omega) (by omega) (by omega), x_eq]
  have S : AT (tr0 h (tch e) (e 8 1)) m5 (tch e) (e 8 1) Nn 0 := ⟨0, 0, 0, fun _ _ => 0, AC0, TQ0, FK0, by omega, by omega, Nat.zero_le _⟩
  rw [X, Y]
  have rd := rd_lp zc Nn 1500 FU FU S (by omega) (by omega) (by omega) (FU_gt (by omega)) (FU_gt (by omega))
  rcases rd with ⟨h', m', n, L, a, g, e1, e2', ⟨E1, E2, E3, E4, E5, E6, E7⟩, e4, e5⟩ | ⟨h', m', p, e1, e2', e3, e4, e5, e6, e7, e8, e9, e10⟩
  · left
    obtain ⟨h2, c1, c2, c3⟩ := c_L79 E3 E1 E6 E5
    obtain ⟨m2, r1, r2, r3⟩ := r_L71 E3 E2 E6 E7 E4
    exact ⟨h', m', h2, m2, n, L, a, g, _, by rw [e1, c1], by rw [e2', r1], E3, E1, E2, c2, r2, c3, r3, rfl, ⟨E5, E6, E7⟩, FA_tr a0 (FA_tr e4 (CK_A c2)), FB_tr fb5 (FB_tr e5 (RK_B r2))⟩
  · right
    exact ⟨h', m', p, e1, by rw [e2', r_L71_0 e3], e4, e5, e6, e7, e8, FA_tr a0 e9, FB_tr fb5 e10⟩
