theorem amin_in {f : Nat → Nat} {n : Nat} : ∀ {k i : Nat}, amin f k i n = k ∨ (i ≤ amin f k i n ∧ amin f k i n < i + n) := by
  induction n with
  | zero => intro k i; exact Or.inl rfl
  | succ n ih =>
    intro k i
    rw [amin]
    split
    · rcases @ih i (i + 1) with h | h
      · rw [h]; exact Or.inr ⟨Nat.le_refl _, by omega⟩
      · exact Or.inr ⟨by omega, by omega⟩
    · rcases @ih k (i + 1) with h | h
      · exact Or.inl h
      · exact Or.inr ⟨by omega, by omega⟩
theorem sLru_lt {s : St} (B : Bz s) (c l : Nat) : sSet s c l ≤ sLru s c l ∧ sLru s c l < sSet s c l + N s 0 3 := by
  have h2 := bz_ways B
  unfold sLru
  rcases @amin_in (N s 3) (N s 0 3 - 1) (sSet s c l) (sSet s c l + 1) with h | h <;> omega
theorem r_lruLoop {m : AH} {s : St} (R : RM m s) (B : Bz s) (G : Rg s) {c l e : Nat} (hc : c < 16) (hl : l < 512) (he : sSet s c l + N s 0 3 = e) (n : Nat) : ∀ (k i f : Nat), i + n = e → k < 512 →
    f_X11_leave_L12 (f + n) m 226 (nI c) (nI l) (nI k) (nI i) = f_X11_leave_L12 f m 226 (nI c) (nI l) (nI (amin (N s 3) k i n)) (nI e) := by
  have L := rm_L R
  have hs := sSet_le B c l
  induction n with
  | zero => intro k i f hi hk; rw [show i = e by omega]; rfl
  | succ n ih =>
    intro k i f hi hk
    have g1 := G 3 i (by omega) (by show i < 512; omega)
    have g2 := G 3 k (by omega) (by show k < 512; omega)
    have c0 : ¬ e ≤ i := by omega
    rw [amin, ← Nat.add_assoc]
    rw [← ih _ (i + 1) f (by omega) (by split <;> omega)]
    rw [f_X11_leave_L12, y_gs, if_pos (lm_S226 L), r_setOf R B (by omega), y_bds, lm_R21 L, y_gs, if_pos (lm_S239 L), lm_N239 L, y_gb, if_pos (show ib (3 : Int32) 6 = true from rfl), show (3 : Int32).toNatClampNeg = 3 from rfl, rm_0 R (by omega), q_add, he, if_neg (show ¬ nI e ≤ nI i from fun h => c0 ((q_le (by omega) (by omega)).mp h))]
    simp (disch := omega) only [f_X11_leave_L52, ↓y_gs, ↓y_gb, ↓y_lt, ↓y_bds, q_lit, q_cl, q_ib, q_add, q_mul, ↓reduceIte, decide_true, Nat.reduceAdd, Nat.reduceMul, lm_S226 L, lm_R46 L, lm_S260 L, lm_N260 L, rm_3 R, q_le]
    by_cases c1 : N s 3 i < N s 3 k
    · rw [if_neg (by omega), if_pos c1]
    · rw [if_pos (by omega), if_neg c1]
theorem r_leave {m : AH} {s : St} (R : RM m s) (B : Bz s) (G : Rg s) (C1 : ∀ k, k < 512 → N s 1 k < 512) {c l : Nat} (hc : c < 16) (hl : l < 512) (hp : (Pl s).length + 17 < 8400) :
    ∃ m', f_X11_leave m 226 (nI c) (nI l) = some ((if 1 < N s 2 (sLru s c l) ∧ N s 13 c ≠ 0 then nI 0 else nI 1), m') ∧ RM m' (if 1 < N s 2 (sLru s c l) then (if N s 13 c ≠ 0 then s else uN (sShelve s c (sLru s c l)) 2 (sLru s c l) 0) else uN s 2 (sLru s c l) 0) ∧ Fr m m' := by
  have L := rm_L R
  have hs := sSet_le B c l
  have h2 := bz_ways B
  have hk := sLru_lt B c l
  have g2 := G 2 (sLru s c l) (by omega) (by show _ < 512; omega)
  have g13 := G 13 c (by omega) hc
  obtain ⟨f, hf⟩ := FU_ex (n := N s 0 3 - 1) (by omega)
  unfold f_X11_leave
  rw [y_gs, if_pos (lm_S226 L), r_setOf R B (by omega), y_bds, y_lt, show (1 : Int32) = nI 1 from rfl, q_add, hf, r_lruLoop R B G hc hl rfl _ _ _ _ (by omega) (by omega)]
  change ∃ m', f_X11_leave_L12 (f + 1) m 226 (nI c) (nI l) (nI (sLru s c l)) (nI (sSet s c l + N s 0 3)) = _ ∧ _ ∧ _
  generalize sLru s c l = k at *
  have C1k := C1 k (by omega)
  have l128 : ∀ (b : AH) (t : St), RM b t → ∃ m', f_X11_leave_L128 b 226 (nI k) = some (nI 1, m') ∧ RM m' (uN t 2 k 0) ∧ Fr b m' := by
    intro b t Rb
    have Lb := rm_L Rb
    unfold f_X11_leave_L128
    simp (disch := omega) only [↓y_gs, ↓y_gb, ↓y_lt, ↓y_bds, q_lit, q_cl, q_ib, q_add, q_mul, ↓reduceIte, decide_true, Nat.reduceAdd, Nat.reduceMul, lm_S226 Lb, lm_R45 Lb, lm_S259 Lb, lm_N259 Lb]
    exact ⟨_, rfl, ru_2 Rb (by omega), Fr_sI (Fr_rfl b) _ rfl⟩
  rw [f_X11_leave_L12, y_gs, if_pos (lm_S226 L), r_setOf R B (by omega), y_bds, lm_R21 L, y_gs, if_pos (lm_S239 L), lm_N239 L, y_gb, if_pos (show ib (3 : Int32) 6 = true from rfl), show (3 : Int32).toNatClampNeg = 3 from rfl, rm_0 R (by omega), q_add, if_pos (show nI (sSet s c l + N s 0 3) ≤ nI (sSet s c l + N s 0 3) from (q_le (by omega) (by omega)).mpr (Nat.le_refl _)), lm_R45 L, y_gs, if_pos (lm_S259 L), lm_N259 L, y_gb, if_pos (q_ib (show k < 512 by omega) (by omega)), q_cl (show k < 2 ^ 31 by omega), rm_2 R (by omega)]
  by_cases c1 : 1 < N s 2 k
  · rw [if_neg (show ¬ nI (N s 2 k) ≤ (1 : Int32) from fun h => by have := (q_le (b := 1) (by omega) (by omega)).mp h; omega), if_pos c1]
    rw [lm_R35 L, y_gs, if_pos (lm_S253 L), lm_N253 L, y_gb, if_pos (q_ib (show c < 16 by omega) (by omega)), q_cl (show c < 2 ^ 31 by omega), rm_13 R hc]
    by_cases c2 : N s 13 c = 0
    · rw [if_pos (show pI (N s 13 c) = (-1 : Int32) from (pI_nN (by omega)).mpr c2), if_neg (by omega), if_neg (by omega)]
      have R1 := RM_gW (F := 3) (i := c) (w := Wda s 4 k) (ru_14 (v := 0) (ru_13 (v := N s 1 k + 1) R hc) hc) (by omega)
      rw [pI_s] at R1
      have L1 := rm_L R1
      obtain ⟨a, ea, Ra, Fa, Ha⟩ := r_blank R1 2 c 16 (N s 1 k)
      obtain ⟨b, eb, Rb, Fb, Hb⟩ := r_withWords Ra Ha C1k
      obtain ⟨d, ed, Rd, Fd⟩ := r_post Rb Hb (show (Pl s).length < 8400 by omega)
      obtain ⟨w, ew, Rw, Fw⟩ := l128 d _ Rd
      have La := rm_L Ra; have Lb := rm_L Rb
      have e1 : hI a 258 k = nI (N s 1 k) := rm_1 Ra (by omega)
      simp (disch := omega) only [↓y_gs, ↓y_gb, ↓y_lt, ↓y_bds, q_lit, q_cl, q_ib, q_add, q_mul, ↓reduceIte, decide_true, Nat.reduceAdd, Nat.reduceMul, x_hI_sI, x_hR_sI, x_hS_sI, x_hN_sI, lm_S226 L, lm_R44 L, lm_S258 L, lm_N258 L, lm_R35 L, lm_S253 L, lm_N253 L, lm_R36 L, lm_S254 L, lm_N254 L, rm_1 R, q_00, Nat.reduceEqDiff, false_and]
      rw [ea]
      simp (disch := omega) only [↓y_gs, ↓y_gb, ↓y_lt, ↓y_bds, q_lit, q_cl, q_ib, q_add, q_mul, ↓reduceIte, decide_true, Nat.reduceAdd, Nat.reduceMul, lm_S226 La, lm_R44 La, lm_S258 La, lm_N258 La, e1]
      rw [eb]
      simp (disch := omega) only [↓y_gs, ↓y_gb, ↓y_lt, ↓y_bds, q_lit, q_cl, q_ib, q_add, q_mul, ↓reduceIte, decide_true, Nat.reduceAdd, Nat.reduceMul, lm_S226 Lb]
      rw [ed, y_bds, ew]
      exact ⟨w, rfl, Rw, Fr_tr (Fr_sI (Fr_sI (Fr_rfl m) _ rfl) _ rfl) (Fr_tr Fa (Fr_tr Fb (Fr_tr Fd Fw)))⟩
    · rw [if_neg (show ¬ pI (N s 13 c) = (-1 : Int32) from fun h => c2 ((pI_nN (by omega)).mp h)), if_pos c2, if_pos ⟨c1, c2⟩]
      exact ⟨m, rfl, R, Fr_rfl m⟩
  · rw [if_pos (show nI (N s 2 k) ≤ (1 : Int32) from (q_le (b := 1) (by omega) (by omega)).mpr (by omega)), if_neg c1, if_neg (fun h => c1 h.1)]
    exact l128 m s R
theorem r_req {m : AH} {s : St} (R : RM m s) {c l kd : Nat} (hc : c < 16) (hkd : kd ≤ 1) (hp : (Pl s).length + 17 < 8401) :
    ∃ m', f_X11_miss_L51 m 226 (nI c) (nI l) (if kd = 0 then nI 1 else nI 3) = some m' ∧ RM m' (sReq s c l kd) ∧ Fr m m' := by
  have L := rm_L R
  have key : ∃ m', f_X11_miss_L62 m 226 (nI c) (nI l) 226 (nI kd) = some m' ∧ RM m' (sReq s c l kd) ∧ Fr m m' := by
    obtain ⟨a, ea, Ra, Fa⟩ := r_send R kd c 16 l (by omega)
    have La := rm_L Ra
    have R1 := ru_12 (v := l + 1) Ra hc
    rw [pI_s] at R1
    have e15 : hI a 247 c = nI (N s 15 c) := rm_15 Ra hc
    unfold f_X11_miss_L62
    simp (disch := omega) only [↓y_gs, ↓y_gb, ↓y_lt, ↓y_bds, q_lit, q_cl, q_ib, q_add, q_mul, ↓reduceIte, decide_true, Nat.reduceAdd, Nat.reduceMul, lm_S226 L]
    rw [ea]
    simp (disch := omega) only [↓y_gs, ↓y_gb, ↓y_lt, ↓y_bds, q_lit, q_cl, q_ib, q_add, q_mul, ↓reduceIte, decide_true, Nat.reduceAdd, Nat.reduceMul, x_hI_sI, x_hR_sI, x_hS_sI, x_hN_sI, lm_S226 La, lm_R34 La, lm_S252 La, lm_N252 La, lm_R29 La, lm_S247 La, lm_N247 La, Nat.reduceEqDiff, false_and, e15]
    exact ⟨_, rfl, ru_15 (v := N s 15 c + 1) R1 hc, Fr_sI (Fr_sI Fa _ rfl) _ rfl⟩
  unfold f_X11_miss_L51
  have : kd = 0 ∨ kd = 1 := by omega
  rcases this with rfl | rfl
  · rw [if_pos rfl, if_neg (show ¬ ¬ nI 1 = (1 : Int32) from fun h => h rfl)]; exact key
  · rw [if_neg (show ¬ 1 = 0 by omega), if_pos (show ¬ nI 3 = (1 : Int32) from by decide)]; exact key
theorem r_miss {m : AH} {s : St} (R : RM m s) (B : Bz s) (G : Rg s) (C1 : ∀ k, k < 512 → N s 1 k < 512) {c l kd : Nat} (hc : c < 16) (hl : l < 512) (hkd : kd ≤ 1) (hp : (Pl s).length + 17 < 8400) :
    ∃ m', f_X11_miss m 226 (nI c) (nI l) (if kd = 0 then nI 1 else nI 3) = some m' ∧ RM m' (sMiss s c l kd) ∧ Fr m m' := by
  have L := rm_L R
  have g12 := G 12 c (by omega) hc
  have g13 := G 13 c (by omega) hc
  unfold f_X11_miss sMiss
  rw [y_gs, if_pos (lm_S226 L), lm_R34 L, y_gs, if_pos (lm_S252 L), lm_N252 L, y_gb, if_pos (q_ib (show c < 16 by omega) (by omega)), q_cl (show c < 2 ^ 31 by omega), rm_12 R hc]
  by_cases c1 : N s 12 c = 0
  · rw [if_neg (show ¬ ¬ pI (N s 12 c) = (-1 : Int32) from fun h => h ((pI_nN (by omega)).mpr c1))]
    rw [lm_R35 L, y_gs, if_pos (lm_S253 L), lm_N253 L, y_gb, if_pos (q_ib (show c < 16 by omega) (by omega)), rm_13 R hc]
    by_cases c2 : N s 13 c = l + 1
    · rw [if_neg (show ¬ ¬ pI (N s 13 c) = nI l from fun h => h ((pI_nI (by omega) (by omega)).mpr c2)), if_pos (Or.inr c2)]
      exact ⟨m, rfl, R, Fr_rfl m⟩
    · rw [if_pos (show ¬ pI (N s 13 c) = nI l from fun h => c2 ((pI_nI (by omega) (by omega)).mp h)), if_neg (show ¬ (N s 12 c ≠ 0 ∨ N s 13 c = l + 1) from fun h => by omega), r_wayOf R B G hc hl, y_bds]
      cases e : sWay s c l with
      | some k =>
        obtain ⟨hk, _, _, _, _⟩ := sWay_lt B hc e
        rw [oI_s, if_pos (show ¬ nI k = (-1 : Int32) from q_nN_ne (by omega)), if_pos (Or.inl (by simp))]
        exact r_req R hc hkd (by omega)
      | none =>
        rw [if_neg (show ¬ ¬ oI none = (-1 : Int32) from fun h => h rfl), r_freeWay R B G hc hl, y_bds]
        cases e2 : sFree s c l with
        | some k =>
          obtain ⟨hk, _, _, _⟩ := sFree_lt B hc e2
          rw [oI_s, if_pos (show ¬ nI k = (-1 : Int32) from q_nN_ne (by omega)), if_pos (Or.inr (by simp))]
          exact r_req R hc hkd (by omega)
        | none =>
          rw [if_neg (show ¬ ¬ oI none = (-1 : Int32) from fun h => h rfl), if_neg (show ¬ ((none : Option Nat) ≠ none ∨ (none : Option Nat) ≠ none) from by simp)]
          obtain ⟨a, ea, Ra, Fa⟩ := r_leave R B G C1 hc hl hp
          rw [ea, y_bds]
          by_cases d1 : 1 < N s 2 (sLru s c l)
          · by_cases d2 : N s 13 c = 0
            · rw [if_pos d1, if_neg (show ¬ N s 13 c ≠ 0 by omega)] at Ra
              rw [if_neg (show ¬ (1 < N s 2 (sLru s c l) ∧ N s 13 c ≠ 0) from fun h => h.2 d2), if_pos d1, if_neg (show ¬ N s 13 c ≠ 0 by omega)]
              rw [if_pos (show ¬ (nI 1, a).1 = (0 : Int32) from by show ¬ nI 1 = 0; decide)]
              obtain ⟨b, eb, Rb, Fb⟩ := r_req (l := l) (kd := kd) Ra hc hkd (by show (Pl s ++ [_]).length + 17 < 8401; rw [List.length_append]; simp; omega)
              exact ⟨b, eb, Rb, Fr_tr Fa Fb⟩
            · rw [if_pos d1, if_pos d2] at Ra
              rw [if_pos (⟨d1, d2⟩ : 1 < N s 2 (sLru s c l) ∧ N s 13 c ≠ 0), if_pos d1, if_pos d2]
              rw [if_neg (show ¬ ¬ (nI 0, a).1 = (0 : Int32) from fun h => h rfl)]
              exact ⟨a, rfl, Ra, Fa⟩
          · rw [if_neg d1] at Ra
            rw [if_neg (show ¬ (1 < N s 2 (sLru s c l) ∧ N s 13 c ≠ 0) from fun h => d1 h.1), if_neg d1]
            rw [if_pos (show ¬ (nI 1, a).1 = (0 : Int32) from by show ¬ nI 1 = 0; decide)]
            obtain ⟨b, eb, Rb, Fb⟩ := r_req (l := l) (kd := kd) Ra hc hkd (show (Pl s).length + 17 < 8401 by omega)
            exact ⟨b, eb, Rb, Fr_tr Fa Fb⟩
  · rw [if_pos (show ¬ pI (N s 12 c) = (-1 : Int32) from fun h => c1 ((pI_nN (by omega)).mp h)), if_pos (Or.inl c1)]
    exact ⟨m, rfl, R, Fr_rfl m⟩
theorem r_changes {m : AH} {s : St} (R : RM m s) (B : Bz s) (G : Rg s) (C1 : ∀ k, k < 512 → N s 1 k < 512) {c a : Nat} (hc : c < 16) (ha : a < 8192) (hp : (Pl s).length + 17 < 8400) :
    ∃ m', f_X11_changes m 226 (nI c) (nI a) = some ((match sWay s c (a / 16) with | some k => if 2 ≤ N s 2 k then nI 1 else nI 0 | none => nI 0), m') ∧ RM m' (match sWay s c (a / 16) with | some k => if 2 ≤ N s 2 k then sChange s k else sMiss s c (a / 16) 1 | none => sMiss s c (a / 16) 1) ∧ Fr m m' := by
  have L := rm_L R
  have hl : a / 16 < 512 := by omega
  unfold f_X11_changes
  rw [y_gs, if_pos (lm_S226 L), show (16 : Int32) = nI 16 from rfl, q_div (by omega) (by omega), r_wayOf R B G hc hl, y_bds]
  have l25 : ∃ m', f_X11_changes_L25 m 226 (nI c) (nI a) = some (nI 0, m') ∧ RM m' (sMiss s c (a / 16) 1) ∧ Fr m m' := by
    obtain ⟨b, eb, Rb, Fb⟩ := r_miss (kd := 1) R B G C1 hc hl (by omega) hp
    refine ⟨b, ?_, Rb, Fb⟩
    unfold f_X11_changes_L25
    rw [y_gs, if_pos (lm_S226 L), show (16 : Int32) = nI 16 from rfl, q_div (by omega) (by omega)]
    rw [if_neg (by omega)] at eb
    rw [show (3 : Int32) = nI 3 from rfl, eb]; rfl
  cases e : sWay s c (a / 16) with
  | none =>
    rw [if_pos (show oI none = (-1 : Int32) from rfl)]
    exact l25
  | some k =>
    obtain ⟨hk, _, _, _, _⟩ := sWay_lt B hc e
    have g2 := G 2 k (by omega) hk
    rw [oI_s, if_neg (show ¬ nI k = (-1 : Int32) from q_nN_ne (by omega)), lm_R45 L, y_gs, if_pos (lm_S259 L), lm_N259 L, y_gb, if_pos (q_ib hk (by omega)), q_cl (show k < 2 ^ 31 by omega), rm_2 R hk]
    by_cases c2 : 2 ≤ N s 2 k
    · rw [if_pos (show (2 : Int32) ≤ nI (N s 2 k) from (q_le (a := 2) (by omega) (by omega)).mpr c2)]
      simp only [c2, ↓reduceIte]
      obtain ⟨b, eb, Rb, Fb⟩ := r_use R hk
      have Lb := rm_L Rb
      have R1 := ru_2 (v := 3) Rb hk
      have e19 : hI b 226 64 = nI (N s 19 0) := rm_19 (s := sUse s k) Rb
      rw [eb]
      simp (disch := omega) only [↓y_gs, ↓y_gb, ↓y_lt, ↓y_bds, q_lit, q_cl, q_ib, q_add, q_mul, ↓reduceIte, decide_true, Nat.reduceAdd, Nat.reduceMul, x_hI_sI, x_hR_sI, x_hS_sI, x_hN_sI, lm_S226 Lb, lm_R45 Lb, lm_S259 Lb, lm_N259 Lb, Nat.reduceEqDiff, false_and, e19]
      exact ⟨_, rfl, RM_g (ru_19 (v := N s 19 0 + 1) R1) (by omega), Fr_sI (Fr_sI Fb _ rfl) _ rfl⟩
    · rw [if_neg (show ¬ (2 : Int32) ≤ nI (N s 2 k) from fun h => c2 ((q_le (a := 2) (by omega) (by omega)).mp h))]
      simp only [c2, ↓reduceIte]
      exact l25
