/-! An instruction in both. -/
theorem NE_skip {hn form fp : Nat} {z : Int64} {hw : Int32} {x : Nat} {ch : Nat} {l : List Nat} {nk np : Nat} {hw' : Int32} {x' : Nat} (h1 : ch ≠ 78) (h2 : ch ≠ 110) (H : NE hn form fp z hw x (ch :: l) nk np hw' x') : NE hn form fp z hw x l nk np hw' x' := by
  unfold NE at H; rw [if_neg h1, if_neg h2] at H; exact H
theorem NE_78 {hn form fp : Nat} {z : Int64} {hw : Int32} {x : Nat} {nk np : Nat} {hw' : Int32} {x' : Nat} : ∀ l : List Nat, (∀ ch, ch ∈ l → ch ≠ 110) → nNu l = 1 → NE hn form fp z hw x l nk np hw' x' → hw' = nI hn ∧ (nk = 1 ∧ x' = (if fitB form z = true then x else min x (4 * np + 3)) ∨ nk = 2 ∧ x' = x)
  | [], _, h, _ => absurd h (by decide)
  | ch :: l, hc, h, H => by
    by_cases e : ch = 78
    · unfold NE at H; rw [if_pos e] at H; exact H
    · have e2' := hc ch (List.mem_cons_self)
      have : isNu ch = false := by unfold isNu; exact decide_eq_false (by omega)
      have nl : nNu (ch :: l) = (if isNu ch = true then 1 else 0) + nNu l := rfl
      rw [nl, this] at h
      exact NE_78 l (fun d hd => hc d (List.mem_cons_of_mem _ hd)) (by simpa using h) (NE_skip e e2' H)
theorem NE_110 {hn form fp : Nat} {z : Int64} {hw : Int32} {x : Nat} {nk np : Nat} {hw' : Int32} {x' : Nat} (H : NE hn form fp z hw x [110] nk np hw' x') : hw' = hw ∧ nk = 1 ∧ (∃ v, v < 2 ^ 40 ∧ z = Int64.ofNat v) ∧ x' = (if fitB fp z = true then x else min x (4 * np + 3)) := by
  unfold NE at H
  rw [if_neg (by decide), if_pos rfl] at H; exact H
theorem how_110 : ∀ how, how ≤ 16 → (how = 15 ∨ how = 16 → opl how = [110]) ∧ (how ≠ 15 → how ≠ 16 → ∀ ch, ch ∈ opl how → ch ≠ 110) := by decide +kernel
theorem q_add1 (i : Nat) : nI i + (1 : Int32) = nI (i + 1) := by rw [show (1 : Int32) = nI 1 from rfl, q_add]
theorem fit78 (z : Int64) : fitB 7 z = fitB 8 z := rfl
/-- refused in both -/
def FR3 (h m : AH) (c : Nat → Nat) (T i Nn : Nat) (X Y : Option (Int32 × AH)) : Prop := ∃ h' m' p, X = some ((0 : Int32), h') ∧ Y = some ((0 : Int32), m') ∧ (p ≤ 1500 ∧ ∃ i', p = ts c T i' ∧ i ≤ i' ∧ i' ≤ Nn) ∧ hI h' 4 16 = (1 : Int32) ∧ hI h' 4 17 = nI p ∧ hI m' 226 3 = (1 : Int32) ∧ hI m' 226 4 = nI p ∧ FA h h' ∧ FB m m'
theorem FJ_B {m m' : AH} (h : FJ m m') : FB m m' := ⟨h.1, fun o k h1 h2 => h.2.1 o k (by omega)⟩
theorem FR3_of {h m h1 m1 : AH} {c : Nat → Nat} {T i i1 Nn : Nat} {X Y : Option (Int32 × AH)} (hi : i ≤ i1) (a : FA h h1) (b : FB m m1) (H : FR3 h1 m1 c T i1 Nn X Y) : FR3 h m c T i Nn X Y := by
  obtain ⟨h', m', p, e1, e2, e3, e4, e5, e6, e7, e8, e9⟩ := H
  obtain ⟨e3, i3, e3a, e3b, e3c⟩ := e3
  exact ⟨h', m', p, e1, e2, ⟨e3, i3, e3a, by omega, e3c⟩, e4, e5, e6, e7, FA_tr a e8, FB_tr b e9⟩
theorem FA_tk (h : AH) (c : Nat → Nat) (T p : Nat) : FA h (tkH h c T p) := FI_A (n := 0) (FI_tk 0 h c T p)
/-- the end of a statement -/
theorem end_both {h m : AH} {c : Nat → Nat} {T Nn i : Nat} (Q : TQ h m c T Nn i) : (f_X1_readEnd h 4 = some ((1 : Int32), tkH h c T (ts c T (i + 1))) ∧ f_X11_readStatement_L402 m 226 = some ((1 : Int32), sI m 226 9 (nI (i + 1))) ∧ i < Nn ∧ TQ (tkH h c T (ts c T (i + 1))) (sI m 226 9 (nI (i + 1))) c T Nn (i + 1)) ∨ FR3 h m c T i Nn (f_X1_readEnd h 4) (f_X11_readStatement_L402 m 226) := by
  have C := Q.1.1
  have L := C.1
  have L2 := Q.2.1.1
  have kl := kind_lt C (ts c T i)
  have kk : hI h 2 3 = nI (tKind c T (ts c T i)) := Q.1.2.2.1
  have kp : hI h 2 4 = nI (ts c T i) := Q.1.2.2.2.1
  have tT := ts_le c T i
  have T15 := C.2.2.2.1
  obtain ⟨a1, _⟩ := TQ_r Q
  have sg := r_isSign Q (s := 59) (by omega) (by omega)
  have h59 : nI 59 = (59 : Int32) := rfl
  rw [h59] at sg
  unfold f_X1_readEnd f_X11_readStatement_L402 f_X11_wantSign
  by_cases g : tKind c T (ts c T i) = 59
  · have iN := kn_i Q (by omega) (by omega)
    obtain ⟨e1, Q2, _⟩ := nx Q iN
    left
    refine ⟨?_, ?_, iN, Q2⟩
    · rw [y_gs, if_pos (lc_S4 L), lc_R4_0 L, y_gs, if_pos (lc_S2 L), kk, if_pos (show nI (tKind c T (ts c T i)) = (59 : Int32) from by rw [g]; rfl), e1, y_bds]
    · rw [y_gs, if_pos (lm_S226 L2), y_gs, if_pos (lm_S226 L2), sg, y_bds, if_pos g, if_pos (show ¬ (1 : Int32) = 0 from by decide), a1, q_add1, y_lt, y_bds, gb01 (Or.inr rfl)]
  · right
    obtain ⟨m', r1, r2, r3, r4⟩ := r_refuse Q
    refine ⟨sI (sI h 4 16 (1 : Int32)) 4 17 (nI (ts c T i)), m', ts c T i, ?_, ?_, ⟨by omega, i, rfl, Nat.le_refl _, Q.2.2.1⟩, by rw [x_ne (by omega), x_eq], by rw [x_eq], r2, r3, ⟨rfl, fun o k h1 h2 => by rw [x_ne (by omega), x_ne (by omega)]⟩, FN_B r4⟩
    · rw [y_gs, if_pos (lc_S4 L), lc_R4_0 L, y_gs, if_pos (lc_S2 L), kk, if_neg (show ¬ nI (tKind c T (ts c T i)) = (59 : Int32) from fun q => g ((q_eq (b := 59) (by omega) (by omega)).mp q)), kp, c_refuse L, y_bds, gb01 (Or.inl rfl)]
    · rw [y_gs, if_pos (lm_S226 L2), y_gs, if_pos (lm_S226 L2), sg, y_bds, if_neg g, if_neg (fun q => q rfl), r1, y_bds, gb01 (Or.inl rfl), y_bds, gb01 (Or.inl rfl)]
/-- the reference's way behind a word -/
def refI (m : AH) (nm op : Int32) : Option (Int32 × AH) :=
  gs m (hR m 226 70) 21 <|
  gb (ib op (hN m (hR m 226 70))) <|
  lt (sI m 226 71 (hI m (hR m 226 70) op.toNatClampNeg)) fun h16 =>
  lt (sI h16 226 76 (-1 : Int32)) fun h18 =>
  lt (sI h18 226 73 (0 : Int32)) fun h20 =>
  gs h20 (hR h20 226 69) 21 <|
  gb (ib op (hN h20 (hR h20 226 69))) <|
  bd (f_X11_wantParts h20 226 (hI h20 (hR h20 226 69) op.toNatClampNeg) op) fun q24 =>
  if ¬ q24.1 = 0 then trl q24.2 226 nm op else some ((0 : Int32), q24.2)
def insC (h : AH) (n op pl : Nat) : AH := sI (sI (sI (sI h 5 n (nI op)) 6 n (nI pl)) 8 n (mBase.getD op 0)) 9 n (0 : Int32)
def insM (m : AH) (op : Nat) : AH := sI (sI (sI m 226 71 (tBas.getD op 0)) 226 76 (-1 : Int32)) 226 73 (0 : Int32)
theorem insC_e {h : AH} (L : LC h) {n op pl : Nat} (hn : n < 375) (h1 : hI h 4 1 = nI n) (hop : op < 61) : f_X1_readInstruction h 4 (nI op) (nI pl) = f_X1_readInstruction_L81 FU (insC h n op pl) 4 (nI op) (mOps.getD op 0) (nI 0) := by
  have La : LC (sI h 5 n (nI op)) := L
  have Lb : LC (sI (sI h 5 n (nI op)) 6 n (nI pl)) := L
  have Lc : LC (sI (sI (sI h 5 n (nI op)) 6 n (nI pl)) 8 n (mBase.getD op 0)) := L
  unfold f_X1_readInstruction insC
  rw [y_gs, if_pos (lc_S4 L), h1, if_pos (show nI n < (375 : Int32) from (q_lt (b := 375) (by omega) (by omega)).mpr hn), lc_R4_2 L, y_gs, if_pos (lc_S5 L), lc_N5 L, y_gb, if_pos (q_ib hn (by omega)), q_cl (by omega), y_lt, lc_R4_3 La, y_gs, if_pos (lc_S6 La), lc_N6 La, x_ne (by omega), h1, y_gb, if_pos (q_ib hn (by omega)), q_cl (by omega), y_lt, y_gb, if_pos (q_ib hop (by omega)), q_cl (by omega), y_gb, if_pos (decide_eq_true hop), lc_R4_5 Lb, y_gs, if_pos (lc_S8 Lb), lc_N8 Lb, x_ne (by omega), x_ne (by omega), h1, y_gb, if_pos (q_ib hn (by omega)), q_cl (by omega), y_lt, lc_R4_6 Lc, y_gs, if_pos (lc_S9 Lc), lc_N9 Lc, x_ne (by omega), x_ne (by omega), x_ne (by omega), h1, y_gb, if_pos (q_ib hn (by omega)), q_cl (by omega), y_lt, y_gb, if_pos (q_ib hop (by omega)), y_gb, if_pos (decide_eq_true hop), y_lt]
  rfl
theorem insM_e {m : AH} (L : LM m) (C : cst m) {op : Nat} (hop : op < 61) (nm : Int32) : refI m nm (nI op) = bd (f_X11_wantParts (insM m op) 226 (nI (tHow.getD op 0)) (nI op)) fun q24 => if ¬ q24.1 = 0 then trl q24.2 226 nm (nI op) else some ((0 : Int32), q24.2) := by
  have Lc : LM (insM m op) := LM_3 L rfl
  have Cc : cst (insM m op) := cst_of C (fun o k q => by unfold insM; rw [x_ne (by omega), x_ne (by omega), x_ne (by omega)])
  obtain ⟨k1, k2, k3⟩ := r_how Lc Cc hop
  unfold refI
  rw [lm_R70 L, y_gs, if_pos (lm_S275 L), lm_N275 L, y_gb, if_pos (q_ib hop (by omega)), q_cl (by omega), (C op hop).2, y_lt, y_lt, y_lt]
  show gs (insM m op) (hR (insM m op) 226 69) 21 (gb (ib (nI op) (hN (insM m op) (hR (insM m op) 226 69))) (bd (f_X11_wantParts (insM m op) 226 (hI (insM m op) (hR (insM m op) 226 69) op) (nI op)) fun q24 => if ¬ q24.1 = 0 then trl q24.2 226 nm (nI op) else some ((0 : Int32), q24.2))) = _
  rw [q_cl (by omega)] at k3
  rw [y_gs, if_pos k1, y_gb, if_pos k2, k3]
