/-! One operand in both. -/
def OQ (h m : AH) (c : Nat → Nat) (T Nn i n : Nat) (B1 B2 R : Int32) (nk np : Nat) (hw : Int32) (x : Nat) : Prop :=
  (TQ h m c T Nn i) ∧
  (hI h 4 1 = nI n ∧ n < 375) ∧
  (hI h 8 n = B1 ||| R ∧ hI m 226 71 = B2 ||| R) ∧
  (hI h 9 n = nI nk ∧ nk ≤ 2 ∧ np ≤ 1500) ∧
  (nk = 1 → hL m 226 72 = hL h 11 n) ∧
  (nk = 2 → hL m 226 74 = hL h 11 n ∧ hI m 226 75 = nI np) ∧
  (nk ≠ 0 → hI h 10 n = nI np) ∧
  (hI m 226 73 = (if nk = 2 then 1 else 0)) ∧
  (hI m 226 76 = hw) ∧
  (FK m x)
theorem OQ.tq {h m : AH} {c : Nat → Nat} {T Nn i n : Nat} {B1 B2 R : Int32} {nk np : Nat} {hw : Int32} {x : Nat} (Q : OQ h m c T Nn i n B1 B2 R nk np hw x) : TQ h m c T Nn i := Q.1
theorem OQ.it {h m : AH} {c : Nat → Nat} {T Nn i n : Nat} {B1 B2 R : Int32} {nk np : Nat} {hw : Int32} {x : Nat} (Q : OQ h m c T Nn i n B1 B2 R nk np hw x) : hI h 4 1 = nI n ∧ n < 375 := Q.2.1
theorem OQ.bi {h m : AH} {c : Nat → Nat} {T Nn i n : Nat} {B1 B2 R : Int32} {nk np : Nat} {hw : Int32} {x : Nat} (Q : OQ h m c T Nn i n B1 B2 R nk np hw x) : hI h 8 n = B1 ||| R ∧ hI m 226 71 = B2 ||| R := Q.2.2.1
theorem OQ.n0 {h m : AH} {c : Nat → Nat} {T Nn i n : Nat} {B1 B2 R : Int32} {nk np : Nat} {hw : Int32} {x : Nat} (Q : OQ h m c T Nn i n B1 B2 R nk np hw x) : hI h 9 n = nI nk ∧ nk ≤ 2 ∧ np ≤ 1500 := Q.2.2.2.1
theorem OQ.n1 {h m : AH} {c : Nat → Nat} {T Nn i n : Nat} {B1 B2 R : Int32} {nk np : Nat} {hw : Int32} {x : Nat} (Q : OQ h m c T Nn i n B1 B2 R nk np hw x) : nk = 1 → hL m 226 72 = hL h 11 n := Q.2.2.2.2.1
theorem OQ.n2 {h m : AH} {c : Nat → Nat} {T Nn i n : Nat} {B1 B2 R : Int32} {nk np : Nat} {hw : Int32} {x : Nat} (Q : OQ h m c T Nn i n B1 B2 R nk np hw x) : nk = 2 → hL m 226 74 = hL h 11 n ∧ hI m 226 75 = nI np := Q.2.2.2.2.2.1
theorem OQ.n3 {h m : AH} {c : Nat → Nat} {T Nn i n : Nat} {B1 B2 R : Int32} {nk np : Nat} {hw : Int32} {x : Nat} (Q : OQ h m c T Nn i n B1 B2 R nk np hw x) : nk ≠ 0 → hI h 10 n = nI np := Q.2.2.2.2.2.2.1
theorem OQ.n4 {h m : AH} {c : Nat → Nat} {T Nn i n : Nat} {B1 B2 R : Int32} {nk np : Nat} {hw : Int32} {x : Nat} (Q : OQ h m c T Nn i n B1 B2 R nk np hw x) : hI m 226 73 = (if nk = 2 then 1 else 0) := Q.2.2.2.2.2.2.2.1
theorem OQ.hh {h m : AH} {c : Nat → Nat} {T Nn i n : Nat} {B1 B2 R : Int32} {nk np : Nat} {hw : Int32} {x : Nat} (Q : OQ h m c T Nn i n B1 B2 R nk np hw x) : hI m 226 76 = hw := Q.2.2.2.2.2.2.2.2.1
theorem OQ.fk {h m : AH} {c : Nat → Nat} {T Nn i n : Nat} {B1 B2 R : Int32} {nk np : Nat} {hw : Int32} {x : Nat} (Q : OQ h m c T Nn i n B1 B2 R nk np hw x) : FK m x := Q.2.2.2.2.2.2.2.2.2
def FI (n : Nat) (h h' : AH) : Prop := h'.2.2 = h.2.2 ∧ (∀ o k, ¬ (o = 2 ∧ (k = 2 ∨ k = 3 ∨ k = 4)) → ¬ ((o = 8 ∨ o = 9 ∨ o = 10) ∧ k = n) → hI h' o k = hI h o k) ∧ (∀ o k, ¬ (o = 2 ∧ k = 5) → ¬ (o = 11 ∧ k = n) → hL h' o k = hL h o k)
def FJ (m m' : AH) : Prop := m'.2.2 = m.2.2 ∧ (∀ o k, ¬ (o = 226 ∧ (k = 3 ∨ k = 4 ∨ k = 9 ∨ k = 71 ∨ k = 73 ∨ k = 75 ∨ k = 76)) → hI m' o k = hI m o k) ∧ (∀ o k, ¬ (o = 226 ∧ (k = 72 ∨ k = 74)) → hL m' o k = hL m o k)
theorem FI_rfl (n : Nat) (h : AH) : FI n h h := ⟨rfl, fun _ _ _ _ => rfl, fun _ _ _ _ => rfl⟩
theorem FJ_rfl (h : AH) : FJ h h := ⟨rfl, fun _ _ _ => rfl, fun _ _ _ => rfl⟩
theorem FI_tr {n : Nat} {a b d : AH} (x : FI n a b) (y : FI n b d) : FI n a d := ⟨y.1.trans x.1, fun o k h1 h2 => (y.2.1 o k h1 h2).trans (x.2.1 o k h1 h2), fun o k h1 h2 => (y.2.2 o k h1 h2).trans (x.2.2 o k h1 h2)⟩
theorem FJ_tr {a b d : AH} (x : FJ a b) (y : FJ b d) : FJ a d := ⟨y.1.trans x.1, fun o k h1 => (y.2.1 o k h1).trans (x.2.1 o k h1), fun o k h1 => (y.2.2 o k h1).trans (x.2.2 o k h1)⟩
theorem FN_J {m m' : AH} (h : FN m m') : FJ m m' := ⟨by rw [h.1], fun o k h1 => h.2 o k (by omega), fun o k _ => by show m'.2.1 o k = m.2.1 o k; rw [h.1]⟩
/-- neither goes on: where the class stands is where the reference refuses -/
def FLx (n : Nat) (h m : AH) (c : Nat → Nat) (T i Nn : Nat) (X Y : Option (Int32 × AH)) : Prop := ∃ h' m' i', (i ≤ i' ∧ i' ≤ Nn) ∧ X = some ((0 : Int32), h') ∧ Y = some ((0 : Int32), m') ∧ hI h' 2 4 = nI (ts c T i') ∧ ts c T i' ≤ 1500 ∧ hI m' 226 3 = (1 : Int32) ∧ hI m' 226 4 = nI (ts c T i') ∧ FI n h h' ∧ FJ m m'
theorem kn_i {h m : AH} {c : Nat → Nat} {T Nn i : Nat} (Q : TQ h m c T Nn i) (k0 : tKind c T (ts c T i) ≠ 0) (k1 : tKind c T (ts c T i) ≠ 1) : i < Nn := by
  have := Q.2.2.1
  by_cases g : i < Nn
  · exact g
  · have e : i = Nn := by omega
    rcases Q.2.2.2.2.2 with q | q
    · rw [← e] at q; exact absurd q k0
    · rw [← e] at q; exact absurd q k1
/-- refuse in the reference, false in the class -/
theorem fail_at {h m h' : AH} {c : Nat → Nat} {T Nn i i0 n : Nat} {X : Option (Int32 × AH)} (Q : TQ h' m c T Nn i) (hi : i0 ≤ i) (hx : X = some ((0 : Int32), h')) (hF : FI n h h') : FLx n h m c T i0 Nn X (bd (f_X11_refuse m 226) fun q2 => gb (q2.1 == 0 || q2.1 == 1) <| some (q2.1, q2.2)) := by
  obtain ⟨m', e, e1, e2, F⟩ := r_refuse Q
  have T15 := Q.1.1.2.2.2.1
  have tl := ts_le c T i
  refine ⟨h', m', i, ⟨hi, Q.2.2.1⟩, hx, ?_, Q.1.2.2.2.1, by omega, e1, e2, hF, FN_J F⟩
  rw [e, y_bds, y_gb, if_pos (show ((0 : Int32) == 0 || (0 : Int32) == 1) = true from by decide)]
theorem tkH_f (h : AH) (c : Nat → Nat) (T p : Nat) : (∀ o k, ¬ (o = 2 ∧ (k = 2 ∨ k = 3 ∨ k = 4)) → hI (tkH h c T p) o k = hI h o k) ∧ (∀ o k, ¬ (o = 2 ∧ k = 5) → hL (tkH h c T p) o k = hL h o k) ∧ (tkH h c T p).2.2 = h.2.2 := by
  unfold tkH
  refine ⟨fun o k w => ?_, fun o k w => ?_, rfl⟩
  · rw [x_hI_sL, x_ne (by omega), x_ne (by omega), x_ne (by omega)]
  · rw [x_hL_sL, if_neg w]; rfl
theorem FI_tk (n : Nat) (h : AH) (c : Nat → Nat) (T p : Nat) : FI n h (tkH h c T p) := ⟨(tkH_f h c T p).2.2, fun o k h1 _ => (tkH_f h c T p).1 o k h1, fun o k h1 _ => (tkH_f h c T p).2.1 o k h1⟩
theorem FJ_9 (m : AH) (v : Int32) : FJ m (sI m 226 9 v) := ⟨rfl, fun o k h1 => x_ne (by omega), fun o k _ => rfl⟩
theorem OQ_nx {h m : AH} {c : Nat → Nat} {T Nn i n : Nat} {B1 B2 R : Int32} {nk np : Nat} {hw : Int32} {x : Nat} (O : OQ h m c T Nn i n B1 B2 R nk np hw x) (iN : i < Nn) : f_X8_next h 2 = some (tkH h c T (ts c T (i + 1))) ∧ OQ (tkH h c T (ts c T (i + 1))) (sI m 226 9 (nI (i + 1))) c T Nn (i + 1) n B1 B2 R nk np hw x := by
  obtain ⟨e1, Q1, _⟩ := nx O.tq iN
  obtain ⟨f1, f2, _⟩ := tkH_f h c T (ts c T (i + 1))
  have g : ∀ k, k ≠ 9 → hI (sI m 226 9 (nI (i + 1))) 226 k = hI m 226 k := fun k hk => x_ne (by omega)
  refine ⟨e1, Q1, ?_, ?_, ?_, fun q => ?_, fun q => ?_, fun q => ?_, ?_, ?_, FK_of O.fk (fun k hk => g k (by omega))⟩
  · rw [f1 _ _ (by omega)]; exact O.it
  · rw [f1 _ _ (by omega), g _ (by omega)]; exact O.bi
  · rw [f1 _ _ (by omega)]; exact O.n0
  · rw [f2 _ _ (by omega)]; exact O.n1 q
  · rw [f2 _ _ (by omega), g _ (by omega)]; exact O.n2 q
  · rw [f1 _ _ (by omega)]; exact O.n3 q
  · rw [g _ (by omega)]; exact O.n4
  · rw [g _ (by omega)]; exact O.hh
theorem step_reg {h m : AH} {c : Nat → Nat} {T Nn i n : Nat} {B1 B2 R : Int32} {nk np : Nat} {hw : Int32} {x : Nat} (O : OQ h m c T Nn i n B1 B2 R nk np hw x) (sh : Int32) :
    (∃ h' m' r, f_X1_readRegister h 4 sh = some ((1 : Int32), h') ∧ f_X11_wantRegister m 226 sh = some ((1 : Int32), m') ∧ r < 32 ∧ rgO (tVal c T (ts c T i)) = some r ∧ tKind c T (ts c T i) = 2 ∧ i < Nn ∧ OQ h' m' c T Nn (i + 1) n B1 B2 (R ||| (nI r <<< (sh &&& 31))) nk np hw x ∧ FI n h h' ∧ FJ m m' ∧ hL h' 11 n = hL h 11 n) ∨ FLx n h m c T i Nn (f_X1_readRegister h 4 sh) (f_X11_wantRegister m 226 sh) := by
  have Q := O.tq
  have C := Q.1.1
  have L := C.1
  have kl := kind_lt C (ts c T i)
  have kk : hI h 2 3 = nI (tKind c T (ts c T i)) := Q.1.2.2.1
  have vv : hL h 2 5 = tVal c T (ts c T i) := Q.1.2.2.2.2
  rw [r_wantReg Q sh]
  have cls : f_X1_readRegister h 4 sh = f_X1_readRegister_L25 h 4 sh (oI (if tKind c T (ts c T i) = 2 then rgO (tVal c T (ts c T i)) else none)) := by
    unfold f_X1_readRegister
    rw [y_gs, if_pos (lc_S4 L), lc_R4_0 L, y_gs, if_pos (lc_S2 L), kk, vv, c_regOf, y_bds]
    by_cases g : tKind c T (ts c T i) = 2
    · rw [if_neg (fun q => q (show nI (tKind c T (ts c T i)) = (2 : Int32) from by rw [g]; rfl)), if_pos g]
    · rw [if_pos (show ¬ nI (tKind c T (ts c T i)) = (2 : Int32) from fun q => g ((q_eq (b := 2) (by omega) (by omega)).mp q)), if_neg g]; rfl
  rw [cls]
  cases hr : (if tKind c T (ts c T i) = 2 then rgO (tVal c T (ts c T i)) else none) with
  | none =>
    right
    refine fail_at Q (Nat.le_refl _) ?_ (FI_rfl n h)
    unfold f_X1_readRegister_L25
    rw [oI_n, if_neg (by decide)]
  | some r =>
    left
    have k2 : tKind c T (ts c T i) = 2 := by
      by_cases g : tKind c T (ts c T i) = 2
      · exact g
      · rw [if_neg g] at hr; cases hr
    rw [if_pos k2] at hr
    have r32 := rgO_lt hr
    have iN := kn_i Q (by omega) (by omega)
    obtain ⟨it, n375⟩ := O.it
    have gh : ∀ o k, ¬ (o = 8 ∧ k = n) → hI (sI h 8 n (B1 ||| R ||| (nI r <<< (sh &&& 31)))) o k = hI h o k := fun o k g => x_ne (by omega)
    have gm : ∀ k, k ≠ 71 → hI (sI m 226 71 (hI m 226 71 ||| (nI r <<< (sh &&& 31)))) 226 k = hI m 226 k := fun k hk => x_ne (by omega)
    have O1 : OQ (sI h 8 n (B1 ||| R ||| (nI r <<< (sh &&& 31)))) (sI m 226 71 (hI m 226 71 ||| (nI r <<< (sh &&& 31)))) c T Nn i n B1 B2 (R ||| (nI r <<< (sh &&& 31))) nk np hw x := by
      refine ⟨TQ_m (TQ_h Q rfl (fun o k q => gh o k (by omega)) rfl) rfl (fun o k q => x_ne (by omega)) (fun k => rfl), ?_, ?_, ?_, O.n1, fun q => ?_, fun q => ?_, ?_, ?_, FK_of O.fk (fun k hk => gm k (by omega))⟩
      · rw [gh _ _ (by omega)]; exact O.it
      · rw [x_eq, x_eq, O.bi.2, Int32.or_assoc, Int32.or_assoc]; exact ⟨rfl, rfl⟩
      · rw [gh _ _ (by omega)]; exact O.n0
      · rw [gm _ (by omega)]; exact O.n2 q
      · rw [gh _ _ (by omega)]; exact O.n3 q
      · rw [gm _ (by omega)]; exact O.n4
      · rw [gm _ (by omega)]; exact O.hh
    obtain ⟨e1, O2⟩ := OQ_nx O1 iN
    have F0 : FI n h (sI h 8 n (B1 ||| R ||| (nI r <<< (sh &&& 31)))) := ⟨rfl, fun o k h1 h2 => x_ne (by omega), fun o k h1 h2 => rfl⟩
    have G0 : FJ m (sI m 226 71 (hI m 226 71 ||| (nI r <<< (sh &&& 31)))) := ⟨rfl, fun o k h1 => x_ne (by omega), fun o k h1 => rfl⟩
    refine ⟨_, _, r, ?_, rfl, r32, hr, k2, iN, O2, FI_tr F0 (FI_tk _ _ _ _ _), FJ_tr G0 (FJ_9 _ _), by rw [(tkH_f _ _ _ _).2.1 _ _ (by omega)]; rfl⟩
    unfold f_X1_readRegister_L25
    have Lx : LC (sI h 8 n (B1 ||| R ||| (nI r <<< (sh &&& 31)))) := L
    rw [oI_s, if_pos (le0n (by omega)), y_gs, if_pos (lc_S4 L), lc_R4_5 L, y_gs, if_pos (lc_S8 L), lc_N8 L, it, y_gb, if_pos (q_ib n375 (by omega)), y_gb, if_pos (q_ib n375 (by omega)), q_cl (by omega), O.bi.1, y_lt, lc_R4_0 Lx, y_gs, if_pos (lc_S2 Lx), e1, y_bds]
/-- a sign -/
theorem step_sign {h m : AH} {c : Nat → Nat} {T Nn i n : Nat} {B1 B2 R : Int32} {nk np : Nat} {hw : Int32} {x : Nat} (O : OQ h m c T Nn i n B1 B2 R nk np hw x) {s : Nat} (h3 : 3 < s) (hs : s < 128) (hX : ¬ (s = 78 ∨ s = 97 ∨ s = 98 ∨ s = 100 ∨ s = 110)) :
    (∃ h' m', f_X1_readOperand h 4 (nI s) = some ((1 : Int32), h') ∧ f_X11_wantSign m 226 (nI s) = some ((1 : Int32), m') ∧ i < Nn ∧ OQ h' m' c T Nn (i + 1) n B1 B2 R nk np hw x ∧ FI n h h' ∧ FJ m m' ∧ hL h' 11 n = hL h 11 n) ∨ FLx n h m c T i Nn (f_X1_readOperand h 4 (nI s)) (f_X11_wantSign m 226 (nI s)) := by
  have Q := O.tq
  have C := Q.1.1
  have L := C.1
  have L2 := Q.2.1.1
  have kl := kind_lt C (ts c T i)
  have kk : hI h 2 3 = nI (tKind c T (ts c T i)) := Q.1.2.2.1
  have ne : ∀ j, j = 78 ∨ j = 97 ∨ j = 98 ∨ j = 100 ∨ j = 110 → ¬ nI s = nI j := fun j hj q => by have := (q_eq (by omega) (by omega)).mp q; omega
  obtain ⟨a1, _⟩ := TQ_r Q
  unfold f_X1_readOperand f_X11_wantSign
  rw [if_neg (show ¬ nI s = (78 : Int32) from ne 78 (by omega)), if_neg (show ¬ nI s = (97 : Int32) from ne 97 (by omega)), if_neg (show ¬ nI s = (98 : Int32) from ne 98 (by omega)), if_neg (show ¬ nI s = (100 : Int32) from ne 100 (by omega)), if_neg (show ¬ nI s = (110 : Int32) from ne 110 (by omega)), y_gs, if_pos (lc_S4 L), lc_R4_0 L, y_gs, if_pos (lc_S2 L), kk, y_gs, if_pos (lm_S226 L2), r_isSign Q h3 hs, y_bds, a1, show (1 : Int32) = nI 1 from rfl, q_add, y_lt]
  by_cases g : tKind c T (ts c T i) = s
  · have iN := kn_i Q (by omega) (by omega)
    obtain ⟨e1, O2⟩ := OQ_nx O iN
    left
    rw [if_pos (show nI (tKind c T (ts c T i)) = nI s from by rw [g]), e1, y_bds, if_pos g, if_pos (show ¬ nI 1 = 0 from by decide)]
    exact ⟨_, _, rfl, rfl, iN, O2, FI_tk _ _ _ _ _, FJ_9 _ _, by rw [(tkH_f _ _ _ _).2.1 _ _ (by omega)]⟩
  · right
    rw [if_neg (fun q => g ((q_eq (by omega) (by omega)).mp q)), if_neg g, if_neg (fun q => q rfl)]
    exact fail_at Q (Nat.le_refl _) rfl (FI_rfl n h)
