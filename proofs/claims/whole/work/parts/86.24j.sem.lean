/-! The operands in their order. -/
def shO (ch : Nat) : Int32 := if ch = 100 then 7 else if ch = 97 then 15 else 20
def isRg (ch : Nat) : Bool := decide (ch = 100 ∨ ch = 97 ∨ ch = 98)
def isNu (ch : Nat) : Bool := decide (ch = 78 ∨ ch = 110)
def isSg (ch : Nat) : Bool := decide (ch = 44 ∨ ch = 40 ∨ ch = 41)
/-- what the reference does for an operand -/
def rst (hn : Nat) (mo : Int64) (mu : Int32) (ch : Nat) (m : AH) : Option (Int32 × AH) :=
  if isRg ch = true then f_X11_wantRegister m 226 (shO ch) else if ch = 78 then f_X11_wantN m 226 (nI hn) else if ch = 110 then f_X11_wantNumber m 226 (1 : Int32) (0 : Int64) mo mu else f_X11_wantSign m 226 (nI ch)
def rsq (hn : Nat) (mo : Int64) (mu : Int32) : List Nat → AH → Option (Int32 × AH)
  | [], m => some ((1 : Int32), m)
  | ch :: l, m => bd (rst hn mo mu ch m) fun q => if q.1 = 0 then some ((0 : Int32), q.2) else rsq hn mo mu l q.2
/-- the run of these -/
def Rch (hn : Nat) (mo : Int64) (mu : Int32) : List Nat → AH → Prop
  | [], m => LM m
  | ch :: l, m => LM m ∧ ∃ r q, rst hn mo mu ch m = some (r, q) ∧ (r = 0 ∨ (r = 1 ∧ LM q ∧ Rch hn mo mu l q))
/-- the registers' bits -/
def RR : List Nat → Int32 → Prop
  | [], D => D = 0
  | ch :: l, D => if isRg ch = true then ∃ r D', r < 32 ∧ RR l D' ∧ D = (nI r <<< (shO ch &&& 31)) ||| D' else RR l D
def nNu : List Nat → Nat
  | [] => 0
  | ch :: l => (if isNu ch = true then 1 else 0) + nNu l
/-- what the number's operand leaves: kind, place, how, faults -/
def NE (hn form fp : Nat) (z : Int64) (hw : Int32) (x : Nat) : List Nat → Nat → Nat → Int32 → Nat → Prop
  | [], nk, _, hw', x' => nk = 0 ∧ hw' = hw ∧ x' = x
  | ch :: l, nk, np, hw', x' => if ch = 78 then (hw' = nI hn ∧ (nk = 1 ∧ x' = (if fitB form z = true then x else min x (4 * np + 3)) ∨ nk = 2 ∧ x' = x)) else if ch = 110 then (hw' = hw ∧ nk = 1 ∧ (∃ v, v < 2 ^ 40 ∧ z = Int64.ofNat v) ∧ x' = (if fitB fp z = true then x else min x (4 * np + 3))) else NE hn form fp z hw x l nk np hw' x'
theorem FI_L {n : Nat} {h h' : AH} (F : FI n h h') (L : LC h) : LC h' := LC_2 L F.1
theorem FJ_L {h h' : AH} (F : FJ h h') (L : LM h) : LM h' := LM_3 L F.1
theorem gb01 {α : Type} {r : Int32} (hr : r = 0 ∨ r = 1) (k : Option α) : gb (r == 0 || r == 1) k = k := by
  rcases hr with rfl | rfl
  · rw [y_gb, if_pos (by decide)]
  · rw [y_gb, if_pos (by decide)]
theorem dv_n : ∀ c, c < 128 → isX c = true → ∃ d, d < 16 ∧ (dv c).toInt64 = Int64.ofNat d ∧ (isD c = true → d < 10) := by
  intro c hc hx
  have : ∀ c, c < 128 → isX c = true → (dv c).toInt64 = Int64.ofNat (if isD c = true then c - 48 else c - 87) ∧ (if isD c = true then c - 48 else c - 87) < 16 ∧ (isD c = true → (if isD c = true then c - 48 else c - 87) < 10) := by decide +kernel
  obtain ⟨h1, h2, h3⟩ := this c hc hx
  exact ⟨_, h2, h1, h3⟩
theorem mv_n {c : Nat → Nat} {B p : Nat} (hB : B ≤ 16) (hc : ∀ i, c i < 128) : ∀ n, (∀ j, j < n → isX (c (p + j)) = true ∧ (B < 16 → isD (c (p + j)) = true)) → B = 10 ∨ B = 16 → ∃ v, v < B ^ n ∧ mv (Int64.ofNat B) c p n = Int64.ofNat v
  | 0, _, _ => ⟨0, Nat.one_pos, rfl⟩
  | n + 1, h, hb => by
    obtain ⟨v, v1, v2⟩ := mv_n hB hc n (fun j hj => h j (by omega)) hb
    obtain ⟨d, d1, d2, d3⟩ := dv_n (c (p + n)) (hc _) (h n (by omega)).1
    have dB : d < B := by
      rcases hb with rfl | rfl
      · exact d3 ((h n (by omega)).2 (by omega))
      · exact d1
    refine ⟨v * B + d, ?_, ?_⟩
    · rw [Nat.pow_succ]
      have : (v + 1) * B ≤ B ^ n * B := Nat.mul_le_mul_right _ v1
      rw [Nat.add_mul] at this; omega
    · show mv (Int64.ofNat B) c p n * Int64.ofNat B + (dv (c (p + n))).toInt64 = _
      rw [v2, d2, ← Int64.ofNat_mul, ← Int64.ofNat_add]
theorem num_nn {h : AH} {c : Nat → Nat} {T p : Nat} (C : CT h c T) (z : ∀ i, T ≤ i → c i = 0) (k3 : tKind c T p = 3) : ∃ v, v < 2 ^ 40 ∧ tVal c T p = Int64.ofNat v := by
  have hc : ∀ i, c i < 128 := fun i => by
    by_cases g : i < T
    · have := C.2.2.2.2 i g; omega
    · rw [z i (by omega)]; omega
  unfold tKind at k3
  split at k3
  · omega
  next nT =>
  split at k3
  · split at k3 <;> omega
  next nA =>
  split at k3
  · next gD =>
    unfold tVal
    rw [if_neg nT, if_neg nA, if_pos gD]
    split at k3
    · next gx =>
      rw [if_pos gx]
      split at k3
      · next q =>
        obtain ⟨v, v1, v2⟩ := mv_n (c := c) (B := 16) (p := p + 2) (by omega) hc (tEnd c T p - (p + 2)) (fun j hj => ⟨by
          have te : tEnd c T p = rn isX c T T (p + 2) := by unfold tEnd; rw [if_neg nT, if_neg nA, if_pos gD, if_pos gx]
          exact (rn_in isX c T T (p + 2) (p + 2 + j) (by omega) (by rw [← te]; omega)).1, fun w => absurd w (by omega)⟩) (Or.inr rfl)
        refine ⟨v, Nat.lt_of_lt_of_le v1 ?_, v2⟩
        have : 16 ^ (tEnd c T p - (p + 2)) ≤ 16 ^ 8 := Nat.pow_le_pow_right (by omega) q.2
        omega
      · omega
    · next gx =>
      rw [if_neg gx]
      split at k3
      · next q =>
        obtain ⟨v, v1, v2⟩ := mv_n (c := c) (B := 10) (p := p) (by omega) hc (tEnd c T p - p) (fun j hj => by
          have te : tEnd c T p = rn isD c T T p := by unfold tEnd; rw [if_neg nT, if_neg nA, if_pos gD, if_neg gx]
          have d := (rn_in isD c T T p (p + j) (by omega) (by rw [← te]; omega)).1
          exact ⟨by unfold isX; rw [d]; rfl, fun _ => d⟩) (Or.inl rfl)
        refine ⟨v, Nat.lt_of_lt_of_le v1 ?_, v2⟩
        have : 10 ^ (tEnd c T p - p) ≤ 10 ^ 10 := Nat.pow_le_pow_right (by omega) q
        omega
      · omega
  · split at k3
    · next q => unfold isS at q; simp only [decide_eq_true_eq] at q; omega
    · omega
/-- what one operand's step leaves -/
def SE (hn form fp i : Nat) (c : Nat → Nat) (T : Nat) (ch : Nat) (R : Int32) (nk np : Nat) (hw : Int32) (x : Nat) (i' : Nat) (R' : Int32) (nk' np' : Nat) (hw' : Int32) (x' : Nat) (z0 z : Int64) : Prop :=
  (isRg ch = true ∧ z = z0 ∧ (∃ r, r < 32 ∧ R' = R ||| (nI r <<< (shO ch &&& 31)) ∧ rgO (tVal c T (ts c T i)) = some r) ∧ tKind c T (ts c T i) = 2 ∧ nk' = nk ∧ np' = np ∧ hw' = hw ∧ x' = x ∧ i' = i + 1) ∨
  (isSg ch = true ∧ z = z0 ∧ R' = R ∧ nk' = nk ∧ np' = np ∧ hw' = hw ∧ x' = x ∧ i' = i + 1) ∨
  (ch = 78 ∧ R' = R ∧ np' = ts c T i ∧ hw' = nI hn ∧ (nk' = 1 ∧ x' = (if fitB form z = true then x else min x (4 * ts c T i + 3)) ∨ nk' = 2 ∧ x' = x) ∧ (i' = i + 1 ∧ (tKind c T (ts c T i) = 2 ∨ tKind c T (ts c T i) = 3) ∨ i' = i + 2)) ∨
  (ch = 110 ∧ R' = R ∧ np' = ts c T i ∧ hw' = hw ∧ nk' = 1 ∧ (∃ v, v < 2 ^ 40 ∧ z = Int64.ofNat v) ∧ x' = (if fitB fp z = true then x else min x (4 * ts c T i + 3)) ∧ i < i')
theorem step_op {h m : AH} {c : Nat → Nat} {T Nn i n : Nat} {B1 B2 R : Int32} {nk np : Nat} {hw : Int32} {x hn fp ch : Nat} {mo : Int64} {mu : Int32} (O : OQ h m c T Nn i n B1 B2 R nk np hw x) (hhn : hn ≤ 6) (zc : ∀ i, T ≤ i → c i = 0) (hfp : ∀ v, rft 0 mo mu v ↔ fitB fp v = true) (hmu : ¬ mu.toInt64 = 0) (hch : isRg ch = true ∨ isSg ch = true ∨ ((ch = 78 ∨ ch = 110) ∧ nk = 0)) :
    (∃ h' m' i' R' nk' np' hw' x', f_X1_readOperand h 4 (nI ch) = some ((1 : Int32), h') ∧ rst hn mo mu ch m = some ((1 : Int32), m') ∧ i < i' ∧ i' ≤ Nn ∧ OQ h' m' c T Nn i' n B1 B2 R' nk' np' hw' x' ∧ SE hn (frm hn) fp i c T ch R nk np hw x i' R' nk' np' hw' x' (hL h 11 n) (hL h' 11 n) ∧ FI n h h' ∧ FJ m m') ∨ FLx n h m c T i Nn (f_X1_readOperand h 4 (nI ch)) (rst hn mo mu ch m) := by
  have Q := O.tq
  have L := Q.1.1.1
  have L2 := Q.2.1.1
  rcases hch with hr | hs | ⟨hnu, nk0⟩
  · have cc : f_X1_readOperand h 4 (nI ch) = bd (f_X1_readRegister h 4 (shO ch)) fun q => gb (q.1 == 0 || q.1 == 1) <| some (q.1, q.2) := by
      unfold isRg at hr
      rcases of_decide_eq_true hr with rfl | rfl | rfl
      · unfold f_X1_readOperand
        rw [if_neg (by decide), if_neg (by decide), if_neg (by decide), if_pos (by decide), y_gs, if_pos (lc_S4 L)]; rfl
      · unfold f_X1_readOperand
        rw [if_neg (by decide), if_pos (by decide), y_gs, if_pos (lc_S4 L)]; rfl
      · unfold f_X1_readOperand
        rw [if_neg (by decide), if_neg (by decide), if_pos (by decide), y_gs, if_pos (lc_S4 L)]; rfl
    have rr : rst hn mo mu ch m = f_X11_wantRegister m 226 (shO ch) := by unfold rst; rw [if_pos hr]
    rw [cc, rr]
    rcases step_reg O (shO ch) with ⟨h', m', r, e1, e2, e3, e4, e5, e6, e7, e8, e9, e10⟩ | ⟨h', m', i', e0, e1, e2, e3⟩
    · left
      rw [e1, e2, y_bds, gb01 (Or.inr rfl)]
      exact ⟨h', m', i + 1, _, nk, np, hw, x, rfl, rfl, by omega, by omega, e7, Or.inl ⟨hr, e10, ⟨r, e3, rfl, e4⟩, e5, rfl, rfl, rfl, rfl, rfl⟩, e8, e9⟩
    · right
      rw [e1, e2, y_bds, gb01 (Or.inl rfl)]
      exact ⟨h', m', i', e0, rfl, rfl, e3⟩
  · have h44 : ch = 44 ∨ ch = 40 ∨ ch = 41 := by unfold isSg at hs; exact of_decide_eq_true hs
    have rr : rst hn mo mu ch m = f_X11_wantSign m 226 (nI ch) := by
      unfold rst
      rw [if_neg (by unfold isRg; simp only [decide_eq_true_eq]; omega), if_neg (by omega), if_neg (by omega)]
    rw [rr]
    rcases step_sign O (s := ch) (by omega) (by omega) (by omega) with ⟨h', m', e1, e2, e3, e4, e5, e6, e7⟩ | e
    · left
      exact ⟨h', m', i + 1, R, nk, np, hw, x, e1, e2, by omega, by omega, e4, Or.inr (Or.inl ⟨hs, e7, rfl, rfl, rfl, rfl, rfl, rfl⟩), e5, e6⟩
    · exact Or.inr e
  · rcases hnu with rfl | rfl
    · have cc : f_X1_readOperand h 4 (nI 78) = bd (f_X1_readNumber h 4 (1 : Int32)) fun q => gb (q.1 == 0 || q.1 == 1) <| some (q.1, q.2) := by
        unfold f_X1_readOperand
        rw [if_pos (by decide), y_gs, if_pos (lc_S4 L)]
      obtain ⟨l1, l2, l3⟩ := r_lmm m hn hhn
      have rr : rst hn mo mu 78 m = bd (f_X11_wantNumber m 226 (0 : Int32) (loH hn) (hiH hn) (muH hn)) fun q5 => if ¬ q5.1 = 0 then gs q5.2 226 10 <| lt (sI q5.2 226 76 (nI hn)) fun h8 => some ((1 : Int32), h8) else some ((0 : Int32), q5.2) := by
        unfold rst f_X11_wantN
        rw [if_neg (by decide), if_pos rfl, l1, y_bds, l2, y_bds, l3, y_bds, y_gs, if_pos (lm_S226 L2)]
      have hmu' : ¬ (muH hn).toInt64 = 0 := by unfold muH; split <;> decide
      rw [cc, rr]
      rcases step_num O nk0 (rf_hw hhn) hmu' true with ⟨h', m', i', nk', x', e1, e2, e3, e4, e5, e6, e7, e8, _⟩ | ⟨h', m', i', e0, e1, e2, e3⟩
      · left
        have e1' : f_X1_readNumber h 4 (1 : Int32) = some ((1 : Int32), h') := e1
        have e2' : f_X11_wantNumber m 226 (0 : Int32) (loH hn) (hiH hn) (muH hn) = some ((1 : Int32), m') := e2
        have Lm := FJ_L e8 L2
        rw [e1', e2', y_bds, gb01 (Or.inr rfl), y_bds, if_pos (show ¬ (1 : Int32) = 0 from by decide), y_gs, if_pos (lm_S226 Lm), y_lt]
        have g : ∀ o k, ¬ (o = 226 ∧ k = 76) → hI (sI m' 226 76 (nI hn)) o k = hI m' o k := fun o k w => x_ne (by omega)
        refine ⟨h', _, i', R, nk', ts c T i, nI hn, x', rfl, rfl, by omega, e4, ⟨TQ_m e5.tq rfl (fun o k q => g o k (by omega)) (fun k => rfl), e5.it, ?_, e5.n0, e5.n1, fun q => ?_, e5.n3, ?_, x_eq _ _ _ _, FK_of e5.fk (fun k hk => g _ _ (by omega))⟩, Or.inr (Or.inr (Or.inl ⟨rfl, rfl, rfl, rfl, ?_, ?_⟩)), e7, FJ_tr e8 ⟨rfl, fun o k h1 => g o k (by omega), fun o k _ => rfl⟩⟩
        · rw [g _ _ (by omega)]; exact e5.bi
        · rw [g _ _ (by omega)]; exact e5.n2 q
        · rw [g _ _ (by omega)]; exact e5.n4
        · rcases e6 with ⟨q1, q2⟩ | ⟨q1, _, q2⟩
          · exact Or.inl ⟨q1, q2⟩
          · exact Or.inr ⟨q1, q2⟩
        · rcases e3 with q | q
          · exact Or.inl q
          · exact Or.inr q.1
      · right
        have e1' : f_X1_readNumber h 4 (1 : Int32) = some ((0 : Int32), h') := e1
        have e2' : f_X11_wantNumber m 226 (0 : Int32) (loH hn) (hiH hn) (muH hn) = some ((0 : Int32), m') := e2
        rw [e1', e2', y_bds, gb01 (Or.inl rfl), y_bds, if_neg (fun q => q rfl)]
        exact ⟨h', m', i', e0, rfl, rfl, e3⟩
    · have cc : f_X1_readOperand h 4 (nI 110) = bd (f_X1_readNumber h 4 (0 : Int32)) fun q => gb (q.1 == 0 || q.1 == 1) <| some (q.1, q.2) := by
        unfold f_X1_readOperand
        rw [if_neg (by decide), if_neg (by decide), if_neg (by decide), if_neg (by decide), if_pos (by decide), y_gs, if_pos (lc_S4 L)]
      have rr : rst hn mo mu 110 m = f_X11_wantNumber m 226 (1 : Int32) (0 : Int64) mo mu := by
        unfold rst
        rw [if_neg (by decide), if_neg (by decide), if_pos rfl]
      rw [cc, rr]
      rcases step_num O nk0 hfp hmu false with ⟨h', m', i', nk', x', e1, e2, e3, e4, e5, e6, e7, e8, e9⟩ | ⟨h', m', i', e0, e1, e2, e3⟩
      · left
        have e1' : f_X1_readNumber h 4 (0 : Int32) = some ((1 : Int32), h') := e1
        have e2' : f_X11_wantNumber m 226 (1 : Int32) (0 : Int64) mo mu = some ((1 : Int32), m') := e2
        rw [e1', e2', y_bds, gb01 (Or.inr rfl)]
        refine ⟨h', m', i', R, nk', ts c T i, hw, x', rfl, rfl, by omega, e4, e5, Or.inr (Or.inr (Or.inr ⟨rfl, rfl, rfl, rfl, ?_, ?_, ?_, by omega⟩)), e7, e8⟩
        · rcases e6 with ⟨q1, q2⟩ | ⟨q1, q2, _⟩
          · exact q1
          · exact absurd q2 (by decide)
        · obtain ⟨k3, vz⟩ := e9 rfl
          rw [vz]; exact num_nn Q.1.1 zc k3
        · rcases e6 with ⟨q1, q2⟩ | ⟨q1, q2, _⟩
          · exact q2
          · exact absurd q2 (by decide)
      · right
        have e1' : f_X1_readNumber h 4 (0 : Int32) = some ((0 : Int32), h') := e1
        have e2' : f_X11_wantNumber m 226 (1 : Int32) (0 : Int64) mo mu = some ((0 : Int32), m') := e2
        rw [e1', e2', y_bds, gb01 (Or.inl rfl)]
        exact ⟨h', m', i', e0, rfl, rfl, e3⟩

/-- the class's end of an instruction -/
def insE (h : AH) (op : Nat) : Option (Int32 × AH) := bd (f_X1_layOut h 4 (mForm.getD op 0)) fun q7 => gs q7 4 1 <| bd (f_X1_readEnd q7 4) fun q9 => gb (q9.1 == 0 || q9.1 == 1) <| some (q9.1, q9.2)
/-- neither goes on, and the class has refused -/
def FR2 (n : Nat) (h m : AH) (c : Nat → Nat) (T i Nn : Nat) (X Y : Option (Int32 × AH)) : Prop := ∃ h' m' p, X = some ((0 : Int32), h') ∧ Y = some ((0 : Int32), m') ∧ (p ≤ 1500 ∧ ∃ i', p = ts c T i' ∧ i ≤ i' ∧ i' ≤ Nn) ∧ hI h' 4 16 = (1 : Int32) ∧ hI h' 4 17 = nI p ∧ hI m' 226 3 = (1 : Int32) ∧ hI m' 226 4 = nI p ∧ FA h h' ∧ FJ m m'
theorem FI_A {n : Nat} {h h' : AH} (F : FI n h h') : FA h h' := ⟨F.1, fun o k h1 h2 => F.2.1 o k h2 (by omega)⟩
theorem seq_ok {c : Nat → Nat} {T Nn n op S hn fp : Nat} {B1 B2 : Int32} {mo : Int64} {mu : Int32} (hop : op < 61) (S0 : 0 < S) (S75 : S < 75) (hhn : hn ≤ 6) (zc : ∀ i, T ≤ i → c i = 0) (hfp : ∀ v, rft 0 mo mu v ↔ fitB fp v = true) (hmu : ¬ mu.toInt64 = 0) :
    ∀ (l : List Nat) {h m : AH} (i j f : Nat) (R : Int32) (nk np : Nat) (hw : Int32) (x : Nat), OQ h m c T Nn i n B1 B2 R nk np hw x → j + l.length = sLen.getD (S - 1) 0 → (∀ t, t < l.length → tx S (j + t) = nI (l.getD t 0)) → (∀ ch, ch ∈ l → isRg ch = true ∨ isSg ch = true ∨ isNu ch = true) → (nNu l = 0 ∨ (nk = 0 ∧ nNu l = 1)) → l.length < f →
    Rch hn mo mu l m ∧ ((∃ h' m' i' D nk' np' hw' x', f_X1_readInstruction_L81 f h 4 (nI op) S (nI j) = insE h' op ∧ rsq hn mo mu l m = some ((1 : Int32), m') ∧ i + l.length ≤ i' ∧ i' ≤ Nn ∧ OQ h' m' c T Nn i' n B1 B2 (R ||| D) nk' np' hw' x' ∧ RR l D ∧ (nNu l = 0 → nk' = nk ∧ np' = np ∧ hw' = hw ∧ x' = x ∧ hL h' 11 n = hL h 11 n) ∧ (nNu l = 1 → NE hn (frm hn) fp (hL h' 11 n) hw x l nk' np' hw' x') ∧ (∀ ch l', l = ch :: l' → (ch = 78 → i + l.length < i' ∨ tKind c T (ts c T i) = 2 ∨ tKind c T (ts c T i) = 3) ∧ (ch = 100 → tKind c T (ts c T i) = 2 ∧ ∃ r, rgO (tVal c T (ts c T i)) = some r)) ∧ FI n h h' ∧ FJ m m') ∨
      FR2 n h m c T i Nn (f_X1_readInstruction_L81 f h 4 (nI op) S (nI j)) (rsq hn mo mu l m)) := by
  have ok := (t_all S S75 S0).1
  have ln := t_len S S75
  intro l
  induction l with
  | nil =>
    intro h m i j f R nk np hw x O hj _ _ _ hf
    obtain ⟨f', rfl⟩ : ∃ f', f = f' + 1 := ⟨f - 1, by omega⟩
    have L := O.tq.1.1.1
    refine ⟨O.tq.2.1.1, Or.inl ⟨h, m, i, 0, nk, np, hw, x, ?_, rfl, Nat.le_refl _, O.tq.2.2.1, by rw [Int32.or_zero]; exact O, rfl, fun _ => ⟨rfl, rfl, rfl, rfl, rfl⟩, fun q => absurd q (by decide), fun ch l' q => (by cases q), FI_rfl n h, FJ_rfl m⟩⟩
    unfold f_X1_readInstruction_L81 insE
    have hj' : j = sLen.getD (S - 1) 0 := hj
    rw [y_gb, if_pos ok, c_len h S0 S75, y_bds, if_pos ((q_le (by omega) (by omega)).mpr (by omega)), y_gb, if_pos (q_ib hop (by omega)), q_cl (by omega), y_gb, if_pos (decide_eq_true hop), y_gs, if_pos (lc_S4 L)]
  | cons ch l ih =>
    intro h m i j f R nk np hw x O hj ht hc hn1 hf
    obtain ⟨f', rfl⟩ : ∃ f', f = f' + 1 := ⟨f - 1, by omega⟩
    have L := O.tq.1.1.1
    have hj' : j + (l.length + 1) = sLen.getD (S - 1) 0 := hj
    have t0 : tx S j = nI ch := ht 0 (Nat.zero_lt_succ _)
    have lt : (ch :: l).length = l.length + 1 := rfl
    have cls : f_X1_readInstruction_L81 (f' + 1) h 4 (nI op) S (nI j) = bd (f_X1_readOperand h 4 (nI ch)) fun q14 => if ¬ q14.1 = 0 then f_X1_readInstruction_L81 f' q14.2 4 (nI op) S (nI (j + 1)) else gs q14.2 4 1 <| gs q14.2 (hR q14.2 4 0) 7 <| bd (f_X1_refuse q14.2 4 (hI q14.2 (hR q14.2 4 0) 4)) fun q19 => gb (q19.1 == 0 || q19.1 == 1) <| some (q19.1, q19.2) := by
      rw [f_X1_readInstruction_L81, y_gb, if_pos ok, c_len h S0 S75, y_bds, if_neg (fun q => by have := (q_le (by omega) (by omega)).mp q; omega), y_gb, if_pos ok, c_chr h S0 S75 (by omega), y_bds, t0, y_gs, if_pos (lc_S4 L)]
      have add1 : nI j + (1 : Int32) = nI (j + 1) := by rw [show (1 : Int32) = nI 1 from rfl, q_add]
      rw [add1]; rfl
    have nl : nNu (ch :: l) = (if isNu ch = true then 1 else 0) + nNu l := rfl
    have hch : isRg ch = true ∨ isSg ch = true ∨ ((ch = 78 ∨ ch = 110) ∧ nk = 0) := by
      rcases hc ch (List.mem_cons_self) with q | q | q
      · exact Or.inl q
      · exact Or.inr (Or.inl q)
      · refine Or.inr (Or.inr ⟨by unfold isNu at q; exact of_decide_eq_true q, ?_⟩)
        rw [nl, if_pos q] at hn1; omega
    have step := step_op (hn := hn) (fp := fp) (mo := mo) (mu := mu) O hhn zc hfp hmu hch
    rw [cls]
    have rq : rsq hn mo mu (ch :: l) m = bd (rst hn mo mu ch m) fun q => if q.1 = 0 then some ((0 : Int32), q.2) else rsq hn mo mu l q.2 := rfl
    rw [rq]
    rcases step with ⟨h1, m1, i1', R1, nk1, np1, hw1, x1, e1, e2, e3, e4, O1, se, f1, j1⟩ | ⟨h1, m1, i1, e0, e1, e2, e3, e4, e5, e6, f1, j1⟩
    · have i1 := O1.tq.2.2.1
      have tl1 : nNu l = 0 ∨ (nk1 = 0 ∧ nNu l = 1) := by
        rw [nl] at hn1
        by_cases q : isNu ch = true
        · rw [if_pos q] at hn1; omega
        · rw [if_neg q] at hn1
          rcases se with ⟨_, _, _, _, s1, _⟩ | ⟨_, _, _, s1, _⟩ | ⟨s1, _⟩ | ⟨s1, _⟩
          · rw [s1]; omega
          · rw [s1]; omega
          · exact absurd (by unfold isNu; rw [s1]; rfl) q
          · exact absurd (by unfold isNu; rw [s1]; rfl) q
      obtain ⟨rc, out⟩ := ih i1' (j + 1) f' R1 nk1 np1 hw1 x1 O1 (by omega) (fun t hh => by
        have := ht (t + 1) (by omega)
        rw [show j + 1 + t = j + (t + 1) by omega]; exact this) (fun d hd => hc d (List.mem_cons_of_mem _ hd)) tl1 (by omega)
      refine ⟨⟨O.tq.2.1.1, 1, m1, e2, Or.inr ⟨rfl, FJ_L j1 O.tq.2.1.1, rc⟩⟩, ?_⟩
      rw [e1, e2, y_bds, if_pos (show ¬ (1 : Int32) = 0 from by decide), y_bds, if_neg (show ¬ (1 : Int32) = 0 from by decide)]
      rcases out with ⟨h', m', i', D, nk', np', hw', x', g1, g2, g3, g4, g5, g6, g7, g8, g9, g10, g11⟩ | ⟨h', m', p, g1, g2, g3, g4, g5, g6, g7, g8, g9⟩
      · left
        rcases se with ⟨s1, s2, ⟨r, r1, r2, r3⟩, s3, s4, s5, s6, s7, s8⟩ | ⟨s1, s2, s3, s4, s5, s6, s7, s8⟩ | ⟨s1, s2, s3, s4, s5, s6⟩ | ⟨s1, s2, s3, s4, s5, s6, s7, s8⟩
        · have nn : isNu ch = false := by unfold isRg at s1; have := of_decide_eq_true s1; unfold isNu; exact decide_eq_false (by omega)
          have nl' : nNu (ch :: l) = nNu l := by rw [nl, nn]; simp
          have c78 : ¬ ch = 78 := fun q => by rw [q] at nn; exact absurd nn (by decide)
          have c110 : ¬ ch = 110 := fun q => by rw [q] at nn; exact absurd nn (by decide)
          refine ⟨h', m', i', (nI r <<< (shO ch &&& 31)) ||| D, nk', np', hw', x', g1, g2, by omega, g4, ?_, ?_, fun q => ?_, fun q => ?_, fun d l' q => ⟨fun w => ?_, fun w => ?_⟩, FI_tr f1 g10, FJ_tr j1 g11⟩
          · rw [← Int32.or_assoc, ← r2]; exact g5
          · unfold RR; rw [if_pos s1]; exact ⟨r, D, r1, g6, rfl⟩
          · rw [nl'] at q
            obtain ⟨w1, w2, w3, w4, w5⟩ := g7 q
            exact ⟨w1.trans s4, w2.trans s5, w3.trans s6, w4.trans s7, w5.trans s2⟩
          · rw [nl'] at q
            have w := g8 q
            unfold NE
            rw [if_neg c78, if_neg c110, ← s6, ← s7]; exact w
          · cases q; exact absurd w c78
          · cases q; exact ⟨s3, r, r3⟩
        · have nn : isNu ch = false := by unfold isSg at s1; have := of_decide_eq_true s1; unfold isNu; exact decide_eq_false (by omega)
          have nr : ¬ isRg ch = true := by unfold isSg at s1; have := of_decide_eq_true s1; unfold isRg; simp only [decide_eq_true_eq]; omega
          have nl' : nNu (ch :: l) = nNu l := by rw [nl, nn]; simp
          have c78 : ¬ ch = 78 := fun q => by rw [q] at nn; exact absurd nn (by decide)
          have c110 : ¬ ch = 110 := fun q => by rw [q] at nn; exact absurd nn (by decide)
          have c100 : ¬ ch = 100 := fun q => by rw [q] at nr; exact nr (by decide)
          refine ⟨h', m', i', D, nk', np', hw', x', g1, g2, by omega, g4, ?_, ?_, fun q => ?_, fun q => ?_, fun d l' q => ⟨fun w => ?_, fun w => ?_⟩, FI_tr f1 g10, FJ_tr j1 g11⟩
          · rw [← s3]; exact g5
          · unfold RR; rw [if_neg nr]; exact g6
          · rw [nl'] at q
            obtain ⟨w1, w2, w3, w4, w5⟩ := g7 q
            exact ⟨w1.trans s4, w2.trans s5, w3.trans s6, w4.trans s7, w5.trans s2⟩
          · rw [nl'] at q
            have w := g8 q
            unfold NE
            rw [if_neg c78, if_neg c110, ← s6, ← s7]; exact w
          · cases q; exact absurd w c78
          · cases q; exact absurd w c100
        · have nn : isNu ch = true := by rw [s1]; rfl
          have nr : ¬ isRg ch = true := by rw [s1]; decide
          have l0 : nNu l = 0 := by rw [nl, if_pos nn] at hn1; omega
          obtain ⟨w1, w2, w3, w4, w5⟩ := g7 l0
          refine ⟨h', m', i', D, nk', np', hw', x', g1, g2, by omega, g4, ?_, ?_, fun q => ?_, fun q => ?_, fun d l' q => ⟨fun w => ?_, fun w => ?_⟩, FI_tr f1 g10, FJ_tr j1 g11⟩
          · rw [← s2]; exact g5
          · unfold RR; rw [if_neg nr]; exact g6
          · rw [nl, if_pos nn] at q; omega
          · unfold NE
            rw [if_pos s1, w5, w2, w1, w3, w4, s3]; exact ⟨s4, s5⟩
          · rcases s6 with ⟨_, q2⟩ | q2
            · exact Or.inr q2
            · exact Or.inl (by omega)
          · cases q; rw [s1] at w; exact absurd w (by decide)
        · have nn : isNu ch = true := by rw [s1]; rfl
          have nr : ¬ isRg ch = true := by rw [s1]; decide
          have l0 : nNu l = 0 := by rw [nl, if_pos nn] at hn1; omega
          obtain ⟨w1, w2, w3, w4, w5⟩ := g7 l0
          refine ⟨h', m', i', D, nk', np', hw', x', g1, g2, by omega, g4, ?_, ?_, fun q => ?_, fun q => ?_, fun d l' q => ⟨fun w => ?_, fun w => ?_⟩, FI_tr f1 g10, FJ_tr j1 g11⟩
          · rw [← s2]; exact g5
          · unfold RR; rw [if_neg nr]; exact g6
          · rw [nl, if_pos nn] at q; omega
          · unfold NE
            rw [if_neg (show ¬ ch = 78 from fun q => by rw [s1] at q; exact absurd q (by decide)), if_pos s1, w5, w2, w1, w3, w4, s3]; exact ⟨s4, s5, s6, s7⟩
          · cases q; rw [s1] at w; exact absurd w (by decide)
          · cases q; rw [s1] at w; exact absurd w (by decide)
      · right
        obtain ⟨g3, i3, g3a, g3b, g3c⟩ := g3
        exact ⟨h', m', p, g1, g2, ⟨g3, i3, g3a, by omega, g3c⟩, g4, g5, g6, g7, FA_tr (FI_A f1) g8, FJ_tr j1 g9⟩
    · have L1 := FI_L f1 L
      refine ⟨⟨O.tq.2.1.1, 0, m1, e2, Or.inl rfl⟩, Or.inr ?_⟩
      rw [e1, e2, y_bds, if_neg (fun q => q rfl), y_bds, if_pos rfl, y_gs, if_pos (lc_S4 L1), lc_R4_0 L1, y_gs, if_pos (lc_S2 L1), c_refuse L1, y_bds, gb01 (Or.inl rfl)]
      refine ⟨_, m1, ts c T i1, rfl, rfl, ⟨e4, i1, rfl, e0⟩, by rw [x_ne (by omega), x_eq], by rw [x_eq]; exact e3, e5, e6, FA_tr (FI_A f1) ⟨rfl, fun o k h1 h2 => by rw [x_ne (by omega), x_ne (by omega)]⟩, j1⟩
