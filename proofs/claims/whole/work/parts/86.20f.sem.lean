/-! Steps that leave the memory system as it is. -/
def Bd (h h' : AH) : Prop := hV h' + 2 * hN h (hR h 16 0) = hV h + 2 * hN h' (hR h' 16 0) ∧ 576 * hZ h' + hN h (hR h 16 0) ≤ 576 * hZ h + hN h' (hR h' 16 0)
theorem Bd_C {h h' : AH} (F : FrC h h') : Bd h h' := ⟨F.2.2.2.2.1, F.2.2.2.2.2⟩
theorem hR_2 {h h' : AH} (e : h'.2 = h.2) (o k : Nat) : hR h' o k = hR h o k := by
  show h'.2.2.1 o k = h.2.2.1 o k; rw [e]
theorem hS_2 {h h' : AH} (e : h'.2 = h.2) (o : Nat) : hS h' o = hS h o := by
  show h'.2.2.2.1 o = h.2.2.2.1 o; rw [e]
theorem hN_2 {h h' : AH} (e : h'.2 = h.2) (o : Nat) : hN h' o = hN h o := by
  show h'.2.2.2.2.1 o = h.2.2.2.2.1 o; rw [e]
theorem hZ_2 {h h' : AH} (e : h'.2 = h.2) : hZ h' = hZ h := by
  unfold hZ; rw [e]
theorem hV_2 {h h' : AH} (e : h'.2 = h.2) : hV h' = hV h := by
  unfold hV; rw [e]
theorem Bd_2 {h h' : AH} (e : h'.2 = h.2) : Bd h h' := by
  unfold Bd; rw [hR_2 e, hN_2 e, hZ_2 e, hV_2 e]; exact ⟨rfl, Nat.le_refl _⟩
theorem Bd_rfl (h : AH) : Bd h h := Bd_2 rfl
theorem Bd_tr {a b c : AH} (h1 : Bd a b) (h2 : Bd b c) : Bd a c := by
  obtain ⟨x1, x2⟩ := h1
  obtain ⟨y1, y2⟩ := h2
  exact ⟨by omega, by omega⟩
/-- places of the cores, the tape, the assembler -/
def xo (o k : Nat) : Prop := o ≤ 15 ∨ o = 33 ∨ (34 ≤ o ∧ o ≤ 225 ∧ ((o - 34) % 12 = 1 ∨ (o - 34) % 12 = 2 ∨ (o - 34) % 12 = 3 ∨ (o - 34) % 12 = 9 ∨ (o - 34) % 12 = 10 ∨ ((o - 34) % 12 = 0 ∧ (k = 3 ∨ k = 4 ∨ k = 13 ∨ k = 14 ∨ k = 16))))
theorem RC_x {h h' : AH} {s : St} (R : RC h s) (e : h'.2 = h.2) (e2 : ∀ o k, ¬ xo o k → hI h' o k = hI h o k) : RC h' s := by
  obtain ⟨⟨L, z⟩, rs, rk, rc, rh, rm, rp, rq⟩ := R
  have f := fun o k (g : ¬ xo o k) => e2 o k g
  refine ⟨⟨lc_of L (fun o k _ _ => hR_2 e o k) (fun o _ => ⟨hS_2 e o, hN_2 e o⟩), by rw [hZ_2 e]; exact z⟩, ?_, ?_, ?_, ?_, ?_, ?_, ?_⟩
  · exact RCs_ag rs (fun i _ => f _ _ (by unfold xo; omega)) (fun k _ _ => f _ _ (by unfold xo; omega)) (f _ _ (by unfold xo; omega)) (fun _ => rfl) rfl rfl rfl
  · intro c hc
    obtain ⟨a1, a2, a3, a4, a5, a6, a7, a8, a9, a10⟩ := rk c hc
    refine ⟨?_, ?_, ?_, ?_, ?_, ?_, ?_, ?_, ?_, fun j hj => ?_⟩
    · rw [f _ _ (by unfold xo; omega)]; exact a1
    · rw [f _ _ (by unfold xo; omega)]; exact a2
    · rw [f _ _ (by unfold xo; omega)]; exact a3
    · rw [f _ _ (by unfold xo; omega)]; exact a4
    · rw [f _ _ (by unfold xo; omega)]; exact a5
    · rw [f _ _ (by unfold xo; omega)]; exact a6
    · rw [f _ _ (by unfold xo; omega)]; exact a7
    · rw [f _ _ (by unfold xo; omega)]; exact a8
    · rw [f _ _ (by unfold xo; omega)]; exact a9
    · rw [f _ _ (by unfold xo; omega)]; exact a10 j hj
  · exact RCc_ag rc (fun c r k hc h1 h2 => f _ _ (by unfold xo; omega)) (fun _ _ _ _ => rfl) (fun _ _ => rfl)
  · exact RCh_ag rh (fun o k h1 h2 => f _ _ (by unfold xo; omega)) (fun _ => rfl) (fun _ _ _ => rfl) (fun _ => rfl)
  · exact RCm_ag rm (fun k => f _ _ (by unfold xo; omega)) (fun _ _ => rfl)
  · have a3 := rp.2.2.1
    exact RCp_ag rp (hR_2 e 16 0) (f _ _ (by unfold xo; omega)) (hS_2 e _) (hN_2 e _) (fun k => f _ _ (by unfold xo; omega)) (by rw [hZ_2 e]; exact Nat.le_refl _) rfl
  · exact RCq_ag rq (f _ _ (by unfold xo; omega)) (fun k => f _ _ (by unfold xo; omega)) rfl
theorem DZ_x {h h' : AH} {s : St} (D : DZ h s) (e2 : ∀ o k, ¬ xo o k → hI h' o k = hI h o k) : DZ h' s := by
  intro k u g4 g8
  rw [e2 _ _ (by unfold xo; omega)]; exact D k u g4 g8
theorem sI_sI (h : AH) (o k : Nat) (v w : Int32) : sI (sI h o k v) o k w = sI h o k w := by
  have : (sI (sI h o k v) o k w).1 = (sI h o k w).1 := by
    funext p q
    show hI (sI (sI h o k v) o k w) p q = hI (sI h o k w) p q
    rw [x_hI_sI, x_hI_sI, x_hI_sI]
    split <;> rfl
  show ((sI (sI h o k v) o k w).1, h.2) = ((sI h o k w).1, h.2)
  rw [this]
theorem pI_m1 (k : Nat) : nI k + (-1 : Int32) = pI k := by
  cases k with
  | zero => rfl
  | succ k =>
    rw [pI_s, ← q_add]
    show nI k + (1 : Int32) + (-1 : Int32) = nI k
    rw [Int32.add_assoc]
    exact Int32.add_zero _
theorem pI_sub (k : Nat) : nI k - (1 : Int32) = pI k := by
  rw [← pI_m1, Int32.sub_eq_add_neg]
theorem bA_1 {sa sb : Nat → Nat} {A i : Nat} (h : sa i = A) : bA sa sb A (i + 1) = bA sa sb A i ||| sb i := if_pos h
theorem bA_0 {sa sb : Nat → Nat} {A i : Nat} (h : ¬ sa i = A) : bA sa sb A (i + 1) = bA sa sb A i := if_neg h
theorem ov_1 {sa sb : Nat → Nat} {sd : Nat → Int32} {A i : Nat} {w : Int32} (h : sa i = A) : ov sa sb sd A w (i + 1) = (ov sa sb sd A w i &&& (BB (sb i) ^^^ (-1 : Int32))) ||| sd i := if_pos h
theorem ov_0 {sa sb : Nat → Nat} {sd : Nat → Int32} {A i : Nat} {w : Int32} (h : ¬ sa i = A) : ov sa sb sd A w (i + 1) = ov sa sb sd A w i := if_neg h
theorem x7_get {h : AH} (L : LC h) {c i j : Nat} (hc : c < 16) (hi : i < 16) (hj : j < 3) : f_X7_get h (36 + 12 * c) (nI i) (nI j) = some (hI h (37 + 12 * c) (3 * i + j)) := by
  unfold f_X7_get
  rw [y_gs, if_pos (lk_S36 L hc), lk_R36_0 L hc, y_gs, if_pos (lk_S37 L hc), lk_N37 L hc, show (3 : Int32) = nI 3 from rfl, q_mul, q_add, y_gb, if_pos (q_ib (by omega) (by omega)), q_cl (by omega)]
  rw [show i * 3 + j = 3 * i + j by omega]
theorem c_bytesAt {h m : AH} {lim : Nat} {e : Ex} {b c A : Nat} (L : LC h) (X : EXc h m lim e b c) (hc : c < 16) (hl : lim ≤ 16) (hA : A < 2048) (n : Nat) : ∀ (i f : Nat), i + n = e 2 c → f_X7_bytesAt_L4 h (f + (n + 1)) (36 + 12 * c) (nI (4 * A)) (nI (bA (fun i => e 3 (16 * c + i)) (fun i => e 4 (16 * c + i)) A i)) (nI i) = some (nI (bA (fun i => e 3 (16 * c + i)) (fun i => e 4 (16 * c + i)) A (e 2 c))) := by
  obtain ⟨_, _, _, ⟨x8, _, x10, _⟩, x12, _⟩ := X
  induction n with
  | zero =>
    intro i f hi
    unfold f_X7_bytesAt_L4
    rw [y_gs, if_pos (lk_S36 L hc), x8, if_pos ((q_le (by omega) (by omega)).mpr (by omega))]
    rw [show i = e 2 c by omega]
  | succ n ih =>
    intro i f hi
    obtain ⟨w1, w2, w3, w4', w5, w6, w7, w8⟩ := x12 i (by omega)
    have bl : bA (fun i => e 3 (16 * c + i)) (fun i => e 4 (16 * c + i)) A i < 16 := bA_lt i (fun j hj => (x12 j (by omega)).2.2.2.2.2.1)
    unfold f_X7_bytesAt_L4
    rw [y_gs, if_pos (lk_S36 L hc), x8, if_neg (fun g => by have := (q_le (by omega) (by omega)).mp g; omega), show (0 : Int32) = nI 0 from rfl, x7_get L hc (show i < 16 by omega) (by omega), y_bds, show 3 * i + 0 = 3 * i by omega, w1]
    have ih' := ih (i + 1) f (by omega)
    by_cases c2 : e 3 (16 * c + i) = A
    · rw [if_neg (fun g => g (by rw [c2])), show (1 : Int32) = nI 1 from rfl, x7_get L hc (show i < 16 by omega) (by omega), y_bds, w4', y_lt]
      unfold f_X7_bytesAt_L31
      rw [y_lt, (n4_or _ bl _ w6).2, show (1 : Int32) = nI 1 from rfl, q_add]
      rw [bA_1 (sa := fun i => e 3 (16 * c + i)) (i := i) c2] at ih'
      exact ih'
    · rw [if_pos (fun g => by have := (q_eq (by omega) (by omega)).mp g; omega)]
      unfold f_X7_bytesAt_L31
      rw [y_lt, show (1 : Int32) = nI 1 from rfl, q_add]
      rw [bA_0 (sa := fun i => e 3 (16 * c + i)) (i := i) c2] at ih'
      exact ih'
theorem c_over {h m : AH} {lim : Nat} {e : Ex} {b c A : Nat} {w : Int32} (L : LC h) (X : EXc h m lim e b c) (hc : c < 16) (hl : lim ≤ 16) (hA : A < 2048) (n : Nat) : ∀ (i f : Nat), i + n = e 2 c → f_X7_over_L5 h (f + (n + 1)) (36 + 12 * c) (nI (4 * A)) (ov (fun i => e 3 (16 * c + i)) (fun i => e 4 (16 * c + i)) (fun i => hI m 251 (16 * c + i)) A w i) (nI i) = some (ov (fun i => e 3 (16 * c + i)) (fun i => e 4 (16 * c + i)) (fun i => hI m 251 (16 * c + i)) A w (e 2 c)) := by
  obtain ⟨_, _, _, ⟨x8, _, x10, _⟩, x12, _⟩ := X
  induction n with
  | zero =>
    intro i f hi
    unfold f_X7_over_L5
    rw [y_gs, if_pos (lk_S36 L hc), x8, if_pos ((q_le (by omega) (by omega)).mpr (by omega))]
    rw [show i = e 2 c by omega]
  | succ n ih =>
    intro i f hi
    obtain ⟨w1, w2, w3, w4', w5, w6, w7, w8⟩ := x12 i (by omega)
    unfold f_X7_over_L5
    rw [y_gs, if_pos (lk_S36 L hc), x8, if_neg (fun g => by have := (q_le (by omega) (by omega)).mp g; omega), show (0 : Int32) = nI 0 from rfl, x7_get L hc (show i < 16 by omega) (by omega), y_bds, show 3 * i + 0 = 3 * i by omega, w1]
    have ih' := ih (i + 1) f (by omega)
    by_cases c2 : e 3 (16 * c + i) = A
    · have a15 : nI (e 4 (16 * c + i)) &&& (15 : Int32) = nI (e 4 (16 * c + i)) := by
        have := q_and (a := e 4 (16 * c + i)) (k := 4) (by omega) (by omega)
        rw [Nat.mod_eq_of_lt (by omega)] at this; exact this
      rw [if_neg (fun g => g (by rw [c2])), show (1 : Int32) = nI 1 from rfl, x7_get L hc (show i < 16 by omega) (by omega), y_bds, w4', a15, y_gb, if_pos (q_ib w6 (by omega)), q_cl (by omega), show (2 : Int32) = nI 2 from rfl, x7_get L hc (show i < 16 by omega) (by omega), y_bds, y_lt, w7]
      unfold f_X7_over_L52
      rw [y_lt, show (1 : Int32) = nI 1 from rfl, q_add]
      rw [ov_1 (sa := fun i => e 3 (16 * c + i)) (i := i) c2] at ih'
      exact ih'
    · rw [if_pos (fun g => by have := (q_eq (by omega) (by omega)).mp g; omega)]
      unfold f_X7_over_L52
      rw [y_lt, show (1 : Int32) = nI 1 from rfl, q_add]
      rw [ov_0 (sa := fun i => e 3 (16 * c + i)) (i := i) c2] at ih'
      exact ih'
theorem r_readsLoop {h m : AH} {lim : Nat} {e : Ex} {b c A : Nat} (L : LM m) (X : EXc h m lim e b c) (hc : c < 16) (hl : lim ≤ 16) (hA : A < 2048) (n : Nat) : ∀ (rd : Int32) (lf f : Nat), n ≤ e 2 c → lf < 16 → f_X11_reads_L24 (f + (n + 1)) (sI m 226 77 rd) 226 (nI c) (nI (4 * A)) (nI lf) (pI n) = f_X11_reads_L24 (f + 1) (sI m 226 77 (rr (fun i => e 3 (16 * c + i)) (fun i => e 4 (16 * c + i)) (fun i => hI m 251 (16 * c + i)) A n rd lf).1) 226 (nI c) (nI (4 * A)) (nI (rr (fun i => e 3 (16 * c + i)) (fun i => e 4 (16 * c + i)) (fun i => hI m 251 (16 * c + i)) A n rd lf).2) (pI 0) := by
  obtain ⟨_, _, _, ⟨x8, _, x10, _⟩, x12, _⟩ := X
  induction n with
  | zero => intro rd lf f _ _; rfl
  | succ n ih =>
    intro rd lf f hn hlf
    obtain ⟨w1, w2, w3, w4', w5, w6, w7, w8⟩ := x12 n (by omega)
    have L' : LM (sI m 226 77 rd) := L
    have hi : ∀ o k, o ≠ 226 → hI (sI m 226 77 rd) o k = hI m o k := fun o k ho => x_ne (by omega)
    conv => lhs; unfold f_X11_reads_L24
    rw [pI_s, if_neg (lt0 (show n < 2 ^ 31 by omega)), y_lt, show (16 : Int32) = nI 16 from rfl, q_mul, q_add, y_gs, if_pos (lm_S226 L'), lm_R31 L', y_gs, if_pos (lm_S249 L'), lm_N249 L', y_gb, if_pos (q_ib (by omega) (by omega)), q_cl (by omega), hi _ _ (by omega), w2]
    conv => rhs; unfold rr
    by_cases c2 : e 3 (16 * c + n) = A
    · rw [if_pos (by rw [c2]), lm_R32 L', y_gs, if_pos (lm_S250 L'), lm_N250 L', y_gb, if_pos (q_ib (by omega) (by omega)), y_lt, hi _ _ (by omega), w5, (n4_and lf hlf _ w6).2, lm_R33 L', y_gs, if_pos (lm_S251 L'), lm_N251 L', y_gb, if_pos (q_ib (by omega) (by omega)), r_maskOf _ (n4_and lf hlf _ w6).1, y_bds, y_lt, y_lt, hi 251 _ (by omega), x_eq, sI_sI, n4_not2 lf hlf _ w6]
      unfold f_X11_reads_L96
      rw [y_lt, pI_m1, if_pos c2]
      exact ih _ _ f (by omega) (n4_not lf hlf _ w6).1
    · rw [if_neg (fun g => by have := (q_eq (by omega) (by omega)).mp g; omega)]
      unfold f_X11_reads_L96
      rw [y_lt, pI_m1, if_neg c2]
      exact ih _ _ f (by omega) hlf
