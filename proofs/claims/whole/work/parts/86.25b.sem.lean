/-! The class's faults by their key; its labels. -/
def FC (h : AH) (x : Nat) : Prop := (x = 100000 ∧ hI h 4 16 = 0 ∧ hI h 4 17 = 0) ∨ (x < 100000 ∧ 2 ≤ x % 4 ∧ hI h 4 16 = nI (x % 4) ∧ hI h 4 17 = nI (x / 4))
def FNc (h h' : AH) : Prop := h'.2 = h.2 ∧ ∀ o k, ¬ (o = 4 ∧ (k = 16 ∨ k = 17)) → hI h' o k = hI h o k
theorem FNc_rfl (h : AH) : FNc h h := ⟨rfl, fun _ _ _ => rfl⟩
theorem FNc_tr {a b d : AH} (x : FNc a b) (y : FNc b d) : FNc a d := ⟨y.1.trans x.1, fun o k h => (y.2 o k h).trans (x.2 o k h)⟩
theorem FNc_L {h h' : AH} (F : FNc h h') (o k : Nat) : hL h' o k = hL h o k := by show h'.2.1 o k = h.2.1 o k; rw [F.1]
theorem c_noteF {h : AH} (L : LC h) {x k w : Nat} (F : FC h x) (hk : k = 2 ∨ k = 3) (hw : w ≤ 2000) : ∃ h', f_X1_noteFault h 4 (nI k) (nI w) = some h' ∧ FC h' (min x (4 * w + k)) ∧ FNc h h' := by
  have S : f_X1_noteFault_L41 h 4 (nI k) (nI w) = some (sI (sI h 4 16 (nI k)) 4 17 (nI w)) := by
    unfold f_X1_noteFault_L41; rw [y_gs, if_pos (lc_S4 L), y_lt, y_lt]
  have SF : FC (sI (sI h 4 16 (nI k)) 4 17 (nI w)) (4 * w + k) := by
    right
    have e1 : (4 * w + k) % 4 = k := by omega
    have e2 : (4 * w + k) / 4 = w := by omega
    rw [e1, e2]
    exact ⟨by omega, by omega, by rw [x_ne (by omega), x_eq], by rw [x_eq]⟩
  have SN : FNc h (sI (sI h 4 16 (nI k)) 4 17 (nI w)) := ⟨rfl, fun o k g => by rw [x_ne (by omega), x_ne (by omega)]⟩
  rcases F with ⟨rfl, f1, f2⟩ | ⟨x1, x2, f1, f2⟩
  · refine ⟨_, ?_, ?_, SN⟩
    · unfold f_X1_noteFault f_X1_noteFault_L24 f_X1_noteFault_L28 f_X1_noteFault_L29
      simp only [y_gs, lc_S4 L, ↓reduceIte, f1, S, ite_self]
    · rw [Nat.min_eq_right (by omega)]; exact SF
  · have n0 : ¬ nI (x % 4) = 0 := fun q => by have := (q_eq (b := 0) (by omega) (by omega)).mp q; omega
    have a1 : nI w < nI (x / 4) ↔ w < x / 4 := q_lt (by omega) (by omega)
    have a2 : nI w = nI (x / 4) ↔ w = x / 4 := q_eq (by omega) (by omega)
    have a3 : nI (x % 4) ≤ nI k ↔ x % 4 ≤ k := q_le (by omega) (by omega)
    have b1 : f_X1_noteFault_L24 h 4 (nI k) (nI w) = some (sI (sI h 4 16 (nI k)) 4 17 (nI w)) := by
      unfold f_X1_noteFault_L24 f_X1_noteFault_L29
      rw [y_gs, if_pos (lc_S4 L), f1, if_neg n0, if_neg (by decide), S]
    have b2 : f_X1_noteFault_L28 h 4 (nI k) (nI w) = some h := by
      unfold f_X1_noteFault_L28 f_X1_noteFault_L29
      rw [y_gs, if_pos (lc_S4 L), f1, if_neg n0, if_pos rfl]
    have keep : 4 * w + k ≥ x → FC h (min x (4 * w + k)) := fun q => by
      rw [Nat.min_eq_left q]; exact Or.inr ⟨x1, x2, f1, f2⟩
    unfold f_X1_noteFault
    rw [y_gs, if_pos (lc_S4 L), f1, f2, b1, b2]
    by_cases c1 : w < x / 4
    · rw [if_pos (a1.mpr c1)]
      exact ⟨_, rfl, by rw [Nat.min_eq_right (by omega)]; exact SF, SN⟩
    · rw [if_neg (fun q => c1 (a1.mp q))]
      by_cases c2 : w = x / 4
      · rw [if_neg (fun q => q (a2.mpr c2))]
        by_cases c3 : x % 4 ≤ k
        · rw [if_pos (a3.mpr c3)]
          exact ⟨_, rfl, keep (by omega), FNc_rfl h⟩
        · rw [if_neg (fun q => c3 (a3.mp q))]
          exact ⟨_, rfl, by rw [Nat.min_eq_right (by omega)]; exact SF, SN⟩
      · rw [if_pos (fun q => c2 (a2.mp q))]
        exact ⟨_, rfl, keep (by omega), FNc_rfl h⟩
/-- the first label with a name -/
def lfi (h : AH) (v : Int64) (L : Nat) : Option Nat := fst (fun j => decide (hL h 12 j = v)) 0 L
theorem lfi_lt {h : AH} {v : Int64} {L l : Nat} (e : lfi h v L = some l) : l < L := by have := (fst_some e).2.1; omega
theorem c_findLabel {h : AH} (L1 : LC h) {L : Nat} (hL' : L ≤ 750) (h9 : hI h 4 9 = nI L) (v : Int64) : f_X1_findLabel h 4 v = some (oI (lfi h v L)) := by
  unfold f_X1_findLabel
  rw [y_lt]
  have := lp_find2 (fun f x => f_X1_findLabel_L2 h f 4 v x) (fun j => decide (hL h 12 j = v)) (fun j => some (nI j)) (some nN) 0 L (fun f j h1 h2 => by
    show f_X1_findLabel_L2 h (f + 1) 4 v (nI j) = _
    rw [f_X1_findLabel_L2, y_gs, if_pos (lc_S4 L1), h9, if_neg (show ¬ nI L ≤ nI j from fun q => by have := (q_le (by omega) (by omega)).mp q; omega), lc_R4_10 L1, y_gs, if_pos (lc_S12 L1), lc_N12 L1, y_gb, if_pos (q_ib (by omega) (by omega)), q_cl (by omega)]
    by_cases e : hL h 12 j = v
    · rw [if_neg (fun q => q ((lg_0 _ _).mpr e)), if_pos (decide_eq_true e)]
    · rw [if_pos (fun q => e ((lg_0 _ _).mp q)), if_neg (by rw [decide_eq_false e]; decide), y_lt, q_add1]) (fun f => by
    show f_X1_findLabel_L2 h (f + 1) 4 v (nI (0 + L)) = _
    rw [f_X1_findLabel_L2, y_gs, if_pos (lc_S4 L1), h9, if_pos (show nI L ≤ nI (0 + L) from by rw [Nat.zero_add]; exact Int32.le_refl _)]; rfl) FU (FU_gt (by omega))
  refine this.trans ?_
  unfold lfi
  cases fst (fun j => decide (hL h 12 j = v)) 0 L <;> rfl
theorem lbl_iff (h : AH) (v : Int64) : ∀ j, lbl h v j = true ↔ ∃ k, k < j ∧ hL h 12 k = v
  | 0 => ⟨fun q => Bool.noConfusion (q : false = true), fun ⟨k, hk, _⟩ => absurd hk (by omega)⟩
  | j + 1 => by
    show (lbl h v j || decide (hL h 12 j = v)) = true ↔ _
    rw [Bool.or_eq_true, lbl_iff h v j, decide_eq_true_iff]
    constructor
    · rintro (⟨k, h1, h2⟩ | h2)
      · exact ⟨k, by omega, h2⟩
      · exact ⟨j, by omega, h2⟩
    · rintro ⟨k, h1, h2⟩
      by_cases e : k = j
      · subst e; exact Or.inr h2
      · exact Or.inl ⟨k, by omega, h2⟩
theorem lfi_i {h : AH} {L i : Nat} (hi : i < L) : ∃ j, lfi h (hL h 12 i) L = some j ∧ j < L ∧ (j = i ↔ lbl h (hL h 12 i) i = false) := by
  cases e : lfi h (hL h 12 i) L with
  | none =>
    have := (fst_none.mp e) i (by omega) (by omega)
    rw [decide_eq_true rfl] at this; cases this
  | some j =>
    obtain ⟨h1, h2, h3, h4⟩ := fst_some e
    refine ⟨j, rfl, by omega, ?_⟩
    constructor
    · intro q
      subst q
      cases hb : lbl h (hL h 12 j) j with
      | false => rfl
      | true =>
        obtain ⟨k, k1, k2⟩ := (lbl_iff h _ j).mp hb
        have := h4 k (by omega) k1
        rw [decide_eq_true k2] at this; cases this
    · intro q
      have nb : ¬ ∃ k, k < i ∧ hL h 12 k = hL h 12 i := fun w => by rw [(lbl_iff h _ i).mpr w] at q; cases q
      have h3' : hL h 12 j = hL h 12 i := decide_eq_true_iff.mp h3
      rcases Nat.lt_trichotomy j i with w | w | w
      · exact absurd ⟨j, w, h3'⟩ nb
      · exact w
      · have := h4 i (by omega) w
        rw [decide_eq_true rfl] at this; cases this
theorem lfi_congr {h h' : AH} (v : Int64) {L : Nat} (e : ∀ k, k < L → hL h' 12 k = hL h 12 k) : lfi h' v L = lfi h v L := by
  unfold lfi
  exact fst_congr (fun j h1 h2 => by rw [e j (by omega)])
theorem c_checkLabels {h : AH} {g : Gh} {L : Nat} (L1 : LC h) (hL' : L ≤ 750) (h9 : hI h 4 9 = nI L) (pl : ∀ j, j < L → hI h 13 j = nI (g 5 j) ∧ g 5 j ≤ 1500) : ∀ r k f (hk : AH), k + r = L → r < f → FNc h hk → FC hk (mn (DL h g) k) → ∃ h', f_X1_checkLabels_L2 f hk 4 (nI k) = some h' ∧ FNc h h' ∧ FC h' (mn (DL h g) L) := by
  intro r
  induction r with
  | zero =>
    intro k f hk e hf N F
    obtain ⟨f, rfl⟩ : ∃ q, f = q + 1 := ⟨f - 1, by omega⟩
    have Lk : LC hk := LC_2 L1 (by rw [N.1])
    have : k = L := by omega
    subst this
    refine ⟨hk, ?_, N, F⟩
    rw [f_X1_checkLabels_L2, y_gs, if_pos (lc_S4 Lk), N.2 4 9 (by omega), h9, if_pos (Int32.le_refl _)]
  | succ r ih =>
    intro k f hk e hf N F
    obtain ⟨f, rfl⟩ : ∃ q, f = q + 1 := ⟨f - 1, by omega⟩
    have Lk : LC hk := LC_2 L1 (by rw [N.1])
    have h9k : hI hk 4 9 = nI L := by rw [N.2 4 9 (by omega)]; exact h9
    have hLk := FNc_L N
    obtain ⟨j, j1, j2, j3⟩ := lfi_i (h := h) (L := L) (i := k) (by omega)
    have fl' : f_X1_findLabel hk 4 (hL hk 12 k) = some (nI j) := by
      rw [c_findLabel Lk hL' h9k, lfi_congr _ (fun k _ => hLk 12 k), hLk, j1]; rfl
    have ji : nI j = nI k ↔ j = k := q_eq (by omega) (by omega)
    obtain ⟨p1, p2⟩ := pl k (by omega)
    have M : mn (DL h g) (k + 1) = min (mn (DL h g) k) (DL h g k) := rfl
    have Ml := mn_le (DL h g) k
    rw [f_X1_checkLabels_L2, y_gs, if_pos (lc_S4 Lk), h9k, if_neg (show ¬ nI L ≤ nI k from fun q => by have := (q_le (by omega) (by omega)).mp q; omega), lc_R4_10 Lk, y_gs, if_pos (lc_S12 Lk), lc_N12 Lk, y_gb, if_pos (q_ib (by omega) (by omega)), q_cl (by omega), fl', y_bds]
    unfold f_X1_checkLabels_L35
    by_cases c : j = k
    · rw [if_pos (ji.mpr c), q_add1, y_lt]
      refine ih (k + 1) f hk (by omega) (by omega) N ?_
      have D : DL h g k = 100000 := by unfold DL; rw [j3.mp c, if_neg (by decide)]
      rw [M, D, Nat.min_eq_left Ml]; exact F
    · have lb : lbl h (hL h 12 k) k = true := by
        cases hb : lbl h (hL h 12 k) k with
        | true => rfl
        | false => exact absurd (j3.mpr hb) c
      obtain ⟨h', n1, n2, n3⟩ := c_noteF Lk F (k := 2) (w := g 5 k) (Or.inl rfl) (by omega)
      have n1' : f_X1_noteFault hk 4 (2 : Int32) (nI (g 5 k)) = some h' := n1
      rw [if_neg (fun q => c (ji.mp q)), lc_R4_11 Lk, y_gs, if_pos (lc_S13 Lk), lc_N13 Lk, y_gb, if_pos (q_ib (by omega) (by omega)), N.2 13 k (by omega), p1, n1', y_bds, q_add1, y_lt]
      refine ih (k + 1) f h' (by omega) (by omega) (FNc_tr N n3) ?_
      have D : DL h g k = 4 * g 5 k + 2 := by unfold DL; rw [lb, if_pos rfl]
      rw [M, D]; exact n2
