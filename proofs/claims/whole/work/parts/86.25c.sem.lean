/-! The class checks its items. -/
def lva (g : Gh) (l k : Nat) : Int32 := nI (g 6 l) - (if tForm.getD (g 0 k) 0 = 4 ∨ tForm.getD (g 0 k) 0 = 6 then nI (g 2 k) else 0)
/-- an item's faults that need labels -/
def KB (h : AH) (g : Gh) (L k : Nat) : Nat := if g 3 k = 2 then (match lfi h (hL h 11 k) L with | none => 4 * g 4 k + 2 | some l => if fitB (tForm.getD (g 0 k) 0) (lva g l k).toInt64 = false then 4 * g 4 k + 3 else 100000) else 100000
/-- an item's number at the end -/
def nval (h : AH) (g : Gh) (L j : Nat) : Int64 := if g 3 j = 2 then (match lfi h (hL h 11 j) L with | none => hL h 11 j | some l => (lva g l j).toInt64) else hL h 11 j
/-- the items below k are checked -/
def CKi (h hk : AH) (g : Gh) (L k : Nat) : Prop :=
  hk.2.2 = h.2.2 ∧ (∀ o j, ¬ (o = 4 ∧ (j = 16 ∨ j = 17)) → hI hk o j = hI h o j) ∧ (∀ o j, ¬ (o = 11 ∧ j < k) → hL hk o j = hL h o j) ∧ (∀ j, j < k → hL hk 11 j = nval h g L j)
theorem FC_le {h : AH} {x : Nat} (F : FC h x) : x ≤ 100000 := by rcases F with ⟨q, _⟩ | ⟨q, _⟩ <;> omega
theorem CK_keep {h hk h' : AH} {g : Gh} {L k : Nat} (C : CKi h hk g L k) (F : FNc hk h') (e : nval h g L k = hL h 11 k) : CKi h h' g L (k + 1) := by
  obtain ⟨c1, c2, c3, c4⟩ := C
  refine ⟨by rw [F.1]; exact c1, fun o j q => (F.2 o j q).trans (c2 o j q), fun o j q => (FNc_L F o j).trans (c3 o j (by omega)), fun j hj => ?_⟩
  rw [FNc_L F]
  by_cases q : j = k
  · subst q; rw [c3 _ _ (by omega), e]
  · exact c4 j (by omega)
theorem CK_set {h hk h' : AH} {g : Gh} {L k : Nat} {v : Int64} (C : CKi h hk g L k) (F : FNc (sL hk 11 k v) h') (e : nval h g L k = v) : CKi h h' g L (k + 1) := by
  obtain ⟨c1, c2, c3, c4⟩ := C
  refine ⟨by rw [F.1]; exact c1, fun o j q => (F.2 o j q).trans (c2 o j q), fun o j q => ?_, fun j hj => ?_⟩
  · rw [FNc_L F, x_hL_sL, if_neg (by omega)]; exact c3 o j (by omega)
  · rw [FNc_L F, x_hL_sL]
    by_cases q : j = k
    · subst q; rw [if_pos ⟨rfl, rfl⟩, e]
    · rw [if_neg (by omega)]; exact c4 j (by omega)
theorem c_148 {hk : AH} (Lk : LC hk) {x k form np : Nat} (F : FC hk x) (hf : form ≤ 10) (k375 : k < 375) (h10 : hI hk 10 k = nI np) (hp : np ≤ 1500) : ∃ h', f_X1_checkItem_L148 hk 4 (nI k) (nI form) = some h' ∧ FC h' (min x (if fitB form (hL hk 11 k) = false then 4 * np + 3 else 100000)) ∧ FNc hk h' := by
  unfold f_X1_checkItem_L148
  rw [y_gs, if_pos (lc_S4 Lk), lc_R4_8 Lk, y_gs, if_pos (lc_S11 Lk), lc_N11 Lk, y_gb, if_pos (q_ib k375 (by omega)), q_cl (by omega), c_fits _ hf, y_bds]
  cases hb : fitB form (hL hk 11 k) with
  | true =>
    rw [if_pos rfl, if_pos (by decide), if_neg (by decide), Nat.min_eq_left (FC_le F)]
    exact ⟨hk, rfl, F, FNc_rfl hk⟩
  | false =>
    obtain ⟨h', n1, n2, n3⟩ := c_noteF Lk F (k := 3) (w := np) (Or.inr rfl) (by omega)
    have n1' : f_X1_noteFault hk 4 (3 : Int32) (nI np) = some h' := n1
    rw [if_neg (show ¬ (false = true) from by decide), if_neg (show ¬ ¬ (0 : Int32) = 0 from fun q => q rfl), if_pos (show false = false from rfl), lc_R4_7 Lk, y_gs, if_pos (lc_S10 Lk), lc_N10 Lk, y_gb, if_pos (q_ib k375 (by omega)), h10, n1', y_bds]
    exact ⟨h', rfl, n2, n3⟩
theorem c_51 {h hk m : AH} {g : Gh} {n L a k x : Nat} (A : AC h m n L a g) (L1 : LC h) (C : CKi h hk g L k) (hL' : L ≤ 750) (hk' : k < n) (n375 : n ≤ 375) (F : FC hk x) : ∃ h', f_X1_checkItem_L51 hk 4 (nI k) (nI (tForm.getD (g 0 k) 0)) = some h' ∧ FC h' (min x (min (if g 3 k = 1 ∧ fitB (tForm.getD (g 0 k) 0) (hL h 11 k) = false then 4 * g 4 k + 3 else 100000) (KB h g L k))) ∧ CKi h h' g L (k + 1) := by
  obtain ⟨c1, c2, c3, c4⟩ := C
  have C : CKi h hk g L k := ⟨c1, c2, c3, c4⟩
  have Lk : LC hk := LC_2 L1 c1
  obtain ⟨⟨i1, i2⟩, i3, i4, ⟨i5, i6, i7, i8, i9, i10, i11⟩, i12, i13⟩ := A.im k hk'
  have fl' := (form_n (g 0 k) i1).2
  have h9 : hI hk 9 k = nI (g 3 k) := by rw [c2 9 k (by omega)]; exact i5
  have h10 : g 3 k ≠ 0 → hI hk 10 k = nI (g 4 k) := fun q => by rw [c2 10 k (by omega)]; exact i8 q
  have h11 : hL hk 11 k = hL h 11 k := c3 11 k (by omega)
  have xl := FC_le F
  unfold f_X1_checkItem_L51
  rw [y_gs, if_pos (lc_S4 Lk), lc_R4_6 Lk, y_gs, if_pos (lc_S9 Lk), lc_N9 Lk, y_gb, if_pos (q_ib (by omega) (by omega)), q_cl (by omega), h9]
  have g3 : g 3 k = 0 ∨ g 3 k = 1 ∨ g 3 k = 2 := by omega
  rcases g3 with e | e | e
  · have kb : KB h g L k = 100000 := by unfold KB; rw [if_neg (by omega)]
    rw [e, if_neg (fun q => q rfl), kb, if_neg (by omega), Nat.min_self, Nat.min_eq_left xl]
    exact ⟨hk, rfl, F, CK_keep C (FNc_rfl hk) (by unfold nval; rw [if_neg (by omega)])⟩
  · have kb : KB h g L k = 100000 := by unfold KB; rw [if_neg (by omega)]
    obtain ⟨h', n1, n2, n3⟩ := c_148 Lk F fl' (k := k) (by omega) (h10 (by omega)) i7
    rw [e, if_pos (by decide), y_gb, if_pos (q_ib (by omega) (by omega)), if_pos (by decide), n1, kb]
    refine ⟨h', rfl, ?_, CK_keep C n3 (by unfold nval; rw [if_neg (by omega)])⟩
    rw [h11] at n2
    have : (if 1 = 1 ∧ fitB (tForm.getD (g 0 k) 0) (hL h 11 k) = false then 4 * g 4 k + 3 else 100000) = (if fitB (tForm.getD (g 0 k) 0) (hL h 11 k) = false then 4 * g 4 k + 3 else 100000) := by
      cases fitB (tForm.getD (g 0 k) 0) (hL h 11 k) <;> rfl
    rw [this]
    have le : (if fitB (tForm.getD (g 0 k) 0) (hL h 11 k) = false then 4 * g 4 k + 3 else 100000) ≤ 100000 := by split <;> omega
    rw [Nat.min_eq_left le]; exact n2
  · have h9k : hI hk 4 9 = nI L := by rw [c2 4 9 (by omega)]; exact A.lb.1
    have fd := c_findLabel Lk hL' h9k (hL h 11 k)
    rw [lfi_congr (h := h) _ (fun k _ => c3 12 k (by omega))] at fd
    rw [e, if_pos (by decide), y_gb, if_pos (q_ib (by omega) (by omega)), if_neg (fun q => q rfl), lc_R4_8 Lk, y_gs, if_pos (lc_S11 Lk), lc_N11 Lk, y_gb, if_pos (q_ib (by omega) (by omega)), h11, fd, y_bds, if_neg (show ¬ ((2 : Nat) = 1 ∧ _) from fun q => absurd q.1 (by decide))]
    cases hl : lfi h (hL h 11 k) L with
    | none =>
      have kb : KB h g L k = 4 * g 4 k + 2 := by unfold KB; rw [if_pos e, hl]
      obtain ⟨h', n1, n2, n3⟩ := c_noteF Lk F (k := 2) (w := g 4 k) (Or.inl rfl) (by omega)
      have n1' : f_X1_noteFault hk 4 (2 : Int32) (nI (g 4 k)) = some h' := n1
      rw [if_neg (show ¬ (0 : Int32) ≤ oI none from by decide), lc_R4_7 Lk, y_gs, if_pos (lc_S10 Lk), lc_N10 Lk, y_gb, if_pos (q_ib (by omega) (by omega)), h10 (by omega), n1', y_bds, kb, Nat.min_eq_right (show 4 * g 4 k + 2 ≤ 100000 by omega)]
      exact ⟨h', rfl, n2, CK_keep C n3 (by unfold nval; rw [if_pos e, hl])⟩
    | some l =>
      have l1 := lfi_lt hl
      obtain ⟨a1, a2, a3, a4, a5, a6⟩ := A.la l l1
      have h14 : hI hk 14 l = nI (g 6 l) := by rw [c2 14 l (by omega)]; exact a3
      have h7 : hI hk 7 k = nI (g 2 k) := by rw [c2 7 k (by omega)]; exact i4.1
      have kb : KB h g L k = if fitB (tForm.getD (g 0 k) 0) (lva g l k).toInt64 = false then 4 * g 4 k + 3 else 100000 := by unfold KB; rw [if_pos e, hl]
      have nv' : nval h g L k = (lva g l k).toInt64 := by unfold nval; rw [if_pos e, hl]
      have Ls : LC (sL hk 11 k (lva g l k).toInt64) := LC_2 Lk rfl
      obtain ⟨h', n1, n2, n3⟩ := c_148 Ls (x := x) (k := k) (np := g 4 k) F fl' (by omega) (by rw [x_hI_sL]; exact h10 (by omega)) i7
      rw [x_hL_sL, if_pos (show (11 : Nat) = 11 ∧ k = k from ⟨rfl, rfl⟩), ← kb] at n2
      have le : KB h g L k ≤ 100000 := by rw [kb]; split <;> omega
      have q4 : nI (tForm.getD (g 0 k) 0) = (4 : Int32) ↔ tForm.getD (g 0 k) 0 = 4 := q_eq (b := 4) (by omega) (by omega)
      have q6 : nI (tForm.getD (g 0 k) 0) = (6 : Int32) ↔ tForm.getD (g 0 k) 0 = 6 := q_eq (b := 6) (by omega) (by omega)
      have r0 : ¬ (tForm.getD (g 0 k) 0 = 4 ∨ tForm.getD (g 0 k) 0 = 6) → f_X1_checkItem_L116 hk 4 (nI k) (nI (tForm.getD (g 0 k) 0)) (nI l) (0 : Int32) = some h' := fun q => by
        unfold lva at n1
        rw [if_neg q] at n1
        unfold f_X1_checkItem_L116 f_X1_checkItem_L145
        rw [y_gs, if_pos (lc_S4 Lk), lc_R4_12 Lk, y_gs, if_pos (lc_S14 Lk), lc_N14 Lk, y_gb, if_pos (q_ib (by omega) (by omega)), if_pos rfl, lc_R4_8 Lk, y_gs, if_pos (lc_S11 Lk), lc_N11 Lk, y_gb, if_pos (q_ib (by omega) (by omega)), q_cl (by omega), q_cl (by omega), h14, y_lt, n1]
      have r1 : (tForm.getD (g 0 k) 0 = 4 ∨ tForm.getD (g 0 k) 0 = 6) → f_X1_checkItem_L111 hk 4 (nI k) (nI (tForm.getD (g 0 k) 0)) (nI l) = some h' := fun q => by
        unfold lva at n1
        rw [if_pos q] at n1
        unfold f_X1_checkItem_L111 f_X1_checkItem_L116 f_X1_checkItem_L145
        rw [y_gs, if_pos (lc_S4 Lk), lc_R4_12 Lk, y_gs, if_pos (lc_S14 Lk), lc_N14 Lk, y_gb, if_pos (q_ib (by omega) (by omega)), if_neg (show ¬ (1 : Int32) = 0 from by decide), lc_R4_4 Lk, y_gs, if_pos (lc_S7 Lk), lc_N7 Lk, y_gb, if_pos (q_ib (by omega) (by omega)), lc_R4_8 Lk, y_gs, if_pos (lc_S11 Lk), lc_N11 Lk, y_gb, if_pos (q_ib (by omega) (by omega)), q_cl (by omega), q_cl (by omega), h14, h7, y_lt, n1]
      have fin : (if nI (tForm.getD (g 0 k) 0) = (4 : Int32) then f_X1_checkItem_L111 hk 4 (nI k) (nI (tForm.getD (g 0 k) 0)) (nI l) else if ¬ nI (tForm.getD (g 0 k) 0) = (6 : Int32) then f_X1_checkItem_L116 hk 4 (nI k) (nI (tForm.getD (g 0 k) 0)) (nI l) (0 : Int32) else f_X1_checkItem_L111 hk 4 (nI k) (nI (tForm.getD (g 0 k) 0)) (nI l)) = some h' := by
        by_cases z4 : tForm.getD (g 0 k) 0 = 4
        · rw [if_pos (q4.mpr z4), r1 (Or.inl z4)]
        · rw [if_neg (fun q => z4 (q4.mp q))]
          by_cases z6 : tForm.getD (g 0 k) 0 = 6
          · rw [if_neg (fun q => q (q6.mpr z6)), r1 (Or.inr z6)]
          · rw [if_pos (fun q => z6 (q6.mp q)), r0 (fun q => by rcases q with q | q; exact z4 q; exact z6 q)]
      rw [show oI (some l) = nI l from rfl, if_pos (show (0 : Int32) ≤ nI l from (q_le (a := 0) (by omega) (by omega)).mpr (by omega)), fin]
      refine ⟨h', rfl, ?_, CK_set C n3 nv'⟩
      rw [Nat.min_eq_right le]; exact n2
def KI (h : AH) (g : Gh) (L k : Nat) : Nat := min (KA h g k) (KB h g L k)
theorem c_checkItem {h hk m : AH} {g : Gh} {n L a k x : Nat} (A : AC h m n L a g) (L1 : LC h) (C : CKi h hk g L k) (hL' : L ≤ 750) (hk' : k < n) (n375 : n ≤ 375) (F : FC hk x) : ∃ h', f_X1_checkItem hk 4 (nI k) = some h' ∧ FC h' (min x (KI h g L k)) ∧ CKi h h' g L (k + 1) := by
  obtain ⟨c1, c2, c3, c4⟩ := C
  have C : CKi h hk g L k := ⟨c1, c2, c3, c4⟩
  have Lk : LC hk := LC_2 L1 c1
  obtain ⟨⟨i1, i2⟩, i3, i4, ⟨i5, i6, i7, i8, i9, i10, i11⟩, i12, i13⟩ := A.im k hk'
  obtain ⟨fo, fl'⟩ := form_n (g 0 k) i1
  have h5 : hI hk 5 k = nI (g 0 k) := by rw [c2 5 k (by omega)]; exact i2
  have h9 : hI hk 9 k = nI (g 3 k) := by rw [c2 9 k (by omega)]; exact i5
  have h7 : hI hk 7 k = nI (g 2 k) := by rw [c2 7 k (by omega)]; exact i4.1
  have h6 : hI hk 6 k = nI (g 1 k) := by rw [c2 6 k (by omega)]; exact i3.1
  have h11 : hL hk 11 k = hL h 11 k := c3 11 k (by omega)
  have cw' := c_words Lk (k := k) (by omega) i1 h5 h9 i6
  rw [h11] at cw'
  have W2 := wds_le (g 0 k) (g 3 k) (hL h 11 k)
  have xl := FC_le F
  have kbl : KB h g L k ≤ 100000 := by
    unfold KB
    split
    · cases lfi h (hL h 11 k) L with
      | none => show 4 * g 4 k + 2 ≤ 100000; omega
      | some l => show (if fitB (tForm.getD (g 0 k) 0) (lva g l k).toInt64 = false then 4 * g 4 k + 3 else 100000) ≤ 100000; split <;> omega
    · omega
  unfold f_X1_checkItem
  rw [y_gs, if_pos (lc_S4 Lk), lc_R4_2 Lk, y_gs, if_pos (lc_S5 Lk), lc_N5 Lk, y_gb, if_pos (q_ib (by omega) (by omega)), q_cl (by omega), h5, y_gb, if_pos (q_ib i1 (by omega)), q_cl (by omega), y_gb, if_pos (decide_eq_true i1), fo, y_lt, cw', y_bds]
  unfold KI KA
  generalize hW : wds (g 0 k) (g 3 k) (hL h 11 k) = W at *
  by_cases w0 : W = 0
  · obtain ⟨h', n1, n2, n3⟩ := c_51 A L1 C hL' hk' n375 F
    rw [if_pos (show nI W ≤ 0 from by rw [w0]; decide), n1, if_neg (show ¬ (W ≠ 0 ∧ _) from fun q => q.1 w0)]
    refine ⟨h', rfl, ?_, n3⟩
    have e : ∀ y z, z ≤ 100000 → min x (min (min 100000 y) z) = min x (min y z) := fun y z hz => by omega
    rw [e _ _ kbl]; exact n2
  · have pw : ¬ nI W ≤ 0 := fun q => by have := (q_le (b := 0) (by omega) (by omega)).mp q; omega
    have ad : nI (g 2 k) + (4 : Int32) * nI W = nI (g 2 k + 4 * W) := by rw [show (4 : Int32) = nI 4 from rfl, q_mul, q_add]
    have i4c := i4.2.2
    have le8 : nI (g 2 k + 4 * W) ≤ (8192 : Int32) ↔ g 2 k + 4 * W ≤ 8192 := q_le (b := 8192) (by omega) (by omega)
    rw [if_neg pw, lc_R4_4 Lk, y_gs, if_pos (lc_S7 Lk), lc_N7 Lk, y_gb, if_pos (q_ib (by omega) (by omega)), h7, ad]
    by_cases z : g 2 k + 4 * W ≤ 8192
    · obtain ⟨h', n1, n2, n3⟩ := c_51 A L1 C hL' hk' n375 F
      rw [if_pos (le8.mpr z), n1, if_neg (show ¬ (W ≠ 0 ∧ _) from fun q => by omega)]
      refine ⟨h', rfl, ?_, n3⟩
      have e : ∀ y z, z ≤ 100000 → min x (min (min 100000 y) z) = min x (min y z) := fun y z hz => by omega
      rw [e _ _ kbl]; exact n2
    · obtain ⟨h1, o1, o2, o3⟩ := c_noteF Lk F (k := 3) (w := g 1 k) (Or.inr rfl) (by have := i3.2; omega)
      have o1' : f_X1_noteFault hk 4 (3 : Int32) (nI (g 1 k)) = some h1 := o1
      have C1 : CKi h h1 g L k := ⟨by rw [o3.1]; exact c1, fun o j q => (o3.2 o j q).trans (c2 o j q), fun o j q => (FNc_L o3 o j).trans (c3 o j q), fun j hj => (FNc_L o3 11 j).trans (c4 j hj)⟩
      obtain ⟨h', n1, n2, n3⟩ := c_51 A L1 C1 hL' hk' n375 o2
      rw [if_neg (fun q => z (le8.mp q)), lc_R4_3 Lk, y_gs, if_pos (lc_S6 Lk), lc_N6 Lk, y_gb, if_pos (q_ib (by omega) (by omega)), h6, o1', y_bds, n1, if_pos (show W ≠ 0 ∧ _ from ⟨w0, by omega⟩)]
      refine ⟨h', rfl, ?_, n3⟩
      have e : ∀ p y z, min (min x p) (min y z) = min x (min (min p y) z) := fun p y z => by omega
      rw [← e]; exact n2
theorem c_checks {h m : AH} {g : Gh} {n L a : Nat} (A : AC h m n L a g) (L1 : LC h) (hL' : L ≤ 750) (n375 : n ≤ 375) : ∀ r k f (hk : AH), k + r = n → r < f → CKi h hk g L k → FC hk (min (mn (DL h g) L) (mn (KI h g L) k)) → ∃ h', f_X1_translate_L85 f hk 4 (nI k) = some (nI (g 7 n), h') ∧ CKi h h' g L n ∧ FC h' (min (mn (DL h g) L) (mn (KI h g L) n)) := by
  intro r
  induction r with
  | zero =>
    intro k f hk e hf C F
    obtain ⟨f, rfl⟩ : ∃ q, f = q + 1 := ⟨f - 1, by omega⟩
    have Lk : LC hk := LC_2 L1 C.1
    have : k = n := by omega
    subst this
    refine ⟨hk, ?_, C, F⟩
    rw [f_X1_translate_L85, y_gs, if_pos (lc_S4 Lk), C.2.1 4 1 (by omega), A.it.1, if_pos (Int32.le_refl _), C.2.1 4 14 (by omega), A.it.2.2]
  | succ r ih =>
    intro k f hk e hf C F
    obtain ⟨f, rfl⟩ : ∃ q, f = q + 1 := ⟨f - 1, by omega⟩
    have Lk : LC hk := LC_2 L1 C.1
    obtain ⟨h', n1, n2, n3⟩ := c_checkItem A L1 C hL' (k := k) (by omega) n375 F
    rw [f_X1_translate_L85, y_gs, if_pos (lc_S4 Lk), C.2.1 4 1 (by omega), A.it.1, if_neg (show ¬ nI n ≤ nI k from fun q => by have := (q_le (by omega) (by omega)).mp q; omega), n1, y_bds, q_add1, y_lt]
    refine ih (k + 1) f h' (by omega) (by omega) n3 ?_
    show FC h' (min (mn (DL h g) L) (min (mn (KI h g L) k) (KI h g L k)))
    rw [← Nat.min_assoc]; exact n2
/-- what the class has when it has checked all -/
theorem c_L79 {h m : AH} {g : Gh} {n L a : Nat} (A : AC h m n L a g) (L1 : LC h) (hL' : L ≤ 750) (n375 : n ≤ 375) : ∃ h', f_X1_translate_L79 h 4 = some (nI (g 7 n), h') ∧ CKi h h' g L n ∧ FC h' (min (mn (DL h g) L) (mn (KI h g L) n)) := by
  obtain ⟨h1, p1, p2, p3⟩ := c_checkLabels (g := g) L1 hL' A.lb.1 (fun j hj => ⟨(A.la j hj).2.1, (A.la j hj).2.2.2.2.1⟩) L 0 FU h (by omega) (FU_gt (by omega)) (FNc_rfl h) (Or.inl ⟨rfl, A.nf⟩)
  have C0 : CKi h h1 g L 0 := ⟨by rw [p2.1], p2.2, fun o j _ => FNc_L p2 o j, fun j hj => absurd hj (by omega)⟩
  obtain ⟨h2, q1, q2, q3⟩ := c_checks A L1 hL' n375 n 0 FU h1 (by omega) (FU_gt (by omega)) C0 (by
    show FC h1 (min (mn (DL h g) L) 100000)
    rw [Nat.min_eq_left (mn_le _ _)]; exact p3)
  refine ⟨h2, ?_, q2, q3⟩
  unfold f_X1_translate_L79 f_X1_checkLabels
  have p1' : f_X1_checkLabels_L2 FU h 4 (0 : Int32) = some h1 := p1
  have q1' : f_X1_translate_L85 FU h1 4 (0 : Int32) = some (nI (g 7 n), h2) := q1
  rw [y_gs, if_pos (lc_S4 L1), y_lt, p1', y_bds, y_lt, q1']
