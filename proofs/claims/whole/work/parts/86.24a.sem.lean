/-! The assemblers stand at the same token. -/
def TQ (h m : AH) (c : Nat → Nat) (T Nn i : Nat) : Prop :=
  (CT h c T ∧ hI h 2 2 = nI (tEnd c T (ts c T i)) ∧ hI h 2 3 = nI (tKind c T (ts c T i)) ∧ hI h 2 4 = nI (ts c T i) ∧ hL h 2 5 = tVal c T (ts c T i)) ∧
  (LM m ∧ (∀ j, j ≤ Nn → tkA m c T j) ∧ hI m 226 9 = nI i) ∧ (i ≤ Nn ∧ Nn ≤ 1500 ∧ (∀ j, j < Nn → tKind c T (ts c T j) ≠ 0 ∧ tKind c T (ts c T j) ≠ 1) ∧ (tKind c T (ts c T Nn) = 0 ∨ tKind c T (ts c T Nn) = 1))
/-- what the assembler leaves as it was -/
def FA (h h' : AH) : Prop := h'.2.2 = h.2.2 ∧ ∀ o k, ¬ (4 ≤ o ∧ o ≤ 15) → ¬ (o = 2 ∧ (k = 2 ∨ k = 3 ∨ k = 4)) → hI h' o k = hI h o k
def FB (m m' : AH) : Prop := m'.2.2 = m.2.2 ∧ ∀ o k, ¬ (228 ≤ o ∧ o ≤ 238) → ¬ (o = 226 ∧ (k = 3 ∨ k = 4 ∨ k = 5 ∨ k = 9 ∨ k = 10 ∨ k = 13 ∨ k = 20 ∨ k = 71 ∨ k = 73 ∨ k = 75 ∨ k = 76)) → hI m' o k = hI m o k
theorem FA_rfl (h : AH) : FA h h := ⟨rfl, fun _ _ _ _ => rfl⟩
theorem FB_rfl (h : AH) : FB h h := ⟨rfl, fun _ _ _ _ => rfl⟩
theorem FA_tr {a b d : AH} (x : FA a b) (y : FA b d) : FA a d := ⟨y.1.trans x.1, fun o k h1 h2 => (y.2 o k h1 h2).trans (x.2 o k h1 h2)⟩
theorem FB_tr {a b d : AH} (x : FB a b) (y : FB b d) : FB a d := ⟨y.1.trans x.1, fun o k h1 h2 => (y.2 o k h1 h2).trans (x.2 o k h1 h2)⟩
theorem LC_2 {h h' : AH} (L : LC h) (e : h'.2.2 = h.2.2) : LC h' := by
  obtain ⟨x, l, r⟩ := h'
  have e' : r = h.2.2 := e
  subst e'
  exact L
theorem LM_3 {h h' : AH} (L : LM h) (e : h'.2.2 = h.2.2) : LM h' := by
  obtain ⟨x, l, r⟩ := h'
  have e' : r = h.2.2 := e
  subst e'
  exact L
theorem kind_lt {h : AH} {c : Nat → Nat} {T : Nat} (C : CT h c T) (p : Nat) : tKind c T p < 128 := by
  unfold tKind
  split
  · omega
  · next g =>
    have := C.2.2.2.2 p (by omega)
    split
    · split <;> omega
    · split
      · split
        · split <;> omega
        · split <;> omega
      · split <;> omega
theorem kind_s {h : AH} {c : Nat → Nat} {T : Nat} (p : Nat) (h3 : 3 < tKind c T p) : isS (c p) = true ∧ tKind c T p = c p ∧ p < T := by
  unfold tKind at h3 ⊢
  split at h3
  · omega
  · next g =>
    rw [if_neg g]
    split at h3
    · split at h3 <;> omega
    · next gA =>
      rw [if_neg gA]
      split at h3
      · split at h3
        · split at h3 <;> omega
        · split at h3 <;> omega
      · next gD =>
        rw [if_neg gD]
        split at h3
        · next gS => rw [if_pos gS]; exact ⟨gS, rfl, by omega⟩
        · omega
theorem rk_i {k : Nat} : (nI (rk k) = (1 : Int32) ↔ k = 2) ∧ (nI (rk k) = (2 : Int32) ↔ k = 3) ∧ (nI (rk k) = (3 : Int32) ↔ 3 < k) ∧ (nI (rk k) = (4 : Int32) ↔ k = 0) ∧ (nI (rk k) = (0 : Int32) ↔ k = 1) := by
  unfold rk
  by_cases k0 : k = 0
  · subst k0; decide
  by_cases k1 : k = 1
  · subst k1; decide
  by_cases k2 : k = 2
  · subst k2; decide
  by_cases k3 : k = 3
  · subst k3; decide
  rw [if_neg k0, if_neg k1, if_neg k2, if_neg k3]
  refine ⟨⟨fun q => absurd q (by decide), fun q => absurd q k2⟩, ⟨fun q => absurd q (by decide), fun q => absurd q k3⟩, ⟨fun _ => by omega, fun _ => rfl⟩, ⟨fun q => absurd q (by decide), fun q => absurd q k0⟩, ⟨fun q => absurd q (by decide), fun q => absurd q k1⟩⟩
theorem lg_0 (a b : Int64) : lg_cmp a b = 0 ↔ a = b := by
  unfold lg_cmp
  by_cases h1 : a > b
  · rw [if_pos h1]
    exact ⟨fun q => absurd q (by decide), fun q => by rw [q] at h1; exact absurd h1 Int64.lt_irrefl⟩
  · rw [if_neg h1]
    by_cases h2 : a = b
    · rw [if_pos h2]; exact ⟨fun _ => h2, fun _ => rfl⟩
    · rw [if_neg h2]; exact ⟨fun q => absurd q (by decide), fun q => absurd q h2⟩
theorem lg_lt (a b : Int64) : (lg_cmp a b < 0 ↔ a < b) ∧ (0 < lg_cmp a b ↔ b < a) ∧ (0 ≤ lg_cmp a b ↔ b ≤ a) ∧ (lg_cmp a b ≤ 0 ↔ a ≤ b) := by
  unfold lg_cmp
  by_cases h1 : a > b
  · rw [if_pos h1]
    have n1 : ¬ a < b := fun q => absurd (Int64.lt_trans h1 q) Int64.lt_irrefl
    have n2 : ¬ a ≤ b := fun q => absurd (Int64.lt_of_lt_of_le h1 q) Int64.lt_irrefl
    exact ⟨⟨fun q => absurd q (by decide), fun q => absurd q n1⟩, ⟨fun _ => h1, fun _ => by decide⟩, ⟨fun _ => Int64.le_of_lt h1, fun _ => by decide⟩, ⟨fun q => absurd q (by decide), fun q => absurd q n2⟩⟩
  · rw [if_neg h1]
    have le := Int64.not_lt.mp h1
    by_cases h2 : a = b
    · rw [if_pos h2, h2]
      exact ⟨⟨fun q => absurd q (by decide), fun q => absurd q Int64.lt_irrefl⟩, ⟨fun q => absurd q (by decide), fun q => absurd q Int64.lt_irrefl⟩, ⟨fun _ => Int64.le_refl _, fun _ => by decide⟩, ⟨fun _ => Int64.le_refl _, fun _ => by decide⟩⟩
    · rw [if_neg h2]
      have lt : a < b := by
        rcases Int64.lt_or_eq_of_le le with q | q
        · exact q
        · exact absurd q h2
      have n2 : ¬ b ≤ a := fun q => h1 (by
        rcases Int64.lt_or_eq_of_le q with w | w
        · exact w
        · exact absurd w.symm h2)
      exact ⟨⟨fun _ => lt, fun _ => by decide⟩, ⟨fun q => absurd q (by decide), fun q => absurd q h1⟩, ⟨fun q => absurd q (by decide), fun q => absurd q n2⟩, ⟨fun _ => le, fun _ => by decide⟩⟩
