/-! What a call leaves: the answers alike, the relation kept; K: how far the bound grows. -/
def Cl (K : Nat) (h m : AH) (e : Ex) (b : Nat) (X Y : Option (Int32 × AH)) : Prop :=
  ∃ h' m' s' e' r, X = some (r, h') ∧ Y = some (r, m') ∧ Rel h' m' s' e' (b + K) ∧ Bd h h' ∧ m'.2.2 = m.2.2 ∧ e' 8 0 = e' 8 1
/-- of calls that may throw -/
def Ch (K : Nat) (h m : AH) (e : Ex) (b : Nat) (X : Option (Option Int32 × AH)) (Y : Option (Int32 × AH)) : Prop :=
  ∃ h' m' s' e' r, Rel h' m' s' e' (b + K) ∧ Bd h h' ∧ m'.2.2 = m.2.2 ∧ e' 8 0 = e' 8 1 ∧ Y = some (r, m') ∧ ((X = some (some r, h') ∧ e' 8 2 = 0) ∨ (X = some (none, hT h') ∧ e' 8 2 = 1))
theorem EXc_e {h m : AH} {lim : Nat} {e e' : Ex} {b c : Nat} (X : EXc h m lim e b c) (he : ∀ F i, F < 8 → e' F i = e F i) : EXc h m lim e' b c := by
  have q : ∀ F, F < 8 → e' F = e F := fun F hF => funext (fun i => he F i hF)
  unfold EXc at X ⊢
  rw [q 0 (by omega), q 1 (by omega), q 2 (by omega), q 3 (by omega), q 4 (by omega), q 5 (by omega)]
  exact X
/-- what stands outside the cores and the memory system changes -/
theorem Rel_g {h m h' m' : AH} {s : St} {e e' : Ex} {b : Nat} (R : Rel h m s e b) (e1 : h'.2.2 = h.2.2) (e2 : ∀ o k, ¬ (o ≤ 15 ∨ o = 33) → hI h' o k = hI h o k) (e3 : m'.2.2 = m.2.2) (e4 : ∀ o k, ¬ (227 ≤ o ∧ o ≤ 238 ∨ o = 240 ∨ o = 272 ∨ (273 ≤ o ∧ o ≤ 276) ∨ (o = 226 ∧ k ≤ 20) ∨ (o = 226 ∧ (k = 66 ∨ k = 67)) ∨ (o = 226 ∧ 68 ≤ k ∧ k ≤ 76)) → hI m' o k = hI m o k) (he : ∀ F i, F < 8 → e' F i = e F i) (X : EXg h' m' (N s 0 0) e') : Rel h' m' s e' b := by
  have lim := Rel_lim R
  obtain ⟨⟨RC', D⟩, RM', I, C, EX'⟩ := R
  refine ⟨⟨?_, ?_⟩, ?_, I, C, fun c hc => ?_, X⟩
  · have q : RC (h'.1, h.2) s := RC_x RC' rfl (fun o k g => e2 o k (fun w => g (by unfold xo; omega)))
    obtain ⟨a, l, r⟩ := h'
    have e1' : r = h.2.2 := e1
    subst e1'
    exact q
  · exact DZ_x D (fun o k g => e2 o k (fun w => g (by unfold xo; omega)))
  · have q : RM (m'.1, m.2) s := RM_x RM' rfl (fun o k g => e4 o k (fun w => by
      have i2 : irr o k = true := by
        unfold irr
        rcases w with w | w | w | w | w | w | w
        · rw [if_neg (by omega)]; simp only [bne_iff_ne, ne_eq, Bool.and_eq_true]; omega
        · rw [if_neg (by omega)]; simp only [bne_iff_ne, ne_eq, Bool.and_eq_true]; omega
        · rw [if_neg (by omega)]; simp only [bne_iff_ne, ne_eq, Bool.and_eq_true]; omega
        · rw [if_neg (by omega)]; simp only [bne_iff_ne, ne_eq, Bool.and_eq_true]; omega
        · rw [if_pos w.1]; simp only [bne_iff_ne, ne_eq, Bool.and_eq_true]; omega
        · rw [if_pos w.1]; simp only [bne_iff_ne, ne_eq, Bool.and_eq_true]; omega
        · rw [if_pos w.1]; simp only [bne_iff_ne, ne_eq, Bool.and_eq_true]; omega
      rw [g] at i2; cases i2))
    obtain ⟨a, l, r⟩ := m'
    have e3' : r = m.2.2 := e3
    subst e3'
    exact q
  · exact EXc_e (EXc_of (EX'.1 c hc) hc (fun o k ho => e2 o k (by omega)) (fun k => by
      by_cases w : k < 32
      · exact Or.inl (e4 _ _ (by omega))
      · exact Or.inr (by omega)) (fun o ho => e4 _ _ (by omega)) (fun o k ho _ => e4 _ _ (by omega)) (fun k _ j _ => e4 _ _ (by omega)) (Nat.le_refl _) lim) he
theorem e2_8 (e : Ex) (v : Nat) : e2 e 8 2 v 8 0 = e 8 0 ∧ e2 e 8 2 v 8 1 = e 8 1 ∧ e2 e 8 2 v 8 2 = v := ⟨by rw [e2_ne (by omega)], by rw [e2_ne (by omega)], by rw [e2_eq]⟩
/-- thrown is set -/
theorem Rel_thr {h m : AH} {s : St} {e : Ex} {b : Nat} (R : Rel h m s e b) (v : Nat) : Rel h (sI m 226 0 (nI v)) s (e2 e 8 2 v) b := by
  refine Rel_g R rfl (fun _ _ _ => rfl) rfl (fun o k g => x_ne (by omega)) (fun F i hF => by rw [e2_ne (by omega)]) ?_
  obtain ⟨⟨y1, y2⟩, ⟨y3, y4⟩, ⟨y5, y6⟩, ⟨y7, y8, y9⟩, y10, y11, y12, y13, y14⟩ := R.2.2.2.2.2
  obtain ⟨q0, q1, q2⟩ := e2_8 e v
  have q9 : ∀ F, F ≠ 8 → e2 e 8 2 v F = e F := fun F hF => funext (fun i => by rw [e2_ne (by omega)])
  unfold EXg
  rw [q9 5 (by omega), q9 9 (by omega), q9 10 (by omega), q0, q1, q2]
  refine ⟨⟨?_, y2⟩, ⟨?_, ?_⟩, ⟨?_, ?_⟩, ⟨y7, ?_, y9⟩, fun i hi => ?_, fun i hi => ?_, y12, ?_, cst_of y14 (fun o k q => x_ne (by omega))⟩
  · rw [x_ne (by omega)]; exact y1
  · rw [x_ne (by omega)]; exact y3
  · rw [x_ne (by omega)]; exact y4
  · rw [x_ne (by omega)]; exact y5
  · rw [x_ne (by omega)]; exact y6
  · rw [x_ne (by omega)]; exact y8
  · rw [x_ne (by omega)]; exact y10 i hi
  · rw [x_ne (by omega)]; exact y11 i hi
  · rw [x_eq]
theorem r_raise {m : AH} (L : LM m) (v : Int32) : f_X11_raise m 226 v = some ((0 : Int32), sI m 226 0 v) := by
  unfold f_X11_raise
  rw [y_gs, if_pos (lm_S226 L), y_lt]
