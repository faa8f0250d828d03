/-! Numbers and tokens in the class. -/
def hxP (x : Bool) : Nat → Bool := if x = true then isX else isD
def hxB (x : Bool) : Int32 := if x = true then 16 else 10
def hxI (x : Bool) : Int32 := if x = true then 1 else 0
theorem cq {c : Nat} (hc : c < 128) : ((nI c < (48 : Int32)) ↔ c < 48) ∧ (((57 : Int32) < nI c) ↔ 57 < c) ∧ ((nI c < (97 : Int32)) ↔ c < 97) ∧ (((102 : Int32) < nI c) ↔ 102 < c) ∧ (((122 : Int32) < nI c) ↔ 122 < c) :=
  ⟨q_lt (b := 48) (by omega) (by omega), q_lt (a := 57) (by omega) (by omega), q_lt (b := 97) (by omega) (by omega), q_lt (a := 102) (by omega) (by omega), q_lt (a := 122) (by omega) (by omega)⟩
theorem num_s {h : AH} {c : Nat → Nat} {T p : Nat} (C : CT h c T) (x : Bool) {j f : Nat} (g : p + j < T) (v : Int64) :
    f_X8_scanNumber_L84 (f + 1) (sL (sI h 2 2 (nI (p + j))) 2 5 v) 2 (hxI x) (hxB x) (nI p) = if hxP x (c (p + j)) = true then f_X8_scanNumber_L84 f (sL (sI h 2 2 (nI (p + (j + 1)))) 2 5 (v * (hxB x).toInt64 + (dv (c (p + j))).toInt64)) 2 (hxI x) (hxB x) (nI p) else f_X8_scanNumber_L243 (sL (sI h 2 2 (nI (p + j))) 2 5 v) 2 (hxI x) (nI p) := by
  have C' : CT (sL (sI h 2 2 (nI (p + j))) 2 5 v) c T := CT_sL (CT_sI C (by omega))
  have T15 := C.2.2.2.1
  have at' : hI (sL (sI h 2 2 (nI (p + j))) 2 5 v) 2 2 = nI (p + j) := by rw [x_hI_sL, x_eq]
  have vl : hL (sL (sI h 2 2 (nI (p + j))) 2 5 v) 2 5 = v := by rw [x_hL_sL, if_pos ⟨rfl, rfl⟩]
  obtain ⟨k1, k2, k3, k4, k5⟩ := ct_m C' g
  obtain ⟨q1, q2, q3, q4, q5⟩ := cq k4
  have l182 : ∀ a4 : Int32, (a4 = 0 ↔ isD (c (p + j)) = false) → f_X8_scanNumber_L182 (f_X8_scanNumber_L84 f) (sL (sI h 2 2 (nI (p + j))) 2 5 v) 2 (hxI x) (hxB x) (nI p) a4 = f_X8_scanNumber_L84 f (sL (sI h 2 2 (nI (p + (j + 1)))) 2 5 (v * (hxB x).toInt64 + (dv (c (p + j))).toInt64)) 2 (hxI x) (hxB x) (nI p) := by
    intro a4 ha
    have l225 : ∀ d : Int32, f_X8_scanNumber_L225 (f_X8_scanNumber_L84 f) (sL (sI h 2 2 (nI (p + j))) 2 5 v) 2 (hxI x) (hxB x) (nI p) 2 (v * (hxB x).toInt64) d = f_X8_scanNumber_L84 f (sL (sI h 2 2 (nI (p + (j + 1)))) 2 5 (v * (hxB x).toInt64 + d.toInt64)) 2 (hxI x) (hxB x) (nI p) := by
      intro d
      unfold f_X8_scanNumber_L225
      have C2 : CT (sL (sI h 2 2 (nI (p + j))) 2 5 (v * (hxB x).toInt64 + d.toInt64)) c T := CT_sL (CT_sI C (by omega))
      have e1 : hI (sL (sI h 2 2 (nI (p + j))) 2 5 (v * (hxB x).toInt64 + d.toInt64)) 2 2 = nI (p + j) := by rw [x_hI_sL, x_eq]
      rw [y_gs, if_pos (lc_S2 C'.1), sL_sL, y_lt, y_gs, if_pos (lc_S2 C2.1), e1, show (1 : Int32) = nI 1 from rfl, q_add, y_lt]
      show f_X8_scanNumber_L84 f (sL (sI (sI h 2 2 (nI (p + j))) 2 2 (nI (p + j + 1))) 2 5 (v * (hxB x).toInt64 + d.toInt64)) 2 (hxI x) (hxB x) (nI p) = _
      rw [sI_sI]; rfl
    unfold f_X8_scanNumber_L182
    rw [y_gs, if_pos (lc_S2 C'.1), at', y_gs, if_pos k1, y_gs, if_pos k1, y_gb, if_pos k2, y_gb, if_pos k2, k3, vl, l225, l225]
    unfold dv
    by_cases z : isD (c (p + j)) = true
    · rw [if_neg (fun q => by rw [ha.mp q] at z; cases z), if_pos z]
    · rw [if_pos (ha.mpr (by cases hh : isD (c (p + j)); rfl; exact absurd hh z)), if_neg z]
  rw [f_X8_scanNumber_L84]
  unfold f_X8_scanNumber_L127 f_X8_scanNumber_L128 f_X8_scanNumber_L166 f_X8_scanNumber_L167
  rw [y_gs, if_pos (lc_S2 C'.1), C'.2.1, at', if_neg (fun q => by have := (q_le (by omega) (by omega)).mp q; omega), y_gs, if_pos k1, y_gb, if_pos k2, k3, y_gb, if_pos k2]
  rw [y_gs, if_pos (lc_S2 C'.1), y_gs, if_pos k1, y_gb, if_pos k2, y_gb, if_pos k2, y_gs, if_pos (lc_S2 C'.1), y_gs, if_pos k1, y_gb, if_pos k2, y_gb, if_pos k2]
  have hd1 : isD (c (p + j)) = true → f_X8_scanNumber_L182 (f_X8_scanNumber_L84 f) (sL (sI h 2 2 (nI (p + j))) 2 5 v) 2 (hxI x) (hxB x) (nI p) (1 : Int32) = f_X8_scanNumber_L84 f (sL (sI h 2 2 (nI (p + (j + 1)))) 2 5 (v * (hxB x).toInt64 + (dv (c (p + j))).toInt64)) 2 (hxI x) (hxB x) (nI p) := fun z => l182 1 ⟨fun q => absurd q (by decide), fun q => by rw [q] at z; cases z⟩
  have hd0 : isD (c (p + j)) = false → f_X8_scanNumber_L182 (f_X8_scanNumber_L84 f) (sL (sI h 2 2 (nI (p + j))) 2 5 v) 2 (hxI x) (hxB x) (nI p) (0 : Int32) = f_X8_scanNumber_L84 f (sL (sI h 2 2 (nI (p + (j + 1)))) 2 5 (v * (hxB x).toInt64 + (dv (c (p + j))).toInt64)) 2 (hxI x) (hxB x) (nI p) := fun z => l182 0 ⟨fun _ => z, fun _ => rfl⟩
  clear l182
  generalize f_X8_scanNumber_L182 (f_X8_scanNumber_L84 f) (sL (sI h 2 2 (nI (p + j))) 2 5 v) 2 (hxI x) (hxB x) (nI p) (1 : Int32) = E1 at *
  generalize f_X8_scanNumber_L182 (f_X8_scanNumber_L84 f) (sL (sI h 2 2 (nI (p + j))) 2 5 v) 2 (hxI x) (hxB x) (nI p) (0 : Int32) = E0 at *
  generalize f_X8_scanNumber_L84 f (sL (sI h 2 2 (nI (p + (j + 1)))) 2 5 (v * (hxB x).toInt64 + (dv (c (p + j))).toInt64)) 2 (hxI x) (hxB x) (nI p) = S at *
  generalize f_X8_scanNumber_L243 (sL (sI h 2 2 (nI (p + j))) 2 5 v) 2 (hxI x) (nI p) = Z
  clear C' at' vl k1 k2 k3
  generalize c (p + j) = n at *
  simp only [q1, q2, q3, q4, not_true_eq_false, if_false, show ((1 : Int32) = 0) = False from eq_false (by decide), not_false_eq_true, if_true]
  have dn : isD n = true ↔ (48 ≤ n ∧ n ≤ 57) := by unfold isD; simp
  have xn : isX n = true ↔ ((48 ≤ n ∧ n ≤ 57) ∨ (97 ≤ n ∧ n ≤ 102)) := by unfold isX isD; simp
  have df : ¬ (48 ≤ n ∧ n ≤ 57) → isD n = false := fun q => by cases hh : isD n; rfl; exact absurd (dn.mp hh) q
  cases x with
  | false =>
    simp only [show (hxI false = 0) = True from eq_true rfl, if_true, show hxP false n = isD n from rfl]
    by_cases g1 : n < 48
    · rw [if_pos g1, if_neg (fun q => by have := dn.mp q; omega)]
    · rw [if_neg g1]
      by_cases g2 : 57 < n
      · rw [if_pos g2, if_neg (fun q => by have := dn.mp q; omega)]
      · rw [if_neg g2, if_pos (dn.mpr (by omega)), hd1 (dn.mpr (by omega))]
  | true =>
    simp only [show (hxI true = 0) = False from eq_false (by decide), if_false, show hxP true n = isX n from rfl]
    by_cases g1 : n < 48
    · rw [if_pos g1, if_pos (by omega), if_neg (fun q => by have := xn.mp q; omega)]
    · rw [if_neg g1]
      by_cases g2 : 57 < n
      · rw [if_pos g2]
        by_cases g3 : n < 97
        · rw [if_pos g3, if_neg (fun q => by have := xn.mp q; omega)]
        · rw [if_neg g3]
          by_cases g4 : 102 < n
          · rw [if_pos g4, if_neg (fun q => by have := xn.mp q; omega)]
          · rw [if_neg g4, if_pos (xn.mpr (by omega)), hd0 (df (by omega))]
      · rw [if_neg g2, if_pos (by omega), if_pos (xn.mpr (by omega)), hd1 (dn.mpr (by omega))]
theorem num_c {h : AH} {c : Nat → Nat} {T p : Nat} (C : CT h c T) (x : Bool) : ∀ n j f, p + j ≤ T → T - (p + j) ≤ n → n < f → f_X8_scanNumber_L84 f (sL (sI h 2 2 (nI (p + j))) 2 5 (mv (hxB x).toInt64 c p j)) 2 (hxI x) (hxB x) (nI p) = f_X8_scanNumber_L243 (sL (sI h 2 2 (nI (rn (hxP x) c T n (p + j)))) 2 5 (mv (hxB x).toInt64 c p (rn (hxP x) c T n (p + j) - p))) 2 (hxI x) (nI p) := by
  have T15 := C.2.2.2.1
  have fin : ∀ j f (v : Int64), p + j = T → 0 < f → f_X8_scanNumber_L84 f (sL (sI h 2 2 (nI (p + j))) 2 5 v) 2 (hxI x) (hxB x) (nI p) = f_X8_scanNumber_L243 (sL (sI h 2 2 (nI (p + j))) 2 5 v) 2 (hxI x) (nI p) := by
    intro j f v hp hf
    obtain ⟨f', rfl⟩ : ∃ f', f = f' + 1 := ⟨f - 1, by omega⟩
    have C' : CT (sL (sI h 2 2 (nI (p + j))) 2 5 v) c T := CT_sL (CT_sI C (by omega))
    have at' : hI (sL (sI h 2 2 (nI (p + j))) 2 5 v) 2 2 = nI (p + j) := by rw [x_hI_sL, x_eq]
    unfold f_X8_scanNumber_L84
    rw [y_gs, if_pos (lc_S2 C'.1), C'.2.1, at', if_pos ((q_le (by omega) (by omega)).mpr (by omega))]
  intro n
  induction n with
  | zero =>
    intro j f hp hn hf
    unfold rn
    rw [fin j f _ (by omega) (by omega), show p + j - p = j by omega]
  | succ n ih =>
    intro j f hp hn hf
    obtain ⟨f', rfl⟩ : ∃ f', f = f' + 1 := ⟨f - 1, by omega⟩
    unfold rn
    by_cases g : p + j < T
    · rw [num_s C x g]
      by_cases e : hxP x (c (p + j)) = true
      · rw [if_pos e, if_pos ⟨g, e⟩]
        exact ih (j + 1) f' (by omega) (by omega) (by omega)
      · rw [if_neg e, if_neg (fun q => e q.2), show p + j - p = j by omega]
    · rw [fin j _ _ (by omega) (by omega), if_neg (fun q => g q.1), show p + j - p = j by omega]
