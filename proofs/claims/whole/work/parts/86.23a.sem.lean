/-! The tokens of a text: c the characters, T how many. -/
def isA (c : Nat) : Bool := decide (97 ≤ c) && decide (c ≤ 122)
def isD (c : Nat) : Bool := decide (48 ≤ c) && decide (c ≤ 57)
def isAD (c : Nat) : Bool := isA c || isD c
def isX (c : Nat) : Bool := isD c || (decide (97 ≤ c) && decide (c ≤ 102))
def isS (c : Nat) : Bool := decide (c = 58 ∨ c = 59 ∨ c = 44 ∨ c = 40 ∨ c = 41 ∨ c = 45)
def isB (c : Nat) : Bool := decide (c = 32)
/-- the end of a run of P from p on -/
def rn (P : Nat → Bool) (c : Nat → Nat) (T : Nat) : Nat → Nat → Nat
  | 0, p => p
  | n + 1, p => if p < T ∧ P (c p) = true then rn P c T n (p + 1) else p
theorem rn_le (P : Nat → Bool) (c : Nat → Nat) (T : Nat) : ∀ n p, p ≤ rn P c T n p ∧ (p ≤ T → rn P c T n p ≤ T)
  | 0, p => ⟨Nat.le_refl _, fun h => h⟩
  | n + 1, p => by
    unfold rn; split
    · next g => have := rn_le P c T n (p + 1); exact ⟨by omega, fun _ => this.2 (by omega)⟩
    · exact ⟨Nat.le_refl _, fun h => h⟩
/-- where a run ends it is at the end or P fails -/
theorem rn_end (P : Nat → Bool) (c : Nat → Nat) (T : Nat) : ∀ n p, p ≤ T → T - p ≤ n → rn P c T n p = T ∨ (rn P c T n p < T ∧ P (c (rn P c T n p)) = false)
  | 0, p => fun h1 h2 => Or.inl (by unfold rn; omega)
  | n + 1, p => fun h1 h2 => by
    unfold rn
    by_cases g : p < T ∧ P (c p) = true
    · rw [if_pos g]; exact rn_end P c T n (p + 1) (by omega) (by omega)
    · rw [if_neg g]
      by_cases g2 : p < T
      · exact Or.inr ⟨g2, by cases hq : P (c p); rfl; exact absurd ⟨g2, hq⟩ g⟩
      · exact Or.inl (by omega)
theorem rn_in (P : Nat → Bool) (c : Nat → Nat) (T : Nat) : ∀ n p j, p ≤ j → j < rn P c T n p → P (c j) = true ∧ j < T
  | 0, p, j => fun h1 h2 => by unfold rn at h2; omega
  | n + 1, p, j => fun h1 h2 => by
    unfold rn at h2
    by_cases g : p < T ∧ P (c p) = true
    · rw [if_pos g] at h2
      by_cases e : j = p
      · rw [e]; exact ⟨g.2, g.1⟩
      · exact rn_in P c T n (p + 1) j (by omega) h2
    · rw [if_neg g] at h2; omega
/-- a name's characters packed -/
def nv (c : Nat → Nat) (p : Nat) : Nat → Int64
  | 0 => 0
  | n + 1 => (nv c p n <<< ((8 : Int32).toInt64 &&& 63)) ||| (nI (c (p + n))).toInt64
/-- a digit's value -/
def dv (c : Nat) : Int32 := if isD c = true then nI c - (48 : Int32) else (nI c - (97 : Int32)) + (10 : Int32)
/-- a number's value -/
def mv (B : Int64) (c : Nat → Nat) (p : Nat) : Nat → Int64
  | 0 => 0
  | n + 1 => mv B c p n * B + (dv (c (p + n))).toInt64
/-- tokens: kind (0 bad, 1 the end, 2 a name, 3 a number, else the sign), end, value; p is where the token begins -/
def hxq (c : Nat → Nat) (T p : Nat) : Bool := decide (c p = 48) && (decide (p + 1 < T) && decide (c (p + 1) = 120))
def tEnd (c : Nat → Nat) (T p : Nat) : Nat :=
  if T ≤ p then p else if isA (c p) = true then rn isAD c T T p else if isD (c p) = true then (if hxq c T p = true then rn isX c T T (p + 2) else rn isD c T T p) else p + 1
def tKind (c : Nat → Nat) (T p : Nat) : Nat :=
  if T ≤ p then 1 else if isA (c p) = true then (if tEnd c T p - p ≤ 8 then 2 else 0) else if isD (c p) = true then (if hxq c T p = true then (if 1 ≤ tEnd c T p - (p + 2) ∧ tEnd c T p - (p + 2) ≤ 8 then 3 else 0) else (if tEnd c T p - p ≤ 10 then 3 else 0)) else if isS (c p) = true then c p else 0
def tVal (c : Nat → Nat) (T p : Nat) : Int64 :=
  if T ≤ p then 0 else if isA (c p) = true then nv c p (tEnd c T p - p) else if isD (c p) = true then (if hxq c T p = true then mv 16 c (p + 2) (tEnd c T p - (p + 2)) else mv 10 c p (tEnd c T p - p)) else 0
/-- the class's tape -/
def CT (h : AH) (c : Nat → Nat) (T : Nat) : Prop := LC h ∧ hI h 2 1 = nI T ∧ (∀ i, i < T → hI h 3 i = nI (c i)) ∧ T ≤ 1500 ∧ (∀ i, i < T → 32 ≤ c i ∧ c i ≤ 126)
theorem CT_of {h h' : AH} {c : Nat → Nat} {T : Nat} (C : CT h c T) (e : h'.2.2 = h.2.2) (f : ∀ o k, o = 3 ∨ (o = 2 ∧ k = 1) → hI h' o k = hI h o k) : CT h' c T := by
  obtain ⟨L, a, b, d, g⟩ := C
  refine ⟨?_, by rw [f _ _ (by omega)]; exact a, fun i hi => by rw [f _ _ (by omega)]; exact b i hi, d, g⟩
  obtain ⟨x, l, r⟩ := h'
  have e' : r = h.2.2 := e
  subst e'
  exact L
theorem CT_sI {h : AH} {c : Nat → Nat} {T : Nat} (C : CT h c T) {o k : Nat} {v : Int32} (g : ¬ (o = 3 ∨ (o = 2 ∧ k = 1))) : CT (sI h o k v) c T := CT_of C rfl (fun p q hh => x_ne (by omega))
theorem CT_sL {h : AH} {c : Nat → Nat} {T : Nat} (C : CT h c T) {o k : Nat} {v : Int64} : CT (sL h o k v) c T := CT_of C rfl (fun p q hh => rfl)
theorem ct_m {h : AH} {c : Nat → Nat} {T p : Nat} (C : CT h c T) (hp : p < T) : hS h (hR h 2 0) = 23 ∧ ib (nI p) (hN h (hR h 2 0)) = true ∧ hI h (hR h 2 0) (nI p).toNatClampNeg = nI (c p) ∧ c p < 128 ∧ p < 1500 := by
  obtain ⟨L, a, b, d, g⟩ := C
  have := g p hp
  rw [lc_R2_0 L, lc_N3 L, q_cl (by omega)]
  exact ⟨lc_S3 L, q_ib (by omega) (by omega), b p hp, by omega, by omega⟩
theorem skip_c {h : AH} {c : Nat → Nat} {T : Nat} (C : CT h c T) : ∀ n p f, p ≤ T → T - p ≤ n → n < f → f_X8_next_L0 f (sI h 2 2 (nI p)) 2 = f_X8_next_L38 (sI h 2 2 (nI (rn isB c T n p))) 2 := by
  intro n
  induction n with
  | zero =>
    intro p f hp hn hf
    obtain ⟨f', rfl⟩ : ∃ f', f = f' + 1 := ⟨f - 1, by omega⟩
    have C' : CT (sI h 2 2 (nI p)) c T := CT_sI C (by omega)
    have T15 := C.2.2.2.1
    unfold f_X8_next_L0 rn
    rw [y_gs, if_pos (lc_S2 C'.1), C'.2.1, x_eq, if_pos ((q_le (by omega) (by omega)).mpr (by omega))]
  | succ n ih =>
    intro p f hp hn hf
    obtain ⟨f', rfl⟩ : ∃ f', f = f' + 1 := ⟨f - 1, by omega⟩
    have C' : CT (sI h 2 2 (nI p)) c T := CT_sI C (by omega)
    have T15 := C.2.2.2.1
    rw [f_X8_next_L0]
    unfold rn
    rw [y_gs, if_pos (lc_S2 C'.1), C'.2.1, x_eq]
    by_cases g : p < T
    · obtain ⟨k1, k2, k3, k4, k5⟩ := ct_m C' g
      rw [if_neg (fun q => by have := (q_le (by omega) (by omega)).mp q; omega), y_gs, if_pos k1, y_gb, if_pos k2, k3]
      by_cases e : c p = 32
      · rw [if_neg (fun q => q (show nI (c p) = (32 : Int32) from by rw [e]; rfl)), if_pos ⟨g, by unfold isB; rw [e]; rfl⟩, show (1 : Int32) = nI 1 from rfl, q_add, sI_sI, y_lt]
        exact ih (p + 1) f' (by omega) (by omega) (by omega)
      · rw [if_pos (show ¬ nI (c p) = (32 : Int32) from fun q => e ((q_eq (by omega) (show 32 < 2 ^ 31 by omega)).mp q)), if_neg (fun q => by have := q.2; unfold isB at this; exact e (of_decide_eq_true this))]
    · rw [if_pos ((q_le (by omega) (by omega)).mpr (by omega)), if_neg (fun q => g q.1)]
theorem sL_sL (h : AH) (o k : Nat) (v w : Int64) : sL (sL h o k v) o k w = sL h o k w := by
  obtain ⟨a, l, r⟩ := h
  show (a, up2 (up2 l o k v) o k w, r) = (a, up2 l o k w, r)
  have : up2 (up2 l o k v) o k w = up2 l o k w := by
    funext p q; unfold up2; split <;> rfl
  rw [this]
theorem isAD_c : ∀ c, c < 128 → ∀ {α : Type} (X Y : α), (if nI c < (97 : Int32) then (if nI c < (48 : Int32) then X else if (57 : Int32) < nI c then X else Y) else if nI c ≤ (122 : Int32) then Y else (if nI c < (48 : Int32) then X else if (57 : Int32) < nI c then X else Y)) = if isAD c = true then Y else X := by
  intro c hc α X Y
  have q1 : (nI c < (97 : Int32)) ↔ c < 97 := q_lt (b := 97) (by omega) (by omega)
  have q2 : (nI c < (48 : Int32)) ↔ c < 48 := q_lt (b := 48) (by omega) (by omega)
  have q3 : ((57 : Int32) < nI c) ↔ 57 < c := q_lt (a := 57) (by omega) (by omega)
  have q4 : (nI c ≤ (122 : Int32)) ↔ c ≤ 122 := q_le (b := 122) (by omega) (by omega)
  simp only [q1, q2, q3, q4]
  unfold isAD isA isD
  simp only [Bool.or_eq_true, Bool.and_eq_true, decide_eq_true_eq]
  by_cases g1 : c < 97
  · rw [if_pos g1]
    by_cases g2 : c < 48
    · rw [if_pos g2, if_neg (by omega)]
    · rw [if_neg g2]
      by_cases g3 : 57 < c
      · rw [if_pos g3, if_neg (by omega)]
      · rw [if_neg g3, if_pos (by omega)]
  · rw [if_neg g1]
    by_cases g4 : c ≤ 122
    · rw [if_pos g4, if_pos (by omega)]
    · rw [if_neg g4, if_neg (by omega), if_pos (by omega), if_neg (by omega)]
theorem name_c {h : AH} {c : Nat → Nat} {T p : Nat} (C : CT h c T) : ∀ n j f, p + j ≤ T → T - (p + j) ≤ n → n < f → f_X8_scanName_L0 f (sL (sI h 2 2 (nI (p + j))) 2 5 (nv c p j)) 2 = f_X8_scanName_L102 (sL (sI h 2 2 (nI (rn isAD c T n (p + j)))) 2 5 (nv c p (rn isAD c T n (p + j) - p))) 2 := by
  intro n
  induction n with
  | zero =>
    intro j f hp hn hf
    obtain ⟨f', rfl⟩ : ∃ f', f = f' + 1 := ⟨f - 1, by omega⟩
    have C' : CT (sL (sI h 2 2 (nI (p + j))) 2 5 (nv c p j)) c T := CT_sL (CT_sI C (by omega))
    have T15 := C.2.2.2.1
    have at' : hI (sL (sI h 2 2 (nI (p + j))) 2 5 (nv c p j)) 2 2 = nI (p + j) := by rw [x_hI_sL, x_eq]
    unfold f_X8_scanName_L0 rn
    rw [y_gs, if_pos (lc_S2 C'.1), C'.2.1, at', if_pos ((q_le (by omega) (by omega)).mpr (by omega)), show p + j - p = j by omega]
  | succ n ih =>
    intro j f hp hn hf
    obtain ⟨f', rfl⟩ : ∃ f', f = f' + 1 := ⟨f - 1, by omega⟩
    have C' : CT (sL (sI h 2 2 (nI (p + j))) 2 5 (nv c p j)) c T := CT_sL (CT_sI C (by omega))
    have T15 := C.2.2.2.1
    have at' : hI (sL (sI h 2 2 (nI (p + j))) 2 5 (nv c p j)) 2 2 = nI (p + j) := by rw [x_hI_sL, x_eq]
    have vl : hL (sL (sI h 2 2 (nI (p + j))) 2 5 (nv c p j)) 2 5 = nv c p j := by rw [x_hL_sL, if_pos ⟨rfl, rfl⟩]
    rw [f_X8_scanName_L0]
    unfold rn
    rw [y_gs, if_pos (lc_S2 C'.1), C'.2.1, at']
    by_cases g : p + j < T
    · obtain ⟨k1, k2, k3, k4, k5⟩ := ct_m C' g
      rw [if_neg (fun q => by have := (q_le (by omega) (by omega)).mp q; omega), y_gs, if_pos k1, y_gb, if_pos k2, k3, y_gb, if_pos k2]
      unfold f_X8_scanName_L39
      rw [at', y_gs, if_pos (lc_S2 C'.1), y_gs, if_pos k1, y_gb, if_pos k2, k3, y_gb, if_pos k2, isAD_c _ k4]
      have l67 : f_X8_scanName_L67 (f_X8_scanName_L0 f') (sL (sI h 2 2 (nI (p + j))) 2 5 (nv c p j)) 2 = f_X8_scanName_L0 f' (sL (sI h 2 2 (nI (p + (j + 1)))) 2 5 (nv c p (j + 1))) 2 := by
        unfold f_X8_scanName_L67
        rw [y_gs, if_pos (lc_S2 C'.1), y_gs, if_pos k1, at', y_gb, if_pos k2, k3, vl, y_lt, sL_sL, y_lt]
        have e1 : hI (sL (sI h 2 2 (nI (p + j))) 2 5 ((nv c p j <<< ((8 : Int32).toInt64 &&& 63)) ||| (nI (c (p + j))).toInt64)) 2 2 = nI (p + j) := by rw [x_hI_sL, x_eq]
        rw [e1, show (1 : Int32) = nI 1 from rfl, q_add]
        show f_X8_scanName_L0 f' (sL (sI (sI h 2 2 (nI (p + j))) 2 2 (nI (p + j + 1))) 2 5 (nv c p (j + 1))) 2 = _
        rw [sI_sI]; rfl
      by_cases e : isAD (c (p + j)) = true
      · rw [if_pos e, if_pos ⟨g, e⟩, l67]
        exact ih (j + 1) f' (by omega) (by omega) (by omega)
      · rw [if_neg e, if_neg (fun q => e q.2), show p + j - p = j by omega]
    · rw [if_pos ((q_le (by omega) (by omega)).mpr (by omega)), if_neg (fun q => g q.1), show p + j - p = j by omega]
