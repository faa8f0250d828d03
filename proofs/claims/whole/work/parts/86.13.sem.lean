/-! Ints that are small naturals: arithmetic; first places; loops. -/
theorem nr {α : Type} {a b : α} (h : a = b) : a = b := h
theorem y_lt {α β : Type} (v : α) (k : α → Option β) : lt v k = k v := nr rfl
theorem y_bds {α β : Type} (v : α) (k : α → Option β) : bd (some v) k = k v := nr rfl
theorem y_gs {α : Type} (h : AH) (o s : Nat) (k : Option α) : gs h o s k = if hS h o = s then k else none := nr rfl
theorem y_gb {α : Type} (b : Bool) (k : Option α) : gb b k = if b = true then k else none := nr rfl
def nN : Int32 := -1
theorem q_lit (n : Nat) : (OfNat.ofNat n : Int32) = nI (OfNat.ofNat n) := nr rfl
theorem q_toInt {n : Nat} (h : n < 2 ^ 31) : (nI n).toInt = (n : Int) := by
  unfold nI; rw [Int32.toInt_ofNat_of_lt (by omega)]
theorem q_add (a b : Nat) : nI a + nI b = nI (a + b) := (Int32.ofNat_add a b).symm
theorem q_mul (a b : Nat) : nI a * nI b = nI (a * b) := (Int32.ofNat_mul a b).symm
theorem q_sub {a b : Nat} (h : b ≤ a) : nI a - nI b = nI (a - b) := by
  have e : a = (a - b) + b := by omega
  rw [e, ← q_add, Int32.add_sub_cancel, Nat.add_sub_cancel]
theorem q_eq {a b : Nat} (ha : a < 2 ^ 31) (hb : b < 2 ^ 31) : nI a = nI b ↔ a = b := by
  rw [← Int32.toInt_inj, q_toInt ha, q_toInt hb]; omega
theorem q_le {a b : Nat} (ha : a < 2 ^ 31) (hb : b < 2 ^ 31) : nI a ≤ nI b ↔ a ≤ b := by
  rw [Int32.le_iff_toInt_le, q_toInt ha, q_toInt hb]; omega
theorem q_lt {a b : Nat} (ha : a < 2 ^ 31) (hb : b < 2 ^ 31) : nI a < nI b ↔ a < b := by
  rw [Int32.lt_iff_toInt_lt, q_toInt ha, q_toInt hb]; omega
theorem q_cl {n : Nat} (h : n < 2 ^ 31) : (nI n).toNatClampNeg = n := by
  unfold Int32.toNatClampNeg; rw [q_toInt h]; omega
theorem q_ib {n N : Nat} (h : n < N) (hN : N < 2 ^ 31) : ib (nI n) N = true := by
  unfold ib
  apply decide_eq_true
  have e : ¬ nI n < 0 := by
    rw [show (0 : Int32) = nI 0 from rfl, q_lt (by omega) (by omega)]; omega
  rw [q_cl (by omega)]
  intro c
  rcases c with c | c
  · exact e c
  · omega
theorem q_nN_lt {n : Nat} (h : n < 2 ^ 31) : nN < nI n := by
  rw [Int32.lt_iff_toInt_lt, q_toInt h, show nN.toInt = -1 from by decide]; omega
theorem q_nN_ne {n : Nat} (h : n < 2 ^ 31) : nI n ≠ nN := by
  intro e; have := q_nN_lt h; rw [e] at this; exact absurd this (by decide)
theorem q_div {a d : Nat} (ha : a < 2 ^ 31) (hd : d < 2 ^ 31) : nI a / nI d = nI (a / d) := by
  have hq : a / d < 2 ^ 31 := Nat.lt_of_le_of_lt (Nat.div_le_self a d) ha
  rw [← Int32.toInt_inj, Int32.toInt_div_of_ne_left, q_toInt ha, q_toInt hd, q_toInt hq, Int.ofNat_tdiv]
  intro e
  have := congrArg Int32.toInt e
  rw [q_toInt ha] at this
  have h2 : (Int32.minValue).toInt = -2147483648 := by decide
  rw [h2] at this; omega
theorem q_rem {a d : Nat} (ha : a < 2 ^ 31) (hd : d < 2 ^ 31) : nI a - nI a / nI d * nI d = nI (a % d) := by
  rw [q_div ha hd, q_mul, q_sub (Nat.div_mul_le_self a d)]
  exact congrArg nI (by have := Nat.div_add_mod' a d; omega)
theorem q_and {a k : Nat} (ha : a < 2 ^ 31) (hk : k < 32) : nI a &&& nI (2 ^ k - 1) = nI (a % 2 ^ k) := by
  unfold nI
  rw [← Int32.toBitVec_inj, Int32.toBitVec_and]
  show BitVec.ofNat 32 a &&& BitVec.ofNat 32 (2 ^ k - 1) = BitVec.ofNat 32 (a % 2 ^ k)
  apply BitVec.eq_of_toNat_eq
  rw [BitVec.toNat_and, BitVec.toNat_ofNat, BitVec.toNat_ofNat, BitVec.toNat_ofNat]
  have h1 : 2 ^ k ≤ 2 ^ 31 := Nat.pow_le_pow_right (by omega) (by omega)
  have h0 : 0 < 2 ^ k := Nat.two_pow_pos k
  have h2 : a % 2 ^ k ≤ a := Nat.mod_le _ _
  rw [Nat.mod_eq_of_lt (a := a) (by omega), Nat.mod_eq_of_lt (a := 2 ^ k - 1) (by omega), Nat.mod_eq_of_lt (a := a % 2 ^ k) (by omega), Nat.and_two_pow_sub_one_eq_mod]
theorem q_shr {a k : Nat} (ha : a < 2 ^ 31) (hk : k < 32) : nI a >>> nI k = nI (a / 2 ^ k) := by
  have e : (nI a).toBitVec.msb = false := by
    show (BitVec.ofNat 32 a).msb = false
    rw [BitVec.msb_eq_false_iff_two_mul_lt, BitVec.toNat_ofNat, Nat.mod_eq_of_lt (by omega)]; omega
  have h2 : ((nI k).toBitVec.smod 32).toNat = k := by
    unfold nI
    revert hk; revert k; decide +kernel
  rw [← Int32.toBitVec_inj, Int32.toBitVec_shiftRight, BitVec.sshiftRight', h2, BitVec.sshiftRight_eq_of_msb_false e]
  apply BitVec.eq_of_toNat_eq
  rw [BitVec.toNat_ushiftRight]
  show (BitVec.ofNat 32 a).toNat >>> k = (BitVec.ofNat 32 (a / 2 ^ k)).toNat
  have h3 : a / 2 ^ k ≤ a := Nat.div_le_self _ _
  rw [BitVec.toNat_ofNat, BitVec.toNat_ofNat, Nat.mod_eq_of_lt (a := a) (by omega), Nat.mod_eq_of_lt (by omega), Nat.shiftRight_eq_div_pow]
/-- the least place from a on below b where p holds -/
def fst (p : Nat → Bool) (a : Nat) : Nat → Option Nat
  | 0 => none
  | n + 1 => if p a then some a else fst p (a + 1) n
theorem fst_some {p : Nat → Bool} {n a k : Nat} (h : fst p a n = some k) : a ≤ k ∧ k < a + n ∧ p k = true ∧ ∀ j, a ≤ j → j < k → p j = false := by
  induction n generalizing a with
  | zero => cases h
  | succ n ih =>
    unfold fst at h
    by_cases c : p a = true
    · rw [if_pos c] at h
      obtain rfl := Option.some.inj h
      exact ⟨Nat.le_refl _, by omega, c, fun j h1 h2 => by omega⟩
    · rw [if_neg c] at h
      obtain ⟨h1, h2, h3, h4⟩ := ih h
      refine ⟨by omega, by omega, h3, fun j h5 h6 => ?_⟩
      by_cases e : j = a
      · subst e; exact Bool.eq_false_iff.mpr c
      · exact h4 j (by omega) h6
theorem fst_none {p : Nat → Bool} {n a : Nat} : fst p a n = none ↔ ∀ j, a ≤ j → j < a + n → p j = false := by
  induction n generalizing a with
  | zero => exact ⟨fun _ j h1 h2 => by omega, fun _ => rfl⟩
  | succ n ih =>
    unfold fst
    by_cases c : p a = true
    · rw [if_pos c]
      constructor
      · intro h; cases h
      · intro h; have := h a (Nat.le_refl _) (by omega); rw [c] at this; cases this
    · rw [if_neg c, ih]
      constructor
      · intro h j h1 h2
        by_cases e : j = a
        · subst e; exact Bool.eq_false_iff.mpr c
        · exact h j (by omega) (by omega)
      · intro h j h1 h2; exact h j (by omega) (by omega)
theorem fst_is {p : Nat → Bool} {n a k : Nat} (h1 : a ≤ k) (h2 : k < a + n) (h3 : p k = true) (h4 : ∀ j, a ≤ j → j < k → p j = false) : fst p a n = some k := by
  cases e : fst p a n with
  | none => have := fst_none.mp e k h1 h2; rw [h3] at this; cases this
  | some j =>
    obtain ⟨g1, g2, g3, g4⟩ := fst_some e
    have : j = k := by
      rcases Nat.lt_trichotomy j k with h | h | h
      · have := h4 j g1 h; rw [g3] at this; cases this
      · exact h
      · have := g4 k h1 h; rw [h3] at this; cases this
    rw [this]
theorem fst_congr {p q : Nat → Bool} {n a : Nat} (h : ∀ j, a ≤ j → j < a + n → p j = q j) : fst p a n = fst q a n := by
  induction n generalizing a with
  | zero => rfl
  | succ n ih =>
    unfold fst
    rw [h a (Nat.le_refl _) (by omega), ih (fun j h1 h2 => h j (by omega) (by omega))]
/-- the same search at other places -/
theorem fst_shift {p q : Nat → Bool} {n a b : Nat} (h : ∀ j, j < n → p (a + j) = q (b + j)) : fst p a n = (fst q b n).map (fun k => k - b + a) := by
  induction n generalizing a b with
  | zero => rfl
  | succ n ih =>
    unfold fst
    have h0 := h 0 (by omega)
    simp only [Nat.add_zero] at h0
    rw [h0]
    by_cases c : q b = true
    · rw [if_pos c, if_pos c]; simp
    · rw [if_neg c, if_neg c, ih (b := b + 1) (fun j hj => by have := h (j + 1) (by omega); rw [show a + 1 + j = a + (j + 1) by omega, show b + 1 + j = b + (j + 1) by omega]; exact this)]
      cases e : fst q (b + 1) n with
      | none => rfl
      | some k =>
        obtain ⟨g1, g2, _, _⟩ := fst_some e
        simp; omega
/-- a searching loop -/
theorem lp_find {β : Type} (L : Nat → Int32 → Option β) (p : Nat → Bool) (F : Nat → β) (e : β) (a n : Nat)
    (hs : ∀ f j, a ≤ j → j < a + n → L (f + 1) (nI j) = if p j then some (F j) else L f (nI (j + 1)))
    (he : ∀ f, L (f + 1) (nI (a + n)) = some e) (f : Nat) (hf : n < f) : L f (nI a) = some ((fst p a n).elim e F) := by
  induction n generalizing a f with
  | zero =>
    obtain ⟨f', rfl⟩ : ∃ f', f = f' + 1 := ⟨f - 1, by omega⟩
    exact he f'
  | succ n ih =>
    obtain ⟨f', rfl⟩ : ∃ f', f = f' + 1 := ⟨f - 1, by omega⟩
    rw [hs f' a (Nat.le_refl _) (by omega)]
    unfold fst
    by_cases c : p a = true
    · rw [if_pos c, if_pos c]; rfl
    · rw [if_neg c, if_neg c]
      exact ih (a + 1) (fun f j h1 h2 => hs f j (by omega) (by omega)) (fun f => by rw [show a + 1 + n = a + (n + 1) by omega]; exact he f) f' (by omega)
/-- a loop that goes on to its end -/
theorem lp_run {α β : Type} (L : Nat → α → Int32 → Option β) (S : Nat → α) (r : Option β) (a n : Nat)
    (hs : ∀ f j, a ≤ j → j < a + n → L (f + 1) (S j) (nI j) = L f (S (j + 1)) (nI (j + 1)))
    (he : ∀ f, L (f + 1) (S (a + n)) (nI (a + n)) = r) (f : Nat) (hf : n < f) : L f (S a) (nI a) = r := by
  induction n generalizing a f with
  | zero =>
    obtain ⟨f', rfl⟩ : ∃ f', f = f' + 1 := ⟨f - 1, by omega⟩
    have := he f'; rw [Nat.add_zero] at this; exact this
  | succ n ih =>
    obtain ⟨f', rfl⟩ : ∃ f', f = f' + 1 := ⟨f - 1, by omega⟩
    rw [hs f' a (Nat.le_refl _) (by omega)]
    exact ih (a + 1) (fun f j h1 h2 => hs f j (by omega) (by omega)) (fun f => by rw [show a + 1 + n = a + (n + 1) by omega]; exact he f) f' (by omega)
