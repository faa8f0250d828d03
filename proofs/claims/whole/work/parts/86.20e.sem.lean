/-! The stores laid over a word. -/
def BB (n : Nat) : Int32 := tBB.getD n 0
theorem BB_and : ∀ a, a < 16 → ∀ b, b < 16 → BB (a &&& b) = BB a &&& BB b := by decide +kernel
theorem BB_not : ∀ a, a < 16 → ∀ b, b < 16 → BB (a &&& (15 ^^^ b)) = BB a &&& (BB b ^^^ (-1 : Int32)) := by decide +kernel
theorem BB_or : ∀ a, a < 16 → ∀ b, b < 16 → BB (a ||| b) = BB a ||| BB b := by decide +kernel
theorem n4_and : ∀ a, a < 16 → ∀ b, b < 16 → (a &&& b) < 16 ∧ nI a &&& nI b = nI (a &&& b) := by decide +kernel
theorem n4_or : ∀ a, a < 16 → ∀ b, b < 16 → (a ||| b) < 16 ∧ nI a ||| nI b = nI (a ||| b) := by decide +kernel
theorem n4_not : ∀ a, a < 16 → ∀ b, b < 16 → (a &&& (15 ^^^ b)) < 16 ∧ nI a &&& (nI b ^^^ (-1 : Int32)) = nI (a &&& (15 ^^^ b)) := by decide +kernel
theorem n4_not2 : ∀ a, a < 16 → ∀ b, b < 16 → nI a &&& (nI (a &&& b) ^^^ (-1 : Int32)) = nI (a &&& (15 ^^^ b)) := by decide +kernel
theorem n4_nn : ∀ a, a < 16 → ∀ b, b < 16 → ∀ c, c < 16 → (a &&& (15 ^^^ b)) &&& (15 ^^^ c) = a &&& (15 ^^^ (c ||| b)) := by decide +kernel
theorem BB_0 : BB 0 = 0 := rfl
theorem BB_15 : BB 15 = -1 := rfl
theorem bt_0 (i : Nat) : bt 0 i = false := by
  unfold bt
  show (0#32).getLsbD i = false
  exact BitVec.getLsbD_zero
theorem bt_m1 {i : Nat} (hi : i < 32) : bt (-1 : Int32) i = true := by
  revert hi; revert i; decide +kernel
theorem or_0 (x : Int32) : x ||| 0 = x := bt_ext (fun i _ => by rw [bt_or, bt_0]; simp)
theorem or_0l (x : Int32) : 0 ||| x = x := bt_ext (fun i _ => by rw [bt_or, bt_0]; simp)
theorem and_m1 (x : Int32) : x &&& (-1 : Int32) = x := bt_ext (fun i hi => by rw [bt_and, bt_m1 hi]; simp)
theorem and_0 (x : Int32) : x &&& 0 = 0 := bt_ext (fun i hi => by rw [bt_and, bt_0]; simp)
theorem maskStep (h : AH) (n : Nat) (a x : Int32) {k : Nat} (hk : k < 4) : f_X11_maskOf_L4 h (n + 1) a x (nI k) = f_X11_maskOf_L4 h n a (x ||| (if (a >>> (nI k &&& 31)) &&& (1 : Int32) = (1 : Int32) then (255 : Int32) <<< (((8 : Int32) * nI k) &&& 31) else 0)) (nI (k + 1)) := by
  have e : nI k + (1 : Int32) = nI (k + 1) := q_add k 1
  conv => lhs; unfold f_X11_maskOf_L4
  rw [if_neg (fun g => by have := (q_le (show 4 < 2 ^ 31 by omega) (show k < 2 ^ 31 by omega)).mp g; omega)]
  by_cases c : (a >>> (nI k &&& 31)) &&& (1 : Int32) = (1 : Int32)
  · rw [if_neg (fun g => g c), if_pos c]
    unfold f_X11_maskOf_L31
    rw [y_lt, y_lt, e]
  · rw [if_pos c, if_neg c]
    unfold f_X11_maskOf_L31
    rw [y_lt, y_lt, e]
theorem FU5 : FU = 4294967291 + 1 + 1 + 1 + 1 + 1 := by unfold FU; rfl
theorem r_maskOf (h : AH) {B : Nat} (hB : B < 16) : f_X11_maskOf h (nI B) = some (BB B) := by
  unfold f_X11_maskOf
  rw [y_lt, y_lt, FU5, show (0 : Int32) = nI 0 from rfl, maskStep h _ _ _ (by omega), maskStep h _ _ _ (by omega), maskStep h _ _ _ (by omega), maskStep h _ _ _ (by omega)]
  unfold f_X11_maskOf_L4
  rw [if_pos (by decide)]
  congr 1
  revert hB; revert B; decide +kernel
def bA (sa sb : Nat → Nat) (A : Nat) : Nat → Nat
  | 0 => 0
  | i + 1 => if sa i = A then bA sa sb A i ||| sb i else bA sa sb A i
def ov (sa sb : Nat → Nat) (sd : Nat → Int32) (A : Nat) (w : Int32) : Nat → Int32
  | 0 => w
  | i + 1 => if sa i = A then (ov sa sb sd A w i &&& (BB (sb i) ^^^ (-1 : Int32))) ||| sd i else ov sa sb sd A w i
def rr (sa sb : Nat → Nat) (sd : Nat → Int32) (A : Nat) : Nat → Int32 → Nat → Int32 × Nat
  | 0, rd, lf => (rd, lf)
  | k + 1, rd, lf => if sa k = A then rr sa sb sd A k (rd ||| (sd k &&& BB (lf &&& sb k))) (lf &&& (15 ^^^ sb k)) else rr sa sb sd A k rd lf
theorem bA_lt {sa sb : Nat → Nat} {A : Nat} (n : Nat) (h : ∀ i, i < n → sb i < 16) : bA sa sb A n < 16 := by
  induction n with
  | zero => exact (by decide : 0 < 16)
  | succ n ih =>
    unfold bA
    split
    · exact (n4_or _ (ih (fun i hi => h i (by omega))) _ (h n (by omega))).1
    · exact ih (fun i hi => h i (by omega))
theorem and_nz {d m x : Int32} (h : d &&& (m ^^^ (-1 : Int32)) = 0) : d &&& (x &&& m) = d &&& x := by
  refine bt_ext (fun i hi => ?_)
  have := congrArg (bt · i) h
  simp only [bt_and, bt_xor, bt_m1 hi, bt_0] at this
  rw [bt_and, bt_and, bt_and]
  revert this
  cases bt d i <;> cases bt m i <;> cases bt x i <;> simp
theorem rr_eq {sa sb : Nat → Nat} {sd : Nat → Int32} {A : Nat} (n : Nat) : ∀ (rd : Int32) (lf : Nat), lf < 16 → (∀ i, i < n → sb i < 16 ∧ sd i &&& (BB (sb i) ^^^ (-1 : Int32)) = 0) → rr sa sb sd A n rd lf = (rd ||| (ov sa sb sd A 0 n &&& BB lf), lf &&& (15 ^^^ bA sa sb A n)) := by
  induction n with
  | zero =>
    intro rd lf hl _
    unfold rr ov bA
    rw [show (0 : Int32) &&& BB lf = 0 from bt_ext (fun i hi => by rw [bt_and, bt_0]; simp), or_0]
    have : lf &&& (15 ^^^ 0) = lf := by revert hl; revert lf; decide +kernel
    rw [this]
  | succ n ih =>
    intro rd lf hl h
    obtain ⟨h1, h2⟩ := h n (by omega)
    have ih' := fun a b c => ih a b c (fun i hi => h i (by omega))
    unfold rr ov bA
    by_cases c : sa n = A
    · rw [if_pos c, if_pos c, if_pos c]
      have bl := bA_lt (sa := sa) (A := A) n (fun i hi => (h i (by omega)).1)
      rw [ih' _ _ (n4_not lf hl _ h1).1, n4_nn lf hl _ h1 _ bl, BB_and lf hl _ h1, BB_not lf hl _ h1, and_nz h2]
      congr 1
      refine bt_ext (fun i hi => ?_)
      simp only [bt_or, bt_and, bt_xor, bt_m1 hi]
      cases bt rd i <;> cases bt (sd n) i <;> cases bt (BB lf) i <;> cases bt (ov sa sb sd A 0 n) i <;> cases bt (BB (sb n)) i <;> rfl
    · rw [if_neg c, if_neg c, if_neg c]
      exact ih' rd lf hl
theorem ov_eq {sa sb : Nat → Nat} {sd : Nat → Int32} {A : Nat} {w : Int32} (n : Nat) : (∀ i, i < n → sb i < 16) → ov sa sb sd A w n = (w &&& (BB (bA sa sb A n) ^^^ (-1 : Int32))) ||| ov sa sb sd A 0 n := by
  induction n with
  | zero =>
    intro _
    unfold ov bA
    rw [or_0]
    refine bt_ext (fun i hi => ?_)
    rw [bt_and, bt_xor, bt_m1 hi, BB_0, bt_0]; simp
  | succ n ih =>
    intro h
    have ih' := ih (fun i hi => h i (by omega))
    have bl := bA_lt (sa := sa) (A := A) n (fun i hi => h i (by omega))
    unfold ov bA
    by_cases c : sa n = A
    · rw [if_pos c, if_pos c, if_pos c, ih', BB_or _ bl _ (h n (by omega))]
      refine bt_ext (fun i hi => ?_)
      simp only [bt_or, bt_and, bt_xor, bt_m1 hi]
      cases bt w i <;> cases bt (sd n) i <;> cases bt (BB (bA sa sb A n)) i <;> cases bt (ov sa sb sd A 0 n) i <;> cases bt (BB (sb n)) i <;> rfl
    · rw [if_neg c, if_neg c, if_neg c]; exact ih'
/-- what the one has in got is, of the bytes that are wanted, what the other reads -/
theorem read_eq {sa sb : Nat → Nat} {sd : Nat → Int32} {A : Nat} {w : Int32} {n nd : Nat} (hn : nd < 16) (h : ∀ i, i < n → sb i < 16 ∧ sd i &&& (BB (sb i) ^^^ (-1 : Int32)) = 0) : (rr sa sb sd A n 0 nd).1 ||| (w &&& BB (rr sa sb sd A n 0 nd).2) = ov sa sb sd A w n &&& BB nd ∧ (rr sa sb sd A n 0 nd).2 = nd &&& (15 ^^^ bA sa sb A n) := by
  have bl := bA_lt (sa := sa) (A := A) n (fun i hi => (h i hi).1)
  rw [rr_eq n 0 nd hn h, ov_eq (w := w) n (fun i hi => (h i hi).1)]
  refine ⟨?_, rfl⟩
  show (0 ||| _) ||| (w &&& BB (nd &&& (15 ^^^ bA sa sb A n))) = _
  rw [or_0l, BB_not nd hn _ bl]
  refine bt_ext (fun i hi => ?_)
  simp only [bt_or, bt_and, bt_xor, bt_m1 hi]
  cases bt w i <;> cases bt (BB nd) i <;> cases bt (BB (bA sa sb A n)) i <;> cases bt (ov sa sb sd A 0 n) i <;> rfl
