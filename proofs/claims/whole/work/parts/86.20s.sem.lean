/-! Atomic words in both. -/
def av (n : Nat) (x y : Int32) : Int32 := if n = 0 then x + y else if n = 1 then y else if n = 4 then x ^^^ y else if n = 8 then x ||| y else if n = 12 then x &&& y else if n = 16 then (if y < x then y else x) else if n = 20 then (if x < y then y else x) else if n = 24 then (if (y ^^^ (-2147483648 : Int32)) ≤ (x ^^^ (-2147483648 : Int32)) then y else x) else (if (y ^^^ (-2147483648 : Int32)) ≤ (x ^^^ (-2147483648 : Int32)) then x else y)
theorem n32 {n k : Nat} (hn : n < 32) (hk : k < 32) : nI n = nI k ↔ n = k := q_eq (by omega) (by omega)
theorem c_atomic (h : AH) {w x y : Int32} {n : Nat} (hn : n < 32) (hw : jushr w (27 : Int32) = nI n) : f_X0_atomic h w x y = some (av n x y) := by
  unfold f_X0_atomic av
  rw [hw]
  by_cases g0 : n = 0
  · rw [if_pos (show nI n = (0 : Int32) from (n32 hn (k := 0) (by omega)).mpr g0), if_pos g0]
  rw [if_neg (show ¬ nI n = (0 : Int32) from fun w => g0 ((n32 hn (k := 0) (by omega)).mp w)), if_neg g0]
  by_cases g1 : n = 1
  · rw [if_pos (show nI n = (1 : Int32) from (n32 hn (k := 1) (by omega)).mpr g1), if_pos g1]
  rw [if_neg (show ¬ nI n = (1 : Int32) from fun w => g1 ((n32 hn (k := 1) (by omega)).mp w)), if_neg g1]
  by_cases g4 : n = 4
  · rw [if_pos (show nI n = (4 : Int32) from (n32 hn (k := 4) (by omega)).mpr g4), if_pos g4]
  rw [if_neg (show ¬ nI n = (4 : Int32) from fun w => g4 ((n32 hn (k := 4) (by omega)).mp w)), if_neg g4]
  by_cases g8 : n = 8
  · rw [if_pos (show nI n = (8 : Int32) from (n32 hn (k := 8) (by omega)).mpr g8), if_pos g8]
  rw [if_neg (show ¬ nI n = (8 : Int32) from fun w => g8 ((n32 hn (k := 8) (by omega)).mp w)), if_neg g8]
  by_cases g12 : n = 12
  · rw [if_pos (show nI n = (12 : Int32) from (n32 hn (k := 12) (by omega)).mpr g12), if_pos g12]
  rw [if_neg (show ¬ nI n = (12 : Int32) from fun w => g12 ((n32 hn (k := 12) (by omega)).mp w)), if_neg g12]
  by_cases g16 : n = 16
  · rw [if_pos (show nI n = (16 : Int32) from (n32 hn (k := 16) (by omega)).mpr g16), if_pos g16]
  rw [if_neg (show ¬ nI n = (16 : Int32) from fun w => g16 ((n32 hn (k := 16) (by omega)).mp w)), if_neg g16]
  by_cases g20 : n = 20
  · rw [if_pos (show nI n = (20 : Int32) from (n32 hn (k := 20) (by omega)).mpr g20), if_pos g20]
  rw [if_neg (show ¬ nI n = (20 : Int32) from fun w => g20 ((n32 hn (k := 20) (by omega)).mp w)), if_neg g20]
  unfold f_X0_isBelow
  by_cases g24 : n = 24
  · rw [if_pos (show nI n = (24 : Int32) from (n32 hn (k := 24) (by omega)).mpr g24), if_pos g24]
    by_cases c : (y ^^^ (-2147483648 : Int32)) ≤ (x ^^^ (-2147483648 : Int32))
    · rw [if_pos c, if_pos c, y_bds, if_pos rfl]
    · rw [if_neg c, if_neg c, y_bds, if_neg (by decide)]
  · rw [if_neg (show ¬ nI n = (24 : Int32) from fun w => g24 ((n32 hn (k := 24) (by omega)).mp w)), if_neg g24]
    by_cases c : (y ^^^ (-2147483648 : Int32)) ≤ (x ^^^ (-2147483648 : Int32))
    · rw [if_pos c, if_pos c, y_bds, if_pos rfl]
    · rw [if_neg c, if_neg c, y_bds, if_neg (by decide)]
theorem min_le (x y : Int32) : (if y ≤ x then y else x) = (if y < x then y else x) := by
  by_cases h : y < x
  · rw [if_pos h, if_pos (Int32.le_of_lt h)]
  · rw [if_neg h]
    by_cases g : y ≤ x
    · rw [if_pos g]; exact Int32.le_antisymm g (Int32.not_lt.mp h)
    · rw [if_neg g]
theorem max_le (x y : Int32) : (if x ≤ y then y else x) = (if x < y then y else x) := by
  by_cases h : x < y
  · rw [if_pos h, if_pos (Int32.le_of_lt h)]
  · rw [if_neg h]
    by_cases g : x ≤ y
    · rw [if_pos g]; exact Int32.le_antisymm (Int32.not_lt.mp h) g
    · rw [if_neg g]
/-- the reference's choice among the nine -/
def atC (q : AH) (a0 : Nat) (a1 a4 x6 x12 a6 a7 : Int32) : Option (Int32 × AH) :=
  if a7 = (0 : Int32) then lt ((x12 + a6)) fun x14 => f_X11_atomic_L330 q a0 a1 a4 x6 x12 x14
  else if a7 = (1 : Int32) then f_X11_atomic_L330 q a0 a1 a4 x6 x12 a6
  else if a7 = (4 : Int32) then lt ((x12 ^^^ a6)) fun x17 => f_X11_atomic_L330 q a0 a1 a4 x6 x12 x17
  else if a7 = (8 : Int32) then lt ((x12 ||| a6)) fun x19 => f_X11_atomic_L330 q a0 a1 a4 x6 x12 x19
  else if a7 = (12 : Int32) then lt ((x12 &&& a6)) fun x21 => f_X11_atomic_L330 q a0 a1 a4 x6 x12 x21
  else if a7 = (16 : Int32) then (if a6 ≤ x12 then f_X11_atomic_L265 q a0 a1 a4 x6 x12 a6 else f_X11_atomic_L265 q a0 a1 a4 x6 x12 x12)
  else if a7 = (20 : Int32) then (if x12 ≤ a6 then f_X11_atomic_L284 q a0 a1 a4 x6 x12 a6 else f_X11_atomic_L284 q a0 a1 a4 x6 x12 x12)
  else if a7 = (24 : Int32) then (bd (f_X11_isLessPlain q x12 a6) fun v27 => if v27 = 0 then f_X11_atomic_L306 q a0 a1 a4 x6 x12 a6 else f_X11_atomic_L306 q a0 a1 a4 x6 x12 x12)
  else bd (f_X11_isLessPlain q x12 a6) fun v29 => if v29 = 0 then f_X11_atomic_L328 q a0 a1 a4 x6 x12 x12 else f_X11_atomic_L328 q a0 a1 a4 x6 x12 a6
theorem r_atC (q : AH) {a1 a4 x6 x y : Int32} {n : Nat} (hn : n < 32) : atC q 226 a1 a4 x6 x y (nI n) = f_X11_atomic_L330 q 226 a1 a4 x6 x (av n x y) := by
  unfold atC av
  by_cases g0 : n = 0
  · rw [if_pos (show nI n = (0 : Int32) from (n32 hn (k := 0) (by omega)).mpr g0), if_pos g0, y_lt]
  rw [if_neg (show ¬ nI n = (0 : Int32) from fun w => g0 ((n32 hn (k := 0) (by omega)).mp w)), if_neg g0]
  by_cases g1 : n = 1
  · rw [if_pos (show nI n = (1 : Int32) from (n32 hn (k := 1) (by omega)).mpr g1), if_pos g1]
  rw [if_neg (show ¬ nI n = (1 : Int32) from fun w => g1 ((n32 hn (k := 1) (by omega)).mp w)), if_neg g1]
  by_cases g4 : n = 4
  · rw [if_pos (show nI n = (4 : Int32) from (n32 hn (k := 4) (by omega)).mpr g4), if_pos g4, y_lt]
  rw [if_neg (show ¬ nI n = (4 : Int32) from fun w => g4 ((n32 hn (k := 4) (by omega)).mp w)), if_neg g4]
  by_cases g8 : n = 8
  · rw [if_pos (show nI n = (8 : Int32) from (n32 hn (k := 8) (by omega)).mpr g8), if_pos g8, y_lt]
  rw [if_neg (show ¬ nI n = (8 : Int32) from fun w => g8 ((n32 hn (k := 8) (by omega)).mp w)), if_neg g8]
  by_cases g12 : n = 12
  · rw [if_pos (show nI n = (12 : Int32) from (n32 hn (k := 12) (by omega)).mpr g12), if_pos g12, y_lt]
  rw [if_neg (show ¬ nI n = (12 : Int32) from fun w => g12 ((n32 hn (k := 12) (by omega)).mp w)), if_neg g12]
  by_cases g16 : n = 16
  · rw [if_pos (show nI n = (16 : Int32) from (n32 hn (k := 16) (by omega)).mpr g16), if_pos g16, ← min_le]
    unfold f_X11_atomic_L265
    split <;> rfl
  rw [if_neg (show ¬ nI n = (16 : Int32) from fun w => g16 ((n32 hn (k := 16) (by omega)).mp w)), if_neg g16]
  by_cases g20 : n = 20
  · rw [if_pos (show nI n = (20 : Int32) from (n32 hn (k := 20) (by omega)).mpr g20), if_pos g20, ← max_le]
    unfold f_X11_atomic_L284
    split <;> rfl
  rw [if_neg (show ¬ nI n = (20 : Int32) from fun w => g20 ((n32 hn (k := 20) (by omega)).mp w)), if_neg g20]
  unfold f_X11_isLessPlain
  by_cases g24 : n = 24
  · rw [if_pos (show nI n = (24 : Int32) from (n32 hn (k := 24) (by omega)).mpr g24), if_pos g24]
    unfold f_X11_atomic_L306
    by_cases c : (y ^^^ (-2147483648 : Int32)) ≤ (x ^^^ (-2147483648 : Int32))
    · rw [if_pos c, if_pos c, y_bds, if_pos rfl]
    · rw [if_neg c, if_neg c, y_bds, if_neg (by decide)]
  · rw [if_neg (show ¬ nI n = (24 : Int32) from fun w => g24 ((n32 hn (k := 24) (by omega)).mp w)), if_neg g24]
    unfold f_X11_atomic_L328
    by_cases c : (y ^^^ (-2147483648 : Int32)) ≤ (x ^^^ (-2147483648 : Int32))
    · rw [if_pos c, if_pos c, y_bds, if_pos rfl]
    · rw [if_neg c, if_neg c, y_bds, if_neg (by decide)]
abbrev kA (f n : Nat) : Prop := f = 2 ∧ (n = 1 ∨ n % 4 = 0)
theorem c_knowsAtomic (h : AH) {w : Int32} {f n : Nat} (f8 : f < 8) (hf : (w >>> ((12 : Int32) &&& 31)) &&& (7 : Int32) = nI f) (hn : n < 32) (hw : jushr w (27 : Int32) = nI n) : f_X0_knowsAtomic h w = some (if kA f n then 1 else 0) := by
  unfold f_X0_knowsAtomic f_X0_knowsAtomic_L26
  rw [c_variant h hf, y_bds, hw]
  by_cases g2 : f = 2
  · have e2 : nI f = (2 : Int32) := by rw [g2]; rfl
    rw [if_pos e2, y_lt]
    have a3 : nI n &&& (3 : Int32) = nI (n % 4) := q_and (k := 2) (by omega) (by omega)
    by_cases g1 : n = 1
    · rw [if_pos (show nI n = (1 : Int32) from (n32 hn (k := 1) (by omega)).mpr g1), if_pos ⟨g2, Or.inl g1⟩]
    · rw [if_neg (show ¬ nI n = (1 : Int32) from fun w => g1 ((n32 hn (k := 1) (by omega)).mp w)), a3]
      by_cases g4 : n % 4 = 0
      · rw [if_neg (show ¬ ¬ nI (n % 4) = 0 from fun w => w (by rw [g4]; rfl)), if_pos ⟨g2, Or.inr g4⟩]
      · rw [if_pos (show ¬ nI (n % 4) = 0 from fun w => g4 ((n32 (by omega) (k := 0) (by omega)).mp w)), if_neg (fun w => by have := w.2; omega)]
  · have e2 : ¬ nI f = (2 : Int32) := fun w => g2 ((nIf f8 (show 2 < 2 ^ 31 by omega)).mp w)
    rw [if_neg e2, if_neg (fun w => g2 w.1)]
theorem r_atHead (m : AH) {c d w x y : Int32} {f n : Nat} (f8 : f < 8) (hn : n < 32) (hw : jushr w (27 : Int32) = nI n) : f_X11_atomic m 226 c w (nI f) d x y = if kA f n then f_X11_atomic_L31 m 226 c d x y (nI n) else f_X11_atomic_L24 m 226 c := by
  unfold f_X11_atomic
  have r4 : nI n - nI n / (4 : Int32) * (4 : Int32) = nI (n % 4) := q_rem (d := 4) (by omega) (by omega)
  rw [hw, y_lt, r4]
  by_cases g2 : f = 2
  · have e2 : nI f = (2 : Int32) := by rw [g2]; rfl
    rw [if_neg (fun w => w e2)]
    by_cases g4 : n % 4 = 0
    · rw [if_pos (show nI (n % 4) = 0 from by rw [g4]; rfl), if_pos ⟨g2, Or.inr g4⟩]
    · rw [if_neg (show ¬ nI (n % 4) = 0 from fun w => g4 ((n32 (by omega) (k := 0) (by omega)).mp w))]
      by_cases g1 : n = 1
      · rw [if_pos (show nI n = (1 : Int32) from (n32 hn (k := 1) (by omega)).mpr g1), if_pos ⟨g2, Or.inl g1⟩]
      · rw [if_neg (show ¬ nI n = (1 : Int32) from fun w => g1 ((n32 hn (k := 1) (by omega)).mp w)), if_neg (fun w => by have := w.2; omega)]
  · have e2 : ¬ nI f = (2 : Int32) := fun w => g2 ((nIf f8 (show 2 < 2 ^ 31 by omega)).mp w)
    rw [if_pos e2, if_neg (fun w => g2 w.1)]
