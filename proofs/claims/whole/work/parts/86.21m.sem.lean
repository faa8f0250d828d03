/-! sizes. -/
theorem in1 (a : Int32) {K : Nat} (hK : K < 1000) : (∃ n, 1 ≤ n ∧ n ≤ K ∧ a = nI n) ∨ (a < (1 : Int32) ∧ a ≤ 0) ∨ (¬ a < (1 : Int32) ∧ ¬ a ≤ 0 ∧ nI K < a ∧ ¬ a ≤ nI K ∧ nI (K + 1) ≤ a) := by
  rcases i_cases a with g | ⟨n, n1, rfl⟩
  · exact Or.inr (Or.inl ⟨Int32.lt_trans g (by decide), Int32.le_of_lt g⟩)
  · by_cases z : n = 0
    · subst z; exact Or.inr (Or.inl ⟨by decide, by decide⟩)
    · by_cases k : n ≤ K
      · exact Or.inl ⟨n, by omega, k, rfl⟩
      · refine Or.inr (Or.inr ⟨fun q => ?_, fun q => ?_, (q_lt (by omega) n1).mpr (by omega), fun q => k ((q_le n1 (by omega)).mp q), (q_le (by omega) n1).mpr (by omega)⟩)
        · have := (q_lt (b := 1) n1 (by omega)).mp q; omega
        · have := (q_le (b := 0) n1 (by omega)).mp q; omega
abbrev p2 (n : Nat) : Prop := n = 1 ∨ n = 2 ∨ n = 4 ∨ n = 8 ∨ n = 16 ∨ n = 32 ∨ n = 64
theorem pw2 : ∀ n, n ≤ 64 → 1 ≤ n → ((nI n &&& (nI n - (1 : Int32))) = 0 ↔ p2 n) := by decide +kernel
theorem isP_in (h : AH) {n K : Nat} (h1 : 1 ≤ n) (h2 : n ≤ K) (hK : K ≤ 64) : f_X10_isPower h (nI n) (nI K) = some (if p2 n then 1 else 0) := by
  unfold f_X10_isPower
  rw [if_neg (show ¬ nI n < (1 : Int32) from fun q => by have := (q_lt (b := 1) (by omega) (by omega)).mp q; omega), if_neg (fun q => by have := (q_lt (by omega) (by omega)).mp q; omega)]
  by_cases p : p2 n
  · rw [if_neg (fun q => q ((pw2 n (by omega) h1).mpr p)), if_pos p]
  · rw [if_pos (fun q => p ((pw2 n (by omega) h1).mp q)), if_neg p]
theorem isP_out (h : AH) {a : Int32} {K : Nat} (g : (a < (1 : Int32) ∧ a ≤ 0) ∨ (¬ a < (1 : Int32) ∧ ¬ a ≤ 0 ∧ nI K < a ∧ ¬ a ≤ nI K ∧ nI (K + 1) ≤ a)) : f_X10_isPower h a (nI K) = some 0 := by
  unfold f_X10_isPower
  rcases g with g | g
  · rw [if_pos g.1]
  · rw [if_neg g.1, if_pos g.2.2.1]
theorem ne_big {a : Int32} {K j : Nat} (hK : K < 1000) (g : (a < (1 : Int32) ∧ a ≤ 0) ∨ (¬ a < (1 : Int32) ∧ ¬ a ≤ 0 ∧ nI K < a ∧ ¬ a ≤ nI K ∧ nI (K + 1) ≤ a)) (h1 : 1 ≤ j) (h2 : j ≤ K) : ¬ a = nI j := by
  rintro rfl
  rcases g with g | g
  · have := (q_lt (b := 1) (by omega) (by omega)).mp g.1; omega
  · have := (q_lt (by omega) (by omega)).mp g.2.2.1; omega
/-- the six next sizes -/
def e10 (e : Ex) (f : Nat → Nat) : Ex := fun F i => if F = 10 then f i else e F i
def z6 (a b c d x y : Nat) (i : Nat) : Nat := if i = 0 then a else if i = 1 then b else if i = 2 then c else if i = 3 then d else if i = 4 then x else y
def s6 (h : AH) (o : Nat) (a b c d x y : Int32) : AH := sI (sI (sI (sI (sI (sI h o 0 a) o 1 b) o 2 c) o 3 d) o 4 x) o 5 y
theorem s6_2 (h : AH) (o : Nat) (a b c d x y : Int32) : (s6 h o a b c d x y).2 = h.2 := rfl
theorem s6_ne {h : AH} {o p k : Nat} {a b c d x y : Int32} (g : p ≠ o) : hI (s6 h o a b c d x y) p k = hI h p k := by
  unfold s6
  rw [x_ne (by omega), x_ne (by omega), x_ne (by omega), x_ne (by omega), x_ne (by omega), x_ne (by omega)]
theorem s6_eq {h : AH} {o a b c d x y i : Nat} (hi : i < 6) : hI (s6 h o (nI a) (nI b) (nI c) (nI d) (nI x) (nI y)) o i = nI (z6 a b c d x y i) := by
  unfold s6 z6
  have : i = 0 ∨ i = 1 ∨ i = 2 ∨ i = 3 ∨ i = 4 ∨ i = 5 := by omega
  rcases this with rfl | rfl | rfl | rfl | rfl | rfl
  · rw [x_ne (by omega), x_ne (by omega), x_ne (by omega), x_ne (by omega), x_ne (by omega), x_eq]; rfl
  · rw [x_ne (by omega), x_ne (by omega), x_ne (by omega), x_ne (by omega), x_eq]; rfl
  · rw [x_ne (by omega), x_ne (by omega), x_ne (by omega), x_eq]; rfl
  · rw [x_ne (by omega), x_ne (by omega), x_eq]; rfl
  · rw [x_ne (by omega), x_eq]; rfl
  · rw [x_eq]; rfl
theorem sz_both {h m : AH} {s : St} {e : Ex} {b : Nat} (R : Rel h m s e b) {n1 n2 n3 n4 n5 n6 : Nat} (Z : szs (z6 n1 n2 n3 n4 n5 n6)) : Rel (s6 h 33 (nI n1) (nI n2) (nI n3) (nI n4) (nI n5) (nI n6)) (s6 m 240 (nI n1) (nI n2) (nI n3) (nI n4) (nI n5) (nI n6)) s (e10 e (z6 n1 n2 n3 n4 n5 n6)) b := by
  refine Rel_g R (by rw [s6_2]) (fun o k g => s6_ne (by omega)) (by rw [s6_2]) (fun o k g => s6_ne (by omega)) (fun F i hF => by unfold e10; rw [if_neg (by omega)]) ?_
  obtain ⟨⟨y1, y2⟩, ⟨y3, y4⟩, ⟨y5, y6⟩, ⟨y7, y8, y9⟩, y10, y11, y12, y13, y14⟩ := R.2.2.2.2.2
  have q9 : ∀ F, F ≠ 10 → e10 e (z6 n1 n2 n3 n4 n5 n6) F = e F := fun F hF => funext (fun i => by unfold e10; rw [if_neg hF])
  have q10 : e10 e (z6 n1 n2 n3 n4 n5 n6) 10 = z6 n1 n2 n3 n4 n5 n6 := funext (fun i => by unfold e10; rw [if_pos rfl])
  unfold EXg
  rw [q9 5 (by omega), q9 8 (by omega), q9 9 (by omega), q10]
  refine ⟨⟨?_, y2⟩, ⟨?_, ?_⟩, ⟨?_, ?_⟩, ⟨?_, ?_, y9⟩, fun i hi => ?_, fun i hi => ⟨s6_eq hi, s6_eq hi⟩, Z, ?_, cst_of y14 (fun o k q => s6_ne (by omega))⟩
  · rw [s6_ne (by omega)]; exact y1
  · rw [s6_ne (by omega), s6_ne (by omega)]; exact y3
  · rw [s6_ne (by omega), s6_ne (by omega)]; exact y4
  · rw [s6_ne (by omega), s6_ne (by omega)]; exact y5
  · rw [s6_ne (by omega), s6_ne (by omega)]; exact y6
  · rw [s6_ne (by omega)]; exact y7
  · rw [s6_ne (by omega)]; exact y8
  · rw [s6_ne (by omega), s6_ne (by omega)]; exact y10 i hi
  · rw [s6_ne (by omega)]; exact y13
theorem p2_8 {n : Nat} (h : p2 n) (k : n ≤ 8) : ∃ a, a ≤ 3 ∧ n = 2 ^ a := by
  unfold p2 at h
  have : n = 1 ∨ n = 2 ∨ n = 4 ∨ n = 8 := by omega
  rcases this with rfl | rfl | rfl | rfl
  · exact ⟨0, by omega, rfl⟩
  · exact ⟨1, by omega, rfl⟩
  · exact ⟨2, by omega, rfl⟩
  · exact ⟨3, by omega, rfl⟩
theorem p2_64 {n : Nat} (h : p2 n) : ∃ a, a ≤ 6 ∧ n = 2 ^ a := by
  unfold p2 at h
  rcases h with rfl | rfl | rfl | rfl | rfl | rfl | rfl
  · exact ⟨0, by omega, rfl⟩
  · exact ⟨1, by omega, rfl⟩
  · exact ⟨2, by omega, rfl⟩
  · exact ⟨3, by omega, rfl⟩
  · exact ⟨4, by omega, rfl⟩
  · exact ⟨5, by omega, rfl⟩
  · exact ⟨6, by omega, rfl⟩
theorem call_sizes {h m : AH} {s : St} {e : Ex} {b : Nat} (a1 a2 a3 a4 a5 a6 : Int32) (R : Rel h m s e b) (he : e 8 0 = e 8 1) : Cl 0 h m e b (f_X10_sizes h 1 a1 a2 a3 a4 a5 a6) (f_X11_sizes m 226 a1 a2 a3 a4 a5 a6) := by
  have L := RC_L R.1.1
  have L2 := rm_L R.2.1
  have R0 := Rel_thr R 0
  obtain ⟨q0, q1, q2⟩ := e2_8 e 0
  have no9 : ∀ a1 a2 a3 a4 a5 a6 : Int32, f_X11_sizes_L138 (sI m 226 0 (0 : Int32)) 226 a1 a2 a3 a4 a5 a6 = some (0, sI m 226 0 (0 : Int32)) := by
    intros; unfold f_X11_sizes_L138 f_X11_sizes_L139; rw [if_pos rfl]
  have no8 : ∀ a1 a2 a3 a4 a5 a6 : Int32, f_X11_sizes_L68 (sI m 226 0 (0 : Int32)) 226 a1 a2 a3 a4 a5 a6 = some (0, sI m 226 0 (0 : Int32)) := by
    intros; unfold f_X11_sizes_L68 f_X11_sizes_L69; rw [if_pos rfl, no9]
  have no : Cl 0 h m e b (some (0, h)) (some (0, sI m 226 0 (0 : Int32))) := ⟨h, _, s, _, 0, rfl, rfl, R0, Bd_rfl h, rfl, by rw [q0, q1]; exact he⟩
  unfold f_X10_sizes f_X11_sizes
  rw [y_gs m, if_pos (lm_S226 L2), y_lt (sI m 226 0 (0 : Int32)), no8]
  rcases in1 a1 (K := 16) (by omega) with ⟨n1, h1, k1, rfl⟩ | g | g
  rotate_left
  · rw [if_pos g.1, if_pos g.2]; exact no
  · rw [if_neg g.1, if_neg g.2.1, if_pos (show (16 : Int32) < a1 from g.2.2.1), if_pos (show (16 : Int32) < a1 from g.2.2.1)]; exact no
  rw [if_neg (show ¬ nI n1 < (1 : Int32) from fun q => by have := (q_lt (b := 1) (by omega) (by omega)).mp q; omega), if_neg (show ¬ nI n1 ≤ 0 from fun q => by have := (q_le (b := 0) (by omega) (by omega)).mp q; omega), if_neg (show ¬ (16 : Int32) < nI n1 from fun q => by have := (q_lt (a := 16) (by omega) (by omega)).mp q; omega), if_neg (show ¬ (16 : Int32) < nI n1 from fun q => by have := (q_lt (a := 16) (by omega) (by omega)).mp q; omega)]
  rcases in1 a2 (K := 16) (by omega) with ⟨n2, h2, k2, rfl⟩ | g | g
  rotate_left
  · rw [if_pos g.1, if_pos g.2]; exact no
  · rw [if_neg g.1, if_neg g.2.1, if_neg (show ¬ a2 ≤ (16 : Int32) from g.2.2.2.1), if_pos (show (17 : Int32) ≤ a2 from g.2.2.2.2)]; exact no
  rw [if_neg (show ¬ nI n2 < (1 : Int32) from fun q => by have := (q_lt (b := 1) (by omega) (by omega)).mp q; omega), if_neg (show ¬ nI n2 ≤ 0 from fun q => by have := (q_le (b := 0) (by omega) (by omega)).mp q; omega), if_pos (show nI n2 ≤ (16 : Int32) from (q_le (b := 16) (by omega) (by omega)).mpr k2), if_neg (show ¬ (17 : Int32) ≤ nI n2 from fun q => by have := (q_le (a := 17) (by omega) (by omega)).mp q; omega)]
  have r3 : (if a3 = (1 : Int32) then f_X11_sizes_L46 (sI m 226 0 (0 : Int32)) 226 (nI n1) (nI n2) a3 a4 a5 a6 else if a3 = (2 : Int32) then f_X11_sizes_L46 (sI m 226 0 (0 : Int32)) 226 (nI n1) (nI n2) a3 a4 a5 a6 else if a3 = (4 : Int32) then f_X11_sizes_L46 (sI m 226 0 (0 : Int32)) 226 (nI n1) (nI n2) a3 a4 a5 a6 else if ¬ a3 = (8 : Int32) then some ((0 : Int32), sI m 226 0 (0 : Int32)) else f_X11_sizes_L46 (sI m 226 0 (0 : Int32)) 226 (nI n1) (nI n2) a3 a4 a5 a6) = if (a3 = nI 1 ∨ a3 = nI 2 ∨ a3 = nI 4 ∨ a3 = nI 8) then f_X11_sizes_L46 (sI m 226 0 (0 : Int32)) 226 (nI n1) (nI n2) a3 a4 a5 a6 else some ((0 : Int32), sI m 226 0 (0 : Int32)) := by
    by_cases w1 : a3 = (1 : Int32)
    · rw [if_pos w1, if_pos (by exact Or.inl w1)]
    by_cases w2 : a3 = (2 : Int32)
    · rw [if_neg w1, if_pos w2, if_pos (by exact Or.inr (Or.inl w2))]
    by_cases w4 : a3 = (4 : Int32)
    · rw [if_neg w1, if_neg w2, if_pos w4, if_pos (by exact Or.inr (Or.inr (Or.inl w4)))]
    by_cases w8 : a3 = (8 : Int32)
    · rw [if_neg w1, if_neg w2, if_neg w4, if_neg (fun q => q w8), if_pos (by exact Or.inr (Or.inr (Or.inr w8)))]
    · rw [if_neg w1, if_neg w2, if_neg w4, if_pos w8, if_neg]
      rintro (q | q | q | q)
      · exact w1 q
      · exact w2 q
      · exact w4 q
      · exact w8 q
  rw [r3]
  rcases in1 a3 (K := 8) (by omega) with ⟨n3, h3, k3, rfl⟩ | g | g
  rotate_left
  · rw [show (8 : Int32) = nI 8 from rfl, isP_out h (Or.inl g), y_bds, if_pos rfl, if_neg]
    · exact no
    · rintro (q | q | q | q) <;> exact ne_big (K := 8) (by omega) (Or.inl g) (by omega) (by omega) q
  · rw [show (8 : Int32) = nI 8 from rfl, isP_out h (Or.inr g), y_bds, if_pos rfl, if_neg]
    · exact no
    · rintro (q | q | q | q) <;> exact ne_big (K := 8) (by omega) (Or.inr g) (by omega) (by omega) q
  rw [show f_X10_isPower h (nI n3) (8 : Int32) = some (if p2 n3 then 1 else 0) from isP_in (K := 8) h h3 k3 (by omega), y_bds]
  by_cases p3 : p2 n3
  rotate_left
  · rw [if_neg p3, if_pos rfl, if_neg]
    · exact no
    · rintro (q | q | q | q) <;> exact p3 (by have := (q_eq (by omega) (by omega)).mp q; unfold p2; omega)
  rw [if_pos p3, if_neg (by decide), if_pos (show nI n3 = nI 1 ∨ nI n3 = nI 2 ∨ nI n3 = nI 4 ∨ nI n3 = nI 8 from by
    unfold p2 at p3
    have : n3 = 1 ∨ n3 = 2 ∨ n3 = 4 ∨ n3 = 8 := by omega
    rcases this with rfl | rfl | rfl | rfl
    · exact Or.inl rfl
    · exact Or.inr (Or.inl rfl)
    · exact Or.inr (Or.inr (Or.inl rfl))
    · exact Or.inr (Or.inr (Or.inr rfl)))]
  unfold f_X11_sizes_L46
  rw [no8]
  have r4 : ∀ X : Option (Int32 × AH), (if a4 = (1 : Int32) then X else if a4 = (2 : Int32) then X else if ¬ a4 = (4 : Int32) then some ((0 : Int32), sI m 226 0 (0 : Int32)) else X) = if (a4 = nI 1 ∨ a4 = nI 2 ∨ a4 = nI 4) then X else some ((0 : Int32), sI m 226 0 (0 : Int32)) := by
    intro X
    by_cases w1 : a4 = (1 : Int32)
    · rw [if_pos w1, if_pos (by exact Or.inl w1)]
    by_cases w2 : a4 = (2 : Int32)
    · rw [if_neg w1, if_pos w2, if_pos (by exact Or.inr (Or.inl w2))]
    by_cases w4 : a4 = (4 : Int32)
    · rw [if_neg w1, if_neg w2, if_neg (fun q => q w4), if_pos (by exact Or.inr (Or.inr w4))]
    · rw [if_neg w1, if_neg w2, if_pos w4, if_neg]
      rintro (q | q | q)
      · exact w1 q
      · exact w2 q
      · exact w4 q
  rw [r4]
  rcases in1 a4 (K := 4) (by omega) with ⟨n4, h4, k4, rfl⟩ | g | g
  rotate_left
  · rw [show f_X10_isPower h a4 (4 : Int32) = some 0 from isP_out (K := 4) h (Or.inl g), y_bds, if_pos rfl, if_neg]
    · exact no
    · rintro (q | q | q) <;> exact ne_big (K := 4) (by omega) (Or.inl g) (by omega) (by omega) q
  · rw [show f_X10_isPower h a4 (4 : Int32) = some 0 from isP_out (K := 4) h (Or.inr g), y_bds, if_pos rfl, if_neg]
    · exact no
    · rintro (q | q | q) <;> exact ne_big (K := 4) (by omega) (Or.inr g) (by omega) (by omega) q
  rw [show f_X10_isPower h (nI n4) (4 : Int32) = some (if p2 n4 then 1 else 0) from isP_in (K := 4) h h4 k4 (by omega), y_bds]
  by_cases p4 : p2 n4
  rotate_left
  · rw [if_neg p4, if_pos rfl, if_neg]
    · exact no
    · rintro (q | q | q) <;> exact p4 (by have := (q_eq (by omega) (by omega)).mp q; unfold p2; omega)
  rw [if_pos p4, if_neg (by decide), if_pos (show nI n4 = nI 1 ∨ nI n4 = nI 2 ∨ nI n4 = nI 4 from by
    unfold p2 at p4
    have : n4 = 1 ∨ n4 = 2 ∨ n4 = 4 := by omega
    rcases this with rfl | rfl | rfl
    · exact Or.inl rfl
    · exact Or.inr (Or.inl rfl)
    · exact Or.inr (Or.inr rfl))]
  unfold f_X11_sizes_L64 f_X11_sizes_L69
  rw [no9, if_neg (show ¬ (1 : Int32) = 0 from by decide)]
  have r5 : ∀ X : Option (Int32 × AH), (if a5 = (1 : Int32) then X else if a5 = (2 : Int32) then X else if a5 = (4 : Int32) then X else if a5 = (8 : Int32) then X else if a5 = (16 : Int32) then X else if a5 = (32 : Int32) then X else if ¬ a5 = (64 : Int32) then some ((0 : Int32), sI m 226 0 (0 : Int32)) else X) = if (a5 = nI 1 ∨ a5 = nI 2 ∨ a5 = nI 4 ∨ a5 = nI 8 ∨ a5 = nI 16 ∨ a5 = nI 32 ∨ a5 = nI 64) then X else some ((0 : Int32), sI m 226 0 (0 : Int32)) := by
    intro X
    by_cases w1 : a5 = (1 : Int32)
    · rw [if_pos w1, if_pos (by exact Or.inl w1)]
    by_cases w2 : a5 = (2 : Int32)
    · rw [if_neg w1, if_pos w2, if_pos (by exact Or.inr (Or.inl w2))]
    by_cases w4 : a5 = (4 : Int32)
    · rw [if_neg w1, if_neg w2, if_pos w4, if_pos (by exact Or.inr (Or.inr (Or.inl w4)))]
    by_cases w8 : a5 = (8 : Int32)
    · rw [if_neg w1, if_neg w2, if_neg w4, if_pos w8, if_pos (by exact Or.inr (Or.inr (Or.inr (Or.inl w8))))]
    by_cases w16 : a5 = (16 : Int32)
    · rw [if_neg w1, if_neg w2, if_neg w4, if_neg w8, if_pos w16, if_pos (by exact Or.inr (Or.inr (Or.inr (Or.inr (Or.inl w16)))))]
    by_cases w32 : a5 = (32 : Int32)
    · rw [if_neg w1, if_neg w2, if_neg w4, if_neg w8, if_neg w16, if_pos w32, if_pos (by exact Or.inr (Or.inr (Or.inr (Or.inr (Or.inr (Or.inl w32))))))]
    by_cases w64 : a5 = (64 : Int32)
    · rw [if_neg w1, if_neg w2, if_neg w4, if_neg w8, if_neg w16, if_neg w32, if_neg (fun q => q w64), if_pos (by exact Or.inr (Or.inr (Or.inr (Or.inr (Or.inr (Or.inr w64))))))]
    · rw [if_neg w1, if_neg w2, if_neg w4, if_neg w8, if_neg w16, if_neg w32, if_pos w64, if_neg]
      rintro (q | q | q | q | q | q | q)
      · exact w1 q
      · exact w2 q
      · exact w4 q
      · exact w8 q
      · exact w16 q
      · exact w32 q
      · exact w64 q
  rw [r5]
  rcases in1 a5 (K := 64) (by omega) with ⟨n5, h5, k5, rfl⟩ | g | g
  rotate_left
  · rw [show f_X10_isPower h a5 (64 : Int32) = some 0 from isP_out (K := 64) h (Or.inl g), y_bds, if_pos rfl, if_neg]
    · exact no
    · rintro (q | q | q | q | q | q | q) <;> exact ne_big (K := 64) (by omega) (Or.inl g) (by omega) (by omega) q
  · rw [show f_X10_isPower h a5 (64 : Int32) = some 0 from isP_out (K := 64) h (Or.inr g), y_bds, if_pos rfl, if_neg]
    · exact no
    · rintro (q | q | q | q | q | q | q) <;> exact ne_big (K := 64) (by omega) (Or.inr g) (by omega) (by omega) q
  rw [show f_X10_isPower h (nI n5) (64 : Int32) = some (if p2 n5 then 1 else 0) from isP_in (K := 64) h h5 k5 (by omega), y_bds]
  by_cases p5 : p2 n5
  rotate_left
  · rw [if_neg p5, if_pos rfl, if_neg]
    · exact no
    · rintro (q | q | q | q | q | q | q) <;> exact p5 (by have := (q_eq (by omega) (by omega)).mp q; unfold p2; omega)
  rw [if_pos p5, if_neg (by decide), if_pos (show nI n5 = nI 1 ∨ nI n5 = nI 2 ∨ nI n5 = nI 4 ∨ nI n5 = nI 8 ∨ nI n5 = nI 16 ∨ nI n5 = nI 32 ∨ nI n5 = nI 64 from by
    unfold p2 at p5
    rcases p5 with rfl | rfl | rfl | rfl | rfl | rfl | rfl
    · exact Or.inl rfl
    · exact Or.inr (Or.inl rfl)
    · exact Or.inr (Or.inr (Or.inl rfl))
    · exact Or.inr (Or.inr (Or.inr (Or.inl rfl)))
    · exact Or.inr (Or.inr (Or.inr (Or.inr (Or.inl rfl))))
    · exact Or.inr (Or.inr (Or.inr (Or.inr (Or.inr (Or.inl rfl)))))
    · exact Or.inr (Or.inr (Or.inr (Or.inr (Or.inr (Or.inr rfl))))))]
  unfold f_X11_sizes_L122
  rw [no9]
  rcases in1 a6 (K := 8) (by omega) with ⟨n6, h6, k6, rfl⟩ | g | g
  rotate_left
  · rw [if_pos g.1, if_pos g.2]; exact no
  · rw [if_neg g.1, if_neg g.2.1, if_neg (show ¬ a6 ≤ (8 : Int32) from g.2.2.2.1), if_pos (show (9 : Int32) ≤ a6 from g.2.2.2.2)]; exact no
  rw [if_neg (show ¬ nI n6 < (1 : Int32) from fun q => by have := (q_lt (b := 1) (by omega) (by omega)).mp q; omega), if_neg (show ¬ nI n6 ≤ 0 from fun q => by have := (q_le (b := 0) (by omega) (by omega)).mp q; omega), if_pos (show nI n6 ≤ (8 : Int32) from (q_le (b := 8) (by omega) (by omega)).mpr k6), if_neg (show ¬ (9 : Int32) ≤ nI n6 from fun q => by have := (q_le (a := 9) (by omega) (by omega)).mp q; omega)]
  unfold f_X11_sizes_L139
  rw [if_neg (show ¬ (1 : Int32) = 0 from by decide), q_mul, q_mul, q_mul]
  have pr1 : n1 * n3 * n4 ≤ 512 := by
    have a := Nat.mul_le_mul (Nat.mul_le_mul k1 k3) k4; omega
  have pr2 : n5 * n6 ≤ 512 := by
    have a := Nat.mul_le_mul k5 k6; omega
  by_cases gp : n1 * n3 * n4 ≤ n5 * n6
  · have lp : nI (n1 * n3 * n4) ≤ nI (n5 * n6) := (q_le (by omega) (by omega)).mpr gp
    rw [if_pos lp, if_pos lp]
    have Z : szs (z6 n1 n2 n3 n4 n5 n6) := ⟨⟨h1, k1⟩, ⟨h2, k2⟩, p2_8 p3 k3, (by
      unfold p2 at p4
      have : n4 = 1 ∨ n4 = 2 ∨ n4 = 4 := by omega
      rcases this with rfl | rfl | rfl
      · exact ⟨0, by omega, rfl⟩
      · exact ⟨1, by omega, rfl⟩
      · exact ⟨2, by omega, rfl⟩), p2_64 p5, ⟨h6, k6⟩, gp⟩
    have RZ : Rel _ (s6 (sI m 226 0 (0 : Int32)) 240 (nI n1) (nI n2) (nI n3) (nI n4) (nI n5) (nI n6)) _ _ _ := sz_both R0 Z
    have m22 : (sI m 226 0 (0 : Int32)).2.2 = m.2.2 := rfl
    have Lt : LM (sI m 226 0 (0 : Int32)) := L2
    have X : (gs h 1 9 <| gs h (hR h 1 6) 21 <| gb (ib (0 : Int32) (hN h (hR h 1 6))) <| lt (sI h (hR h 1 6) (0 : Int32).toNatClampNeg (nI n1)) fun h17 => gs h17 (hR h17 1 6) 21 <| gb (ib (1 : Int32) (hN h17 (hR h17 1 6))) <| lt (sI h17 (hR h17 1 6) (1 : Int32).toNatClampNeg (nI n2)) fun h21 => gs h21 (hR h21 1 6) 21 <| gb (ib (2 : Int32) (hN h21 (hR h21 1 6))) <| lt (sI h21 (hR h21 1 6) (2 : Int32).toNatClampNeg (nI n3)) fun h25 => f_X10_sizes_L104 h25 1 (nI n4) (nI n5) (nI n6)) = some (1, s6 h 33 (nI n1) (nI n2) (nI n3) (nI n4) (nI n5) (nI n6)) := by
      have cl : ∀ q : AH, LC q → hR q 1 6 = 33 ∧ hS q 33 = 21 ∧ hN q 33 = 6 := fun q Lq => ⟨lc_R1_6 Lq, lc_S33 Lq, lc_N33 Lq⟩
      obtain ⟨c1, c2, c3⟩ := cl h L
      unfold f_X10_sizes_L104
      rw [y_gs, if_pos (lc_S1 L), c1, y_gs, if_pos c2, c3, y_gb, if_pos (show ib (0 : Int32) 6 = true from by decide), y_lt, show (0 : Int32).toNatClampNeg = 0 from by decide]
      obtain ⟨c1, c2, c3⟩ := cl (sI h 33 0 (nI n1)) L
      rw [c1, y_gs, if_pos c2, c3, y_gb, if_pos (show ib (1 : Int32) 6 = true from by decide), y_lt, show (1 : Int32).toNatClampNeg = 1 from by decide]
      obtain ⟨c1, c2, c3⟩ := cl (sI (sI h 33 0 (nI n1)) 33 1 (nI n2)) L
      rw [c1, y_gs, if_pos c2, c3, y_gb, if_pos (show ib (2 : Int32) 6 = true from by decide), y_lt, show (2 : Int32).toNatClampNeg = 2 from by decide]
      have L3 : LC (sI (sI (sI h 33 0 (nI n1)) 33 1 (nI n2)) 33 2 (nI n3)) := L
      obtain ⟨c1, c2, c3⟩ := cl _ L3
      rw [y_gs, if_pos (lc_S1 L3), c1, y_gs, if_pos c2, c3, y_gb, if_pos (show ib (3 : Int32) 6 = true from by decide), y_lt, show (3 : Int32).toNatClampNeg = 3 from by decide]
      have L4 : LC (sI (sI (sI (sI h 33 0 (nI n1)) 33 1 (nI n2)) 33 2 (nI n3)) 33 3 (nI n4)) := L
      obtain ⟨c1, c2, c3⟩ := cl _ L4
      rw [c1, y_gs, if_pos c2, c3, y_gb, if_pos (show ib (4 : Int32) 6 = true from by decide), y_lt, show (4 : Int32).toNatClampNeg = 4 from by decide]
      have L5 : LC (sI (sI (sI (sI (sI h 33 0 (nI n1)) 33 1 (nI n2)) 33 2 (nI n3)) 33 3 (nI n4)) 33 4 (nI n5)) := L
      obtain ⟨c1, c2, c3⟩ := cl _ L5
      rw [c1, y_gs, if_pos c2, c3, y_gb, if_pos (show ib (5 : Int32) 6 = true from by decide), y_lt, show (5 : Int32).toNatClampNeg = 5 from by decide]
      rfl
    rw [X]
    have cl : ∀ q : AH, LM q → hR q 226 22 = 240 ∧ hS q 240 = 21 ∧ hN q 240 = 6 := fun q Lq => ⟨lm_R22 Lq, lm_S240 Lq, lm_N240 Lq⟩
    generalize sI m 226 0 (0 : Int32) = m0 at *
    obtain ⟨c1, c2, c3⟩ := cl m0 Lt
    rw [y_gs, if_pos (lm_S226 Lt), c1, y_gs, if_pos c2, c3, y_gb, if_pos (show ib (0 : Int32) 6 = true from by decide), y_lt, show (0 : Int32).toNatClampNeg = 0 from by decide]
    obtain ⟨c1, c2, c3⟩ := cl (sI m0 240 0 (nI n1)) Lt
    rw [c1, y_gs, if_pos c2, c3, y_gb, if_pos (show ib (1 : Int32) 6 = true from by decide), y_lt, show (1 : Int32).toNatClampNeg = 1 from by decide]
    obtain ⟨c1, c2, c3⟩ := cl (sI (sI m0 240 0 (nI n1)) 240 1 (nI n2)) Lt
    rw [c1, y_gs, if_pos c2, c3, y_gb, if_pos (show ib (2 : Int32) 6 = true from by decide), y_lt, show (2 : Int32).toNatClampNeg = 2 from by decide]
    obtain ⟨c1, c2, c3⟩ := cl (sI (sI (sI m0 240 0 (nI n1)) 240 1 (nI n2)) 240 2 (nI n3)) Lt
    rw [c1, y_gs, if_pos c2, c3, y_gb, if_pos (show ib (3 : Int32) 6 = true from by decide), y_lt, show (3 : Int32).toNatClampNeg = 3 from by decide]
    obtain ⟨c1, c2, c3⟩ := cl (sI (sI (sI (sI m0 240 0 (nI n1)) 240 1 (nI n2)) 240 2 (nI n3)) 240 3 (nI n4)) Lt
    rw [c1, y_gs, if_pos c2, c3, y_gb, if_pos (show ib (4 : Int32) 6 = true from by decide), y_lt, show (4 : Int32).toNatClampNeg = 4 from by decide]
    obtain ⟨c1, c2, c3⟩ := cl (sI (sI (sI (sI (sI m0 240 0 (nI n1)) 240 1 (nI n2)) 240 2 (nI n3)) 240 3 (nI n4)) 240 4 (nI n5)) Lt
    rw [c1, y_gs, if_pos c2, c3, y_gb, if_pos (show ib (5 : Int32) 6 = true from by decide), y_lt, show (5 : Int32).toNatClampNeg = 5 from by decide]
    refine ⟨_, _, s, _, 1, rfl, rfl, RZ, Bd_2 rfl, m22, ?_⟩
    show e2 e 8 2 0 8 0 = e2 e 8 2 0 8 1
    rw [q0, q1]; exact he
  · have lp : ¬ nI (n1 * n3 * n4) ≤ nI (n5 * n6) := fun q => gp ((q_le (by omega) (by omega)).mp q)
    rw [if_neg lp, if_neg lp]; exact no
