/-! What the cores, the tape and the counters are in both: e has the naturals: 0 place, 1 cause, 2 stores, 3 address / 4 and 4 bytes of the store 16 c + i, 5 retired; 8 taped (0 in the one, 1 in the other: they differ while a schedule is played), 9 the tape; 10 the next sizes. -/
abbrev Ex : Type := Nat → Nat → Nat
/-- no idling is longer than the longest -/
def il (x y : Int32) : Prop := x ≤ y ∧ 0 ≤ y
def EXc (h m : AH) (lim : Nat) (e : Ex) (b c : Nat) : Prop :=
  (∀ r, r < 32 → hI h (35 + 12 * c) r = hI m 243 (32 * c + r)) ∧
  (hI h (34 + 12 * c) 3 = nI (e 0 c) ∧ hI m 244 c = nI (e 0 c) ∧ e 0 c < 8192) ∧
  (hI h (34 + 12 * c) 4 = nI (e 1 c) ∧ hI m 245 c = nI (e 1 c) ∧ e 1 c ≤ 4) ∧
  (hI h (36 + 12 * c) 1 = nI (e 2 c) ∧ hI m 248 c = nI (e 2 c) ∧ e 2 c ≤ lim ∧ hI h (36 + 12 * c) 2 = nI lim) ∧
  (∀ i, i < e 2 c → hI h (37 + 12 * c) (3 * i) = nI (4 * e 3 (16 * c + i)) ∧ hI m 249 (16 * c + i) = nI (4 * e 3 (16 * c + i)) ∧ e 3 (16 * c + i) < 2048 ∧
    hI h (37 + 12 * c) (3 * i + 1) = nI (e 4 (16 * c + i)) ∧ hI m 250 (16 * c + i) = nI (e 4 (16 * c + i)) ∧ e 4 (16 * c + i) < 16 ∧
    hI h (37 + 12 * c) (3 * i + 2) = hI m 251 (16 * c + i) ∧ hI m 251 (16 * c + i) &&& (tBB.getD (e 4 (16 * c + i)) 0 ^^^ (-1 : Int32)) = 0) ∧
  (hI h (43 + 12 * c) 1 = nI (e 5 c) ∧ hI m 246 c = nI (e 5 c) ∧ e 5 c ≤ b) ∧
  (∀ k, k < 32 → k < e 5 c → (∀ j, j < 7 → hI h (44 + 12 * c) (8 * ((e 5 c - 1 - k) % 32) + j) = hI m 257 (7 * (32 * c + (e 5 c - 1 - k) % 32) + j)) ∧ hI h (44 + 12 * c) (8 * ((e 5 c - 1 - k) % 32) + 7) = nI (e 5 c - 1 - k)) ∧
  hI h (34 + 12 * c) 13 = hI m 255 c ∧ hI h (34 + 12 * c) 14 = hI m 256 c ∧ il (hI h (34 + 12 * c) 13) (hI h (34 + 12 * c) 14)
/-- the reference's tables -/
def tHow : List Nat := [0, 0, 0, 0, 0, 0, 0, 0, 0, 0, 1, 1, 1, 1, 1, 1, 1, 1, 1, 2, 2, 2, 2, 2, 3, 3, 3, 4, 4, 4, 4, 4, 4, 5, 5, 6, 2, 7, 7, 7, 7, 7, 7, 7, 7, 7, 8, 8, 8, 8, 9, 9, 10, 11, 8, 12, 12, 13, 14, 15, 16]
def tBas : List Int32 := [51, 1073741875, 4147, 8243, 12339, 16435, 20531, 1073762355, 24627, 28723, 19, 8211, 12307, 16403, 24595, 28691, 4115, 20499, 1073762323, 3, 4099, 8195, 16387, 20483, 35, 4131, 8227, 99, 4195, 16483, 20579, 24675, 28771, 55, 23, 111, 103, 134225967, 8239, 536879151, 1610620975, 1073750063, -2147475409, -1610604497, -1073733585, -536862673, 267386895, 115, 1048691, 19, 19, -1032173, 1073741875, 111, 32871, 99, 4195, 0, 0, 0, 0]
def cst (m : AH) : Prop := ∀ k, k < 61 → hI m 274 k = nI (tHow.getD k 0) ∧ hI m 275 k = tBas.getD k 0
theorem cst_of {m m' : AH} (h : cst m) (f : ∀ o k, o = 274 ∨ o = 275 → hI m' o k = hI m o k) : cst m' := fun k hk => by
  rw [f 274 k (by omega), f 275 k (by omega)]; exact h k hk
def szs (f : Nat → Nat) : Prop := (1 ≤ f 0 ∧ f 0 ≤ 16) ∧ (1 ≤ f 1 ∧ f 1 ≤ 16) ∧ (∃ a, a ≤ 3 ∧ f 2 = 2 ^ a) ∧ (∃ a, a ≤ 2 ∧ f 3 = 2 ^ a) ∧ (∃ a, a ≤ 6 ∧ f 4 = 2 ^ a) ∧ (1 ≤ f 5 ∧ f 5 ≤ 8) ∧ f 0 * f 2 * f 3 ≤ f 4 * f 5
def EXg (h m : AH) (n : Nat) (e : Ex) : Prop :=
  (hI m 226 62 = nI (sg (e 5) 16) ∧ ∀ c, n ≤ c → e 5 c = 0) ∧
  (hI h 1 9 = hI m 226 66 ∧ hI h 1 10 = hI m 226 67) ∧
  (hI h 1 7 = hI m 226 3 ∧ hI h 1 8 = hI m 226 4) ∧
  (hI h 2 1 = nI (e 8 0) ∧ hI m 226 2 = nI (e 8 1) ∧ e 8 1 ≤ 1500) ∧
  (∀ i, i < e 8 1 → hI h 3 i = nI (e 9 i) ∧ hI m 227 i = nI (e 9 i) ∧ 32 ≤ e 9 i ∧ e 9 i ≤ 126) ∧
  (∀ i, i < 6 → hI h 33 i = nI (e 10 i) ∧ hI m 240 i = nI (e 10 i)) ∧ szs (e 10) ∧ hI m 226 0 = nI (e 8 2) ∧ cst m
def EX (h m : AH) (s : St) (e : Ex) (b : Nat) : Prop := (∀ c, c < 16 → EXc h m (N s 0 1) e b c) ∧ EXg h m (N s 0 0) e
theorem crr_c {o k c : Nat} (hc : c < 16) (ho : o = 35 + 12 * c ∨ o = 36 + 12 * c ∨ o = 37 + 12 * c ∨ o = 43 + 12 * c ∨ o = 44 + 12 * c ∨ (o = 34 + 12 * c ∧ (k = 3 ∨ k = 4 ∨ k = 13 ∨ k = 14 ∨ k = 16))) : crr o k = true := by
  unfold crr
  have h1 : o ≤ 225 := by omega
  have h2 : ¬ o ≤ 30 := by omega
  have h3 : 34 ≤ o := by omega
  simp only [h1, h2, h3, decide_true, decide_false, Bool.and_false, Bool.not_false, Bool.true_and, Bool.and_true]
  rcases ho with g | g | g | g | g | ⟨g, g2⟩
  · have : (o - 34) % 12 = 1 := by omega
    simp [this]
  · have : (o - 34) % 12 = 2 := by omega
    simp [this]
  · have : (o - 34) % 12 = 3 := by omega
    simp [this]
  · have : (o - 34) % 12 = 9 := by omega
    simp [this]
  · have : (o - 34) % 12 = 10 := by omega
    simp [this]
  · have : (o - 34) % 12 = 0 := by omega
    rcases g2 with g2 | g2 | g2 | g2 | g2 <;> simp [this, g2]
theorem crr_lo {o k : Nat} (h : o < 16 ∨ o = 31 ∨ o = 32 ∨ o = 33) : crr o k = true := by
  unfold crr
  have h1 : o ≤ 225 := by omega
  have h2 : ¬ (16 ≤ o ∧ o ≤ 30) := by omega
  have h3 : ¬ 34 ≤ o := by omega
  have h4 : (decide (16 ≤ o) && decide (o ≤ 30)) = false := by
    rw [← Bool.decide_and]; exact decide_eq_false h2
  simp [h1, h3, h4]
/-- only what the memory system has may have changed -/
theorem EXc_of {h h' m m' : AH} {lim : Nat} {e : Ex} {b b' c : Nat} (X : EXc h m lim e b c) (hc : c < 16)
    (f : ∀ o k, o = 35 + 12 * c ∨ o = 36 + 12 * c ∨ o = 37 + 12 * c ∨ o = 43 + 12 * c ∨ o = 44 + 12 * c ∨ (o = 34 + 12 * c ∧ (k = 3 ∨ k = 4 ∨ k = 13 ∨ k = 14)) → hI h' o k = hI h o k)
    (g : ∀ k, hI m' 243 (32 * c + k) = hI m 243 (32 * c + k) ∨ 32 ≤ k) (g1 : ∀ o, o = 244 ∨ o = 245 ∨ o = 248 ∨ o = 246 ∨ o = 255 ∨ o = 256 → hI m' o c = hI m o c) (g2 : ∀ o k, o = 249 ∨ o = 250 ∨ o = 251 → k < 16 → hI m' o (16 * c + k) = hI m o (16 * c + k)) (g3 : ∀ k, k < 32 → ∀ j, j < 7 → hI m' 257 (7 * (32 * c + k) + j) = hI m 257 (7 * (32 * c + k) + j)) (hb : b ≤ b') (hl : lim ≤ 16) : EXc h' m' lim e b' c := by
  obtain ⟨x1, ⟨x2, x3, x4⟩, ⟨x5, x6, x7⟩, ⟨x8, x9, x10, x11⟩, x12, ⟨x13, x14, x15⟩, x16, x17, x18⟩ := X
  refine ⟨fun r hr => ?_, ⟨?_, ?_, x4⟩, ⟨?_, ?_, x7⟩, ⟨?_, ?_, x10, ?_⟩, fun i hi => ?_, ⟨?_, ?_, by omega⟩, fun k hk hk2 => ?_, ?_, ?_⟩
  · rw [f _ _ (Or.inl rfl), x1 r hr]
    rcases g r with w | w
    · exact w.symm
    · omega
  · rw [f _ _ (by omega)]; exact x2
  · rw [g1 _ (by omega)]; exact x3
  · rw [f _ _ (by omega)]; exact x5
  · rw [g1 _ (by omega)]; exact x6
  · rw [f _ _ (by omega)]; exact x8
  · rw [g1 _ (by omega)]; exact x9
  · rw [f _ _ (by omega)]; exact x11
  · have := x12 i hi
    rw [f _ _ (by omega), f _ _ (by omega), f _ _ (by omega), g2 _ _ (by omega) (by omega), g2 _ _ (by omega) (by omega), g2 _ _ (by omega) (by omega)]
    exact this
  · rw [f _ _ (by omega)]; exact x13
  · rw [g1 _ (by omega)]; exact x14
  · have := x16 k hk hk2
    rw [f _ _ (by omega)]
    refine ⟨fun j hj => ?_, this.2⟩
    rw [f _ _ (by omega), g3 _ (Nat.mod_lt _ (by omega)) j hj]; exact this.1 j hj
  · rw [f _ _ (by omega), g1 _ (by omega)]; exact x17
  · rw [f _ 14 (by omega), f _ 13 (by omega), g1 _ (by omega)]; exact x18
theorem EXg_of {h h' m m' : AH} {n : Nat} {e : Ex} (X : EXg h m n e) (f : ∀ o k, o = 3 ∨ o = 33 ∨ (o = 1 ∧ (k = 7 ∨ k = 8 ∨ k = 9 ∨ k = 10)) ∨ (o = 2 ∧ k = 1) → hI h' o k = hI h o k) (g : ∀ o k, o = 227 ∨ o = 240 ∨ o = 274 ∨ o = 275 ∨ (o = 226 ∧ (k = 62 ∨ k = 66 ∨ k = 67 ∨ k = 2 ∨ k = 3 ∨ k = 4 ∨ k = 0)) → hI m' o k = hI m o k) : EXg h' m' n e := by
  obtain ⟨⟨y1, y2⟩, ⟨y3, y4⟩, ⟨y5, y6⟩, ⟨y7, y8, y9⟩, y10, y11, y12, y13, y14⟩ := X
  refine ⟨⟨?_, y2⟩, ⟨?_, ?_⟩, ⟨?_, ?_⟩, ⟨?_, ?_, y9⟩, fun i hi => ?_, fun i hi => ?_, y12, by rw [g _ _ (by omega)]; exact y13, cst_of y14 (fun o k q => g o k (by omega))⟩
  · rw [g _ _ (by omega)]; exact y1
  · rw [f _ _ (by omega), g _ _ (by omega)]; exact y3
  · rw [f _ _ (by omega), g _ _ (by omega)]; exact y4
  · rw [f _ _ (by omega), g _ _ (by omega)]; exact y5
  · rw [f _ _ (by omega), g _ _ (by omega)]; exact y6
  · rw [f _ _ (by omega)]; exact y7
  · rw [g _ _ (by omega)]; exact y8
  · rw [f _ _ (by omega), g _ _ (by omega)]; exact y10 i hi
  · rw [f _ _ (by omega), g _ _ (by omega)]; exact y11 i hi
theorem irr_x {o k : Nat} (h : o = 274 ∨ o = 275 ∨ o = 243 ∨ o = 244 ∨ o = 245 ∨ o = 248 ∨ o = 246 ∨ o = 255 ∨ o = 256 ∨ o = 249 ∨ o = 250 ∨ o = 251 ∨ o = 257 ∨ o = 227 ∨ o = 240 ∨ (o = 226 ∧ (k = 62 ∨ k = 66 ∨ k = 67 ∨ k = 2 ∨ k = 3 ∨ k = 4 ∨ k = 0 ∨ k = 77 ∨ k = 78 ∨ (40 ≤ k ∧ k ≤ 43)))) : irr o k = true ∧ o ≠ 272 ∧ o ≠ 276 := by
  rcases h with rfl | rfl | rfl | rfl | rfl | rfl | rfl | rfl | rfl | rfl | rfl | rfl | rfl | rfl | rfl | ⟨rfl, h⟩
  all_goals try exact ⟨rfl, by omega, by omega⟩
  refine ⟨?_, by omega, by omega⟩
  have hk : k ≠ 47 ∧ k ≠ 79 ∧ k ≠ 63 ∧ k ≠ 64 ∧ k ≠ 65 ∧ k ≠ 59 ∧ k ≠ 57 := by omega
  obtain ⟨a1, a2, a3, a4, a5, a6, a7⟩ := hk
  unfold irr
  simp [a1, a2, a3, a4, a5, a6, a7]
theorem EX_fr {h h' m m' : AH} {s s' : St} {e : Ex} {b b' : Nat} (X : EX h m s e b) (F : FrC h h') (G : Fr m m') (e0 : ∀ i, N s' 0 i = N s 0 i) (hb : b ≤ b') (hl : N s 0 1 ≤ 16) : EX h' m' s' e b' := by
  unfold EX
  rw [e0, e0]
  have gi : ∀ o k, irr o k = true ∧ o ≠ 272 ∧ o ≠ 276 → hI m' o k = hI m o k := fun o k hh => G.2 o k hh.1 hh.2.1 hh.2.2
  refine ⟨fun c hc => EXc_of (X.1 c hc) hc (fun o k ho => F.1 o k (crr_c hc (by omega))) (fun k => Or.inl (gi _ _ (irr_x (by omega)))) (fun o ho => gi _ _ (irr_x (by omega))) (fun o k ho _ => gi _ _ (irr_x (by omega))) (fun k _ j _ => gi _ _ (irr_x (by omega))) hb hl, EXg_of X.2 (fun o k ho => ?_) (fun o k ho => gi _ _ (irr_x (by omega)))⟩
  exact F.1 o k (crr_lo (by omega))
/-- the counters of changes -/
def CN (s : St) : Prop := N s 19 0 = sg (N s 25) 16 ∧ ∀ c, N s 0 0 ≤ c → N s 25 c = 0
theorem CN_of {s t : St} (C : CN s) (e0 : N t 0 0 = N s 0 0) (e1 : N t 19 0 = N s 19 0) (e2 : ∀ c, N t 25 c = N s 25 c) : CN t := by
  refine ⟨?_, fun c hc => ?_⟩
  · rw [e1, C.1]; exact sg_congr 16 (fun j _ => (e2 j).symm)
  · rw [e2]; exact C.2 c (by omega)
def Rel (h m : AH) (s : St) (e : Ex) (b : Nat) : Prop := (RC h s ∧ DZ h s) ∧ RM m s ∧ IV s b ∧ CN s ∧ EX h m s e b
