/-- messages sent one behind the other -/
theorem mm_list {s t : St} {Ls : List Msg} (n : nk (Z s)) (hP : Pl t = Pl s ++ Ls) (hQ : Ql t = Ql s) (nL : nk Ls) (h : ∀ y, y ∈ Ls → mm s (key y) = none) :
    nk (Z t) ∧ (∀ κ, mm t κ = match ak κ Ls with | some y => some y | none => mm s κ) ∧ (∀ y, y ∈ Z t ↔ y ∈ Z s ∨ y ∈ Ls) := by
  obtain ⟨n1, n2, n3⟩ := nk_app.mp n
  have mem : ∀ y, y ∈ Z t ↔ y ∈ Z s ∨ y ∈ Ls := by
    intro y; unfold Z; rw [hP, hQ]
    simp only [List.mem_append]
    constructor
    · rintro ((g | g) | g)
      · exact Or.inl (Or.inl g)
      · exact Or.inr g
      · exact Or.inl (Or.inr g)
    · rintro ((g | g) | g)
      · exact Or.inl (Or.inl g)
      · exact Or.inr g
      · exact Or.inl (Or.inr g)
  have nt : nk (Z t) := by
    unfold Z; rw [hP, hQ]
    refine nk_app.mpr ⟨nk_app.mpr ⟨n1, nL, fun y hy => ?_⟩, n2, fun y hy => ?_⟩
    · rw [ak_none]
      intro z hz e
      exact mm_none.mp (h z hz) y (List.mem_append_left _ hy) e.symm
    · rcases List.mem_append.mp hy with g | g
      · exact n3 y g
      · rw [ak_none]
        intro z hz e
        exact mm_none.mp (h y g) z (List.mem_append_right _ hz) e
  refine ⟨nt, fun κ => ?_, mem⟩
  cases e : ak κ Ls with
  | some y =>
    obtain ⟨g1, g2⟩ := ak_some e
    have := mm_mem nt ((mem y).mpr (Or.inr g1))
    rw [g2] at this; exact this
  | none =>
    refine ak_ext nt n (fun y hy => ?_)
    rw [mem]
    constructor
    · rintro (g | g)
      · exact g
      · exact absurd hy (ak_none.mp e y g)
    · exact Or.inl
/-- the INV that are sent -/
def cld (s : St) (k sp d : Nat) : Prop := d + 1 ≠ sp ∧ (N s 6 k = d + 1 ∨ (N s 7 k).testBit d = true)
def cL (s : St) (k l sp o : Nat) : Nat → List Msg
  | 0 => []
  | n + 1 => if o + 1 ≠ sp ∧ (N s 6 k = o + 1 ∨ (N s 7 k).testBit o = true) then (3, 16, o, l, 0, w0) :: cL s k l sp (o + 1) n else cL s k l sp (o + 1) n
theorem cL_congr {s t : St} {k l sp : Nat} (h6 : N t 6 k = N s 6 k) (h7 : N t 7 k = N s 7 k) (n : Nat) : ∀ o, cL t k l sp o n = cL s k l sp o n := by
  induction n with
  | zero => intro o; rfl
  | succ n ih => intro o; unfold cL; rw [h6, h7, ih]
theorem sCall_L (k l sp n : Nat) : ∀ (s : St) (o : Nat), Pl (sCall s k l sp o n) = Pl s ++ cL s k l sp o n ∧ N (sCall s k l sp o n) 10 k = N s 10 k + (cL s k l sp o n).length := by
  induction n with
  | zero => intro s o; exact ⟨(List.append_nil _).symm, rfl⟩
  | succ n ih =>
    intro s o
    by_cases c : o + 1 ≠ sp ∧ (N s 6 k = o + 1 ∨ (N s 7 k).testBit o = true)
    · rw [sCall_1 c.1 c.2]
      obtain ⟨h1, h2⟩ := ih (uN (sSend s 3 16 o l) 10 k (N s 10 k + 1)) (o + 1)
      have ec : cL (uN (sSend s 3 16 o l) 10 k (N s 10 k + 1)) k l sp (o + 1) n = cL s k l sp (o + 1) n := cL_congr (s := s) (t := uN (sSend s 3 16 o l) 10 k (N s 10 k + 1)) rfl rfl n (o + 1)
      rw [ec] at h1 h2
      have e2 : cL s k l sp o (n + 1) = (3, 16, o, l, 0, w0) :: cL s k l sp (o + 1) n := by rw [cL, if_pos c]
      rw [h1, h2, e2, N_eq]
      refine ⟨?_, ?_⟩
      · show (Pl s ++ [_]) ++ _ = _
        rw [List.append_assoc]; rfl
      · rw [List.length_cons]; omega
    · have e2 : cL s k l sp o (n + 1) = cL s k l sp (o + 1) n := by rw [cL, if_neg c]
      have e1 : sCall s k l sp o (n + 1) = sCall s k l sp (o + 1) n := by rw [sCall, if_neg c]
      rw [e1, e2]; exact ih s (o + 1)
theorem cL_mem {s : St} {k l sp : Nat} (n : Nat) : ∀ (o : Nat) (y : Msg), y ∈ cL s k l sp o n ↔ ∃ d, o ≤ d ∧ d < o + n ∧ cld s k sp d ∧ y = (3, 16, d, l, 0, w0) := by
  induction n with
  | zero =>
    intro o y
    constructor
    · intro h; cases h
    · rintro ⟨d, h1, h2, _⟩; omega
  | succ n ih =>
    intro o y
    unfold cL
    split
    · next c =>
      rw [List.mem_cons, ih]
      constructor
      · rintro (rfl | ⟨d, h1, h2, h3, h4⟩)
        · exact ⟨o, Nat.le_refl _, by omega, c, rfl⟩
        · exact ⟨d, by omega, by omega, h3, h4⟩
      · rintro ⟨d, h1, h2, h3, h4⟩
        by_cases e : d = o
        · subst e; exact Or.inl h4
        · exact Or.inr ⟨d, by omega, by omega, h3, h4⟩
    · next c =>
      rw [ih]
      constructor
      · rintro ⟨d, h1, h2, h3, h4⟩; exact ⟨d, by omega, by omega, h3, h4⟩
      · rintro ⟨d, h1, h2, h3, h4⟩
        by_cases e : d = o
        · subst e; exact absurd h3 c
        · exact ⟨d, by omega, by omega, h3, h4⟩
theorem key_INV (d l : Nat) : key (3, 16, d, l, 0, w0) = 32 + 16 * l + d := rfl
theorem cL_nk {s : St} {k l sp : Nat} (n : Nat) : ∀ (o : Nat), nk (cL s k l sp o n) := by
  induction n with
  | zero => intro o; exact trivial
  | succ n ih =>
    intro o
    unfold cL
    split
    · refine ⟨?_, ih _⟩
      rw [ak_none]
      intro y hy
      obtain ⟨d, h1, h2, h3, rfl⟩ := (cL_mem n (o + 1) y).mp hy
      rw [key_INV, key_INV]; omega
    · exact ih _
theorem cL_len {s : St} {k l sp : Nat} {T : Nat → Nat} (n : Nat) : ∀ (o : Nat), (∀ d, o ≤ d → d < o + n → (T d ≠ 0 ↔ cld s k sp d)) → (cL s k l sp o n).length + cn T o = cn T (o + n) := by
  induction n with
  | zero => intro o h; simp [cL]
  | succ n ih =>
    intro o h
    have i1 := ih (o + 1) (fun d h1 h2 => h d (by omega) (by omega))
    rw [show o + 1 + n = o + (n + 1) by omega] at i1
    have c1 : cn T (o + 1) = cn T o + (if T o = 0 then 0 else 1) := rfl
    have ho := h o (Nat.le_refl _) (by omega)
    unfold cL
    split
    · next c =>
      have : T o ≠ 0 := ho.mpr c
      rw [if_neg this] at c1
      rw [List.length_cons]; omega
    · next c =>
      have : T o = 0 := Classical.byContradiction (fun g => c (ho.mp g))
      rw [if_pos this] at c1
      omega
/-- tokens after the INV of a line -/
theorem tk_cL {s t : St} {k l sp : Nat} (n : nk (Z s)) (hP : Pl t = Pl s ++ cL s k l sp 0 16) (hQ : Ql t = Ql s) (h0 : ∀ d, d < 16 → mm s (32 + 16 * l + d) = none) (h6 : N s 6 k ≤ 16) (h7 : N s 7 k < 65536) :
    nk (Z t) ∧ (∀ y, y ∈ Z t ↔ y ∈ Z s ∨ y ∈ cL s k l sp 0 16) ∧ (∀ κ, (∀ d, d < 16 → κ ≠ 32 + 16 * l + d) → mm t κ = mm s κ) ∧ (∀ l' d, l' ≠ l → tk t l' d = tk s l' d) ∧ (∀ d, cld s k sp d → tk t l d = 3) ∧ (∀ d, ¬ cld s k sp d → tk t l d = 0) ∧ (cL s k l sp 0 16).length = cn (tk t l) 16 := by
  obtain ⟨a1, a2, a3⟩ := mm_list n hP hQ (cL_nk 16 0) (fun y hy => by
    obtain ⟨d, h1, h2, h3, rfl⟩ := (cL_mem 16 0 y).mp hy
    rw [key_INV]; exact h0 d (by omega))
  have cl16 : ∀ d, cld s k sp d → d < 16 := by
    rintro d ⟨_, g | g⟩
    · omega
    · exact Classical.byContradiction (fun e => by
        have : (N s 7 k).testBit d = false := Nat.testBit_lt_two_pow (Nat.lt_of_lt_of_le h7 (Nat.pow_le_pow_right (n := 2) (i := 16) (by omega) (by omega)))
        rw [this] at g; cases g)
  have other : ∀ κ, (∀ d, d < 16 → κ ≠ 32 + 16 * l + d) → mm t κ = mm s κ := by
    intro κ hκ
    rw [a2]
    have : ak κ (cL s k l sp 0 16) = none := by
      rw [ak_none]
      intro y hy e
      obtain ⟨d, h1, h2, h3, rfl⟩ := (cL_mem 16 0 y).mp hy
      rw [key_INV] at e
      exact hκ d (by omega) e.symm
    rw [this]
  have called : ∀ d, cld s k sp d → tk t l d = 3 := by
    intro d hd
    have d16 := cl16 d hd
    have m := (cL_mem (s := s) (k := k) (l := l) (sp := sp) 16 0 (3, 16, d, l, 0, w0)).mpr ⟨d, by omega, by omega, hd, rfl⟩
    have : ak (32 + 16 * l + d) (cL s k l sp 0 16) = some (3, 16, d, l, 0, w0) := ak_mem (cL_nk 16 0) m
    unfold tk
    rw [if_pos d16, a2, this]; rfl
  have not : ∀ d, ¬ cld s k sp d → tk t l d = 0 := by
    intro d hd
    unfold tk
    by_cases g : d < 16
    · rw [if_pos g, a2]
      have : ak (32 + 16 * l + d) (cL s k l sp 0 16) = none := by
        rw [ak_none]
        intro y hy e
        obtain ⟨d', h1, h2, h3, rfl⟩ := (cL_mem 16 0 y).mp hy
        rw [key_INV] at e
        have : d' = d := by omega
        subst this; exact hd h3
      rw [this, h0 d g]
    · rw [if_neg g]
  refine ⟨a1, a3, other, fun l' d hl => ?_, called, not, ?_⟩
  · by_cases g : d < 16
    · exact tk_mm (other _ (fun d' hd' => by omega))
    · unfold tk; rw [if_neg g, if_neg g]
  · have := cL_len (s := s) (k := k) (l := l) (sp := sp) (T := tk t l) 16 0 (fun d _ _ => by
      by_cases c : cld s k sp d
      · rw [called d c]; exact ⟨fun _ => c, fun _ => by omega⟩
      · rw [not d c]; exact ⟨fun g => absurd rfl g, fun g => absurd g c⟩)
    rw [show 0 + 16 = 16 from rfl] at this
    have z : cn (tk t l) 0 = 0 := rfl
    omega
