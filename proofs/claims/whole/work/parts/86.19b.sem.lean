/-! One line: tokens T, states S, requests R, shelves F, gone G, PUT or BACK U, sharers Bt, way X, owner O, about A, due D, kind K. -/
def cn (T : Nat → Nat) : Nat → Nat
  | 0 => 0
  | n + 1 => cn T n + (if T n = 0 then 0 else 1)
theorem cn_congr {T T' : Nat → Nat} {n : Nat} (h : ∀ c, c < n → (T' c = 0 ↔ T c = 0)) : cn T' n = cn T n := by
  induction n with
  | zero => rfl
  | succ n ih =>
    unfold cn
    rw [ih (fun c hc => h c (by omega))]
    have := h n (by omega)
    by_cases c : T n = 0
    · rw [if_pos c, if_pos (this.mpr c)]
    · rw [if_neg c, if_neg (fun e => c (this.mp e))]
theorem cn_zero {T : Nat → Nat} {n : Nat} : cn T n = 0 ↔ ∀ c, c < n → T c = 0 := by
  induction n with
  | zero => exact ⟨fun _ c h => by omega, fun _ => rfl⟩
  | succ n ih =>
    unfold cn
    constructor
    · intro h c hc
      by_cases e : T n = 0
      · by_cases e2 : c = n
        · rw [e2]; exact e
        · exact ih.mp (by omega) c (by omega)
      · rw [if_neg e] at h; omega
    · intro h
      rw [if_pos (h n (by omega)), ih.mpr (fun c hc => h c (by omega))]
theorem cn_del {T T' : Nat → Nat} {n c : Nat} (hc : c < n) (h1 : T c ≠ 0) (h2 : T' c = 0) (h3 : ∀ d, d ≠ c → T' d = T d) : cn T n = cn T' n + 1 := by
  induction n with
  | zero => omega
  | succ n ih =>
    unfold cn
    by_cases e : c = n
    · subst e
      rw [if_neg h1, if_pos h2, cn_congr (T := T) (T' := T') (fun d hd => by rw [h3 d (by omega)])]
    · rw [ih (by omega), h3 n (fun g => e g.symm)]; omega
theorem cn_one {T : Nat → Nat} {n c : Nat} (hc : c < n) (h1 : T c ≠ 0) (h2 : cn T n = 1) : ∀ d, d < n → d ≠ c → T d = 0 := by
  have := cn_del (T' := fun d => if d = c then 0 else T d) hc h1 (if_pos rfl) (fun d hd => if_neg hd)
  have z := cn_zero.mp (show cn (fun d => if d = c then 0 else T d) n = 0 by omega)
  intro d hd hdc
  have := z d hd
  rw [if_neg hdc] at this; exact this
def LI (T S R F G U : Nat → Nat) (Bt : Nat → Bool) (X O A D K l : Nat) : Prop :=
  (X ≤ 1 ∧ (X = 0 → ∀ c, T c = 0 ∧ S c = 0)) ∧
  (∀ c, F c = l + 1 → G c = 0 → U c ≠ 2 → X = 1 ∧ O = c + 1) ∧
  (X = 1 → O ≠ 0 → ∀ c, Bt c = false) ∧
  (∀ c, 2 ≤ S c → O = c + 1) ∧
  (∀ c, S c = 1 → Bt c = true ∨ O = c + 1) ∧
  (X = 1 → ∀ c, O = c + 1 → 2 ≤ S c ∨ (F c = l + 1 ∧ G c = 0 ∧ U c ≠ 2) ∨ T c = 7 ∨ T c = 8 ∨ T c = 11) ∧
  (∀ c, T c = 11 → O = c + 1 ∧ S c ≤ 1 ∧ ¬ (F c = l + 1 ∧ G c = 0)) ∧
  (X = 1 → A = 0 → D = 0 ∧ ∀ c, T c = 0) ∧
  (X = 1 → ∀ a, A = a + 1 → a < 16 → D = 0 → (T a = 6 ∨ T a = 7 ∨ T a = 8 ∨ T a = 10) ∧ (∀ c, c ≠ a → T c = 0) ∧ (T a = 6 → O = 0 ∧ Bt a = true) ∧ (T a = 7 ∨ T a = 8 → O = a + 1)) ∧
  (X = 1 → ∀ a, A = a + 1 → a < 16 → D ≠ 0 → K = 0 → D = 1 ∧ ∃ b, O = b + 1 ∧ b ≠ a ∧ (T b = 4 ∨ T b = 11) ∧ ∀ c, c ≠ b → T c = 0) ∧
  (X = 1 → ∀ a, A = a + 1 → D ≠ 0 → (K = 1 ∨ a = 16) → D = cn T 16 ∧ (∀ c, T c = 0 ∨ T c = 3 ∨ T c = 5 ∨ T c = 11) ∧ (a < 16 → T a = 0) ∧ (∀ c, 1 ≤ S c → c ≠ a → T c = 3) ∧ (∀ c, O = c + 1 → c ≠ a ∧ (T c = 3 ∨ T c = 11))) ∧
  (X = 1 → A ≤ 17 ∧ (A = 17 → D ≠ 0) ∧ K ≤ 1) ∧
  (X = 1 → ∀ c, A = c + 1 → c < 16 → T c ≠ 10 → R c = l + 1) ∧
  (∀ c, R c = l + 1 → S c ≤ 1 ∧ F c ≠ l + 1) ∧
  (∀ c, F c = l + 1 → S c = 0) ∧
  (∀ c, F c = l + 1 → G c = 0 → U c = 2 → O ≠ c + 1 ∧ Bt c = false) ∧
  (∀ c, T c ≠ 0 → c < 16) ∧
  (∀ c, T c = 3 → Bt c = true ∨ O = c + 1) ∧
  (∀ c, T c = 5 → Bt c = true)
theorem ph_x {T S R F G U : Nat → Nat} {Bt : Nat → Bool} {X O A D K l c : Nat} (h : LI T S R F G U Bt X O A D K l) (ht : T c ≠ 0) : X = 1 ∧ c < 16 ∧ ∃ a, A = a + 1 ∧ a ≤ 16 := by
  obtain ⟨p0, p1, p2, p3, p3b, p4, p5, p6, p7, p8, p9, p10, p11, p12, p13, p14, p15, p16, p17⟩ := h
  have hx : X = 1 := by
    have := p0.2
    by_cases e : X = 0
    · have := (this e c).1; omega
    · have := p0.1; omega
  have q10 := (p10 hx).1
  refine ⟨hx, p15 c ht, A - 1, ?_, by omega⟩
  by_cases e : A = 0
  · exact absurd ((p6 hx e).2 c) ht
  · omega
theorem ph_g {T S R F G U : Nat → Nat} {Bt : Nat → Bool} {X O A D K l c : Nat} (h : LI T S R F G U Bt X O A D K l) (ht : T c = 6 ∨ T c = 7 ∨ T c = 8 ∨ T c = 10) : X = 1 ∧ c < 16 ∧ A = c + 1 ∧ D = 0 ∧ (∀ d, d ≠ c → T d = 0) ∧ (T c = 6 → O = 0 ∧ Bt c = true) ∧ (T c = 7 ∨ T c = 8 → O = c + 1) := by
  obtain ⟨hx, hc, a, ha, ha2⟩ := ph_x h (c := c) (by omega)
  obtain ⟨p0, p1, p2, p3, p3b, p4, p5, p6, p7, p8, p9, p10, p11, p12, p13, p14, p15, p16, p17⟩ := h
  have q10 := p10 hx
  by_cases e : D = 0
  · have a16 : a < 16 := by
      by_cases g : a = 16
      · exact absurd e (q10.2.1 (by omega))
      · omega
    obtain ⟨r1, r2, r3, r4⟩ := p7 hx a ha a16 e
    have : c = a := by
      by_cases g : c = a
      · exact g
      · have := r2 c g; omega
    subst this
    exact ⟨hx, hc, ha, e, r2, r3, r4⟩
  · by_cases k : K = 1 ∨ a = 16
    · have := (p9 hx a ha e k).2.1 c; omega
    · obtain ⟨r1, b, r2, r3, r4, r5⟩ := p8 hx a ha (by omega) e (by omega)
      by_cases g : c = b
      · subst g; omega
      · have := r5 c g; omega
theorem ph_4 {T S R F G U : Nat → Nat} {Bt : Nat → Bool} {X O A D K l c : Nat} (h : LI T S R F G U Bt X O A D K l) (ht : T c = 4) : X = 1 ∧ c < 16 ∧ D = 1 ∧ K = 0 ∧ O = c + 1 ∧ (∃ a, A = a + 1 ∧ a < 16 ∧ a ≠ c) ∧ (∀ d, d ≠ c → T d = 0) := by
  obtain ⟨hx, hc, a, ha, ha2⟩ := ph_x h (c := c) (by omega)
  obtain ⟨p0, p1, p2, p3, p3b, p4, p5, p6, p7, p8, p9, p10, p11, p12, p13, p14, p15, p16, p17⟩ := h
  have q10 := p10 hx
  by_cases e : D = 0
  · have a16 : a < 16 := by
      by_cases g : a = 16
      · exact absurd e (q10.2.1 (by omega))
      · omega
    obtain ⟨r1, r2, r3, r4⟩ := p7 hx a ha a16 e
    by_cases g : c = a
    · subst g; omega
    · have := r2 c g; omega
  · by_cases k : K = 1 ∨ a = 16
    · have := (p9 hx a ha e k).2.1 c; omega
    · obtain ⟨r1, b, r2, r3, r4, r5⟩ := p8 hx a ha (by omega) e (by omega)
      have : c = b := by
        by_cases g : c = b
        · exact g
        · have := r5 c g; omega
      subst this
      exact ⟨hx, hc, r1, by omega, r2, ⟨a, ha, by omega, fun g => r3 g.symm⟩, r5⟩
theorem ph_3 {T S R F G U : Nat → Nat} {Bt : Nat → Bool} {X O A D K l c : Nat} (h : LI T S R F G U Bt X O A D K l) (ht : T c = 3 ∨ T c = 5) : X = 1 ∧ c < 16 ∧ D ≠ 0 ∧ ∃ a, A = a + 1 ∧ a ≤ 16 ∧ a ≠ c ∧ (K = 1 ∨ a = 16) := by
  obtain ⟨hx, hc, a, ha, ha2⟩ := ph_x h (c := c) (by omega)
  obtain ⟨p0, p1, p2, p3, p3b, p4, p5, p6, p7, p8, p9, p10, p11, p12, p13, p14, p15, p16, p17⟩ := h
  have q10 := p10 hx
  by_cases e : D = 0
  · have a16 : a < 16 := by
      by_cases g : a = 16
      · exact absurd e (q10.2.1 (by omega))
      · omega
    obtain ⟨r1, r2, r3, r4⟩ := p7 hx a ha a16 e
    by_cases g : c = a
    · subst g; omega
    · have := r2 c g; omega
  · by_cases k : K = 1 ∨ a = 16
    · refine ⟨hx, hc, e, a, ha, ha2, ?_, k⟩
      intro g
      have := (p9 hx a ha e k).2.2.1
      subst g
      have := this hc; omega
    · obtain ⟨r1, b, r2, r3, r4, r5⟩ := p8 hx a ha (by omega) e (by omega)
      by_cases g : c = b
      · subst g; omega
      · have := r5 c g; omega
theorem ph_11 {T S R F G U : Nat → Nat} {Bt : Nat → Bool} {X O A D K l c : Nat} (h : LI T S R F G U Bt X O A D K l) (ht : T c = 11) : X = 1 ∧ c < 16 ∧ D = 1 ∧ O = c + 1 ∧ (∀ d, d ≠ c → T d = 0) ∧ ∃ a, A = a + 1 ∧ a ≤ 16 ∧ a ≠ c := by
  obtain ⟨hx, hc, a, ha, ha2⟩ := ph_x h (c := c) (by omega)
  obtain ⟨p0, p1, p2, p3, p3b, p4, p5, p6, p7, p8, p9, p10, p11, p12, p13, p14, p15, p16, p17⟩ := h
  have q10 := p10 hx
  have o := (p5 c ht).1
  by_cases e : D = 0
  · have a16 : a < 16 := by
      by_cases g : a = 16
      · exact absurd e (q10.2.1 (by omega))
      · omega
    obtain ⟨r1, r2, r3, r4⟩ := p7 hx a ha a16 e
    by_cases g : c = a
    · subst g; omega
    · have := r2 c g; omega
  · by_cases k : K = 1 ∨ a = 16
    · obtain ⟨r1, r2, r3, r4, r5⟩ := p9 hx a ha e k
      have z : ∀ d, d ≠ c → T d = 0 := by
        intro d hd
        have b0 := p2 hx (by omega) d
        rcases r2 d with g | g | g | g
        · exact g
        · rcases p16 d g with g2 | g2
          · rw [b0] at g2; cases g2
          · omega
        · have := p17 d g; rw [b0] at this; cases this
        · have := (p5 d g).1; omega
      refine ⟨hx, hc, ?_, o, z, a, ha, ha2, fun g => (r5 c o).1 g.symm⟩
      have := cn_del (T := T) (T' := fun d => if d = c then 0 else T d) hc (by omega) (if_pos rfl) (fun d hd => if_neg hd)
      have z0 : cn (fun d => if d = c then 0 else T d) 16 = 0 := cn_zero.mpr (fun d hd => by
        by_cases g : d = c
        · exact if_pos g
        · show (if d = c then 0 else T d) = 0
          rw [if_neg g]; exact z d g)
      omega
    · obtain ⟨r1, b, r2, r3, r4, r5⟩ := p8 hx a ha (by omega) e (by omega)
      have : c = b := by omega
      subst this
      exact ⟨hx, hc, r1, o, r5, a, ha, ha2, fun g => r3 g.symm⟩
theorem LI_inv {T S R F G U T' S' G' : Nat → Nat} {Bt : Nat → Bool} {X O A D K l c : Nat} (h : LI T S R F G U Bt X O A D K l) (ht : T c = 3) (eT : ∀ d, T' d = if d = c then (if 2 ≤ S c ∨ (F c = l + 1 ∧ G c = 0) then 11 else 5) else T d) (eS : ∀ d, S' d = if d = c then 0 else S d) (eG : ∀ d, G' d = if d = c ∧ F c = l + 1 then 1 else G d) : LI T' S' R F G' U Bt X O A D K l := by
  obtain ⟨hx, hc, hd, a, ha, ha2, hac, hk⟩ := ph_3 h (Or.inl ht)
  obtain ⟨p0, p1, p2, p3, p3b, p4, p5, p6, p7, p8, p9, p10, p11, p12, p13, p14, p15, p16, p17⟩ := h
  have cne : cn T' 16 = cn T 16 := by
    apply cn_congr
    intro d hd
    by_cases e : d = c
    · rw [eT, if_pos e, e, ht]; constructor
      · intro g; split at g <;> omega
      · intro g; omega
    · rw [eT, if_neg e]
  have q9 := p9 hx a ha hd hk
  have hO : (2 ≤ S c ∨ (F c = l + 1 ∧ G c = 0)) → O = c + 1 := by
    rintro (g | g)
    · exact p3 c g
    · by_cases u : U c = 2
      · have := p14 c g.1 g.2 u
        rcases p16 c ht with w | w
        · rw [this.2] at w; cases w
        · exact w
      · exact (p1 c g.1 g.2 u).2
  have hN : ¬ (2 ≤ S c ∨ (F c = l + 1 ∧ G c = 0)) → O ≠ c + 1 := by
    intro g e
    rcases p4 hx c e with w | w | w | w | w
    · exact g (Or.inl w)
    · exact g (Or.inr ⟨w.1, w.2.1⟩)
    · omega
    · omega
    · omega
  have tc : T' c = if 2 ≤ S c ∨ (F c = l + 1 ∧ G c = 0) then 11 else 5 := by rw [eT, if_pos rfl]
  have td : ∀ d, d ≠ c → T' d = T d := fun d g => by rw [eT, if_neg g]
  have sc : S' c = 0 := by rw [eS, if_pos rfl]
  have sd : ∀ d, d ≠ c → S' d = S d := fun d g => by rw [eS, if_neg g]
  have gd : ∀ d, d ≠ c → G' d = G d := fun d g => by rw [eG, if_neg (fun w => g w.1)]
  have gc : F c = l + 1 → G' c = 1 := fun g => by rw [eG, if_pos ⟨rfl, g⟩]
  clear eT eS eG p6 p7 p9
  by_cases hb : 2 ≤ S c ∨ (F c = l + 1 ∧ G c = 0)
  · rw [if_pos hb] at tc
    have ho := hO hb
    clear hN hO
    refine ⟨?_, ?_, ?_, ?_, ?_, ?_, ?_, ?_, ?_, ?_, ?_, ?_, ?_, ?_, ?_, ?_, ?_, ?_, ?_⟩
    · grind
    · grind
    · grind
    · grind
    · grind
    · grind
    · grind
    · grind
    · intro _ a' ha' _ hd'; exact absurd hd' hd
    · intro _ a' ha' _ _ hk'; omega
    · intro hx' a' ha' hd' hk'
      have : a' = a := by omega
      subst this
      refine ⟨?_, ?_, ?_, ?_, ?_⟩ <;> grind
    · grind
    · grind
    · grind
    · grind
    · grind
    · grind
    · grind
    · grind
  rw [if_neg hb] at tc
  have ho := hN hb
  clear hN hO
  refine ⟨?_, ?_, ?_, ?_, ?_, ?_, ?_, ?_, ?_, ?_, ?_, ?_, ?_, ?_, ?_, ?_, ?_, ?_, ?_⟩
  · grind
  · grind
  · grind
  · grind
  · grind
  · grind
  · grind
  · grind
  · intro _ a' ha' _ hd'; exact absurd hd' hd
  · intro _ a' ha' _ _ hk'; omega
  · intro hx' a' ha' hd' hk'
    have : a' = a := by omega
    subst this
    refine ⟨?_, ?_, ?_, ?_, ?_⟩ <;> grind
  · grind
  · grind
  · grind
  · grind
  · grind
  · grind
  · grind
  · grind
theorem LI_down {T S R F G U T' S' G' : Nat → Nat} {Bt : Nat → Bool} {X O A D K l c : Nat} (h : LI T S R F G U Bt X O A D K l) (ht : T c = 4) (eT : ∀ d, T' d = if d = c then 11 else T d) (eS : ∀ d, S' d = if d = c then (if S c = 0 then 0 else 1) else S d) (eG : ∀ d, G' d = if d = c ∧ F c = l + 1 then 1 else G d) : LI T' S' R F G' U Bt X O A D K l := by
  obtain ⟨hx, hc, hd, hk, ho, ⟨a, ha, ha2, hac⟩, hz⟩ := ph_4 h ht
  obtain ⟨p0, p1, p2, p3, p3b, p4, p5, p6, p7, p8, p9, p10, p11, p12, p13, p14, p15, p16, p17⟩ := h
  clear p7 p8 p9 p6
  refine ⟨?_, ?_, ?_, ?_, ?_, ?_, ?_, ?_, ?_, ?_, ?_, ?_, ?_, ?_, ?_, ?_, ?_, ?_, ?_⟩
  · grind
  · grind
  · grind
  · grind
  · grind
  · grind
  · grind
  · grind
  · intro _ a' ha' _ hd'; omega
  · grind
  · intro _ a' ha' _ hk'; omega
  · grind
  · grind
  · grind
  · intro d hd
    rw [eS]
    by_cases g : d = c
    · rw [g] at hd; rw [if_pos g, if_pos (p13 c hd)]
    · rw [if_neg g]; exact p13 d hd
  · grind
  · grind
  · grind
  · grind
theorem LI_give {T S R F G U T' S' R' : Nat → Nat} {Bt : Nat → Bool} {X O A D K l c : Nat} (h : LI T S R F G U Bt X O A D K l) (ht : T c = 6 ∨ T c = 7 ∨ T c = 8) (eT : ∀ d, T' d = if d = c then 10 else T d) (eS : ∀ d, S' d = if d = c then T c - 5 else S d) (eR : ∀ d, R' d = if d = c then 0 else R d) : LI T' S' R' F G U Bt X O A D K l := by
  obtain ⟨hx, hc, ha, hd, hz, h6, h7⟩ := ph_g h (c := c) (by omega)
  obtain ⟨p0, p1, p2, p3, p3b, p4, p5, p6, p7, p8, p9, p10, p11, p12, p13, p14, p15, p16, p17⟩ := h
  have hR := p11 hx c ha hc (by omega)
  clear p7 p8 p9 p6
  refine ⟨?_, ?_, ?_, ?_, ?_, ?_, ?_, ?_, ?_, ?_, ?_, ?_, ?_, ?_, ?_, ?_, ?_, ?_, ?_⟩
  · grind
  · grind
  · grind
  · grind
  · grind
  · grind
  · grind
  · grind
  · grind
  · grind
  · intro _ a' ha' hd'; exact absurd hd hd'
  · grind
  · grind
  · grind
  · grind
  · grind
  · grind
  · grind
  · grind
theorem LI_back {T S R F G U F' G' U' : Nat → Nat} {Bt : Nat → Bool} {X O A D K l c : Nat} (h : LI T S R F G U Bt X O A D K l) (hu : U c = 2) (eF : ∀ d, F' d = if d = c then 0 else F d) (eG : ∀ d, d ≠ c → G' d = G d) (eU : ∀ d, d ≠ c → U' d = U d) : LI T S R F' G' U' Bt X O A D K l := by
  obtain ⟨p0, p1, p2, p3, p3b, p4, p5, p6, p7, p8, p9, p10, p11, p12, p13, p14, p15, p16, p17⟩ := h
  refine ⟨?_, ?_, ?_, ?_, ?_, ?_, ?_, ?_, ?_, ?_, ?_, ?_, ?_, ?_, ?_, ?_, ?_, ?_, ?_⟩
  · grind
  · grind
  · grind
  · grind
  · grind
  · grind
  · grind
  · grind
  · grind
  · grind
  · exact p9
  · grind
  · grind
  · grind
  · grind
  · grind
  · grind
  · grind
  · grind
theorem LI_ack {T S R F G U T' : Nat → Nat} {Bt : Nat → Bool} {X O A D K l c : Nat} (h : LI T S R F G U Bt X O A D K l) (ht : T c = 5 ∨ T c = 11) (hd : 1 < D) (eT : ∀ d, T' d = if d = c then 0 else T d) : LI T' S R F G U Bt X O A (D - 1) K l := by
  have n11 : ∀ d, T d ≠ 11 := by
    intro d g
    have := (ph_11 h g).2.2.1
    omega
  have t5 : T c = 5 := by
    rcases ht with g | g
    · exact g
    · exact absurd g (n11 c)
  obtain ⟨hx, hc, hd0, a, ha, ha2, hac, hk⟩ := ph_3 h (Or.inr t5)
  obtain ⟨p0, p1, p2, p3, p3b, p4, p5, p6, p7, p8, p9, p10, p11, p12, p13, p14, p15, p16, p17⟩ := h
  have cnd : cn T 16 = cn T' 16 + 1 := cn_del (c := c) hc (by omega) (by rw [eT, if_pos rfl]) (fun d hd => by rw [eT, if_neg hd])
  refine ⟨?_, ?_, ?_, ?_, ?_, ?_, ?_, ?_, ?_, ?_, ?_, ?_, ?_, ?_, ?_, ?_, ?_, ?_, ?_⟩
  · grind
  · grind
  · grind
  · grind
  · grind
  · grind
  · grind
  · grind
  · intro _ a' ha' _ hd'; omega
  · intro _ a' ha' _ _ hk'; omega
  · intro hx' a' ha' hd' hk'
    obtain ⟨r1, r2, r3, r4, r5⟩ := p9 hx' a' ha' (by omega) hk'
    refine ⟨by omega, fun d => ?_, fun g => ?_, fun d g g2 => ?_, fun d g => ⟨(r5 d g).1, ?_⟩⟩
    · rw [eT]; split
      · exact Or.inl rfl
      · exact r2 d
    · rw [eT]; split
      · rfl
      · exact r3 g
    · have := r4 d g g2
      rw [eT, if_neg (fun e => by rw [e] at this; omega)]; exact this
    · rcases (r5 d g).2 with w | w
      · rw [eT, if_neg (fun e => by rw [e] at w; omega)]; exact Or.inl w
      · exact absurd w (n11 d)
  · grind
  · grind
  · grind
  · grind
  · grind
  · grind
  · grind
  · grind
theorem LI_ackRecall {T S R F G U T' : Nat → Nat} {Bt Bt' : Nat → Bool} {X O A D K l c O' A' D' K' : Nat} (h : LI T S R F G U Bt X O A D K l) (ht : T c = 5 ∨ T c = 11) (hd : D = 1) (ha : A = 17) (hB16 : ∀ d, Bt d = true → d < 16) (eT : ∀ d, T' d = if d = c then 0 else T d) (eB : ∀ d, Bt' d = false) (eO : O' = 0) : LI T' S R F G U Bt' 0 O' A' D' K' l := by
  have z : ∀ d, d ≠ c → T d = 0 := by
    rcases ht with g | g
    · obtain ⟨hx, hc, hd0, a', ha', ha2', hac', hk'⟩ := ph_3 h (Or.inr g)
      have := (h.2.2.2.2.2.2.2.2.2.2.1 hx a' ha' hd0 hk').1
      have := cn_one hc (by omega) (show cn T 16 = 1 by omega)
      intro d hdc
      by_cases e : d < 16
      · exact this d e hdc
      · have := h.2.2.2.2.2.2.2.2.2.2.2.2.2.2.2.2.1 d
        by_cases g2 : T d = 0
        · exact g2
        · exact absurd (this g2) e
    · exact (ph_11 h g).2.2.2.2.1
  obtain ⟨hx, hc, _⟩ := ph_x h (c := c) (by omega)
  have z' : ∀ d, T' d = 0 := fun d => by
    rw [eT]
    split
    · rfl
    · next g => exact z d g
  obtain ⟨p0, p1, p2, p3, p3b, p4, p5, p6, p7, p8, p9, p10, p11, p12, p13, p14, p15, p16, p17⟩ := h
  have q9 := p9 hx 16 ha (by omega) (Or.inr rfl)
  have s0 : ∀ d, S d = 0 := by
    intro d
    by_cases e : S d = 0
    · exact e
    · by_cases g : d = 16
      · by_cases s2 : 2 ≤ S d
        · have := p3 d s2
          have := (q9.2.2.2.2 d this).2
          have := p15 d
          omega
        · rcases p3b d (by omega) with w | w
          · subst g
            have := hB16 _ w; omega
          · have := (q9.2.2.2.2 d w).2
            have := p15 d
            omega
      · have := q9.2.2.2.1 d (by omega) g
        by_cases e2 : d = c
        · subst e2; omega
        · have := z d e2; omega
  have l0 : ∀ d, F d = l + 1 → G d = 0 → U d = 2 := by grind
  clear p9 p8 p7 p6 q9
  refine ⟨?_, ?_, ?_, ?_, ?_, ?_, ?_, ?_, ?_, ?_, ?_, ?_, ?_, ?_, ?_, ?_, ?_, ?_, ?_⟩
  · grind
  · grind
  · grind
  · grind
  · grind
  · grind
  · grind
  · grind
  · grind
  · grind
  · grind
  · grind
  · grind
  · grind
  · grind
  · grind
  · grind
  · grind
  · grind
theorem LI_ackM {T S R F G U T' : Nat → Nat} {Bt Bt' : Nat → Bool} {X O A D K l c a : Nat} (h : LI T S R F G U Bt X O A D K l) (ht : T c = 5 ∨ T c = 11) (hd : D = 1) (ha : A = a + 1) (ha2 : a < 16) (hk : K = 1) (eT : ∀ d, T' d = if d = a then 8 else if d = c then 0 else T d) (eB : ∀ d, Bt' d = false) : LI T' S R F G U Bt' X (a + 1) A 0 K l := by
  have z : ∀ d, d ≠ c → T d = 0 := by
    rcases ht with g | g
    · obtain ⟨hx, hc, hd0, a', ha', ha2', hac', hk'⟩ := ph_3 h (Or.inr g)
      have := (h.2.2.2.2.2.2.2.2.2.2.1 hx a' ha' hd0 hk').1
      have := cn_one hc (by omega) (show cn T 16 = 1 by omega)
      intro d hdc
      by_cases e : d < 16
      · exact this d e hdc
      · have := h.2.2.2.2.2.2.2.2.2.2.2.2.2.2.2.2.1 d
        by_cases g2 : T d = 0
        · exact g2
        · exact absurd (this g2) e
    · exact (ph_11 h g).2.2.2.2.1
  obtain ⟨hx, hc, _⟩ := ph_x h (c := c) (by omega)
  obtain ⟨p0, p1, p2, p3, p3b, p4, p5, p6, p7, p8, p9, p10, p11, p12, p13, p14, p15, p16, p17⟩ := h
  have q9 := p9 hx a ha (by omega) (Or.inl hk)
  have hR := p11 hx a ha ha2 (by have := q9.2.2.1 ha2; omega)
  have hac : a ≠ c := by intro g; have := q9.2.2.1 ha2; rw [g] at this; omega
  have s0 : ∀ d, d ≠ a → S d = 0 := by grind
  have sa : S a ≤ 1 := (p12 a hR).1
  have l0 : ∀ d, F d = l + 1 → G d = 0 → U d = 2 := by grind
  have t' : ∀ d, d ≠ a → T' d = 0 := by grind
  have ta : T' a = 8 := by rw [eT, if_pos rfl]
  clear p9 p8 p7 p6 q9
  refine ⟨?_, ?_, ?_, ?_, ?_, ?_, ?_, ?_, ?_, ?_, ?_, ?_, ?_, ?_, ?_, ?_, ?_, ?_, ?_⟩
  · grind
  · grind
  · grind
  · grind
  · grind
  · grind
  · grind
  · grind
  · grind
  · grind
  · intro _ a' ha' hd'; exact absurd rfl hd'
  · grind
  · grind
  · grind
  · grind
  · grind
  · grind
  · grind
  · grind
theorem LI_ackS {T S R F G U T' : Nat → Nat} {Bt Bt' : Nat → Bool} {X O A D K l c a : Nat} (h : LI T S R F G U Bt X O A D K l) (ht : T c = 5 ∨ T c = 11) (hd : D = 1) (ha : A = a + 1) (ha2 : a < 16) (hk : K = 0) (eT : ∀ d, T' d = if d = a then 6 else if d = c then 0 else T d) (eB : ∀ d, Bt' d = true ↔ d = c ∨ d = a) : LI T' S R F G U Bt' X 0 A 0 K l := by
  have h0 := h
  obtain ⟨p0, p1, p2, p3, p3b, p4, p5, p6, p7, p8, p9, p10, p11, p12, p13, p14, p15, p16, p17⟩ := h
  have hc := p15 c (by omega)
  have hx : X = 1 := (ph_x h0 (c := c) (by omega)).1
  refine ⟨?_, ?_, ?_, ?_, ?_, ?_, ?_, ?_, ?_, ?_, ?_, ?_, ?_, ?_, ?_, ?_, ?_, ?_, ?_⟩
  · grind
  · grind
  · grind
  · grind
  · grind
  · grind
  · grind
  · grind
  · grind
  · grind
  · grind
  · grind
  · grind
  · grind
  · grind
  · grind
  · grind
  · grind
  · grind
theorem LI_done {T S R F G U T' : Nat → Nat} {Bt : Nat → Bool} {X O A D K l c : Nat} (h : LI T S R F G U Bt X O A D K l) (ht : T c = 10) (eT : ∀ d, T' d = if d = c then 0 else T d) : LI T' S R F G U Bt X O 0 D K l := by
  obtain ⟨hx, hc, ha, hd, hz, h6, h7⟩ := ph_g h (c := c) (by omega)
  obtain ⟨p0, p1, p2, p3, p3b, p4, p5, p6, p7, p8, p9, p10, p11, p12, p13, p14, p15, p16, p17⟩ := h
  have t' : ∀ d, T' d = 0 := by grind
  clear p7 p8 p9 p6
  refine ⟨?_, ?_, ?_, ?_, ?_, ?_, ?_, ?_, ?_, ?_, ?_, ?_, ?_, ?_, ?_, ?_, ?_, ?_, ?_⟩
  · grind
  · grind
  · grind
  · grind
  · grind
  · grind
  · grind
  · grind
  · grind
  · grind
  · intro _ a' ha'; omega
  · grind
  · grind
  · grind
  · grind
  · grind
  · grind
  · grind
  · grind
theorem LI_put {T S R F G U U' : Nat → Nat} {Bt : Nat → Bool} {X O A D K l c : Nat} (h : LI T S R F G U Bt X O A D K l) (hf : F c = l + 1) (hx : X = 1) (ha : A = 0) (ho : O = c + 1) (eU : ∀ d, U' d = if d = c then 2 else U d) : LI T S R F G U' Bt X 0 A D K l := by
  obtain ⟨p0, p1, p2, p3, p3b, p4, p5, p6, p7, p8, p9, p10, p11, p12, p13, p14, p15, p16, p17⟩ := h
  refine ⟨?_, ?_, ?_, ?_, ?_, ?_, ?_, ?_, ?_, ?_, ?_, ?_, ?_, ?_, ?_, ?_, ?_, ?_, ?_⟩
  · grind
  · grind
  · grind
  · grind
  · grind
  · grind
  · grind
  · grind
  · grind
  · grind
  · grind
  · grind
  · grind
  · grind
  · grind
  · grind
  · grind
  · grind
  · grind
theorem LI_put0 {T S R F G U U' : Nat → Nat} {Bt : Nat → Bool} {X O A D K l c : Nat} (h : LI T S R F G U Bt X O A D K l) (hf : F c = l + 1) (hu : U c ≠ 2) (ho : X = 1 → O ≠ c + 1) (eU : ∀ d, U' d = if d = c then 2 else U d) : LI T S R F G U' Bt X O A D K l := by
  obtain ⟨p0, p1, p2, p3, p3b, p4, p5, p6, p7, p8, p9, p10, p11, p12, p13, p14, p15, p16, p17⟩ := h
  refine ⟨?_, ?_, ?_, ?_, ?_, ?_, ?_, ?_, ?_, ?_, ?_, ?_, ?_, ?_, ?_, ?_, ?_, ?_, ?_⟩
  · grind
  · grind
  · grind
  · grind
  · grind
  · grind
  · grind
  · grind
  · grind
  · grind
  · exact p9
  · grind
  · grind
  · grind
  · grind
  · grind
  · grind
  · grind
  · grind
theorem LI_fill {T S R F G U : Nat → Nat} {Bt Bt' : Nat → Bool} {X O A D K l K' : Nat} (h : LI T S R F G U Bt X O A D K l) (hx : X = 0) (hK : K' ≤ 1) (eB : ∀ d, Bt' d = false) : LI T S R F G U Bt' 1 0 0 0 K' l := by
  obtain ⟨p0, p1, p2, p3, p3b, p4, p5, p6, p7, p8, p9, p10, p11, p12, p13, p14, p15, p16, p17⟩ := h
  refine ⟨?_, ?_, ?_, ?_, ?_, ?_, ?_, ?_, ?_, ?_, ?_, ?_, ?_, ?_, ?_, ?_, ?_, ?_, ?_⟩
  · grind
  · grind
  · grind
  · grind
  · grind
  · grind
  · grind
  · grind
  · grind
  · grind
  · grind
  · grind
  · grind
  · grind
  · grind
  · grind
  · grind
  · grind
  · grind
theorem LI_drop {T S R F G U : Nat → Nat} {Bt Bt' : Nat → Bool} {X O A D K l A' D' K' : Nat} (h : LI T S R F G U Bt X O A D K l) (hx : X = 1) (ha : A = 0) (ho : O = 0) (hb : ∀ d, Bt d = false) (eB : ∀ d, Bt' d = false) : LI T S R F G U Bt' 0 0 A' D' K' l := by
  obtain ⟨p0, p1, p2, p3, p3b, p4, p5, p6, p7, p8, p9, p10, p11, p12, p13, p14, p15, p16, p17⟩ := h
  refine ⟨?_, ?_, ?_, ?_, ?_, ?_, ?_, ?_, ?_, ?_, ?_, ?_, ?_, ?_, ?_, ?_, ?_, ?_, ?_⟩
  · grind
  · grind
  · grind
  · grind
  · grind
  · grind
  · grind
  · grind
  · grind
  · grind
  · grind
  · grind
  · grind
  · grind
  · grind
  · grind
  · grind
  · grind
  · grind
theorem LI_getDown {T S R F G U T' : Nat → Nat} {Bt : Nat → Bool} {X O A D K l c b : Nat} (h : LI T S R F G U Bt X O A D K l) (hx : X = 1) (ha : A = 0) (hr : R c = l + 1) (hc : c < 16) (ho : O = b + 1) (hb : b < 16) (eT : ∀ d, T' d = if d = b then 4 else T d) : LI T' S R F G U Bt X O (c + 1) 1 0 l := by
  obtain ⟨p0, p1, p2, p3, p3b, p4, p5, p6, p7, p8, p9, p10, p11, p12, p13, p14, p15, p16, p17⟩ := h
  refine ⟨?_, ?_, ?_, ?_, ?_, ?_, ?_, ?_, ?_, ?_, ?_, ?_, ?_, ?_, ?_, ?_, ?_, ?_, ?_⟩
  · grind
  · grind
  · grind
  · grind
  · grind
  · grind
  · grind
  · grind
  · grind
  · grind
  · grind
  · grind
  · grind
  · grind
  · grind
  · grind
  · grind
  · grind
  · grind
theorem LI_getE {T S R F G U T' : Nat → Nat} {Bt : Nat → Bool} {X O A D K l c : Nat} (h : LI T S R F G U Bt X O A D K l) (hx : X = 1) (ha : A = 0) (hr : R c = l + 1) (hc : c < 16) (ho : O = 0) (hb : ∀ d, Bt d = false) (eT : ∀ d, T' d = if d = c then 7 else T d) : LI T' S R F G U Bt X (c + 1) (c + 1) 0 0 l := by
  obtain ⟨p0, p1, p2, p3, p3b, p4, p5, p6, p7, p8, p9, p10, p11, p12, p13, p14, p15, p16, p17⟩ := h
  refine ⟨?_, ?_, ?_, ?_, ?_, ?_, ?_, ?_, ?_, ?_, ?_, ?_, ?_, ?_, ?_, ?_, ?_, ?_, ?_⟩
  · grind
  · grind
  · grind
  · grind
  · grind
  · grind
  · grind
  · grind
  · grind
  · grind
  · grind
  · grind
  · grind
  · grind
  · grind
  · grind
  · grind
  · grind
  · grind
theorem LI_getS {T S R F G U T' : Nat → Nat} {Bt Bt' : Nat → Bool} {X O A D K l c : Nat} (h : LI T S R F G U Bt X O A D K l) (hx : X = 1) (ha : A = 0) (hr : R c = l + 1) (hc : c < 16) (ho : O = 0) (eT : ∀ d, T' d = if d = c then 6 else T d) (eB : ∀ d, Bt' d = true ↔ Bt d = true ∨ d = c) : LI T' S R F G U Bt' X 0 (c + 1) 0 0 l := by
  obtain ⟨p0, p1, p2, p3, p3b, p4, p5, p6, p7, p8, p9, p10, p11, p12, p13, p14, p15, p16, p17⟩ := h
  refine ⟨?_, ?_, ?_, ?_, ?_, ?_, ?_, ?_, ?_, ?_, ?_, ?_, ?_, ?_, ?_, ?_, ?_, ?_, ?_⟩
  · grind
  · grind
  · grind
  · grind
  · grind
  · grind
  · grind
  · grind
  · grind
  · grind
  · grind
  · grind
  · grind
  · grind
  · grind
  · grind
  · grind
  · grind
  · grind
theorem LI_getM {T S R F G U T' : Nat → Nat} {Bt : Nat → Bool} {X O A D K l c : Nat} (h : LI T S R F G U Bt X O A D K l) (hx : X = 1) (ha : A = 0) (hr : R c = l + 1) (hc : c < 16) (hO : O ≤ 16) (hB : ∀ d, Bt d = true → d < 16) (hd : cn T' 16 ≠ 0) (eT : ∀ d, T' d = if d ≠ c ∧ (O = d + 1 ∨ Bt d = true) then 3 else T d) : LI T' S R F G U Bt X O (c + 1) (cn T' 16) 1 l := by
  obtain ⟨p0, p1, p2, p3, p3b, p4, p5, p6, p7, p8, p9, p10, p11, p12, p13, p14, p15, p16, p17⟩ := h
  refine ⟨?_, ?_, ?_, ?_, ?_, ?_, ?_, ?_, ?_, ?_, ?_, ?_, ?_, ?_, ?_, ?_, ?_, ?_, ?_⟩
  · grind
  · grind
  · grind
  · grind
  · grind
  · grind
  · grind
  · grind
  · grind
  · grind
  · grind
  · grind
  · grind
  · grind
  · grind
  · grind
  · grind
  · grind
  · grind
theorem LI_getM0 {T S R F G U T' : Nat → Nat} {Bt Bt' : Nat → Bool} {X O A D K l c : Nat} (h : LI T S R F G U Bt X O A D K l) (hx : X = 1) (ha : A = 0) (hr : R c = l + 1) (hc : c < 16) (hn : ∀ d, d ≠ c → O ≠ d + 1 ∧ Bt d = false) (eT : ∀ d, T' d = if d = c then 8 else T d) (eB : ∀ d, Bt' d = false) : LI T' S R F G U Bt' X (c + 1) (c + 1) 0 1 l := by
  obtain ⟨p0, p1, p2, p3, p3b, p4, p5, p6, p7, p8, p9, p10, p11, p12, p13, p14, p15, p16, p17⟩ := h
  obtain ⟨q6, q6b⟩ := p6 hx ha
  obtain ⟨q12, q12b⟩ := p12 c hr
  have o0 : O = 0 := by
    by_cases e : O = 0
    · exact e
    · exfalso
      by_cases g : O = c + 1
      · rcases p4 hx c g with w | w | w | w | w
        · omega
        · exact q12b w.1
        · have := q6b c; omega
        · have := q6b c; omega
        · have := q6b c; omega
      · exact (hn (O - 1) (by omega)).1 (by omega)
  clear p7 p8 p9
  refine ⟨?_, ?_, ?_, ?_, ?_, ?_, ?_, ?_, ?_, ?_, ?_, ?_, ?_, ?_, ?_, ?_, ?_, ?_, ?_⟩
  · grind
  · grind
  · grind
  · grind
  · grind
  · grind
  · grind
  · grind
  · grind
  · grind
  · grind
  · grind
  · grind
  · grind
  · grind
  · grind
  · grind
  · grind
  · grind
theorem LI_recall {T S R F G U T' : Nat → Nat} {Bt : Nat → Bool} {X O A D K l : Nat} (h : LI T S R F G U Bt X O A D K l) (hx : X = 1) (ha : A = 0) (hO : O ≤ 16) (hB : ∀ d, Bt d = true → d < 16) (hd : cn T' 16 ≠ 0) (eT : ∀ d, T' d = if O = d + 1 ∨ Bt d = true then 3 else T d) : LI T' S R F G U Bt X O 17 (cn T' 16) K l := by
  obtain ⟨p0, p1, p2, p3, p3b, p4, p5, p6, p7, p8, p9, p10, p11, p12, p13, p14, p15, p16, p17⟩ := h
  refine ⟨?_, ?_, ?_, ?_, ?_, ?_, ?_, ?_, ?_, ?_, ?_, ?_, ?_, ?_, ?_, ?_, ?_, ?_, ?_⟩
  · grind
  · grind
  · grind
  · grind
  · grind
  · grind
  · grind
  · grind
  · grind
  · grind
  · grind
  · grind
  · grind
  · grind
  · grind
  · grind
  · grind
  · grind
  · grind
theorem LI_evict {T S R F G U S' : Nat → Nat} {Bt : Nat → Bool} {X O A D K l c : Nat} (h : LI T S R F G U Bt X O A D K l) (hs : S c ≤ 1) (eS : ∀ d, S' d = if d = c then 0 else S d) : LI T S' R F G U Bt X O A D K l := by
  obtain ⟨p0, p1, p2, p3, p3b, p4, p5, p6, p7, p8, p9, p10, p11, p12, p13, p14, p15, p16, p17⟩ := h
  refine ⟨?_, ?_, ?_, ?_, ?_, ?_, ?_, ?_, ?_, ?_, ?_, ?_, ?_, ?_, ?_, ?_, ?_, ?_, ?_⟩
  · grind
  · grind
  · grind
  · grind
  · grind
  · grind
  · grind
  · grind
  · grind
  · grind
  · intro hx' a' ha' hd' hk'
    have q9 := p9 hx' a' ha' hd' hk'
    refine ⟨?_, ?_, ?_, ?_, ?_⟩ <;> grind
  · grind
  · grind
  · grind
  · grind
  · grind
  · grind
  · grind
  · grind
theorem LI_shelve {T S R F G U S' F' G' U' : Nat → Nat} {Bt : Nat → Bool} {X O A D K l c : Nat} (h : LI T S R F G U Bt X O A D K l) (hs : 2 ≤ S c) (hr : R c = 0) (eS : ∀ d, S' d = if d = c then 0 else S d) (eF : ∀ d, F' d = if d = c then l + 1 else F d) (eG : ∀ d, G' d = if d = c then 0 else G d) (eU : ∀ d, U' d = if d = c then 1 else U d) : LI T S' R F' G' U' Bt X O A D K l := by
  obtain ⟨p0, p1, p2, p3, p3b, p4, p5, p6, p7, p8, p9, p10, p11, p12, p13, p14, p15, p16, p17⟩ := h
  refine ⟨?_, ?_, ?_, ?_, ?_, ?_, ?_, ?_, ?_, ?_, ?_, ?_, ?_, ?_, ?_, ?_, ?_, ?_, ?_⟩
  · grind
  · grind
  · grind
  · grind
  · grind
  · grind
  · grind
  · grind
  · grind
  · grind
  · intro hx' a' ha' hd' hk'
    have q9 := p9 hx' a' ha' hd' hk'
    refine ⟨?_, ?_, ?_, ?_, ?_⟩ <;> grind
  · grind
  · grind
  · grind
  · grind
  · grind
  · grind
  · grind
  · grind
theorem LI_req {T S R F G U R' : Nat → Nat} {Bt : Nat → Bool} {X O A D K l c : Nat} (h : LI T S R F G U Bt X O A D K l) (hs : S c ≤ 1) (hf : F c ≠ l + 1) (eR : ∀ d, R' d = if d = c then l + 1 else R d) : LI T S R' F G U Bt X O A D K l := by
  obtain ⟨p0, p1, p2, p3, p3b, p4, p5, p6, p7, p8, p9, p10, p11, p12, p13, p14, p15, p16, p17⟩ := h
  refine ⟨?_, ?_, ?_, ?_, ?_, ?_, ?_, ?_, ?_, ?_, ?_, ?_, ?_, ?_, ?_, ?_, ?_, ?_, ?_⟩
  · grind
  · grind
  · grind
  · grind
  · grind
  · grind
  · grind
  · grind
  · grind
  · grind
  · exact p9
  · grind
  · grind
  · grind
  · grind
  · grind
  · grind
  · grind
  · grind
theorem LI_change {T S R F G U S' : Nat → Nat} {Bt : Nat → Bool} {X O A D K l c : Nat} (h : LI T S R F G U Bt X O A D K l) (hs : 2 ≤ S c) (eS : ∀ d, S' d = if d = c then 3 else S d) : LI T S' R F G U Bt X O A D K l := by
  obtain ⟨p0, p1, p2, p3, p3b, p4, p5, p6, p7, p8, p9, p10, p11, p12, p13, p14, p15, p16, p17⟩ := h
  refine ⟨?_, ?_, ?_, ?_, ?_, ?_, ?_, ?_, ?_, ?_, ?_, ?_, ?_, ?_, ?_, ?_, ?_, ?_, ?_⟩
  · grind
  · grind
  · grind
  · grind
  · grind
  · grind
  · grind
  · grind
  · grind
  · grind
  · intro hx' a' ha' hd' hk'
    have q9 := p9 hx' a' ha' hd' hk'
    refine ⟨?_, ?_, ?_, ?_, ?_⟩ <;> grind
  · grind
  · grind
  · grind
  · grind
  · grind
  · grind
  · grind
  · grind
theorem LI_frame {T S R F G U T' S' R' F' G' U' : Nat → Nat} {Bt Bt' : Nat → Bool} {X O A D K l : Nat} (h : LI T S R F G U Bt X O A D K l) (eT : ∀ d, T' d = T d) (eS : ∀ d, S' d = S d) (eB : ∀ d, Bt' d = Bt d) (eF : ∀ d, F' d = l + 1 ↔ F d = l + 1) (eG : ∀ d, F d = l + 1 → G' d = G d ∧ (U' d = 2 ↔ U d = 2)) (eR : ∀ d, R' d = l + 1 → R d = l + 1) (eR2 : ∀ d, X = 1 → A = d + 1 → d < 16 → T d ≠ 10 → R d = l + 1 → R' d = l + 1) : LI T' S' R' F' G' U' Bt' X O A D K l := by
  obtain ⟨p0, p1, p2, p3, p3b, p4, p5, p6, p7, p8, p9, p10, p11, p12, p13, p14, p15, p16, p17⟩ := h
  have cne : cn T' 16 = cn T 16 := cn_congr (fun d _ => by rw [eT])
  refine ⟨?_, ?_, ?_, ?_, ?_, ?_, ?_, ?_, ?_, ?_, ?_, ?_, ?_, ?_, ?_, ?_, ?_, ?_, ?_⟩
  · grind
  · grind
  · grind
  · grind
  · grind
  · grind
  · grind
  · grind
  · grind
  · grind
  · intro hx' a' ha' hd' hk'
    have q9 := p9 hx' a' ha' hd' hk'
    refine ⟨?_, ?_, ?_, ?_, ?_⟩ <;> grind
  · grind
  · grind
  · grind
  · grind
  · grind
  · grind
  · grind
  · grind
