theorem own_facts {T S R F G U : Nat → Nat} {Bt : Nat → Bool} {X O A D K l c : Nat} (h : LI T S R F G U Bt X O A D K l) (hs : 2 ≤ S c) :
    X = 1 ∧ O = c + 1 ∧ (∀ d, T d ≠ 6 ∧ T d ≠ 7 ∧ T d ≠ 8 ∧ T d ≠ 11) ∧ (∀ d, d ≠ c → S d = 0) ∧ (∀ d, F d = l + 1 → G d = 0 → U d = 2) := by
  have h' := h
  obtain ⟨p0, p1, p2, p3, p3b, p4, p5, p6, p7, p8, p9, p10, p11, p12, p13, p14, p15, p16, p17⟩ := h
  have o := p3 c hs
  have hx : X = 1 := by
    have := p0.2
    by_cases e : X = 0
    · have := (this e c).2; omega
    · omega
  have g : ∀ d, T d = 6 ∨ T d = 7 ∨ T d = 8 → False := by
    intro d hd
    obtain ⟨_, hc, ha, hD, hz, h6, h7⟩ := ph_g h' (c := d) (by omega)
    have hr := p11 hx d ha hc (by omega)
    have := (p12 d hr).1
    rcases hd with e | e | e
    · have := (h6 e).1; omega
    · have := h7 (Or.inl e)
      have : d = c := by omega
      subst this; omega
    · have := h7 (Or.inr e)
      have : d = c := by omega
      subst this; omega
  refine ⟨hx, o, fun d => ⟨fun e => g d (by omega), fun e => g d (by omega), fun e => g d (by omega), fun e => ?_⟩, fun d hd => ?_, fun d hf hg => ?_⟩
  · have := p5 d e
    have : d = c := by omega
    subst this; omega
  · by_cases e : S d = 0
    · exact e
    · by_cases e2 : 2 ≤ S d
      · have := p3 d e2; omega
      · rcases p3b d (by omega) with w | w
        · rw [p2 hx (by omega) d] at w; cases w
        · omega
  · by_cases e : U d = 2
    · exact e
    · have := (p1 d hf hg e).2
      have : d = c := by omega
      subst this
      have := p13 d hf; omega
theorem mm_P2 {s : St} (M : Ms s) (B : Bz s) {x : Msg} (hx : x ∈ Z s) (h2 : mKi x = 2) : mFr x < 16 ∧ vU s (mFr x) = 1 := by
  have w := M.2.1 x hx
  have hc : mFr x < 16 := by
    obtain ⟨h1, h3, h4⟩ := w
    have := B.1.2
    omega
  have := mm_mem M.1 hx
  have e : key x = 16 + mFr x := by unfold key; rw [if_neg (by omega), if_pos h2]
  rw [e] at this
  refine ⟨hc, ?_⟩
  unfold vU
  rw [if_pos hc, this]
  show (if mKi x = 2 then 1 else 2) = 1
  rw [if_pos h2]
theorem IV_write {s : St} {b k a : Nat} {v : Int32} (I : IV s b) (hk : k < 512) (h2 : 2 ≤ N s 2 k) (ha : a / 4 = N s 1 k) : IV (sWrite s k a v) b := by
  obtain ⟨⟨B, hb⟩, ⟨L, W4'⟩, M, LL, Rg, Q, W, D, O⟩ := I
  obtain ⟨d1, d2, d3, d4, d5, d6, d7⟩ := D
  obtain ⟨r1, r2, _⟩ := Rg.1 k hk
  have hS : 2 ≤ vS s (N s 1 k) (k / 32) := by rw [vS_of B L hk (by omega)]; exact h2
  obtain ⟨o1, o2, o3, o4, o5⟩ := own_facts (LL (N s 1 k) r1) hS
  have w0 : ∀ l, Wda (sWrite s k a v) 0 l = if l = N s 1 k then w4s (Wda s 0 (N s 1 k)) (a % 4) v else Wda s 0 l := by
    intro l; unfold sWrite; rw [W_ne (by omega), W_uW, ha]
    by_cases e : l = N s 1 k
    · rw [if_pos ⟨rfl, e⟩, if_pos e]
    · rw [if_neg (fun g => e g.2), if_neg e]
  have w4 : ∀ j, Wda (sWrite s k a v) 4 j = if j = k then w4s (Wda s 4 k) (a % 4) v else Wda s 4 j := by
    intro j; unfold sWrite; rw [W_uW]
    by_cases e : j = k
    · rw [if_pos ⟨rfl, e⟩, if_pos e]
    · rw [if_neg (fun g => e g.2), if_neg e]; rfl
  have w1 : ∀ l, Wda (sWrite s k a v) 1 l = Wda s 1 l := fun l => by unfold sWrite; rw [W_ne (by omega), W_ne (by omega)]
  have w2 : ∀ l, Wda (sWrite s k a v) 2 l = Wda s 2 l := fun l => by unfold sWrite; rw [W_ne (by omega), W_ne (by omega)]
  have w3 : ∀ l, Wda (sWrite s k a v) 3 l = Wda s 3 l := fun l => by unfold sWrite; rw [W_ne (by omega), W_ne (by omega)]
  refine ⟨⟨B, hb⟩, ⟨L, W4'⟩, M, LL, Rg, Q, W, ⟨?_, ?_, ?_, ?_, ?_, ?_, ?_⟩, O⟩
  · intro l j hw h6
    have hw' : hWay s l = some j := hw
    rw [w2, w0, if_neg]
    · exact d1 l j hw h6
    · intro e
      have : hv s l 6 = N s 6 j := by unfold hv; rw [hw']
      rw [e, o2] at this
      have h6' : N s 6 j = 0 := h6
      omega
  · intro l hl hw
    rw [w1, w0, if_neg]
    · exact d2 l hl hw
    · intro e
      have hw' : hWay s l = none := hw
      have := vX_0.mpr hw'
      rw [e, o1] at this; omega
  · intro l j hw h5
    rw [w2, w1]; exact d3 l j hw h5
  · intro x hx
    have hx' : x ∈ Z s := hx
    obtain ⟨q1, q2, q3⟩ := d4 x hx'
    rw [w0]
    by_cases e : mLi x = N s 1 k
    · rw [if_pos e]
      refine ⟨fun g => ?_, fun g g2 => ?_, fun g g2 => ?_⟩
      · exfalso
        have p : isP x := by unfold isP; omega
        have := tk_of M B hx' p
        rw [e] at this
        have t := o3 (pc x)
        have : tcode x = mKi x := by unfold tcode; rw [if_neg (by omega)]
        omega
      · exfalso
        have p : isP x := by unfold isP; omega
        have := tk_of M B hx' p
        rw [e] at this
        have t := o3 (pc x)
        have : tcode x = 11 := by unfold tcode; rw [if_pos ⟨g, g2⟩]
        omega
      · exfalso
        obtain ⟨c16, u1⟩ := mm_P2 M B hx' g
        have f1 := (Q x hx').2.1 g
        have := o5 (mFr x) (by unfold vF; rw [if_pos c16, f1, e]) g2
        omega
    · rw [if_neg e]; exact ⟨q1, q2, q3⟩
  · intro j hj h2'
    have h2'' : N s 2 j ≠ 0 := h2'
    show Wda (sWrite s k a v) 4 j = Wda (sWrite s k a v) 0 (N s 1 j)
    rw [w4, w0]
    by_cases e : j = k
    · subst e; rw [if_pos rfl, if_pos rfl, d5 j hj h2'']
    · rw [if_neg e, if_neg]
      · exact d5 j hj h2''
      · intro e2
        by_cases e3 : j / 32 = k / 32
        · exact e (L.2 j k hj hk h2'' (by omega) e3 e2)
        · have := o4 (j / 32) e3
          rw [← e2, vS_of B L hj h2''] at this; omega
  · intro c l hc h13 h14 hu
    rw [w3, w0, if_neg]
    · exact d6 c l hc h13 h14 hu
    · intro e
      have := o5 c (by unfold vF; rw [if_pos hc, ← e]; exact h13) h14
      exact hu this
  · intro l j c hw ht
    rw [w2, w0, if_neg]
    · exact d7 l j c hw ht
    · intro e
      have t := o3 c
      have ht' : tk s l c = 7 ∨ tk s l c = 8 := ht
      rw [e] at ht'; omega
