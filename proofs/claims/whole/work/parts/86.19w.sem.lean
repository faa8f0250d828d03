/-! What the invariant gives. -/
theorem IV_Bz {s : St} {b : Nat} (I : IV s b) : Bz s := I.1.1
theorem IV_Hr {s : St} {b : Nat} (I : IV s b) : Hr s := by
  intro k hk
  obtain ⟨a1, a2, a3, a4, a5, a6, a7, a8, a9, a10, a11, a12, a13⟩ := I.2.2.2.2.1.1 k hk
  exact ⟨a4, a5, a6, a7, a8, a9, a10, by omega⟩
theorem IV_Cr {s : St} {b : Nat} (I : IV s b) : Cr s := by
  refine ⟨fun k hk => ?_, fun c hc => ?_⟩
  · obtain ⟨a1, a2, a3, a4, a5, a6, a7, a8, a9, a10, a11, a12, a13⟩ := I.2.2.2.2.1.1 k hk
    exact ⟨a1, a2, by omega⟩
  · obtain ⟨a1, a2, a3, a4⟩ := I.2.2.2.2.1.2.1 c hc
    exact ⟨a1, a2, a3⟩
theorem IV_Rg {s : St} {b : Nat} (I : IV s b) : Rg s := Rg_of (IV_Bz I) (IV_Hr I) (IV_Cr I)
theorem IV_21 {s : St} {b : Nat} (I : IV s b) : ∀ k, k < 512 → N s 21 k < 2 ^ 30 := by
  intro k hk
  obtain ⟨a1, a2, a3, a4, a5, a6, a7, a8, a9, a10, a11, a12, a13⟩ := I.2.2.2.2.1.1 k hk
  omega
theorem IV_1 {s : St} {b : Nat} (I : IV s b) : ∀ k, k < 512 → N s 1 k < 512 := fun k hk => (I.2.2.2.2.1.1 k hk).1
theorem IV_Qw {s : St} {b : Nat} (I : IV s b) : Qw s := by
  obtain ⟨⟨B, hb⟩, _, M, _⟩ := I
  intro i hi
  have xm : (Ql s).getD i x0 ∈ Ql s := getD_mem hi
  have w := M.2.1 _ (List.mem_append_right _ xm)
  have k2 := M.2.2 _ xm
  obtain ⟨h1, h2, h3⟩ := w
  have := B.1.2
  exact ⟨k2, by omega, h1⟩
theorem IV_Ok {s : St} {b : Nat} (I : IV s b) : Ok s := by
  have l := IV_len I
  exact ⟨IV_Bz I, IV_Hr I, IV_Qw I, by omega, by omega⟩
theorem bmin_congr {f g f' g' : Nat → Nat} (n : Nat) : ∀ (b : Option Nat) (i : Nat), (∀ j j', i ≤ j → j < i + n → (b = some j' ∨ (i ≤ j' ∧ j' < i + n)) → g j = 0 → (b = some j' ∨ g j' = 0) → (f' j < f' j' ↔ f j < f j')) → (∀ j, i ≤ j → j < i + n → (g' j = 0 ↔ g j = 0)) → bmin f' g' b i n = bmin f g b i n := by
  induction n with
  | zero => intro b i _ _; rfl
  | succ n ih =>
    intro b i h1 h2
    unfold bmin
    have e2 := h2 i (by omega) (by omega)
    have ec : (if g' i = 0 ∧ (b = none ∨ f' i < f' (b.getD 0)) then some i else b) = (if g i = 0 ∧ (b = none ∨ f i < f (b.getD 0)) then some i else b) := by
      by_cases c : g i = 0
      · cases b with
        | none => rw [if_pos ⟨e2.mpr c, Or.inl rfl⟩, if_pos ⟨c, Or.inl rfl⟩]
        | some q =>
          have := h1 i q (by omega) (by omega) (Or.inl rfl) c (Or.inl rfl)
          show (if g' i = 0 ∧ (some q = none ∨ f' i < f' q) then some i else some q) = (if g i = 0 ∧ (some q = none ∨ f i < f q) then some i else some q)
          by_cases c3 : f i < f q
          · rw [if_pos ⟨e2.mpr c, Or.inr (this.mpr c3)⟩, if_pos ⟨c, Or.inr c3⟩]
          · rw [if_neg, if_neg]
            · rintro ⟨_, w | w⟩
              · cases w
              · exact c3 w
            · rintro ⟨_, w | w⟩
              · cases w
              · exact c3 (this.mp w)
      · rw [if_neg (fun w => c (e2.mp w.1)), if_neg (fun w => c w.1)]
    rw [ec]
    refine ih _ _ (fun j j' hj1 hj2 hj' hg hg' => ?_) (fun j hj1 hj2 => h2 j (by omega) (by omega))
    refine h1 j j' (by omega) (by omega) ?_ hg ?_
    · rcases hj' with w | w
      · split at w
        · have := Option.some.inj w; exact Or.inr (by omega)
        · exact Or.inl w
      · exact Or.inr (by omega)
    · rcases hg' with w | w
      · split at w
        · next c => have := Option.some.inj w; rw [← this]; exact Or.inr c.1
        · exact Or.inl w
      · exact Or.inr w
theorem uw_lt {s : St} (B : Bz s) {k : Nat} (u : uw s k) : k < 512 := by
  obtain ⟨u1, u2⟩ := u
  have := bz_hsets B
  omega
theorem IV_CH {s : St} {b : Nat} (I : IV s b) : CH s := by
  obtain ⟨⟨B, hb⟩, LW, M, LL, Rg, Q, W, D, O1, O2, O3, O4, O5, O6, O7, O8⟩ := I
  refine ⟨fun k hk h4 => ?_, fun k u h => Rg.2.2.1 k (uw_lt B u) h, fun k u h => Rg.2.2.2 k (uw_lt B u) h, fun l hl he => ?_⟩
  · have := O4 k hk (by omega) h4
    omega
  · have hs := hSet_le B l
    unfold sOld
    refine bmin_congr _ _ _ (fun j j' h1 h2 h3 _ _ => ?_) (fun _ _ _ => Iff.rfl)
    have e : ∀ q, hSet s l ≤ q → q < hSet s l + N s 0 5 → N s 4 q ≠ 0 := by
      intro q g1 g2
      have := fst_none.mp he q g1 g2
      simpa using this
    have j'b : hSet s l ≤ j' ∧ j' < hSet s l + N s 0 5 := by
      rcases h3 with w | w
      · cases w
      · exact w
    exact (O3 j j' (by omega) (by omega) (by omega) (by omega) (e j h1 h2) (e j' j'b.1 j'b.2)).symm
theorem IV_Tk {s : St} {b : Nat} (I : IV s b) {i : Nat} (hi : i < (Ql s).length) : TkOk s ((Ql s).getD i x0) := by
  obtain ⟨⟨B, hb⟩, ⟨L, W4'⟩, M, LL, Rg, Q, W, D, O⟩ := I
  have xm : (Ql s).getD i x0 ∈ Z s := List.mem_append_right _ (getD_mem hi)
  have w := M.2.1 _ xm
  have k2 := M.2.2 _ (getD_mem hi)
  refine ⟨fun k hk h8 hn => ⟨fun h6 => D.1 _ k hk h6, fun h6 => ?_⟩, fun hn => D.2.1 _ w.1 hn⟩
  have r := ((Q _ xm).1 (by omega)).1
  have c16 : mFr ((Ql s).getD i x0) < 16 := by obtain ⟨_, _, g⟩ := w; have := B.1.2; omega
  have LIl := LL _ w.1
  have e6 : hv s (mLi ((Ql s).getD i x0)) 6 = N s 6 k := by unfold hv; rw [hk]
  have e8 : hv s (mLi ((Ql s).getD i x0)) 8 = N s 8 k := by unfold hv; rw [hk]
  have eX : vX s (mLi ((Ql s).getD i x0)) = 1 := by unfold vX; rw [hk]
  obtain ⟨p0, p1, p2, p3, p3b, p4, p5, p6, p7, p8, p9, p10, p11, p12, p13, p14, p15, p16, p17⟩ := LIl
  rw [e6, e8, eX] at *
  obtain ⟨_, z⟩ := p6 rfl h8
  have vr : vR s (mFr ((Ql s).getD i x0)) = mLi ((Ql s).getD i x0) + 1 := by unfold vR; rw [if_pos c16]; exact r
  obtain ⟨q1, q2⟩ := p12 _ vr
  rcases p4 rfl _ h6 with w | w | w | w | w
  · omega
  · exact q2 w.1
  · have := z (mFr ((Ql s).getD i x0)); omega
  · have := z (mFr ((Ql s).getD i x0)); omega
  · have := z (mFr ((Ql s).getD i x0)); omega
theorem IV_OkC {s : St} {b : Nat} (I : IV s b) : OkC s := by
  have l := IV_len I
  exact ⟨IV_Bz I, IV_Hr I, IV_CH I, l.2, IV_Qw I, fun i hi => IV_Tk I hi, by omega⟩
theorem qFirst_lt {s : St} {set i : Nat} (h : qFirst s set = some i) : i < (Ql s).length := by
  have := fst_some h; omega
theorem IV_HT (b set : Nat) : HT (fun s => IV s b) set := fun s i I h1 h2 => (IV_take I (qFirst_lt h1)).1 h2
theorem IV_sGo {b set : Nat} (n : Nat) : ∀ s, IV s b → IV (sGo set n s) b := by
  induction n with
  | zero => intro s I; exact I
  | succ n ih =>
    intro s I
    unfold sGo
    cases e : qFirst s set with
    | none => exact I
    | some i =>
      obtain ⟨t1, t2⟩ := IV_take I (qFirst_lt e)
      show IV (if _ then _ else _) b
      by_cases c : (sTake s ((Ql s).getD i x0)).1 = true
      · rw [if_pos c]; exact ih _ (t1 c)
      · rw [if_neg c]; exact t2 (by simpa using c)
theorem IV_goOn {s : St} {b set : Nat} (I : IV s b) : IV (sGoOn s set) b := IV_sGo _ _ I
