theorem sFree_ne {s : St} {c l k : Nat} (h1 : sSet s c l ≤ k) (h2 : k < sSet s c l + N s 0 3) (h3 : N s 2 k = 0) : sFree s c l ≠ none := by
  intro e
  have := fst_none.mp e k h1 h2
  simp only [decide_eq_false_iff_not] at this
  exact this h3
/-- the caches of other cores -/
theorem sWay_oth {s : St} (B : Bz s) {k v c : Nat} (hc : c ≠ k / 32) (l : Nat) : sWay (uN s 2 k v) c l = sWay s c l ∧ sFree (uN s 2 k v) c l = sFree s c l := by
  have hs := sSet_le B c l
  constructor
  · refine fst_congr (fun j h1 h2 => ?_)
    have h1' : sSet s c l ≤ j := h1
    have h2' : j < sSet s c l + N s 0 3 := h2
    show (decide (0 < N (uN s 2 k v) 2 j) && decide (N s 1 j = l)) = _
    rw [N_ne (by omega)]
  · refine fst_congr (fun j h1 h2 => ?_)
    have h1' : sSet s c l ≤ j := h1
    have h2' : j < sSet s c l + N s 0 3 := h2
    show decide (N (uN s 2 k v) 2 j = 0) = _
    rw [N_ne (by omega)]
theorem IV_evict {s : St} {b k : Nat} (I : IV s b) (hk : k < 512) (h1 : N s 2 k = 1) (hr : N s 12 (k / 32) = 0) : IV (uN s 2 k 0) b := by
  obtain ⟨⟨B, hb⟩, ⟨L, W4'⟩, M, LL, Rg, Q, W, D, O1, O2, O3, O4, O5, O6, O7, O8⟩ := I
  have h0 : N s 2 k ≠ 0 := by omega
  have L' := Sl_set (v := 0) L h0
  have im : ∀ j, N (uN s 2 k 0) 2 j ≠ 0 → N s 2 j ≠ 0 := by
    intro j hj; rw [N_uN] at hj; split at hj
    · exact absurd rfl hj
    · exact hj
  refine ⟨⟨B, hb⟩, ⟨L', W4'⟩, M, fun l hl => ?_, ⟨?_, Rg.2⟩, Q, ?_, ?_, ?_, ?_, O3, O4, O5, O6, O7, O8⟩
  · by_cases e : l = N s 1 k
    · refine LI_evict (c := k / 32) (LL l hl) ?_ ?_
      · rw [e, vS_of B L hk h0]; omega
      · intro d
        rw [vS_set B L hk h0]
        by_cases e2 : d = k / 32
        · rw [if_pos ⟨e2, e⟩, if_pos e2]
        · rw [if_neg (fun g => e2 g.1), if_neg e2]
    · refine LI_eq (LL l hl) (fun _ => rfl) (fun d => ?_) (fun _ => rfl) (fun _ => rfl) (fun _ => rfl) (fun _ => rfl) (fun _ => rfl) rfl rfl rfl rfl rfl
      rw [vS_set B L hk h0, if_neg (fun g => e g.2)]
  · intro j hj
    obtain ⟨a1, a2, a3⟩ := Rg.1 j hj
    refine ⟨a1, ?_, a3⟩
    rw [N_uN]; split <;> omega
  · intro c l hc h12
    by_cases e : c = k / 32
    · subst e
      have : N s 12 (k / 32) = l + 1 := h12
      omega
    · rw [(sWay_oth B e l).1, (sWay_oth B e l).2]; exact W c l hc h12
  · obtain ⟨d1, d2, d3, d4, d5, d6, d7⟩ := D
    exact ⟨d1, d2, d3, d4, fun j hj h => d5 j hj (im j h), d6, d7⟩
  · intro j j' hj hj' g g'
    exact O1 j j' hj hj' (im j g) (im j' g')
  · intro j hj g
    exact O2 j hj (im j g)
theorem key_PUT (c l : Nat) (w : W4) (f : Nat) : key (2, c, 16, l, f, w) = 16 + c := rfl
theorem key_GET {kd : Nat} (h : kd ≤ 1) (c l f : Nat) (w : W4) : key (kd, c, 16, l, f, w) = c := by
  unfold key; rw [if_pos (show mKi (kd, c, 16, l, f, w) ≤ 1 from h)]; rfl
theorem tk_mm {s t : St} {l c : Nat} (h : mm t (32 + 16 * l + c) = mm s (32 + 16 * l + c)) : tk t l c = tk s l c := by
  unfold tk; rw [h]
theorem vU_mm {s t : St} {c : Nat} (h : mm t (16 + c) = mm s (16 + c)) : vU t c = vU s c := by
  unfold vU; rw [h]
theorem IV_shelve {s : St} {b k : Nat} (I : IV s b) (hk : k < 512) (h2 : 2 ≤ N s 2 k) (hr : N s 12 (k / 32) = 0) (hf : N s 13 (k / 32) = 0) : IV (uN (sShelve s (k / 32) k) 2 k 0) b := by
  obtain ⟨⟨B, hb⟩, ⟨L, W4'⟩, M, LL, Rg, Q, W, D, O1, O2, O3, O4, O5, O6, O7, O8⟩ := I
  have h0 : N s 2 k ≠ 0 := by omega
  obtain ⟨g1, g2, g3, g4⟩ := L.1 k hk h0
  have c16 : k / 32 < 16 := by omega
  have L' : Sl (uN (sShelve s (k / 32) k) 2 k 0) := Sl_set (v := 0) L h0
  have im : ∀ j, N (uN (sShelve s (k / 32) k) 2 k 0) 2 j ≠ 0 → N s 2 j ≠ 0 := by
    intro j hj; rw [N_uN] at hj; split at hj
    · exact absurd rfl hj
    · exact hj
  -- nothing is on its way for this shelf
  have nx : ∀ x, x ∈ Z s → (mKi x = 2 → mFr x ≠ k / 32) ∧ (mKi x = 9 → mTo x ≠ k / 32) := by
    intro x hx
    refine ⟨fun g e => ?_, fun g e => ?_⟩
    · have := (Q x hx).2.1 g; rw [e] at this; omega
    · have := (Q x hx).2.2 g; rw [e] at this; omega
  have m0 : mm s (key (2, k / 32, 16, N s 1 k, 1, Wda s 0 (N s 1 k))) = none := by
    rw [key_PUT, mm_none]
    intro x hx e
    rcases key_sh (M.2.1 x hx) B.1.2 c16 e with g | g
    · exact (nx x hx).1 g.1 g.2
    · exact (nx x hx).2 g.1 g.2
  have Zp : ∀ y, y ∈ Z (uN (sShelve s (k / 32) k) 2 k 0) ↔ y ∈ Z s ∨ y = (2, k / 32, 16, N s 1 k, 1, Wda s 0 (N s 1 k)) := fun y => Z_post s _ y
  have mp' : ∀ κ, mm (uN (sShelve s (k / 32) k) 2 k 0) κ = if κ = 16 + k / 32 then some (2, k / 32, 16, N s 1 k, 1, Wda s 0 (N s 1 k)) else mm s κ := fun κ => mm_post M.1 m0 κ
  have n13 : ∀ c, N (uN (sShelve s (k / 32) k) 2 k 0) 13 c = if c = k / 32 then N s 1 k + 1 else N s 13 c := by
    intro c
    rw [N_ne (by omega)]
    unfold sShelve
    rw [N_post, N_uW, N_ne (by omega), N_uN]
    by_cases e : c = k / 32
    · rw [if_pos ⟨rfl, e⟩, if_pos e]
    · rw [if_neg (fun g => e g.2), if_neg e]
  have n14 : ∀ c, N (uN (sShelve s (k / 32) k) 2 k 0) 14 c = if c = k / 32 then 0 else N s 14 c := by
    intro c
    rw [N_ne (by omega)]
    unfold sShelve
    rw [N_post, N_uW, N_uN]
    by_cases e : c = k / 32
    · rw [if_pos ⟨rfl, e⟩, if_pos e]
    · rw [if_neg (fun g => e g.2), if_neg e, N_ne (by omega)]
  have vs : ∀ l c, vS (uN (sShelve s (k / 32) k) 2 k 0) l c = if c = k / 32 ∧ l = N s 1 k then 0 else vS s l c := fun l c => vS_set B L hk h0 l c
  have tks : ∀ l c, tk (uN (sShelve s (k / 32) k) 2 k 0) l c = tk s l c := by
    intro l c
    refine tk_mm ?_
    rw [mp', if_neg (by omega)]
  have vu : ∀ c, vU (uN (sShelve s (k / 32) k) 2 k 0) c = if c = k / 32 then 1 else vU s c := by
    intro c
    by_cases e : c = k / 32
    · rw [if_pos e]; unfold vU; rw [if_pos (by omega), mp', if_pos (by omega)]; rfl
    · rw [if_neg e]; exact vU_mm (by rw [mp', if_neg (by omega)])
  have vf : ∀ c, vF (uN (sShelve s (k / 32) k) 2 k 0) c = if c = k / 32 then N s 1 k + 1 else vF s c := by
    intro c
    by_cases e : c = k / 32
    · rw [if_pos e]; unfold vF; rw [if_pos (by omega), n13, if_pos e]
    · rw [if_neg e]; unfold vF; rw [n13, if_neg e]
  have vf0 : vF s (k / 32) = 0 := by unfold vF; rw [if_pos c16]; exact hf
  refine ⟨⟨B, hb⟩, ⟨L', W4'⟩, ⟨nk_post M.1 m0, fun x hx => ?_, M.2.2⟩, fun l hl => ?_, ⟨?_, ?_, Rg.2.2⟩, ?_, ?_, ?_, ?_, ?_, O3, O4, O5, ?_, O7, O8⟩
  · rcases (Zp x).mp hx with g | g
    · exact M.2.1 x g
    · subst g
      exact ⟨g2, Nat.le_refl 1, Or.inl ⟨Or.inr (Or.inr (Or.inl rfl)), g1, rfl⟩⟩
  · by_cases e : l = N s 1 k
    · subst e
      refine LI_eq (LI_shelve (c := k / 32) (S' := fun d => if d = k / 32 then 0 else vS s (N s 1 k) d) (F' := fun d => if d = k / 32 then N s 1 k + 1 else vF s d) (G' := fun d => if d = k / 32 then 0 else N s 14 d) (U' := fun d => if d = k / 32 then 1 else vU s d) (LL _ hl) ?_ ?_ (fun _ => rfl) (fun _ => rfl) (fun _ => rfl) (fun _ => rfl)) (fun d => tks _ d) (fun d => ?_) (fun _ => rfl) (fun d => vf d) (fun d => n14 d) (fun d => vu d) (fun _ => rfl) rfl rfl rfl rfl rfl
      · rw [vS_of B L hk h0]; exact h2
      · unfold vR; rw [if_pos c16]; exact hr
      · rw [vs]
        by_cases e2 : d = k / 32
        · rw [if_pos ⟨e2, rfl⟩]; show 0 = if d = k / 32 then 0 else _; rw [if_pos e2]
        · rw [if_neg (fun g => e2 g.1)]; show _ = if d = k / 32 then 0 else _; rw [if_neg e2]
    · refine LI_frame (LL l hl) (fun d => tks l d) (fun d => by rw [vs, if_neg (fun g => e g.2)]) (fun _ => rfl) (fun d => ?_) (fun d hd => ?_) (fun d hd => hd) (fun d _ _ _ _ hd => hd)
      · rw [vf]
        by_cases e2 : d = k / 32
        · rw [if_pos e2, e2, vf0]; omega
        · rw [if_neg e2]
      · have e2 : d ≠ k / 32 := by rintro rfl; rw [vf0] at hd; omega
        rw [n14, if_neg e2, vu, if_neg e2]
        exact ⟨rfl, Iff.rfl⟩
  · intro j hj
    obtain ⟨a1, a2, a3⟩ := Rg.1 j hj
    refine ⟨a1, ?_, a3⟩
    rw [N_uN]; split
    · omega
    · exact a2
  · intro c hc
    obtain ⟨a1, a2, a3, a4⟩ := Rg.2.1 c hc
    refine ⟨a1, ?_, ?_, fun g => ⟨(a4 g).1, ?_⟩⟩
    · rw [n13]; split <;> omega
    · rw [n14]; split <;> omega
    · rw [n13, if_neg]
      · exact (a4 g).2
      · intro e
        have : N s 0 0 ≤ c := g
        omega
  · intro x hx
    rcases (Zp x).mp hx with g | g
    · obtain ⟨q1, q2, q3⟩ := Q x g
      refine ⟨fun h => ⟨(q1 h).1, fun l hX hA => ?_⟩, fun h => ?_, fun h => ?_⟩
      · rw [tks]; exact (q1 h).2 l hX hA
      · rw [n13, if_neg ((nx x g).1 h)]; exact q2 h
      · rw [n13, if_neg ((nx x g).2 h)]; exact q3 h
    · subst g
      refine ⟨fun h => ?_, fun _ => ?_, fun h => ?_⟩
      · exact absurd h (by show ¬ 2 ≤ 1; omega)
      · rw [n13, if_pos (show mFr (2, k / 32, 16, N s 1 k, 1, Wda s 0 (N s 1 k)) = k / 32 from rfl)]; rfl
      · exact absurd h (by show ¬ 2 = 9; omega)
  · intro c l hc h12
    by_cases e : c = k / 32
    · subst e
      have : N s 12 (k / 32) = l + 1 := h12
      omega
    · have := sWay_oth (s := sShelve s (k / 32) k) (v := 0) B e l
      rw [this.1, this.2]; exact W c l hc h12
  · obtain ⟨d1, d2, d3, d4, d5, d6, d7⟩ := D
    refine ⟨d1, d2, d3, fun x hx => ?_, fun j hj h => d5 j hj (im j h), fun c l hc h13 h14 hu => ?_, fun l j c hw ht => ?_⟩
    · rcases (Zp x).mp hx with g | g
      · obtain ⟨q1, q2, q3⟩ := d4 x g
        refine ⟨q1, q2, fun h h14 => ?_⟩
        rw [n14, if_neg ((nx x g).1 h)] at h14
        exact q3 h h14
      · subst g
        exact ⟨fun _ => rfl, fun _ _ => rfl, fun _ _ => rfl⟩
    · rw [n13] at h13
      by_cases e : c = k / 32
      · rw [if_pos e] at h13
        have el : l = N s 1 k := by omega
        subst el
        show Wda (sShelve s (k / 32) k) 3 c = Wda s 0 (N s 1 k)
        rw [← d5 k hk h0]
        unfold sShelve
        show Wda (uW _ 3 (k / 32) (Wda s 4 k)) 3 c = _
        rw [W_uW, if_pos ⟨rfl, e⟩]
      · rw [if_neg e] at h13
        rw [n14, if_neg e] at h14
        rw [vu, if_neg e] at hu
        show Wda (sShelve s (k / 32) k) 3 c = Wda s 0 l
        unfold sShelve
        show Wda (uW _ 3 (k / 32) (Wda s 4 k)) 3 c = _
        rw [W_ne (by omega)]
        exact d6 c l hc h13 h14 hu
    · rw [tks] at ht; exact d7 l j c hw ht
  · intro j j' hj hj' g g'
    exact O1 j j' hj hj' (im j g) (im j' g')
  · intro j hj g
    exact O2 j hj (im j g)
  · have : cn (vQ (uN (sShelve s (k / 32) k) 2 k 0)) 16 = cn (vQ s) 16 := by
      refine cn_congr (fun c hc => ?_)
      have e : mm (uN (sShelve s (k / 32) k) 2 k 0) c = mm s c := by rw [mp', if_neg (by omega)]
      unfold vQ
      rw [e]
    rw [this]; exact O6
theorem cn_inc {T T' : Nat → Nat} {n c : Nat} (h3 : ∀ d, d ≠ c → (T' d = 0 ↔ T d = 0)) : cn T' n ≤ cn T n + 1 := by
  induction n with
  | zero => show 0 ≤ 0 + 1; omega
  | succ n ih =>
    unfold cn
    by_cases e : n = c
    · subst e
      have := cn_congr (T := T) (T' := T') (n := n) (fun d hd => h3 d (by omega))
      rw [this]
      split <;> split <;> omega
    · have := h3 n e
      split <;> split <;> omega
theorem IV_req {s : St} {b c l kd : Nat} (I : IV s b) (hc : c < N s 0 0) (hl : l < 512) (hkd : kd ≤ 1) (hr : N s 12 c = 0) (hf : N s 13 c ≠ l + 1) (hs : vS s l c ≤ 1) (hw : sWay s c l = none → sFree s c l ≠ none) (hb' : b + 1 ≤ 536870912) : IV (sReq s c l kd) (b + 1) := by
  obtain ⟨⟨B, hb⟩, ⟨L, W4'⟩, M, LL, Rg, Q, W, D, O1, O2, O3, O4, O5, O6, O7, O8⟩ := I
  have c16 : c < 16 := by have := B.1.2; omega
  have nx : ∀ x, x ∈ Z s → mKi x ≤ 1 → mFr x ≠ c := by
    intro x hx g e
    have := ((Q x hx).1 g).1; rw [e] at this; omega
  have m0 : mm s (key (kd, c, 16, l, 0, w0)) = none := by
    rw [key_GET hkd, mm_none]
    intro x hx e
    have := key_get (M.2.1 x hx) B.1.2 c16 e
    exact nx x hx this.1 this.2
  have Zp : ∀ y, y ∈ Z (sReq s c l kd) ↔ y ∈ Z s ∨ y = (kd, c, 16, l, 0, w0) := fun y => Z_post s _ y
  have mp' : ∀ κ, mm (sReq s c l kd) κ = if κ = c then some (kd, c, 16, l, 0, w0) else mm s κ := by
    intro κ
    have := mm_post M.1 m0 κ
    rw [key_GET hkd] at this
    exact this
  have n12 : ∀ d, N (sReq s c l kd) 12 d = if d = c then l + 1 else N s 12 d := by
    intro d; unfold sReq; rw [N_ne (by omega), N_uN]
    by_cases e : d = c
    · rw [if_pos ⟨rfl, e⟩, if_pos e]
    · rw [if_neg (fun g => e g.2), if_neg e]; rfl
  have tks : ∀ l' d, tk (sReq s c l kd) l' d = tk s l' d := fun l' d => tk_mm (by rw [mp', if_neg (by omega)])
  have vu : ∀ d, vU (sReq s c l kd) d = vU s d := fun d => vU_mm (by rw [mp', if_neg (by omega)])
  have vr : ∀ d, vR (sReq s c l kd) d = if d = c then l + 1 else vR s d := by
    intro d; unfold vR; rw [n12]
    by_cases e : d = c
    · rw [if_pos e, if_pos e, if_pos (by omega)]
    · rw [if_neg e, if_neg e]
  have vr0 : vR s c = 0 := by unfold vR; rw [if_pos c16]; exact hr
  have sv : ∀ l' d, vS (sReq s c l kd) l' d = vS s l' d := fun _ _ => rfl
  refine ⟨⟨B, hb'⟩, ⟨L, W4'⟩, ⟨nk_post M.1 m0, fun x hx => ?_, M.2.2⟩, fun l' hl' => ?_, ⟨Rg.1, ?_, Rg.2.2⟩, ?_, ?_, ?_, O1, O2, O3, O4, ?_, ?_, O7, O8⟩
  · rcases (Zp x).mp hx with g | g
    · exact M.2.1 x g
    · subst g
      refine ⟨hl, Nat.zero_le 1, Or.inl ⟨?_, hc, rfl⟩⟩
      show kd = 0 ∨ kd = 1 ∨ _
      omega
  · by_cases e : l' = l
    · subst e
      refine LI_eq (LI_req (c := c) (R' := fun d => if d = c then l' + 1 else vR s d) (LL _ hl') hs (by unfold vF; rw [if_pos c16]; exact hf) (fun _ => rfl)) (fun d => tks _ d) (fun d => sv _ d) (fun d => vr d) (fun _ => rfl) (fun _ => rfl) (fun d => vu d) (fun _ => rfl) rfl rfl rfl rfl rfl
    · refine LI_frame (LL l' hl') (fun d => tks l' d) (fun d => sv _ d) (fun _ => rfl) (fun d => Iff.rfl) (fun d hd => ⟨rfl, by rw [vu]⟩) (fun d hd => ?_) (fun d _ _ _ _ hd => ?_)
      · rw [vr] at hd
        by_cases e2 : d = c
        · rw [if_pos e2] at hd; omega
        · rw [if_neg e2] at hd; exact hd
      · rw [vr]
        by_cases e2 : d = c
        · rw [e2, vr0] at hd; omega
        · rw [if_neg e2]; exact hd
  · intro d hd
    obtain ⟨a1, a2, a3, a4⟩ := Rg.2.1 d hd
    refine ⟨?_, a2, a3, fun g => ⟨?_, (a4 g).2⟩⟩
    · rw [n12]; split <;> omega
    · rw [n12, if_neg]
      · exact (a4 g).1
      · intro e
        have : N s 0 0 ≤ d := g
        omega
  · intro x hx
    rcases (Zp x).mp hx with g | g
    · obtain ⟨q1, q2, q3⟩ := Q x g
      refine ⟨fun h => ⟨?_, fun l' hX hA => ?_⟩, q2, q3⟩
      · rw [n12, if_neg (nx x g h)]; exact (q1 h).1
      · rw [tks]; exact (q1 h).2 l' hX hA
    · subst g
      refine ⟨fun h => ⟨by rw [n12, if_pos (show mFr (kd, c, 16, l, 0, w0) = c from rfl)]; rfl, fun l' hX hA => ?_⟩, fun h => ?_, fun h => ?_⟩
      · rw [tks]
        obtain ⟨k, ek⟩ := vX_1 (show vX s l' = 1 from hX)
        obtain ⟨hk, h4⟩ := (hWay_iff B W4').mp ek
        have hl' : l' < 512 := by have := (Rg.1 k hk).2.2.2.1; omega
        obtain ⟨p0, p1, p2, p3, p3b, p4, p5, p6, p7, p8, p9, p10, p11, _⟩ := LL l' hl'
        by_cases e : tk s l' c = 10
        · exact e
        · have := p11 hX c hA c16 e
          rw [vr0] at this; omega
      · exact absurd h (by show ¬ kd = 2; omega)
      · exact absurd h (by show ¬ kd = 9; omega)
  · intro d l' hd h12
    rw [n12] at h12
    by_cases e : d = c
    · rw [if_pos e] at h12
      have : l' = l := by omega
      subst this; subst e
      exact hw
    · rw [if_neg e] at h12; exact W d l' hd h12
  · obtain ⟨d1, d2, d3, d4, d5, d6, d7⟩ := D
    refine ⟨d1, d2, d3, fun x hx => ?_, d5, fun d l' hd h13 h14 hu => ?_, fun l' j d hw ht => ?_⟩
    · rcases (Zp x).mp hx with g | g
      · exact d4 x g
      · subst g
        refine ⟨fun h => ?_, fun h => ?_, fun h => ?_⟩
        · exact absurd h (by show ¬ (kd = 6 ∨ kd = 7 ∨ kd = 8); omega)
        · exact absurd h (by show ¬ kd = 5; omega)
        · exact absurd h (by show ¬ kd = 2; omega)
    · rw [vu] at hu; exact d6 d l' hd h13 h14 hu
    · rw [tks] at ht; exact d7 l' j d hw ht
  · have : cn (vR (sReq s c l kd)) 16 ≤ cn (vR s) 16 + 1 := cn_inc (c := c) (fun d hd => by rw [vr, if_neg hd])
    show N s 16 0 + cn (vR (sReq s c l kd)) 16 ≤ b + 1
    omega
  · have : cn (vQ (sReq s c l kd)) 16 ≤ cn (vQ s) 16 + 1 := cn_inc (c := c) (fun d hd => by
      have e : mm (sReq s c l kd) d = mm s d := by rw [mp', if_neg hd]
      unfold vQ; rw [e])
    show N s 17 0 + cn (vQ (sReq s c l kd)) 16 ≤ b + 1
    omega
