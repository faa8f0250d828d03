/-! The state as one line sees it. -/
def tcode (x : Msg) : Nat := if mKi x = 5 ∧ mFi x = 1 then 11 else mKi x
def tk (s : St) (l c : Nat) : Nat := if c < 16 then (match mm s (32 + 16 * l + c) with | none => 0 | some x => tcode x) else 0
def vS (s : St) (l c : Nat) : Nat := if c < 16 then (match sWay s c l with | none => 0 | some k => N s 2 k) else 0
def vR (s : St) (c : Nat) : Nat := if c < 16 then N s 12 c else 0
def vF (s : St) (c : Nat) : Nat := if c < 16 then N s 13 c else 0
def vU (s : St) (c : Nat) : Nat := if c < 16 then (match mm s (16 + c) with | none => 0 | some x => if mKi x = 2 then 1 else 2) else 0
def hv (s : St) (l F : Nat) : Nat := match hWay s l with
  | none => 0
  | some k => N s F k
def vX (s : St) (l : Nat) : Nat := match hWay s l with
  | none => 0
  | some _ => 1
def vB (s : St) (l c : Nat) : Bool := (hv s l 7).testBit c
def LIs (s : St) (l : Nat) : Prop := LI (tk s l) (vS s l) (vR s) (vF s) (N s 14) (vU s) (vB s l) (vX s l) (hv s l 6) (hv s l 8) (hv s l 10) (hv s l 9) l
def wf (n : Nat) (x : Msg) : Prop := mLi x < 512 ∧ mFi x ≤ 1 ∧ ((mKi x = 0 ∨ mKi x = 1 ∨ mKi x = 2 ∨ mKi x = 5 ∨ mKi x = 10) ∧ mFr x < n ∧ mTo x = 16 ∨ (mKi x = 3 ∨ mKi x = 4 ∨ mKi x = 6 ∨ mKi x = 7 ∨ mKi x = 8 ∨ mKi x = 9) ∧ mFr x = 16 ∧ mTo x < n)
def pc (x : Msg) : Nat := if mKi x = 5 ∨ mKi x = 10 then mFr x else mTo x
def isP (x : Msg) : Prop := mKi x = 3 ∨ mKi x = 4 ∨ mKi x = 5 ∨ mKi x = 6 ∨ mKi x = 7 ∨ mKi x = 8 ∨ mKi x = 10
def Ms (s : St) : Prop := nk (Z s) ∧ (∀ x, x ∈ Z s → wf (N s 0 0) x) ∧ (∀ x, x ∈ Ql s → mKi x ≤ 2)
theorem key_p {x : Msg} (h : isP x) : key x = 32 + 16 * mLi x + pc x := by
  unfold key pc isP at *
  rw [if_neg (by omega), if_neg (by omega), if_neg (by omega)]
theorem pc_lt {n : Nat} {x : Msg} (w : wf n x) (hn : n ≤ 16) (h : isP x) : pc x < 16 := by
  unfold wf isP pc at *
  obtain ⟨h1, h2, h3⟩ := w
  split <;> omega
theorem key_lt {n : Nat} {x : Msg} (w : wf n x) (hn : n ≤ 16) : key x < 8224 := by
  unfold wf key at *
  obtain ⟨h1, h2, h3⟩ := w
  (repeat' split) <;> omega
/-- a key of a line tells kind, line and core -/
theorem key_inv {n : Nat} {x : Msg} (w : wf n x) (hn : n ≤ 16) {l c : Nat} (hc : c < 16) (e : key x = 32 + 16 * l + c) : isP x ∧ mLi x = l ∧ pc x = c := by
  obtain ⟨h1, h2, h3⟩ := w
  by_cases p : isP x
  · have := key_p p
    have := pc_lt ⟨h1, h2, h3⟩ hn p
    exact ⟨p, by omega, by omega⟩
  · exfalso
    unfold isP at p
    unfold key at e
    (repeat' split at e) <;> omega
theorem key_get {n : Nat} {x : Msg} (w : wf n x) (hn : n ≤ 16) {c : Nat} (hc : c < 16) (e : key x = c) : mKi x ≤ 1 ∧ mFr x = c := by
  obtain ⟨h1, h2, h3⟩ := w
  unfold key at e
  (repeat' split at e) <;> omega
theorem key_sh {n : Nat} {x : Msg} (w : wf n x) (hn : n ≤ 16) {c : Nat} (hc : c < 16) (e : key x = 16 + c) : (mKi x = 2 ∧ mFr x = c) ∨ (mKi x = 9 ∧ mTo x = c) := by
  obtain ⟨h1, h2, h3⟩ := w
  unfold key at e
  (repeat' split at e) <;> omega
theorem tk_of {s : St} (M : Ms s) (B : Bz s) {x : Msg} (h : x ∈ Z s) (p : isP x) : tk s (mLi x) (pc x) = tcode x := by
  have hc := pc_lt (M.2.1 x h) B.1.2 p
  have := mm_mem M.1 h
  rw [key_p p] at this
  unfold tk
  rw [if_pos hc, this]
theorem tk_ne {s : St} (M : Ms s) (B : Bz s) {l c : Nat} (h : tk s l c ≠ 0) : c < 16 ∧ ∃ x, x ∈ Pl s ∧ isP x ∧ mLi x = l ∧ pc x = c ∧ tk s l c = tcode x ∧ mm s (32 + 16 * l + c) = some x := by
  unfold tk at h ⊢
  by_cases hc : c < 16
  · rw [if_pos hc] at h ⊢
    cases e : mm s (32 + 16 * l + c) with
    | none => rw [e] at h; exact absurd rfl h
    | some x =>
      obtain ⟨h1, h2⟩ := mm_some e
      obtain ⟨p, e1, e2⟩ := key_inv (M.2.1 x h1) B.1.2 hc h2
      refine ⟨hc, x, ?_, p, e1, e2, rfl, rfl⟩
      rcases List.mem_append.mp h1 with g | g
      · exact g
      · have := M.2.2 x g
        unfold isP at p; omega
  · rw [if_neg hc] at h; exact absurd rfl h
theorem tcode_ne {x : Msg} (p : isP x) : tcode x ≠ 0 := by
  unfold tcode isP at *
  split <;> omega
/-! Slots and ways. -/
def Sl (s : St) : Prop := (∀ k, k < 512 → N s 2 k ≠ 0 → k / 32 < N s 0 0 ∧ N s 1 k < 512 ∧ sSet s (k / 32) (N s 1 k) ≤ k ∧ k < sSet s (k / 32) (N s 1 k) + N s 0 3) ∧ (∀ k k', k < 512 → k' < 512 → N s 2 k ≠ 0 → N s 2 k' ≠ 0 → k / 32 = k' / 32 → N s 1 k = N s 1 k' → k = k')
def Wl (s : St) : Prop := (∀ k, k < 512 → N s 4 k ≠ 0 → N s 4 k ≤ 512 ∧ hSet s (N s 4 k - 1) ≤ k ∧ k < hSet s (N s 4 k - 1) + N s 0 5) ∧ (∀ k k', k < 512 → k' < 512 → N s 4 k ≠ 0 → N s 4 k = N s 4 k' → k = k')
theorem sWay_iff {s : St} (B : Bz s) (L : Sl s) {c l k : Nat} (hc : c < 16) : sWay s c l = some k ↔ k < 512 ∧ k / 32 = c ∧ N s 2 k ≠ 0 ∧ N s 1 k = l := by
  have hs := sSet_le B c l
  constructor
  · intro e
    obtain ⟨h1, h2, h3, h4, h5⟩ := sWay_lt B hc e
    exact ⟨h1, by omega, by omega, h3⟩
  · rintro ⟨h1, h2, h3, h4⟩
    obtain ⟨g1, g2, g3, g4⟩ := L.1 k h1 h3
    rw [h2, h4] at g3 g4
    cases e : sWay s c l with
    | none =>
      have := fst_none.mp e k g3 g4
      simp only [Bool.and_eq_false_iff, decide_eq_false_iff_not] at this
      omega
    | some j =>
      obtain ⟨j1, j2, j3, j4, j5⟩ := sWay_lt B hc e
      rw [L.2 j k j1 h1 (by omega) h3 (by omega) (by omega)]
theorem hWay_iff {s : St} (B : Bz s) (L : Wl s) {l k : Nat} : hWay s l = some k ↔ k < 512 ∧ N s 4 k = l + 1 := by
  have hs := hSet_le B l
  constructor
  · intro e
    obtain ⟨h1, h2, h3, h4⟩ := hWay_lt B e
    exact ⟨h1, h2⟩
  · rintro ⟨h1, h2⟩
    obtain ⟨g1, g2, g3⟩ := L.1 k h1 (by omega)
    rw [h2, Nat.add_sub_cancel] at g2 g3
    cases e : hWay s l with
    | none =>
      have := fst_none.mp e k g2 g3
      simp only [decide_eq_false_iff_not] at this
      omega
    | some j =>
      obtain ⟨j1, j2, _, _⟩ := hWay_lt B e
      rw [L.2 j k j1 h1 (by omega) (by omega)]
theorem hWay_no {s : St} (B : Bz s) (L : Wl s) {l : Nat} : hWay s l = none ↔ ∀ k, k < 512 → N s 4 k ≠ l + 1 := by
  constructor
  · intro e k hk h
    have := (hWay_iff B L).mpr ⟨hk, h⟩
    rw [e] at this; cases this
  · intro h
    cases e : hWay s l with
    | none => rfl
    | some k =>
      have := (hWay_iff B L).mp e
      exact absurd this.2 (h k this.1)
theorem sWay_no {s : St} (B : Bz s) (L : Sl s) {c l : Nat} (hc : c < 16) : sWay s c l = none ↔ ∀ k, k < 512 → k / 32 = c → N s 2 k ≠ 0 → N s 1 k ≠ l := by
  constructor
  · intro e k h1 h2 h3 h4
    have := (sWay_iff B L hc).mpr ⟨h1, h2, h3, h4⟩
    rw [e] at this; cases this
  · intro h
    cases e : sWay s c l with
    | none => rfl
    | some k =>
      obtain ⟨h1, h2, h3, h4⟩ := (sWay_iff B L hc).mp e
      exact absurd h4 (h k h1 h2 h3)
theorem hv_of {s : St} (B : Bz s) (L : Wl s) {l k : Nat} (hk : k < 512) (h : N s 4 k = l + 1) (F : Nat) : hv s l F = N s F k := by
  unfold hv; rw [(hWay_iff B L).mpr ⟨hk, h⟩]
theorem vX_of {s : St} (B : Bz s) (L : Wl s) {l k : Nat} (hk : k < 512) (h : N s 4 k = l + 1) : vX s l = 1 := by
  unfold vX; rw [(hWay_iff B L).mpr ⟨hk, h⟩]
theorem vX_1 {s : St} {l : Nat} (h : vX s l = 1) : ∃ k, hWay s l = some k := by
  unfold vX at h
  cases e : hWay s l with
  | none => rw [e] at h; cases h
  | some k => exact ⟨k, rfl⟩
theorem vX_0 {s : St} {l : Nat} : vX s l = 0 ↔ hWay s l = none := by
  unfold vX
  cases hWay s l with
  | none => simp
  | some k => simp
theorem vS_of {s : St} (B : Bz s) (L : Sl s) {k : Nat} (hk : k < 512) (h : N s 2 k ≠ 0) : vS s (N s 1 k) (k / 32) = N s 2 k := by
  unfold vS; rw [if_pos (by omega), (sWay_iff B L (by omega)).mpr ⟨hk, rfl, h, rfl⟩]
theorem vS_ne {s : St} (B : Bz s) (L : Sl s) {l c : Nat} (h : vS s l c ≠ 0) : c < 16 ∧ ∃ k, k < 512 ∧ k / 32 = c ∧ N s 2 k ≠ 0 ∧ N s 1 k = l ∧ vS s l c = N s 2 k ∧ sWay s c l = some k := by
  unfold vS at h ⊢
  by_cases hc : c < 16
  · rw [if_pos hc] at h ⊢
    cases e : sWay s c l with
    | none => rw [e] at h; exact absurd rfl h
    | some k =>
      obtain ⟨h1, h2, h3, h4⟩ := (sWay_iff B L hc).mp e
      exact ⟨hc, k, h1, h2, h3, h4, rfl, rfl⟩
  · rw [if_neg hc] at h; exact absurd rfl h
/-! The invariant. -/
def Rn (s : St) : Prop := (∀ k, k < 512 → N s 1 k < 512 ∧ N s 2 k ≤ 3 ∧ N s 3 k ≤ 536870912 ∧ N s 4 k ≤ 512 ∧ N s 5 k ≤ 1 ∧ N s 6 k ≤ 16 ∧ N s 7 k < 65536 ∧ N s 8 k ≤ 17 ∧ N s 9 k ≤ 1 ∧ N s 10 k ≤ 16 ∧ N s 11 k ≤ 536870912 ∧ N s 21 k ≤ 536870912 ∧ N s 23 k ≤ N s 23 k) ∧
  (∀ c, c < 16 → N s 12 c ≤ 512 ∧ N s 13 c ≤ 512 ∧ N s 14 c ≤ 1 ∧ (N s 0 0 ≤ c → N s 12 c = 0 ∧ N s 13 c = 0)) ∧
  (∀ k, k < 512 → N s 4 k ≠ 0 → N s 6 k ≤ N s 0 0 ∧ N s 7 k < 2 ^ N s 0 0) ∧ (∀ k, k < 512 → N s 4 k = 0 → N s 8 k = 0)
def Rq (s : St) : Prop := ∀ x, x ∈ Z s → (mKi x ≤ 1 → N s 12 (mFr x) = mLi x + 1 ∧ ∀ l, vX s l = 1 → hv s l 8 = mFr x + 1 → tk s l (mFr x) = 10) ∧ (mKi x = 2 → N s 13 (mFr x) = mLi x + 1) ∧ (mKi x = 9 → N s 13 (mTo x) = mLi x + 1)
def Fw (s : St) : Prop := ∀ c l, c < 16 → N s 12 c = l + 1 → sWay s c l = none → sFree s c l ≠ none
def Da (s : St) : Prop := (∀ l k, hWay s l = some k → N s 6 k = 0 → Wda s 2 k = Wda s 0 l) ∧ (∀ l, l < 512 → hWay s l = none → Wda s 1 l = Wda s 0 l) ∧ (∀ l k, hWay s l = some k → N s 5 k = 0 → Wda s 2 k = Wda s 1 l) ∧
  (∀ x, x ∈ Z s → (mKi x = 6 ∨ mKi x = 7 ∨ mKi x = 8 → mWo x = Wda s 0 (mLi x)) ∧ (mKi x = 5 → mFi x = 1 → mWo x = Wda s 0 (mLi x)) ∧ (mKi x = 2 → N s 14 (mFr x) = 0 → mWo x = Wda s 0 (mLi x))) ∧
  (∀ k, k < 512 → N s 2 k ≠ 0 → Wda s 4 k = Wda s 0 (N s 1 k)) ∧ (∀ c l, c < 16 → N s 13 c = l + 1 → N s 14 c = 0 → vU s c ≠ 2 → Wda s 3 c = Wda s 0 l) ∧
  (∀ l k c, hWay s l = some k → tk s l c = 7 ∨ tk s l c = 8 → Wda s 2 k = Wda s 0 l)
def vQ (s : St) (c : Nat) : Nat := if c < 16 ∧ mm s c ≠ none then 1 else 0
def Od (s : St) (b e : Nat) : Prop := (∀ k k', k < 512 → k' < 512 → N s 2 k ≠ 0 → N s 2 k' ≠ 0 → k / 32 = k' / 32 → (N s 3 k < N s 3 k' ↔ N s 21 k < N s 21 k')) ∧ (∀ k, k < 512 → N s 2 k ≠ 0 → N s 3 k ≤ N s 16 0 ∧ N s 21 k ≤ N s 22 (k / 32)) ∧
  (∀ k k', k < 512 → k' < 512 → k ≠ e → k' ≠ e → N s 4 k ≠ 0 → N s 4 k' ≠ 0 → (N s 11 k < N s 11 k' ↔ N s 23 k < N s 23 k')) ∧ (∀ k, k < 512 → k ≠ e → N s 4 k ≠ 0 → N s 11 k ≤ N s 17 0 ∧ N s 23 k ≤ N s 24 0) ∧
  N s 16 0 + cn (vR s) 16 ≤ b ∧ N s 17 0 + cn (vQ s) 16 ≤ b ∧ (∀ c, c < 16 → N s 22 c ≤ N s 16 0) ∧ N s 24 0 ≤ N s 17 0
def IVe (s : St) (b e : Nat) : Prop := (Bz s ∧ b ≤ 536870912) ∧ (Sl s ∧ Wl s) ∧ Ms s ∧ (∀ l, l < 512 → LIs s l) ∧ Rn s ∧ Rq s ∧ Fw s ∧ Da s ∧ Od s b e
def IV (s : St) (b : Nat) : Prop := IVe s b 512
theorem IV_len {s : St} {b : Nat} (I : IV s b) : (Pl s).length + (Ql s).length ≤ 8224 ∧ (Ql s).length ≤ 32 := by
  obtain ⟨⟨B, _⟩, _, M, _⟩ := I
  constructor
  · have := nk_len (n := 8224) M.1 (fun x hx => key_lt (M.2.1 x hx) B.1.2)
    unfold Z at this
    rw [List.length_append] at this; exact this
  · refine nk_len (nk_app.mp M.1).2.1 (fun x hx => ?_)
    have w := M.2.1 x (List.mem_append_right _ hx)
    have k2 := M.2.2 x hx
    obtain ⟨h1, h2, h3⟩ := w
    have := B.1.2
    unfold key
    (repeat' split) <;> omega
