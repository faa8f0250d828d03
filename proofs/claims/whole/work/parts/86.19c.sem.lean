/-! Messages by their keys: no two of one key wait. -/
def key (x : Msg) : Nat := if mKi x ≤ 1 then mFr x else if mKi x = 2 then 16 + mFr x else if mKi x = 9 then 16 + mTo x else 32 + 16 * mLi x + (if mKi x = 5 ∨ mKi x = 10 then mFr x else mTo x)
def ak (κ : Nat) : List Msg → Option Msg
  | [] => none
  | x :: L => if key x = κ then some x else ak κ L
def nk : List Msg → Prop
  | [] => True
  | x :: L => ak (key x) L = none ∧ nk L
theorem getD_lt {L : List Msg} {i : Nat} (h : i < L.length) : L.getD i x0 = L[i] := by
  simp [List.getD, List.getElem?_eq_getElem h]
theorem ak_some {κ : Nat} {L : List Msg} {x : Msg} (h : ak κ L = some x) : x ∈ L ∧ key x = κ := by
  induction L with
  | nil => cases h
  | cons y L ih =>
    unfold ak at h
    split at h
    · next e => obtain rfl := Option.some.inj h; exact ⟨List.mem_cons_self, e⟩
    · have := ih h; exact ⟨List.mem_cons_of_mem _ this.1, this.2⟩
theorem ak_none {κ : Nat} {L : List Msg} : ak κ L = none ↔ ∀ x, x ∈ L → key x ≠ κ := by
  induction L with
  | nil => simp [ak]
  | cons y L ih =>
    unfold ak
    constructor
    · intro h x hx
      split at h
      · cases h
      · next e =>
        rcases List.mem_cons.mp hx with rfl | hx
        · exact e
        · exact ih.mp h x hx
    · intro h
      rw [if_neg (h y List.mem_cons_self)]
      exact ih.mpr (fun x hx => h x (List.mem_cons_of_mem _ hx))
theorem ak_mem {L : List Msg} {x : Msg} (n : nk L) (h : x ∈ L) : ak (key x) L = some x := by
  induction L with
  | nil => cases h
  | cons y L ih =>
    unfold ak
    rcases List.mem_cons.mp h with rfl | hx
    · rw [if_pos rfl]
    · rw [if_neg]
      · exact ih n.2 hx
      · intro e
        exact ak_none.mp n.1 x hx e.symm
theorem ak_app (κ : Nat) (L M : List Msg) : ak κ (L ++ M) = match ak κ L with | some x => some x | none => ak κ M := by
  induction L with
  | nil => rfl
  | cons y L ih =>
    show (if key y = κ then some y else ak κ (L ++ M)) = match (if key y = κ then some y else ak κ L) with | some x => some x | none => ak κ M
    by_cases e : key y = κ
    · rw [if_pos e, if_pos e]
    · rw [if_neg e, if_neg e]; exact ih
theorem nk_app {L M : List Msg} : nk (L ++ M) ↔ nk L ∧ nk M ∧ ∀ x, x ∈ L → ak (key x) M = none := by
  induction L with
  | nil => exact ⟨fun h => ⟨trivial, h, fun x hx => by cases hx⟩, fun h => h.2.1⟩
  | cons y L ih =>
    show ak (key y) (L ++ M) = none ∧ nk (L ++ M) ↔ (ak (key y) L = none ∧ nk L) ∧ _
    rw [ih, ak_app]
    constructor
    · rintro ⟨h1, h2, h3, h4⟩
      cases e : ak (key y) L with
      | some z => rw [e] at h1; cases h1
      | none =>
        rw [e] at h1
        refine ⟨⟨rfl, h2⟩, h3, fun x hx => ?_⟩
        rcases List.mem_cons.mp hx with rfl | hx
        · exact h1
        · exact h4 x hx
    · rintro ⟨⟨h1, h2⟩, h3, h4⟩
      rw [h1]
      exact ⟨h4 y List.mem_cons_self, h2, h3, fun x hx => h4 x (List.mem_cons_of_mem _ hx)⟩
theorem mem_erase_iff {L : List Msg} : ∀ {i : Nat} {x : Msg}, nk L → i < L.length → (x ∈ L.eraseIdx i ↔ x ∈ L ∧ key x ≠ key (L.getD i x0)) := by
  induction L with
  | nil => intro i x _ h; simp at h
  | cons y L ih =>
    intro i x n hi
    cases i with
    | zero =>
      show x ∈ L ↔ x ∈ y :: L ∧ key x ≠ key y
      constructor
      · intro h; exact ⟨List.mem_cons_of_mem _ h, ak_none.mp n.1 x h⟩
      · rintro ⟨h1, h2⟩
        rcases List.mem_cons.mp h1 with rfl | h1
        · exact absurd rfl h2
        · exact h1
    | succ i =>
      have hi' : i < L.length := by simpa using hi
      show x ∈ y :: L.eraseIdx i ↔ x ∈ y :: L ∧ key x ≠ key (L.getD i x0)
      have gm : L.getD i x0 ∈ L := by
        rw [getD_lt hi']; exact List.getElem_mem hi'
      rw [List.mem_cons, List.mem_cons, ih n.2 hi']
      constructor
      · rintro (rfl | h)
        · exact ⟨Or.inl rfl, fun e => ak_none.mp n.1 _ gm e.symm⟩
        · exact ⟨Or.inr h.1, h.2⟩
      · rintro ⟨rfl | h, h2⟩
        · exact Or.inl rfl
        · exact Or.inr ⟨h, h2⟩
theorem nk_erase {L : List Msg} : ∀ {i : Nat}, nk L → nk (L.eraseIdx i) := by
  induction L with
  | nil => intro i n; exact n
  | cons y L ih =>
    intro i n
    cases i with
    | zero => exact n.2
    | succ i =>
      refine ⟨?_, ih n.2⟩
      rw [ak_none]
      intro x hx
      exact ak_none.mp n.1 x (List.mem_of_mem_eraseIdx hx)
theorem getD_mem {L : List Msg} {i : Nat} (h : i < L.length) : L.getD i x0 ∈ L := by
  rw [getD_lt h]; exact List.getElem_mem h
/-- keys below n: at most n messages -/
theorem nk_len {n : Nat} : ∀ {L : List Msg}, nk L → (∀ x, x ∈ L → key x < n) → L.length ≤ n := by
  induction n with
  | zero =>
    intro L _ h
    cases L with
    | nil => simp
    | cons y L => exact absurd (h y List.mem_cons_self) (by omega)
  | succ n ih =>
    intro L nkL h
    by_cases e : ∃ i, i < L.length ∧ key (L.getD i x0) = n
    · obtain ⟨i, hi, hk⟩ := e
      have := ih (L := L.eraseIdx i) (nk_erase nkL) (fun x hx => by
        have := (mem_erase_iff nkL hi).mp hx
        have := h x this.1
        rw [hk] at *
        omega)
      rw [List.length_eraseIdx_of_lt hi] at this
      omega
    · have := ih nkL (fun x hx => by
        have h1 := h x hx
        obtain ⟨i, hi, rfl⟩ := List.getElem_of_mem hx
        have : key L[i] ≠ n := fun g => e ⟨i, hi, by rw [getD_lt hi]; exact g⟩
        omega)
      omega
/-! The pool and what waits, together. -/
def Z (s : St) : List Msg := Pl s ++ Ql s
def mm (s : St) (κ : Nat) : Option Msg := ak κ (Z s)
theorem mm_some {s : St} {κ : Nat} {x : Msg} (h : mm s κ = some x) : x ∈ Z s ∧ key x = κ := ak_some h
theorem mm_none {s : St} {κ : Nat} : mm s κ = none ↔ ∀ x, x ∈ Z s → key x ≠ κ := ak_none
theorem mm_mem {s : St} (n : nk (Z s)) {x : Msg} (h : x ∈ Z s) : mm s (key x) = some x := ak_mem n h
/-- two lists with the same members under keys -/
theorem ak_ext {L M : List Msg} (nL : nk L) (nM : nk M) {κ : Nat} (h : ∀ x, key x = κ → (x ∈ L ↔ x ∈ M)) : ak κ L = ak κ M := by
  cases e : ak κ L with
  | some x =>
    obtain ⟨h1, h2⟩ := ak_some e
    have := ak_mem nM ((h x h2).mp h1)
    rw [h2] at this; exact this.symm
  | none =>
    cases e2 : ak κ M with
    | none => rfl
    | some x =>
      obtain ⟨h1, h2⟩ := ak_some e2
      exact absurd h2 (ak_none.mp e x ((h x h2).mpr h1))
theorem nk_post {s : St} (n : nk (Z s)) {x : Msg} (h : mm s (key x) = none) : nk (Z (sPost s x)) := by
  have h' := ak_none.mp h
  obtain ⟨n1, n2, n3⟩ := nk_app.mp n
  refine nk_app.mpr ⟨?_, n2, ?_⟩
  · refine nk_app.mpr ⟨n1, ⟨rfl, trivial⟩, fun y hy => ?_⟩
    rw [ak_none]
    intro z hz
    rw [List.mem_singleton] at hz
    subst hz
    intro e
    exact h' y (List.mem_append_left _ hy) e.symm
  · intro y hy
    rcases List.mem_append.mp hy with hy | hy
    · exact n3 y hy
    · rw [List.mem_singleton] at hy
      subst hy
      rw [ak_none]
      intro z hz
      exact h' z (List.mem_append_right _ hz)
theorem Z_post (s : St) (x y : Msg) : y ∈ Z (sPost s x) ↔ y ∈ Z s ∨ y = x := by
  show y ∈ (Pl s ++ [x]) ++ Ql s ↔ y ∈ Pl s ++ Ql s ∨ y = x
  simp only [List.mem_append, List.mem_singleton]
  constructor
  · rintro ((h | h) | h)
    · exact Or.inl (Or.inl h)
    · exact Or.inr h
    · exact Or.inl (Or.inr h)
  · rintro ((h | h) | h)
    · exact Or.inl (Or.inl h)
    · exact Or.inr h
    · exact Or.inl (Or.inr h)
theorem mm_post {s : St} (n : nk (Z s)) {x : Msg} (h : mm s (key x) = none) (κ : Nat) : mm (sPost s x) κ = if κ = key x then some x else mm s κ := by
  have n' := nk_post n h
  by_cases e : κ = key x
  · subst e
    rw [if_pos rfl]
    exact mm_mem n' ((Z_post s x x).mpr (Or.inr rfl))
  · rw [if_neg e]
    apply ak_ext n' n
    intro y hy
    rw [Z_post]
    constructor
    · rintro (g | g)
      · exact g
      · subst g; exact absurd hy.symm e
    · exact Or.inl
theorem nk_out {s : St} (n : nk (Z s)) (i : Nat) : nk (Z (sOut s i)) := by
  obtain ⟨n1, n2, n3⟩ := nk_app.mp n
  refine nk_app.mpr ⟨nk_erase n1, n2, fun x hx => n3 x (List.mem_of_mem_eraseIdx hx)⟩
theorem Z_out {s : St} (n : nk (Z s)) {i : Nat} (hi : i < (Pl s).length) (y : Msg) : y ∈ Z (sOut s i) ↔ y ∈ Z s ∧ key y ≠ key ((Pl s).getD i x0) := by
  obtain ⟨n1, n2, n3⟩ := nk_app.mp n
  show y ∈ (Pl s).eraseIdx i ++ Ql s ↔ y ∈ Pl s ++ Ql s ∧ _
  rw [List.mem_append, List.mem_append, mem_erase_iff n1 hi]
  constructor
  · rintro (h | h)
    · exact ⟨Or.inl h.1, h.2⟩
    · exact ⟨Or.inr h, fun e => ak_none.mp (n3 _ (getD_mem hi)) y h e⟩
  · rintro ⟨h | h, h2⟩
    · exact Or.inl ⟨h, h2⟩
    · exact Or.inr h
theorem mm_out {s : St} (n : nk (Z s)) {i : Nat} (hi : i < (Pl s).length) (κ : Nat) : mm (sOut s i) κ = if κ = key ((Pl s).getD i x0) then none else mm s κ := by
  by_cases e : κ = key ((Pl s).getD i x0)
  · rw [if_pos e, mm_none]
    intro y hy g
    exact ((Z_out n hi y).mp hy).2 (g.trans e)
  · rw [if_neg e]
    apply ak_ext (nk_out n i) n
    intro y hy
    rw [Z_out n hi]
    exact ⟨fun g => g.1, fun g => ⟨g, fun g2 => e (hy.symm.trans g2)⟩⟩
theorem nk_take {s : St} (n : nk (Z s)) (i : Nat) : nk (Z (uQ s ((Ql s).eraseIdx i))) := by
  obtain ⟨n1, n2, n3⟩ := nk_app.mp n
  refine nk_app.mpr ⟨n1, nk_erase n2, fun x hx => ?_⟩
  rw [ak_none]
  intro y hy
  exact ak_none.mp (n3 x hx) y (List.mem_of_mem_eraseIdx hy)
theorem Z_take {s : St} (n : nk (Z s)) {i : Nat} (hi : i < (Ql s).length) (y : Msg) : y ∈ Z (uQ s ((Ql s).eraseIdx i)) ↔ y ∈ Z s ∧ key y ≠ key ((Ql s).getD i x0) := by
  obtain ⟨n1, n2, n3⟩ := nk_app.mp n
  show y ∈ Pl s ++ (Ql s).eraseIdx i ↔ y ∈ Pl s ++ Ql s ∧ _
  rw [List.mem_append, List.mem_append, mem_erase_iff n2 hi]
  constructor
  · rintro (h | h)
    · exact ⟨Or.inl h, fun e => ak_none.mp (n3 y h) _ (getD_mem hi) e.symm⟩
    · exact ⟨Or.inr h.1, h.2⟩
  · rintro ⟨h | h, h2⟩
    · exact Or.inl h
    · exact Or.inr ⟨h, h2⟩
theorem mm_take {s : St} (n : nk (Z s)) {i : Nat} (hi : i < (Ql s).length) (κ : Nat) : mm (uQ s ((Ql s).eraseIdx i)) κ = if κ = key ((Ql s).getD i x0) then none else mm s κ := by
  by_cases e : κ = key ((Ql s).getD i x0)
  · rw [if_pos e, mm_none]
    intro y hy g
    exact ((Z_take n hi y).mp hy).2 (g.trans e)
  · rw [if_neg e]
    apply ak_ext (nk_take n i) n
    intro y hy
    rw [Z_take n hi]
    exact ⟨fun g => g.1, fun g => ⟨g, fun g2 => e (hy.symm.trans g2)⟩⟩
theorem Z_push (s : St) (x y : Msg) : y ∈ Z (uQ s (Ql s ++ [x])) ↔ y ∈ Z s ∨ y = x := by
  show y ∈ Pl s ++ (Ql s ++ [x]) ↔ y ∈ Pl s ++ Ql s ∨ y = x
  simp only [List.mem_append, List.mem_singleton]
  constructor
  · rintro (h | h | h)
    · exact Or.inl (Or.inl h)
    · exact Or.inl (Or.inr h)
    · exact Or.inr h
  · rintro ((h | h) | h)
    · exact Or.inl h
    · exact Or.inr (Or.inl h)
    · exact Or.inr (Or.inr h)
theorem nk_push {s : St} (n : nk (Z s)) {x : Msg} (h : mm s (key x) = none) : nk (Z (uQ s (Ql s ++ [x]))) := by
  have h' := ak_none.mp h
  obtain ⟨n1, n2, n3⟩ := nk_app.mp n
  refine nk_app.mpr ⟨n1, nk_app.mpr ⟨n2, ⟨rfl, trivial⟩, fun y hy => ?_⟩, fun y hy => ?_⟩
  · rw [ak_none]
    intro z hz
    rw [List.mem_singleton] at hz
    subst hz
    intro e
    exact h' y (List.mem_append_right _ hy) e.symm
  · show ak (key y) (Ql s ++ [x]) = none
    rw [ak_none]
    intro z hz
    rcases List.mem_append.mp hz with hz | hz
    · exact ak_none.mp (n3 y hy) z hz
    · rw [List.mem_singleton] at hz
      subst hz
      intro e
      exact h' y (List.mem_append_left _ hy) e.symm
