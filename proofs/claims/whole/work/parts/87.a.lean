/-! The law's invariant over its loop. -/
theorem Rel_hz {h m : AH} {s : St} {e : Ex} {b : Nat} (R : Rel h m s e b) (n v n' : Nat) (h1 : 225 ≤ n) (h2 : hR h 16 0 ≤ n) : Rel (h.1, h.2.1, h.2.2.1, h.2.2.2.1, h.2.2.2.2.1, n, v) (hB m n') s e b := by
  obtain ⟨⟨⟨⟨L9, -⟩, r2, r3, r4, r5, r6, ⟨p1, p2, p3, -, p5⟩, r8⟩, D⟩, RM9, I, C, EX9⟩ := R
  exact ⟨⟨⟨⟨L9, h1⟩, r2, r3, r4, r5, r6, ⟨p1, p2, p3, h2, p5⟩, r8⟩, D⟩, RM9, I, C, EX9⟩
theorem Rel_hm {h m : AH} {s : St} {e : Ex} {b : Nat} (R : Rel h m s e b) (n' : Nat) : Rel h (hB m n') s e b := Rel_hz R (hZ h) (hV h) n' R.1.1.1.2 R.1.1.2.2.2.2.2.2.1.2.2.2.1
def pN (h : AH) : Nat := hN h (hR h 16 0)
def LVI (t : Nat) (h m ot : AH) (cells slots : Nat) : Prop := ∃ (s : St) (e : Ex) (b : Nat), Rel h m s e b ∧ e 8 0 = e 8 1 ∧ b ≤ 12800 * t ∧ NR m ∧ hZ m = hZ h ∧ (hS ot 277 = 22 ∧ hN ot 277 = 1) ∧ 576 * cells + 576 ≤ 576 * (277 + t) + pN h ∧ slots + 1152 ≤ 300000 + 6 * t + 2 * pN h
section LIS
variable {t : Nat} {h m ot : AH} {cells slots : Nat}
theorem LVI.s1 (I : LVI t h m ot cells slots) : hS h 1 = 9 := by obtain ⟨s, e, b, R, -⟩ := I; exact R.1.1.1.1.1
theorem LVI.s226 (I : LVI t h m ot cells slots) : hS m 226 = 10 := by obtain ⟨s, e, b, R, -⟩ := I; exact R.2.1.1.1
theorem LVI.o1 (I : LVI t h m ot cells slots) : hS ot 277 = 22 := by obtain ⟨s, e, b, R, -, -, -, -, q, -⟩ := I; exact q.1
theorem LVI.o2 (I : LVI t h m ot cells slots) : hN ot 277 = 1 := by obtain ⟨s, e, b, R, -, -, -, -, q, -⟩ := I; exact q.2
theorem LVI.z (I : LVI t h m ot cells slots) : hZ m = hZ h := by obtain ⟨s, e, b, R, -, -, -, q, -⟩ := I; exact q
theorem LVI.bd (I : LVI t h m ot cells slots) (ht : t ≤ 512) : cells ≤ 601024 ∧ slots ≤ 7293034 := by
  obtain ⟨s, e, b, R, -, -, -, -, -, c1, c2⟩ := I
  have := R.1.1.2.2.2.2.2.2.1.2.2.2.2.2.1
  have : pN h < 151200 := this
  omega
theorem LVI.up (I : LVI t h m ot cells slots) : LVI (t + 1) h m ot cells slots := by
  obtain ⟨s, e, b, R, a1, a2, a3, a4, a5, c1, c2⟩ := I
  exact ⟨s, e, b, R, a1, by omega, a3, a4, a5, by omega, by omega⟩
theorem NR_2 {m m' : AH} (N : NR m) (e : m'.2.2 = m.2.2) : NR m' := fun k hk => by
  show m'.2.2.1 273 k = _
  rw [e]; exact N k hk
theorem NR_2' {m m' : AH} {n : Nat} (N : NR m) (e : m'.2.2 = (hB m n).2.2) : NR m' := NR_2 (m := hB m n) (show NR (hB m n) from N) e
theorem Rel_thrown {h m : AH} {s : St} {e : Ex} {b : Nat} (R : Rel h m s e b) : f_X11_thrown m 226 = some (nI (e 8 2)) := by
  unfold f_X11_thrown
  rw [x_gs R.2.1.1.1]
  exact congrArg some R.2.2.2.2.2.2.2.2.2.2.2.2.1
/-- a call that doesn't throw -/
theorem LI_cl {K : Nat} {X : Option (Int32 × AH)} {Y : AH → Option (Int32 × AH)} (hK : K ≤ 12800) (ht : t < 512) (I : LVI t h m ot cells slots) (cl : ∀ (m : AH) (s : St) (e : Ex) (b : Nat), Rel h m s e b → e 8 0 = e 8 1 → NR m → b + 12800 ≤ 536870912 → Cl K h m e b X (Y m)) :
    ∃ h' r, X = some (r, h') ∧ (hZ h ≤ hZ h' → hV h ≤ hV h' → ∃ m', Y (hB m (hZ h')) = some (r, m') ∧ hZ m' = hZ h' ∧ hV m' = hV m ∧ hS (hB m (hZ h')) 226 = 10 ∧ LVI (t + 1) h' m' ot (cells + (hZ h' - hZ h)) (slots + (hV h' - hV h))) := by
  have s226 := I.s226
  obtain ⟨s, e, b, R, a1, a2, a3, a4, a5, c1, c2⟩ := I
  have key : ∀ n, Cl K h (hB m n) e b X (Y (hB m n)) := fun n => cl _ s e b (Rel_hm R n) a1 a3 (by omega)
  obtain ⟨h0, _, _, _, r0, hx0, -⟩ := key 0
  refine ⟨h0, r0, hx0, fun z1 z2 => ?_⟩
  obtain ⟨h', m', s', e', r, hx, hy, R', B', e2, he'⟩ := key (hZ h0)
  rw [hx0] at hx
  cases hx
  refine ⟨m', hy, by show m'.2.2.2.2.2.1 = _; rw [e2]; rfl, by show m'.2.2.2.2.2.2 = _; rw [e2]; rfl, s226, s', e', b + K, R', he', by omega, NR_2' a3 e2 , by show m'.2.2.2.2.2.1 = _; rw [e2]; rfl, a5, ?_, ?_⟩
  · have := B'.2
    have w : 576 * hZ h0 + pN h ≤ 576 * hZ h + pN h0 := this
    omega
  · have := B'.1
    have w : hV h0 + 2 * pN h = hV h + 2 * pN h0 := this
    omega
theorem LI_cp {X : Option Int32} {Y : AH → Option (Int32 × AH)} (ht : t < 512) (I : LVI t h m ot cells slots) (cl : ∀ (m : AH) (s : St) (e : Ex) (b : Nat), Rel h m s e b → e 8 0 = e 8 1 → Cp h m e b X (Y m)) :
    ∃ r, X = some r ∧ ∃ m', Y m = some (r, m') ∧ hZ m' = hZ m ∧ hV m' = hV m ∧ LVI (t + 1) h m' ot cells slots := by
  obtain ⟨s, e, b, R, a1, a2, a3, a4, a5, c1, c2⟩ := I
  obtain ⟨m', s', e', r, hx, hy, R', e2, he'⟩ := cl m s e b R a1
  exact ⟨r, hx, m', hy, by show m'.2.2.2.2.2.1 = _; rw [e2]; rfl, by show m'.2.2.2.2.2.2 = _; rw [e2]; rfl, s', e', b, R', he', by omega, NR_2 a3 e2, by rw [show hZ m' = hZ m by show m'.2.2.2.2.2.1 = _; rw [e2]; rfl]; exact a4, a5, by omega, by omega⟩
theorem LC_225 {h : AH} (L : LC h) : hS h 225 = 21 := ((L.2.2 15 (by omega)).2.2.2 (34, 10, 45, 21, 4) (List.mem_of_getElem? (l := lyK) (i := 4) rfl)).2.1
theorem hT_inj {a b : AH} (e : hT a = hT b) : a = b := by
  obtain ⟨a1, a2, a3, a4, a5, a6, a7⟩ := a
  obtain ⟨b1, b2, b3, b4, b5, b6, b7⟩ := b
  unfold hT hZ hV at e
  simp only [Prod.mk.injEq] at e ⊢
  obtain ⟨e1, e2, e3, e4, e5, e6, e7⟩ := e
  exact ⟨e1, e2, e3, e4, e5, by omega, by omega⟩
/-- one that may throw -/
theorem LI_ch {K : Nat} {X : Option (Option Int32 × AH)} {Y : AH → Option (Int32 × AH)} (hK : K ≤ 12800) (ht : t < 512) (I : LVI t h m ot cells slots) (cl : ∀ (m : AH) (s : St) (e : Ex) (b : Nat), Rel h m s e b → e 8 0 = e 8 1 → NR m → b + 12800 ≤ 536870912 → Ch K h m e b X (Y m)) :
    (∃ h' r, X = some (some r, h') ∧ (hZ h ≤ hZ h' → hV h ≤ hV h' → ∃ m', Y (hB m (hZ h')) = some (r, m') ∧ hZ m' = hZ h' ∧ hV m' = hV m ∧ hS (hB m (hZ h')) 226 = 10 ∧ f_X11_thrown m' 226 = some 0 ∧ ∀ ot', hS ot' 277 = 22 ∧ hN ot' 277 = 1 → LVI (t + 1) h' m' ot' (cells + (hZ h' - hZ h)) (slots + (hV h' - hV h)))) ∨
    (∃ h', X = some (none, h') ∧ (hZ h ≤ hZ h' → hV h ≤ hV h' → (cells + (hZ h' - hZ h) ≤ 601024 ∧ slots + (hV h' - hV h) ≤ 7293034) ∧ ∀ n, (∀ o, ¬ hS h' o = 0 → o ≤ n) → ∃ r m', Y (hB m n) = some (r, m') ∧ hZ m' = n ∧ hV m' = hV m ∧ hS (hB m n) 226 = 10 ∧ f_X11_thrown m' 226 = some 1 ∧ LVI (t + 1) (hB h' n) m' ot (cells + (hZ h' - hZ h)) (slots + (hV h' - hV h)))) := by
  have s226 := I.s226
  obtain ⟨s, e, b, R, a1, a2, a3, a4, a5, c1, c2⟩ := I
  have key : ∀ n, Ch K h (hB m n) e b X (Y (hB m n)) := fun n => cl _ s e b (Rel_hm R n) a1 a3 (by omega)
  obtain ⟨h0, m0, s0, e0, r0, R0, B0, f0, g0, hy0, q⟩ := key 0
  have wB : 576 * hZ h0 + pN h ≤ 576 * hZ h + pN h0 := B0.2
  have wV : hV h0 + 2 * pN h = hV h + 2 * pN h0 := B0.1
  rcases q with ⟨hx0, -⟩ | ⟨hx0, -⟩
  · refine Or.inl ⟨h0, r0, hx0, fun z1 z2 => ?_⟩
    obtain ⟨h', m', s', e', r, R', B', e2, he', hy, q⟩ := key (hZ h0)
    rcases q with ⟨hx, he2⟩ | ⟨hx, -⟩
    · rw [hx0] at hx
      cases hx
      refine ⟨m', hy, by show m'.2.2.2.2.2.1 = _; rw [e2]; rfl, by show m'.2.2.2.2.2.2 = _; rw [e2]; rfl, s226, by rw [Rel_thrown R', he2]; rfl, fun ot' ho => ⟨s', e', b + K, R', he', by omega, NR_2' a3 e2, by show m'.2.2.2.2.2.1 = _; rw [e2]; rfl, ho, by omega, by omega⟩⟩
    · rw [hx0] at hx; cases hx
  · refine Or.inr ⟨hT h0, hx0, fun z1 z2 => ?_⟩
    have p9 : pN h0 < 151200 := R0.1.1.2.2.2.2.2.2.1.2.2.2.2.2.1
    have y1 : hZ (hT h0) = hZ h0 + 1 := rfl
    have y2 : hV (hT h0) = hV h0 + 6 := rfl
    refine ⟨⟨by omega, by omega⟩, fun n hn => ?_⟩
    obtain ⟨h', m', s', e', r, R', B', e2, he', hy, q⟩ := key n
    rcases q with ⟨hx, -⟩ | ⟨hx, he2⟩
    · rw [hx0] at hx; cases hx
    · rw [hx0] at hx
      have hh : h0 = h' := hT_inj (Prod.mk.inj (Option.some.inj hx)).2
      subst hh
      have n1 : 225 ≤ n := hn 225 (by show ¬ hS h0 225 = 0; rw [LC_225 R'.1.1.1.1]; omega)
      have n2 : hR h0 16 0 ≤ n := hn _ (by show ¬ hS h0 (hR h0 16 0) = 0; rw [R'.1.1.2.2.2.2.2.2.1.2.1]; omega)
      refine ⟨r, m', hy, by show m'.2.2.2.2.2.1 = _; rw [e2]; rfl, by show m'.2.2.2.2.2.2 = _; rw [e2]; rfl, s226, by rw [Rel_thrown R', he2]; rfl, s', e', b + K, ?_, he', by omega, NR_2' a3 e2, by show m'.2.2.2.2.2.1 = _; rw [e2]; rfl, a5, ?_, ?_⟩
      · have := Rel_hz R' n (hV h0 + 6) (hZ m') n1 n2
        exact this
      · show 576 * (cells + (hZ (hT h0) - hZ h)) + 576 ≤ 576 * (277 + (t + 1)) + pN h0
        omega
      · show slots + (hV (hT h0) - hV h) + 1152 ≤ 300000 + 6 * (t + 1) + 2 * pN h0
        omega
end LIS
