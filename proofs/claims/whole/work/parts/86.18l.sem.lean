theorem RC_s {h : AH} {s : St} (R : RC h s) : hI h 19 13 = nI (N s 0 4) ∧ hI h 19 14 = nI (N s 0 5) ∧ hI h 19 15 = nI (N s 24 0) ∧ hI h 19 16 = nI (N s 20 0) := ⟨R.2.1.2.1, R.2.1.2.2.1, R.2.1.2.2.2.1, R.2.1.2.2.2.2.1⟩
theorem c_hfind {h : AH} {s : St} (R : RC h s) (B : Bz s) (H : Hr s) {l : Nat} (hl : l < 512) : f_X4_find h 19 (nI l) = some (oI ((hWay s l).map (cw s))) := by
  have L := RC_L R
  obtain ⟨s1, s2, _, _⟩ := RC_s R
  obtain ⟨a, ha, e2⟩ := B.2.2.2.2.1
  have h1 := hSet_le B l
  have h2 := bz_hways B
  have h6 := bz_hsets B
  have h7 : l % N s 0 4 < N s 0 4 := Nat.mod_lt _ (by omega)
  have h8 := mul_lt_512 (a := l % N s 0 4) (W := N s 0 5) (H := N s 0 4) h7 (by omega) h2.2
  have su : ∀ j, j < N s 0 5 → uw s (hSet s l + j) ∧ (hSet s l + j) / 8 = l % N s 0 4 := fun j hj => set_u B (by omega) (by omega)
  have sc : ∀ j, j < N s 0 5 → cw s (hSet s l + j) = l % N s 0 4 * N s 0 5 + j := by
    intro j hj
    have := su j hj
    unfold cw
    rw [this.2]
    unfold hSet
    rw [show (8 * (l % N s 0 4) + j) % 8 = j by omega]
  unfold f_X4_find
  rw [y_gs, if_pos (lc_S19 L), y_lt, s1, s2, show (1 : Int32) = nI 1 from rfl, q_msk e2 (by omega) (by omega), q_mul]
  generalize ha0 : l % N s 0 4 * N s 0 5 = a0 at *
  have key := lp_find (fun f i => f_X4_find_L16 h f 19 (nI l) (nI a0) i) (fun i => decide (N s 4 (hSet s l + (i - a0)) = l + 1)) nI nN a0 (N s 0 5) ?_ ?_ FU (FU_gt (by omega))
  · show f_X4_find_L16 h FU 19 (nI l) (nI a0) (nI a0) = _
    rw [show f_X4_find_L16 h FU 19 (nI l) (nI a0) (nI a0) = _ from key]
    have sh := fst_shift (p := fun i => decide (N s 4 (hSet s l + (i - a0)) = l + 1)) (q := fun k => decide (N s 4 k = l + 1)) (n := N s 0 5) (a := a0) (b := hSet s l) (fun j _ => by rw [show a0 + j - a0 = j by omega])
    rw [sh]
    show _ = some (oI ((hWay s l).map (cw s)))
    unfold hWay
    cases e : fst (fun k => decide (N s 4 k = l + 1)) (hSet s l) (N s 0 5) with
    | none => rfl
    | some k =>
      obtain ⟨g1, g2, _, _⟩ := fst_some e
      have := sc (k - hSet s l) (by omega)
      rw [show hSet s l + (k - hSet s l) = k by omega] at this
      show some (nI (k - hSet s l + a0)) = some (nI (cw s k))
      rw [this, Nat.add_comm]
  · intro f j hj1 hj2
    have u := (su (j - a0) (by omega)).1
    have c1 := sc (j - a0) (by omega)
    have r := (RC_w R u).1
    have h4 := (H (hSet s l + (j - a0)) (by omega)).1
    rw [c1, show a0 + (j - a0) = j by omega] at r
    have c0 : ¬ a0 + N s 0 5 ≤ j := by omega
    show f_X4_find_L16 h (f + 1) 19 (nI l) (nI a0) (nI j) = _
    simp (disch := omega) only [f_X4_find_L16, ↓y_gs, ↓y_gb, ↓y_lt, ↓y_bds, q_lit, q_cl, q_ib, q_add, q_mul, ↓reduceIte, decide_true, Nat.reduceAdd, Nat.reduceMul, lc_S19 L, lc_R19_2 L, lc_S21 L, lc_N21 L, s2, r, q_le, pI_nI, c0]
    by_cases c3 : N s 4 (hSet s l + (j - a0)) = l + 1
    · simp only [c3, not_true_eq_false, ↓reduceIte, decide_true]
    · simp only [c3, not_false_eq_true, ↓reduceIte, decide_false, Bool.false_eq_true]
  · intro f
    show f_X4_find_L16 h (f + 1) 19 (nI l) (nI a0) (nI (a0 + N s 0 5)) = _
    simp (disch := omega) only [f_X4_find_L16, ↓y_gs, ↓y_gb, ↓y_lt, ↓y_bds, q_lit, q_cl, q_ib, q_add, q_mul, ↓reduceIte, decide_true, Nat.reduceAdd, Nat.reduceMul, lc_S19 L, s2, q_le, Nat.le_refl, q_nN]
def wfor (p : Nat → Bool) (f g : Nat → Nat) : Option Nat → Nat → Nat → Option Nat
  | b, _, 0 => b
  | b, i, n + 1 => if p i then some i else wfor p f g (if g i = 0 ∧ (b = none ∨ f i < f (b.getD 0)) then some i else b) (i + 1) n
theorem wfor_eq {p : Nat → Bool} {f g : Nat → Nat} {n : Nat} : ∀ {b : Option Nat} {i : Nat}, wfor p f g b i n = (fst p i n).elim (bmin f g b i n) some := by
  induction n with
  | zero => intro k i; rfl
  | succ n ih =>
    intro k i
    unfold wfor fst bmin
    by_cases c : p i = true
    · rw [if_pos c, if_pos c]; rfl
    · rw [if_neg c, if_neg c]; exact ih
/-- the way for a line that has none, by the home's own clock -/
def sRoom (s : St) (l : Nat) : Option Nat := (sEmpty s l).elim (bmin (N s 23) (N s 8) none (hSet s l) (N s 0 5)) some
theorem c_wayToFree {h : AH} {s : St} (R : RC h s) (B : Bz s) (H : Hr s) (G23 : ∀ k, k < 512 → N s 4 k ≠ 0 → N s 23 k < 2 ^ 30) {l : Nat} (hl : l < 512) : f_X4_wayToFree h 19 (nI l) = some (oI ((sRoom s l).map (cw s))) := by
  have L := RC_L R
  obtain ⟨s1, s2, _, _⟩ := RC_s R
  obtain ⟨a, ha, e2⟩ := B.2.2.2.2.1
  have h1 := hSet_le B l
  have h2 := bz_hways B
  have h6 := bz_hsets B
  have h7 : l % N s 0 4 < N s 0 4 := Nat.mod_lt _ (by omega)
  have h8 := mul_lt_512 (a := l % N s 0 4) (W := N s 0 5) (H := N s 0 4) h7 (by omega) h2.2
  have sc : ∀ k, hSet s l ≤ k → k < hSet s l + N s 0 5 → uw s k ∧ cw s k = l % N s 0 4 * N s 0 5 + (k - hSet s l) := by
    intro k g1 g2
    have := set_u B g1 g2
    refine ⟨this.1, ?_⟩
    unfold cw
    rw [this.2]
    unfold hSet at *
    rw [show k % 8 = k - 8 * (l % N s 0 4) by omega]
  unfold f_X4_wayToFree
  rw [y_gs, if_pos (lc_S19 L), y_lt, y_lt, s1, s2, show (1 : Int32) = nI 1 from rfl, q_msk e2 (by omega) (by omega), q_mul, q_nN]
  generalize ha0 : l % N s 0 4 * N s 0 5 = a0 at *
  have lp : ∀ n b i f, i + n = hSet s l + N s 0 5 → hSet s l ≤ i → (∀ j, b = some j → hSet s l ≤ j ∧ j < hSet s l + N s 0 5 ∧ N s 4 j ≠ 0) → f_X4_wayToFree_L19 h (f + 1 + n) 19 (nI a0) (oI (b.map (cw s))) (nI (a0 + (i - hSet s l))) = some (oI ((wfor (fun k => decide (N s 4 k = 0)) (N s 23) (N s 8) b i n).map (cw s))) := by
    intro n
    induction n with
    | zero =>
      intro b i f hi hi2 hb
      rw [show i = hSet s l + N s 0 5 by omega]
      have : a0 + N s 0 5 ≤ a0 + (hSet s l + N s 0 5 - hSet s l) := by omega
      simp (disch := omega) only [Nat.add_zero, f_X4_wayToFree_L19, ↓y_gs, ↓y_gb, ↓y_lt, ↓y_bds, q_lit, q_cl, q_ib, q_add, q_mul, ↓reduceIte, decide_true, Nat.reduceAdd, Nat.reduceMul, lc_S19 L, s2, q_le, this]
      rfl
    | succ n ih =>
      intro b i f hi hi2 hb
      obtain ⟨u, c1⟩ := sc i hi2 (by omega)
      obtain ⟨r1, r2, r3, _⟩ := RC_w R u
      rw [c1] at r1 r2 r3
      obtain ⟨h4, _, _, _, h8', _⟩ := H i (by omega)
      have c0 : ¬ a0 + N s 0 5 ≤ a0 + (i - hSet s l) := by omega
      have i1 := ih b (i + 1) f (by omega) (by omega) hb
      rw [show a0 + (i + 1 - hSet s l) = a0 + (i - hSet s l) + 1 by omega] at i1
      rw [← Nat.add_assoc]
      unfold wfor
      by_cases c4 : N s 4 i = 0
      · simp (disch := omega) only [f_X4_wayToFree_L19, ↓y_gs, ↓y_gb, ↓y_lt, ↓y_bds, q_lit, q_cl, q_ib, q_add, q_mul, ↓reduceIte, decide_true, Nat.reduceAdd, Nat.reduceMul, lc_S19 L, lc_R19_2 L, lc_S21 L, lc_N21 L, s2, r1, q_le, c0, q_nN, pI_nN, c4, not_true_eq_false]
        show some (nI (a0 + (i - hSet s l))) = some (nI (cw s i))
        rw [c1]
      · have h23 := G23 i (by omega) c4
        have i2 := ih (some i) (i + 1) f (by omega) (by omega) (fun j hj => by obtain rfl := Option.some.inj hj; exact ⟨by omega, by omega, c4⟩)
        rw [show a0 + (i + 1 - hSet s l) = a0 + (i - hSet s l) + 1 by omega] at i2
        rw [show oI ((some i).map (cw s)) = nI (cw s i) from rfl, c1] at i2
        have n4 : ¬ decide (N s 4 i = 0) = true := by rw [decide_eq_true_eq]; exact c4
        rw [if_neg n4]
        by_cases c8 : N s 8 i = 0
        · cases b with
          | none =>
            simp (disch := omega) only [f_X4_wayToFree_L19, f_X4_wayToFree_L78, f_X4_wayToFree_L75, ↓y_gs, ↓y_gb, ↓y_lt, ↓y_bds, q_lit, q_cl, q_ib, q_add, q_mul, ↓reduceIte, decide_true, Nat.reduceAdd, Nat.reduceMul, lc_S19 L, lc_R19_2 L, lc_S21 L, lc_N21 L, lc_R19_5 L, lc_S24 L, lc_N24 L, s2, r1, r2, q_le, c0, q_nN, pI_nN, c4, c8, not_true_eq_false, not_false_eq_true]
            rw [show oI (Option.map (cw s) none) = nN from rfl, if_pos (show nN < nI 0 from by decide)]
            simp only [true_or, and_true, ↓reduceIte]
            exact i2
          | some j =>
            obtain ⟨hj1, hj2, hj4⟩ := hb j rfl
            obtain ⟨uj, cj⟩ := sc j hj1 hj2
            obtain ⟨_, _, q3, _⟩ := RC_w R uj
            have h23j := G23 j (by omega) hj4
            rw [show oI ((some j).map (cw s)) = nI (cw s j) from rfl] at i1 ⊢
            rw [cj] at q3 i1 ⊢
            have nl : ¬ nI (a0 + (j - hSet s l)) < nI 0 := by rw [q_lt (by omega) (by omega)]; omega
            simp (disch := omega) only [f_X4_wayToFree_L19, f_X4_wayToFree_L78, f_X4_wayToFree_L75, ↓y_gs, ↓y_gb, ↓y_lt, ↓y_bds, q_lit, q_cl, q_ib, q_add, q_mul, ↓reduceIte, decide_true, Nat.reduceAdd, Nat.reduceMul, lc_S19 L, lc_R19_2 L, lc_S21 L, lc_N21 L, lc_R19_5 L, lc_S24 L, lc_N24 L, lc_R19_9 L, lc_S28 L, lc_N28 L, s2, r1, r2, r3, q3, q_le, c0, q_nN, pI_nN, c4, c8, not_true_eq_false, not_false_eq_true, nl]
            by_cases c23 : N s 23 i < N s 23 j
            · rw [if_neg (by omega)]
              simp only [Option.getD, c23, or_true, and_true, ↓reduceIte]
              exact i2
            · rw [if_pos (by omega)]
              simp only [Option.getD, c23, or_false, and_false, reduceCtorEq, ↓reduceIte]
              exact i1
        · simp (disch := omega) only [f_X4_wayToFree_L19, f_X4_wayToFree_L78, f_X4_wayToFree_L75, ↓y_gs, ↓y_gb, ↓y_lt, ↓y_bds, q_lit, q_cl, q_ib, q_add, q_mul, ↓reduceIte, decide_true, Nat.reduceAdd, Nat.reduceMul, lc_S19 L, lc_R19_2 L, lc_S21 L, lc_N21 L, lc_R19_5 L, lc_S24 L, lc_N24 L, s2, r1, r2, q_le, c0, q_nN, pI_nN, c4, c8, not_true_eq_false, not_false_eq_true, false_and]
          exact i1
  obtain ⟨f, hf⟩ := FU_ex (n := N s 0 5) (by omega)
  have := lp (N s 0 5) none (hSet s l) f rfl (Nat.le_refl _) (fun j h => by cases h)
  rw [show a0 + (hSet s l - hSet s l) = a0 by omega] at this
  rw [hf]
  rw [show nN = oI ((none : Option Nat).map (cw s)) from rfl, this, wfor_eq]
  rfl
