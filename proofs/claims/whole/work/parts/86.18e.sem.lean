theorem q_msk {l n a : Nat} (e : n = 2 ^ a) (ha : a ≤ 6) (hl : l < 2 ^ 31) : nI l &&& (nI n - nI 1) = nI (l % n) := by
  have h0 : 0 < 2 ^ a := Nat.two_pow_pos a
  rw [q_sub (by omega), e, q_and hl (by omega)]
theorem RC_L {h : AH} {s : St} (R : RC h s) : LC h := R.1.1
theorem sSet_eq {s : St} (c l : Nat) : sSet s c l = 32 * c + l % N s 0 2 * N s 0 3 := by unfold sSet; rw [Nat.mul_comm (l % _)]
def lo (c k : Nat) : Nat := k - 32 * c
theorem c_find {h : AH} {s : St} (R : RC h s) (B : Bz s) (G : Rg s) {c l : Nat} (hc : c < 16) (hl : l < 512) : f_X2_find h (38 + 12 * c) (nI l) = some (oI ((sWay s c l).map (lo c))) := by
  have L := RC_L R
  obtain ⟨k1, k2, k3, k4, k5, k6, k7, k8, k9, k10⟩ := R.2.2.1 c hc
  obtain ⟨a, ha, e2⟩ := B.2.2.1
  have h1 := sSet_le B c l
  have h2 := bz_ways B
  have h3 := @sSet_eq s c l
  unfold f_X2_find
  rw [y_gs, if_pos (lk_S38 L hc), y_lt, k1, k2, show (1 : Int32) = nI 1 from rfl, q_msk e2 (by omega) (by omega), q_mul]
  generalize l % N s 0 2 * N s 0 3 = a0 at *
  have key := lp_find (fun f i => f_X2_find_L16 h f (38 + 12 * c) (nI l) (nI a0) i) (fun i => decide (0 < N s 2 (32 * c + i)) && decide (N s 1 (32 * c + i) = l)) nI nN a0 (N s 0 3) ?_ ?_ FU (FU_gt (by omega))
  · show f_X2_find_L16 h FU (38 + 12 * c) (nI l) (nI a0) (nI a0) = _
    rw [show f_X2_find_L16 h FU (38 + 12 * c) (nI l) (nI a0) (nI a0) = _ from key]
    have sh := fst_shift (p := fun i => decide (0 < N s 2 (32 * c + i)) && decide (N s 1 (32 * c + i) = l)) (q := fun k => decide (0 < N s 2 k) && decide (N s 1 k = l)) (n := N s 0 3) (a := a0) (b := sSet s c l) (fun j _ => by rw [h3, Nat.add_assoc])
    rw [sh]
    show _ = some (oI ((sWay s c l).map (lo c)))
    unfold sWay
    cases e : fst (fun k => decide (0 < N s 2 k) && decide (N s 1 k = l)) (sSet s c l) (N s 0 3) with
    | none => rfl
    | some k =>
      obtain ⟨g1, g2, _, _⟩ := fst_some e
      show some (nI (k - sSet s c l + a0)) = some (nI (k - 32 * c))
      rw [show k - sSet s c l + a0 = k - 32 * c by omega]
  · intro f j hj1 hj2
    obtain ⟨d1, d2, d3, d4⟩ := R.2.2.2.1 c j hc (by omega)
    have g1 := G 1 (32 * c + j) (by omega) (by show _ < 512; omega)
    have g2 := G 2 (32 * c + j) (by omega) (by show _ < 512; omega)
    have c0 : ¬ a0 + N s 0 3 ≤ j := by omega
    show f_X2_find_L16 h (f + 1) (38 + 12 * c) (nI l) (nI a0) (nI j) = _
    by_cases c2 : N s 2 (32 * c + j) = 0
    · simp (disch := omega) only [f_X2_find_L16, f_X2_find_L47, ↓y_gs, ↓y_gb, ↓y_lt, ↓y_bds, q_lit, q_cl, q_ib, q_add, q_mul, ↓reduceIte, decide_true, Nat.reduceAdd, Nat.reduceMul, lk_S38 L hc, lk_R38_1 L hc, lk_S40 L hc, lk_N40 L hc, k2, d1, q_le, q_eq, c0, c2, Nat.lt_irrefl, decide_false, Bool.false_and, Bool.false_eq_true]
    · have d2' := d2 c2
      simp (disch := omega) only [f_X2_find_L16, f_X2_find_L47, ↓y_gs, ↓y_gb, ↓y_lt, ↓y_bds, q_lit, q_cl, q_ib, q_add, q_mul, ↓reduceIte, decide_true, Nat.reduceAdd, Nat.reduceMul, lk_S38 L hc, lk_R38_1 L hc, lk_S40 L hc, lk_N40 L hc, lk_R38_0 L hc, lk_S39 L hc, lk_N39 L hc, k2, d1, d2', q_le, q_eq, c0, c2]
      by_cases c3 : N s 1 (32 * c + j) = l
      · simp only [c3, not_true_eq_false, ↓reduceIte, decide_true, Bool.and_true, decide_eq_true_eq]
        rw [if_pos (by omega)]
      · simp only [c3, not_false_eq_true, ↓reduceIte, decide_false, Bool.and_false, Bool.false_eq_true]
  · intro f
    show f_X2_find_L16 h (f + 1) (38 + 12 * c) (nI l) (nI a0) (nI (a0 + N s 0 3)) = _
    simp (disch := omega) only [f_X2_find_L16, ↓y_gs, ↓y_gb, ↓y_lt, ↓y_bds, q_lit, q_cl, q_ib, q_add, q_mul, ↓reduceIte, decide_true, Nat.reduceAdd, Nat.reduceMul, lk_S38 L hc, k2, q_le, Nat.le_refl, q_nN]
def sfor (p : Nat → Bool) (f : Nat → Nat) : Nat → Nat → Nat → Nat
  | k, _, 0 => k
  | k, i, n + 1 => if p i then i else sfor p f (if f i < f k then i else k) (i + 1) n
theorem sfor_eq {p : Nat → Bool} {f : Nat → Nat} {n : Nat} : ∀ {k i : Nat}, sfor p f k i n = (fst p i n).elim (amin f k i n) id := by
  induction n with
  | zero => intro k i; rfl
  | succ n ih =>
    intro k i
    unfold sfor fst amin
    by_cases c : p i = true
    · rw [if_pos c, if_pos c]; rfl
    · rw [if_neg c, if_neg c]; exact ih
/-- the slot for a line that isn't there, by its own cache's clock -/
def sSlot (s : St) (c l : Nat) : Nat := (sFree s c l).elim (amin (N s 21) (sSet s c l) (sSet s c l) (N s 0 3)) id
theorem amin_shift {f g : Nat → Nat} {d n : Nat} : ∀ {k i : Nat}, (∀ j, (j = k ∨ (i ≤ j ∧ j < i + n)) → g (d + j) = f j) → amin g (d + k) (d + i) n = d + amin f k i n := by
  induction n with
  | zero => intro k i h; rfl
  | succ n ih =>
    intro k i h
    unfold amin
    rw [h i (by omega), h k (by omega)]
    split
    · exact @ih i (i + 1) (fun j hj => h j (by omega))
    · exact @ih k (i + 1) (fun j hj => h j (by omega))
theorem c_slotFor {h : AH} {s : St} (R : RC h s) (B : Bz s) (G : Rg s) (G21 : ∀ k, k < 512 → N s 21 k < 2 ^ 30) {c l : Nat} (hc : c < 16) (hl : l < 512) : f_X2_slotFor h (38 + 12 * c) (nI l) = some (nI (lo c (sSlot s c l))) := by
  have L := RC_L R
  obtain ⟨k1, k2, k3, k4, k5, k6, k7, k8, k9, k10⟩ := R.2.2.1 c hc
  obtain ⟨a, ha, e2⟩ := B.2.2.1
  have h1 := sSet_le B c l
  have h2 := bz_ways B
  have h3 := @sSet_eq s c l
  unfold f_X2_slotFor
  rw [y_gs, if_pos (lk_S38 L hc), y_lt, k1, k2, show (1 : Int32) = nI 1 from rfl, q_msk e2 (by omega) (by omega), q_mul]
  generalize l % N s 0 2 * N s 0 3 = a0 at *
  have lp : ∀ n k i f, i + n = a0 + N s 0 3 → k < a0 + N s 0 3 → f_X2_slotFor_L19 h (f + 1 + n) (38 + 12 * c) (nI a0) (nI k) (nI i) = some (nI (sfor (fun i => decide (N s 2 (32 * c + i) = 0)) (fun i => N s 21 (32 * c + i)) k i n)) := by
    intro n
    induction n with
    | zero =>
      intro k i f hi hk
      rw [show i = a0 + N s 0 3 by omega]
      simp (disch := omega) only [Nat.add_zero, f_X2_slotFor_L19, ↓y_gs, ↓y_gb, ↓y_lt, ↓y_bds, q_lit, q_cl, q_ib, q_add, q_mul, ↓reduceIte, decide_true, Nat.reduceAdd, Nat.reduceMul, lk_S38 L hc, k2, q_le, Nat.le_refl]
      rfl
    | succ n ih =>
      intro k i f hi hk
      obtain ⟨d1, d2, d3, d4⟩ := R.2.2.2.1 c i hc (by omega)
      obtain ⟨d1', d2', d3', d4'⟩ := R.2.2.2.1 c k hc (by omega)
      have g2 := G 2 (32 * c + i) (by omega) (by show _ < 512; omega)
      have g21 := G21 (32 * c + i) (by omega)
      have g21' := G21 (32 * c + k) (by omega)
      have c0 : ¬ a0 + N s 0 3 ≤ i := by omega
      have i1 := ih k (i + 1) f (by omega) hk
      have i2 := ih i (i + 1) f (by omega) (by omega)
      rw [← Nat.add_assoc]
      simp (disch := omega) only [f_X2_slotFor_L19, f_X2_slotFor_L62, ↓y_gs, ↓y_gb, ↓y_lt, ↓y_bds, q_lit, q_cl, q_ib, q_add, q_mul, ↓reduceIte, decide_true, Nat.reduceAdd, Nat.reduceMul, lk_S38 L hc, lk_R38_1 L hc, lk_S40 L hc, lk_N40 L hc, lk_R38_2 L hc, lk_S41 L hc, lk_N41 L hc, k2, d1, d3, d3', q_le, q_eq, c0]
      unfold sfor
      by_cases c2 : N s 2 (32 * c + i) = 0
      · simp only [c2, not_true_eq_false, ↓reduceIte, decide_true]
      · simp only [c2, not_false_eq_true, ↓reduceIte, decide_false, Bool.false_eq_true]
        by_cases c3 : N s 21 (32 * c + i) < N s 21 (32 * c + k)
        · rw [if_neg (by omega), if_pos c3]; exact i2
        · rw [if_pos (by omega), if_neg c3]; exact i1
  obtain ⟨f, hf⟩ := FU_ex (n := N s 0 3) (by omega)
  rw [hf, lp (N s 0 3) a0 a0 f rfl (by omega), sfor_eq]
  have sh := fst_shift (p := fun i => decide (N s 2 (32 * c + i) = 0)) (q := fun k => decide (N s 2 k = 0)) (n := N s 0 3) (a := a0) (b := sSet s c l) (fun j _ => by rw [h3, Nat.add_assoc])
  rw [sh]
  unfold sSlot sFree
  cases e : fst (fun k => decide (N s 2 k = 0)) (sSet s c l) (N s 0 3) with
  | some k =>
    obtain ⟨g1, g2, _, _⟩ := fst_some e
    show some (nI (k - sSet s c l + a0)) = some (nI (k - 32 * c))
    rw [show k - sSet s c l + a0 = k - 32 * c by omega]
  | none =>
    show some (nI (amin (fun i => N s 21 (32 * c + i)) a0 a0 (N s 0 3))) = some (nI (amin (N s 21) (sSet s c l) (sSet s c l) (N s 0 3) - 32 * c))
    rw [h3, amin_shift (f := fun i => N s 21 (32 * c + i)) (fun j _ => rfl)]
    rw [show 32 * c + amin (fun i => N s 21 (32 * c + i)) a0 a0 (N s 0 3) - 32 * c = amin (fun i => N s 21 (32 * c + i)) a0 a0 (N s 0 3) by omega]
