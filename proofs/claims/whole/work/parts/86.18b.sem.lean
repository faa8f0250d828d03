/-- sizes, clocks and counts -/
def RCs (h : AH) (s : St) : Prop := (∀ i, i < 6 → hI h 32 i = nI (N s 0 i)) ∧ hI h 19 13 = nI (N s 0 4) ∧ hI h 19 14 = nI (N s 0 5) ∧ hI h 19 15 = nI (N s 24 0) ∧ hI h 19 16 = nI (N s 20 0) ∧ hI h 16 2 = nI (N s 18 0)
/-- of each core: its cache's sizes and clock, its number, shelf, request, misses, changes -/
def RCk (h : AH) (s : St) : Prop := ∀ c, c < 16 → hI h (38 + 12 * c) 4 = nI (N s 0 2) ∧ hI h (38 + 12 * c) 5 = nI (N s 0 3) ∧ hI h (38 + 12 * c) 6 = nI (N s 22 c) ∧ hI h (34 + 12 * c) 0 = nI c ∧ hI h (34 + 12 * c) 8 = pI (N s 13 c) ∧ (N s 13 c ≠ 0 → hI h (34 + 12 * c) 9 = nI (N s 14 c)) ∧ hI h (34 + 12 * c) 11 = pI (N s 12 c) ∧ hI h (34 + 12 * c) 12 = nI (N s 15 c) ∧ hI h (34 + 12 * c) 15 = nI (N s 25 c) ∧ (∀ j, j < 4 → hI h (45 + 12 * c) j = w4 (Wda s 3 c) j)
/-- of each slot: state, line, clock, words -/
def RCc (h : AH) (s : St) : Prop := ∀ c i, c < 16 → i < 32 → hI h (40 + 12 * c) i = nI (N s 2 (32 * c + i)) ∧ (N s 2 (32 * c + i) ≠ 0 → hI h (39 + 12 * c) i = nI (N s 1 (32 * c + i))) ∧ hI h (41 + 12 * c) i = nI (N s 21 (32 * c + i)) ∧ (∀ j, j < 4 → hI h (42 + 12 * c) (4 * i + j) = w4 (Wda s 4 (32 * c + i)) j)
/-- of each way of the home -/
def RCw (h : AH) (s : St) (w k : Nat) : Prop := hI h 21 w = pI (N s 4 k) ∧ hI h 24 w = pI (N s 8 k) ∧ hI h 28 w = nI (N s 23 k) ∧ (N s 4 k ≠ 0 → hI h 22 w = pI (N s 6 k) ∧ hI h 23 w = nI (N s 7 k) ∧ hI h 27 w = nI (N s 5 k) ∧ (∀ j, j < 4 → hI h 29 (4 * w + j) = w4 (Wda s 2 k) j) ∧ (N s 8 k ≠ 0 → hI h 26 w = nI (N s 10 k) ∧ (N s 8 k ≠ 17 → hI h 25 w = nI (N s 9 k))))
def RCh (h : AH) (s : St) : Prop := ∀ a b, a < N s 0 4 → b < N s 0 5 → RCw h s (a * N s 0 5 + b) (8 * a + b)
def RCm (h : AH) (s : St) : Prop := ∀ l j, l < 512 → j < 4 → hI h 20 (4 * l + j) = w4 (Wda s 1 l) j
def RCp (h : AH) (s : St) : Prop := hI h 16 1 = nI (Pl s).length ∧ hS h (hR h 16 0) = 21 ∧ (hR h 16 0 = 17 ∨ 225 < hR h 16 0) ∧ hR h 16 0 ≤ hZ h ∧ 576 ≤ hN h (hR h 16 0) ∧ hN h (hR h 16 0) < 151200 ∧ 9 * (Pl s).length ≤ hN h (hR h 16 0) ∧ (∀ i j, i < (Pl s).length → j < 9 → hI h (hR h 16 0) (9 * i + j) = mp ((Pl s).getD i x0) j)
def RCq (h : AH) (s : St) : Prop := hI h 19 12 = nI (Ql s).length ∧ (∀ i j, i < (Ql s).length → j < 9 → hI h 30 (9 * i + j) = mp ((Ql s).getD i x0) j)
def RC (h : AH) (s : St) : Prop := (LC h ∧ 225 ≤ hZ h) ∧ RCs h s ∧ RCk h s ∧ RCc h s ∧ RCh h s ∧ RCm h s ∧ RCp h s ∧ RCq h s
/-- places of CoreHouse's heap that aren't the memory system's -/
def crr (o k : Nat) : Bool := decide (o ≤ 225) && !(decide (16 ≤ o) && decide (o ≤ 30)) && !(decide (34 ≤ o) && ((decide ((o - 34) % 12 = 0) && (k == 8 || k == 9 || k == 11 || k == 12 || k == 15)) || decide (4 ≤ (o - 34) % 12 ∧ (o - 34) % 12 ≤ 8) || decide ((o - 34) % 12 = 11)))
def FrC (h h' : AH) : Prop := (∀ o k, crr o k = true → hI h' o k = hI h o k) ∧ (∀ o k, o ≤ 225 → hL h' o k = hL h o k) ∧ (∀ o k, o ≤ 225 → ¬ (o = 16 ∧ k = 0) → hR h' o k = hR h o k) ∧ (∀ o, o ≤ 225 → hS h' o = hS h o ∧ hN h' o = hN h o) ∧ hV h' + 2 * hN h (hR h 16 0) = hV h + 2 * hN h' (hR h' 16 0) ∧ 576 * hZ h' + hN h (hR h 16 0) ≤ 576 * hZ h + hN h' (hR h' 16 0)
theorem FrC_rfl (h : AH) : FrC h h := ⟨fun _ _ _ => rfl, fun _ _ _ => rfl, fun _ _ _ _ => rfl, fun _ _ => ⟨rfl, rfl⟩, rfl, Nat.le_refl _⟩
theorem FrC_tr {a b c : AH} (h1 : FrC a b) (h2 : FrC b c) : FrC a c := by
  obtain ⟨a1, a2, a3, a4, a5, a6⟩ := h1
  obtain ⟨b1, b2, b3, b4, b5, b6⟩ := h2
  refine ⟨fun o k e => (b1 o k e).trans (a1 o k e), fun o k e => (b2 o k e).trans (a2 o k e), fun o k e e2 => (b3 o k e e2).trans (a3 o k e e2), fun o e => ⟨(b4 o e).1.trans (a4 o e).1, (b4 o e).2.trans (a4 o e).2⟩, by omega, by omega⟩
theorem FrC_sI {h h' : AH} (F : FrC h h') {o k : Nat} (v : Int32) (e : crr o k = false) : FrC h (sI h' o k v) := by
  obtain ⟨a1, a2, a3, a4, a5, a6⟩ := F
  refine ⟨fun p q e2 => ?_, a2, a3, a4, a5, a6⟩
  rw [x_hI_sI, if_neg, a1 p q e2]
  rintro ⟨rfl, rfl⟩; rw [e] at e2; cases e2
theorem FrC_sA {h h' : AH} (F : FrC h h') {o : Nat} (f : Nat → Int32) (e : ∀ k, crr o k = false) : FrC h (sA h' o f) := by
  obtain ⟨a1, a2, a3, a4, a5, a6⟩ := F
  refine ⟨fun p q e2 => ?_, a2, a3, a4, a5, a6⟩
  rw [x_hI_sA, if_neg, a1 p q e2]
  rintro rfl; rw [e] at e2; cases e2
theorem crr_k {c r : Nat} (k : Nat) (hr : 4 ≤ r ∧ r ≤ 8 ∨ r = 11) : crr (34 + r + 12 * c) k = false := by
  have e : (34 + r + 12 * c - 34) % 12 = r := by omega
  unfold crr
  rw [e]
  rcases hr with hr | rfl
  · have h1 : decide (4 ≤ r ∧ r ≤ 8) = true := decide_eq_true hr
    have h2 : decide (34 ≤ 34 + r + 12 * c) = true := decide_eq_true (by omega)
    rw [h1, h2]; simp
  · have h2 : decide (34 ≤ 34 + 11 + 12 * c) = true := decide_eq_true (by omega)
    rw [h2]; simp
theorem crr_0 {c k : Nat} (hk : k = 8 ∨ k = 9 ∨ k = 11 ∨ k = 12 ∨ k = 15) : crr (34 + 12 * c) k = false := by
  have e : (34 + 12 * c - 34) % 12 = 0 := by omega
  unfold crr
  rw [e]
  have h2 : decide (34 ≤ 34 + 12 * c) = true := decide_eq_true (by omega)
  rw [h2]
  rcases hk with rfl | rfl | rfl | rfl | rfl <;> simp
theorem crr_h {o : Nat} (k : Nat) (h : 16 ≤ o ∧ o ≤ 30) : crr o k = false := by
  unfold crr
  rw [show decide (16 ≤ o) = true from decide_eq_true h.1, show decide (o ≤ 30) = true from decide_eq_true h.2]; simp
theorem crr_big {o : Nat} (k : Nat) (h : 225 < o) : crr o k = false := by
  unfold crr
  rw [show decide (o ≤ 225) = false from decide_eq_false (by omega)]; simp
theorem crr_r {h : AH} {s : St} (R : RCp h s) (k : Nat) : crr (hR h 16 0) k = false := by
  rcases R.2.2.1 with e | e
  · rw [e]; exact crr_h k (by omega)
  · exact crr_big k e
/-! What two heaps agree on. -/
theorem RCs_ag {h h' : AH} {s t : St} (R : RCs h s) (e : ∀ i, i < 6 → hI h' 32 i = hI h 32 i) (e2 : ∀ k, 13 ≤ k → k ≤ 16 → hI h' 19 k = hI h 19 k) (e3 : hI h' 16 2 = hI h 16 2) (n0 : ∀ i, N t 0 i = N s 0 i) (n1 : N t 24 0 = N s 24 0) (n2 : N t 20 0 = N s 20 0) (n3 : N t 18 0 = N s 18 0) : RCs h' t := by
  obtain ⟨a, b, c, d, f, g⟩ := R
  refine ⟨fun i hi => ?_, ?_, ?_, ?_, ?_, ?_⟩
  · rw [e i hi, n0]; exact a i hi
  · rw [e2 _ (by omega) (by omega), n0]; exact b
  · rw [e2 _ (by omega) (by omega), n0]; exact c
  · rw [e2 _ (by omega) (by omega), n1]; exact d
  · rw [e2 _ (by omega) (by omega), n2]; exact f
  · rw [e3, n3]; exact g
theorem RCk_ag {h h' : AH} {s t : St} (R : RCk h s) (e : ∀ c k, c < 16 → 4 ≤ k → k ≤ 6 → hI h' (38 + 12 * c) k = hI h (38 + 12 * c) k) (e2 : ∀ c k, c < 16 → k = 0 ∨ 8 ≤ k ∧ k ≤ 15 → hI h' (34 + 12 * c) k = hI h (34 + 12 * c) k) (e3 : ∀ c k, c < 16 → hI h' (45 + 12 * c) k = hI h (45 + 12 * c) k) (n0 : ∀ i, N t 0 i = N s 0 i) (n : ∀ F c, c < 16 → F = 22 ∨ F = 12 ∨ F = 13 ∨ F = 14 ∨ F = 15 ∨ F = 25 → N t F c = N s F c) (w : ∀ c, c < 16 → Wda t 3 c = Wda s 3 c) : RCk h' t := by
  intro c hc
  obtain ⟨a1, a2, a3, a4, a5, a6, a7, a8, a9, a10⟩ := R c hc
  refine ⟨?_, ?_, ?_, ?_, ?_, ?_, ?_, ?_, ?_, ?_⟩
  · rw [e c 4 hc (by omega) (by omega), n0]; exact a1
  · rw [e c 5 hc (by omega) (by omega), n0]; exact a2
  · rw [e c 6 hc (by omega) (by omega), n 22 c hc (by omega)]; exact a3
  · rw [e2 c _ hc (by omega)]; exact a4
  · rw [e2 c _ hc (by omega), n 13 c hc (by omega)]; exact a5
  · rw [e2 c _ hc (by omega), n 13 c hc (by omega), n 14 c hc (by omega)]; exact a6
  · rw [e2 c _ hc (by omega), n 12 c hc (by omega)]; exact a7
  · rw [e2 c _ hc (by omega), n 15 c hc (by omega)]; exact a8
  · rw [e2 c _ hc (by omega), n 25 c hc (by omega)]; exact a9
  · intro j hj; rw [e3 c j hc, w c hc]; exact a10 j hj
theorem RCc_ag {h h' : AH} {s t : St} (R : RCc h s) (e : ∀ c r k, c < 16 → 39 ≤ r → r ≤ 42 → hI h' (r + 12 * c) k = hI h (r + 12 * c) k) (n : ∀ F k, k < 512 → F = 1 ∨ F = 2 ∨ F = 21 → N t F k = N s F k) (w : ∀ k, k < 512 → Wda t 4 k = Wda s 4 k) : RCc h' t := by
  intro c i hc hi
  obtain ⟨a1, a2, a3, a4⟩ := R c i hc hi
  refine ⟨?_, ?_, ?_, ?_⟩
  · rw [e c 40 _ hc (by omega) (by omega), n 2 _ (by omega) (by omega)]; exact a1
  · rw [e c 39 _ hc (by omega) (by omega), n 2 _ (by omega) (by omega), n 1 _ (by omega) (by omega)]; exact a2
  · rw [e c 41 _ hc (by omega) (by omega), n 21 _ (by omega) (by omega)]; exact a3
  · intro j hj; rw [e c 42 _ hc (by omega) (by omega), w _ (by omega)]; exact a4 j hj
theorem RCw_ag {h h' : AH} {s t : St} {w k : Nat} (R : RCw h s w k) (e : ∀ o, 21 ≤ o → o ≤ 28 → hI h' o w = hI h o w) (e2 : ∀ j, j < 4 → hI h' 29 (4 * w + j) = hI h 29 (4 * w + j)) (n : ∀ F, 4 ≤ F ∧ F ≤ 10 ∨ F = 23 → N t F k = N s F k) (wd : Wda t 2 k = Wda s 2 k) : RCw h' t w k := by
  obtain ⟨a1, a2, a3, a4⟩ := R
  refine ⟨?_, ?_, ?_, ?_⟩
  · rw [e _ (by omega) (by omega), n 4 (by omega)]; exact a1
  · rw [e _ (by omega) (by omega), n 8 (by omega)]; exact a2
  · rw [e _ (by omega) (by omega), n 23 (by omega)]; exact a3
  · intro g
    rw [n 4 (by omega)] at g
    obtain ⟨b1, b2, b3, b4, b5⟩ := a4 g
    refine ⟨?_, ?_, ?_, ?_, ?_⟩
    · rw [e _ (by omega) (by omega), n 6 (by omega)]; exact b1
    · rw [e _ (by omega) (by omega), n 7 (by omega)]; exact b2
    · rw [e _ (by omega) (by omega), n 5 (by omega)]; exact b3
    · intro j hj; rw [e2 j hj, wd]; exact b4 j hj
    · rw [e _ (by omega) (by omega), e _ (by omega) (by omega), n 8 (by omega), n 10 (by omega), n 9 (by omega)]; exact b5
theorem RCh_ag {h h' : AH} {s t : St} (R : RCh h s) (e : ∀ o k, 21 ≤ o → o ≤ 29 → hI h' o k = hI h o k) (n0 : ∀ i, N t 0 i = N s 0 i) (n : ∀ F k, 4 ≤ F ∧ F ≤ 10 ∨ F = 23 → N t F k = N s F k) (wd : ∀ k, Wda t 2 k = Wda s 2 k) : RCh h' t := by
  intro a b ha hb
  rw [n0] at ha hb
  rw [n0]
  exact RCw_ag (R a b ha hb) (fun o h1 h2 => e o _ h1 (by omega)) (fun j _ => e 29 _ (by omega) (by omega)) (fun F hF => n F _ hF) (wd _)
theorem RCm_ag {h h' : AH} {s t : St} (R : RCm h s) (e : ∀ k, hI h' 20 k = hI h 20 k) (w : ∀ l, l < 512 → Wda t 1 l = Wda s 1 l) : RCm h' t := by
  intro l j hl hj; rw [e, w l hl]; exact R l j hl hj
theorem RCq_ag {h h' : AH} {s t : St} (R : RCq h s) (e : hI h' 19 12 = hI h 19 12) (e2 : ∀ k, hI h' 30 k = hI h 30 k) (q : Ql t = Ql s) : RCq h' t := by
  refine ⟨?_, fun i j hi hj => ?_⟩
  · rw [e, q]; exact R.1
  · rw [q] at hi; rw [e2, q]; exact R.2 i j hi hj
theorem RCp_ag {h h' : AH} {s t : St} (R : RCp h s) (r : hR h' 16 0 = hR h 16 0) (e : hI h' 16 1 = hI h 16 1) (e1 : hS h' (hR h 16 0) = hS h (hR h 16 0)) (e2 : hN h' (hR h 16 0) = hN h (hR h 16 0)) (e3 : ∀ k, hI h' (hR h 16 0) k = hI h (hR h 16 0) k) (z : hZ h ≤ hZ h') (p : Pl t = Pl s) : RCp h' t := by
  obtain ⟨a1, a2, a3, a4, a5, a6, a7, a8⟩ := R
  refine ⟨?_, ?_, ?_, ?_, ?_, ?_, ?_, ?_⟩
  · rw [e, p]; exact a1
  · rw [r, e1]; exact a2
  · rw [r]; exact a3
  · rw [r]; omega
  · rw [r, e2]; exact a5
  · rw [r, e2]; exact a6
  · rw [r, e2, p]; exact a7
  · intro i j hi hj; rw [p] at hi; rw [r, e3, p]; exact a8 i j hi hj
