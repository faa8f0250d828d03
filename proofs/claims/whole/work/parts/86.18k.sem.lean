/-- CoreHouse's place of the home's way k -/
def cw (s : St) (k : Nat) : Nat := k / 8 * N s 0 5 + k % 8
def uw (s : St) (k : Nat) : Prop := k / 8 < N s 0 4 ∧ k % 8 < N s 0 5
theorem mul_lt_512 {a W H : Nat} (h1 : a < H) (h2 : H ≤ 64) (h3 : W ≤ 8) : a * W + W ≤ 512 := by
  have h : (a + 1) * W ≤ 64 * 8 := Nat.mul_le_mul (by omega) h3
  rw [Nat.add_mul] at h
  omega
theorem cw_lt {s : St} (B : Bz s) {k : Nat} (u : uw s k) : cw s k < 512 := by
  have h1 := bz_hsets B; have h2 := bz_hways B
  have := mul_lt_512 (a := k / 8) (W := N s 0 5) (H := N s 0 4) u.1 (by omega) h2.2
  unfold cw
  have := u.2
  omega
theorem pair_inj {a b a' b' W : Nat} (hb : b < W) (hb' : b' < W) (e : a * W + b = a' * W + b') : a = a' ∧ b = b' := by
  have h1 : (a * W + b) / W = a := by rw [Nat.mul_comm, Nat.mul_add_div (by omega), Nat.div_eq_of_lt hb]; omega
  have h2 : (a' * W + b') / W = a' := by rw [Nat.mul_comm, Nat.mul_add_div (by omega), Nat.div_eq_of_lt hb']; omega
  rw [e, h2] at h1
  subst h1
  exact ⟨rfl, by omega⟩
theorem cw_inj {s : St} {k k' : Nat} (u : uw s k) (u' : uw s k') (e : cw s k = cw s k') : k = k' := by
  have := pair_inj u.2 u'.2 e
  omega
theorem RC_w {h : AH} {s : St} (R : RC h s) {k : Nat} (u : uw s k) : RCw h s (cw s k) k := by
  have := R.2.2.2.2.1 (k / 8) (k % 8) u.1 u.2
  rw [show 8 * (k / 8) + k % 8 = k by omega] at this
  exact this
theorem hWay_u {s : St} (B : Bz s) {l k : Nat} (e : hWay s l = some k) : uw s k := by
  obtain ⟨h1, h2, h3, h4⟩ := hWay_lt B e
  have h5 := bz_hways B
  have h6 := bz_hsets B
  have h7 : l % N s 0 4 < N s 0 4 := Nat.mod_lt _ (by omega)
  unfold hSet at h3 h4
  unfold uw
  have : k / 8 = l % N s 0 4 := by omega
  exact ⟨by omega, by omega⟩
theorem set_u {s : St} (B : Bz s) {l k : Nat} (h3 : hSet s l ≤ k) (h4 : k < hSet s l + N s 0 5) : uw s k ∧ k / 8 = l % N s 0 4 := by
  have h5 := bz_hways B
  have h6 := bz_hsets B
  have h7 : l % N s 0 4 < N s 0 4 := Nat.mod_lt _ (by omega)
  unfold hSet at h3 h4
  unfold uw
  have : k / 8 = l % N s 0 4 := by omega
  exact ⟨⟨by omega, by omega⟩, this⟩
/-- heaps that differ at one way of the home, at the home's clocks, and in memory alone -/
def FrW (h h' : AH) (w : Nat) : Prop := h'.2 = h.2 ∧ ∀ o k, ¬ (21 ≤ o ∧ o ≤ 28 ∧ k = w) → ¬ (o = 29 ∧ 4 * w ≤ k ∧ k < 4 * w + 4) → ¬ (o = 19 ∧ (k = 15 ∨ k = 16)) → o ≠ 20 → hI h' o k = hI h o k
theorem FrW_rfl (h : AH) (w : Nat) : FrW h h w := ⟨rfl, fun _ _ _ _ _ _ => rfl⟩
theorem FrW_tr {a b d : AH} {w : Nat} (h1 : FrW a b w) (h2 : FrW b d w) : FrW a d w := ⟨h2.1.trans h1.1, fun o k e e2 e3 e4 => (h2.2 o k e e2 e3 e4).trans (h1.2 o k e e2 e3 e4)⟩
theorem FrW_sI {h h' : AH} {w o k : Nat} (F : FrW h h' w) (v : Int32) (e : (21 ≤ o ∧ o ≤ 28 ∧ k = w) ∨ (o = 19 ∧ (k = 15 ∨ k = 16))) : FrW h (sI h' o k v) w := by
  refine ⟨F.1, fun p q e1 e2 e3 e4 => ?_⟩
  rw [x_ne, F.2 p q e1 e2 e3 e4]
  rintro ⟨rfl, rfl⟩
  rcases e with e | e
  · exact e1 e
  · exact e3 e
theorem FrC_W {h h' : AH} {w : Nat} (F : FrW h h' w) : FrC h h' := by
  obtain ⟨a1, a2⟩ := F
  have eR : ∀ o k, hR h' o k = hR h o k := fun o k => by show h'.2.2.1 o k = h.2.2.1 o k; rw [a1]
  have eS : ∀ o, hS h' o = hS h o := fun o => by show h'.2.2.2.1 o = h.2.2.2.1 o; rw [a1]
  have eN : ∀ o, hN h' o = hN h o := fun o => by show h'.2.2.2.2.1 o = h.2.2.2.2.1 o; rw [a1]
  have eL : ∀ o k, hL h' o k = hL h o k := fun o k => by show h'.2.1 o k = h.2.1 o k; rw [a1]
  have eZ : hZ h' = hZ h := by show h'.2.2.2.2.2.1 = h.2.2.2.2.2.1; rw [a1]
  have eV : hV h' = hV h := by show h'.2.2.2.2.2.2 = h.2.2.2.2.2.2; rw [a1]
  refine ⟨fun o k e => ?_, fun o k _ => eL o k, fun o k _ _ => eR o k, fun o _ => ⟨eS o, eN o⟩, ?_, ?_⟩
  · have : ¬ (16 ≤ o ∧ o ≤ 30) := fun g => by rw [crr_h k g] at e; cases e
    exact a2 o k (by omega) (by omega) (by omega) (by omega)
  · rw [eN, eR, eV]
  · rw [eN, eR, eZ]; exact Nat.le_refl _
theorem RC_H {h h' : AH} {s t : St} {k : Nat} (R : RC h s) (B : Bz s) (u : uw s k) (F : FrW h h' (cw s k))
    (n : ∀ G j, N t G j = N s G j ∨ (4 ≤ G ∧ G ≤ 11 ∨ G = 23) ∧ j = k ∨ G = 17 ∨ (G = 24 ∨ G = 20) ∧ j = 0)
    (w : ∀ G j, Wda t G j = Wda s G j ∨ G = 2 ∧ j = k ∨ G = 1) (p : Pl t = Pl s) (q : Ql t = Ql s)
    (e15 : hI h' 19 15 = nI (N t 24 0)) (e16 : hI h' 19 16 = nI (N t 20 0)) (m : RCm h' t) (r : RCw h' t (cw s k) k) : RC h' t := by
  obtain ⟨⟨L, z⟩, rs, rk, rc, rh, rm, rp, rq⟩ := R
  obtain ⟨a1, a2⟩ := F
  have eR : ∀ o k, hR h' o k = hR h o k := fun o k => by show h'.2.2.1 o k = h.2.2.1 o k; rw [a1]
  have eS : ∀ o, hS h' o = hS h o := fun o => by show h'.2.2.2.1 o = h.2.2.2.1 o; rw [a1]
  have eN : ∀ o, hN h' o = hN h o := fun o => by show h'.2.2.2.2.1 o = h.2.2.2.2.1 o; rw [a1]
  have eZ : hZ h' = hZ h := by show h'.2.2.2.2.2.1 = h.2.2.2.2.2.1; rw [a1]
  have n0 : ∀ i, N t 0 i = N s 0 i := fun i => by rcases n 0 i with h | h | h | h <;> first | exact h | omega
  refine ⟨⟨lc_of L (fun o k _ _ => eR o k) (fun o _ => ⟨eS o, eN o⟩), by omega⟩, ?_, ?_, ?_, ?_, m, ?_, ?_⟩
  · obtain ⟨b1, b2, b3, b4, b5, b6⟩ := rs
    refine ⟨fun i hi => ?_, ?_, ?_, e15, e16, ?_⟩
    · rw [a2 _ _ (by omega) (by omega) (by omega) (by omega), n0]; exact b1 i hi
    · rw [a2 _ _ (by omega) (by omega) (by omega) (by omega), n0]; exact b2
    · rw [a2 _ _ (by omega) (by omega) (by omega) (by omega), n0]; exact b3
    · rw [a2 _ _ (by omega) (by omega) (by omega) (by omega), show N t 18 0 = N s 18 0 by rcases n 18 0 with h | h | h | h <;> first | exact h | omega]; exact b6
  · exact RCk_ag rk (fun c k hc _ _ => a2 _ _ (by omega) (by omega) (by omega) (by omega)) (fun c k hc _ => a2 _ _ (by omega) (by omega) (by omega) (by omega)) (fun c k hc => a2 _ _ (by omega) (by omega) (by omega) (by omega)) n0 (fun G c hc hG => by rcases n G c with h | h | h | h <;> first | exact h | omega) (fun c hc => by rcases w 3 c with h | h | h <;> first | exact h | omega)
  · exact RCc_ag rc (fun c r k hc _ _ => a2 _ _ (by omega) (by omega) (by omega) (by omega)) (fun G k hk hG => by rcases n G k with h | h | h | h <;> first | exact h | omega) (fun k hk => by rcases w 4 k with h | h | h <;> first | exact h | omega)
  · intro a b ha hb
    rw [n0] at ha hb
    rw [n0]
    have ne := @pair_inj a b (k / 8) (k % 8) (N s 0 5) hb u.2
    by_cases e : 8 * a + b = k
    · have : a = k / 8 ∧ b = k % 8 := by
        have := bz_hways B
        omega
      rw [this.1, this.2, show 8 * (k / 8) + k % 8 = k by omega]; exact r
    · have nw : a * N s 0 5 + b ≠ cw s k := fun g => by have := ne g; omega
      refine RCw_ag (rh a b ha hb) (fun o h1 h2 => a2 _ _ (by omega) (by omega) (by omega) (by omega)) (fun j hj => a2 _ _ (by omega) (by omega) (by omega) (by omega)) (fun G hG => ?_) ?_
      · rcases n G (8 * a + b) with h | h | h | h <;> first | exact h | omega
      · rcases w 2 (8 * a + b) with h | h | h <;> first | exact h | omega
  · have b3 := rp.2.2.1
    exact RCp_ag rp (eR _ _) (a2 _ _ (by omega) (by omega) (by omega) (by omega)) (eS _) (eN _) (fun k => a2 _ _ (by omega) (by omega) (by omega) (by omega)) (by omega) p
  · exact RCq_ag rq (a2 _ _ (by omega) (by omega) (by omega) (by omega)) (fun k => a2 _ _ (by omega) (by omega) (by omega) (by omega)) q
