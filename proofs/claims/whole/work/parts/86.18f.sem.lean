theorem x_ne {h : AH} {o k p q : Nat} {v : Int32} (e : ¬ (p = o ∧ q = k)) : hI (sI h o k v) p q = hI h p q := by rw [x_hI_sI, if_neg e]
theorem x_eq (h : AH) (o k : Nat) (v : Int32) : hI (sI h o k v) o k = v := by rw [x_hI_sI, if_pos ⟨rfl, rfl⟩]
theorem x_neA {h : AH} {o p q : Nat} {f : Nat → Int32} (e : ¬ p = o) : hI (sA h o f) p q = hI h p q := by rw [x_hI_sA, if_neg e]
theorem x_eqA (h : AH) (o q : Nat) (f : Nat → Int32) : hI (sA h o f) o q = f q := by rw [x_hI_sA, if_pos rfl]
theorem N_ne {s : St} {F i v G j : Nat} (e : ¬ (G = F ∧ j = i)) : N (uN s F i v) G j = N s G j := by rw [N_uN, if_neg e]
theorem N_eq (s : St) (F i v : Nat) : N (uN s F i v) F i = v := by rw [N_uN, if_pos ⟨rfl, rfl⟩]
theorem W_ne {s : St} {F i G j : Nat} {w : W4} (e : ¬ (G = F ∧ j = i)) : Wda (uW s F i w) G j = Wda s G j := by rw [W_uW, if_neg e]
/-- heaps that differ at one core's parts of the memory system alone -/
def FrK (h h' : AH) (c : Nat) : Prop := h'.2 = h.2 ∧ ∀ o k, ¬ (o = 34 + 12 * c ∧ (k = 8 ∨ k = 9 ∨ k = 11 ∨ k = 12 ∨ k = 15)) → ¬ (38 + 12 * c ≤ o ∧ o ≤ 42 + 12 * c) → o ≠ 45 + 12 * c → hI h' o k = hI h o k
theorem FrC_K {h h' : AH} {c : Nat} (F : FrK h h' c) : FrC h h' := by
  obtain ⟨a1, a2⟩ := F
  have eR : ∀ o k, hR h' o k = hR h o k := fun o k => by show h'.2.2.1 o k = h.2.2.1 o k; rw [a1]
  have eS : ∀ o, hS h' o = hS h o := fun o => by show h'.2.2.2.1 o = h.2.2.2.1 o; rw [a1]
  have eN : ∀ o, hN h' o = hN h o := fun o => by show h'.2.2.2.2.1 o = h.2.2.2.2.1 o; rw [a1]
  have eL : ∀ o k, hL h' o k = hL h o k := fun o k => by show h'.2.1 o k = h.2.1 o k; rw [a1]
  have eZ : hZ h' = hZ h := by show h'.2.2.2.2.2.1 = h.2.2.2.2.2.1; rw [a1]
  have eV : hV h' = hV h := by show h'.2.2.2.2.2.2 = h.2.2.2.2.2.2; rw [a1]
  refine ⟨fun o k e => a2 o k ?_ ?_ ?_, fun o k _ => eL o k, fun o k _ _ => eR o k, fun o _ => ⟨eS o, eN o⟩, ?_, ?_⟩
  · rintro ⟨rfl, hk⟩; rw [crr_0 hk] at e; cases e
  · intro g
    have := crr_k (c := c) (r := o - 34 - 12 * c) k (by omega)
    rw [show 34 + (o - 34 - 12 * c) + 12 * c = o by omega, e] at this; cases this
  · rintro rfl
    have := crr_k (c := c) (r := 11) k (by omega)
    rw [show 34 + 11 + 12 * c = 45 + 12 * c by omega, e] at this; cases this
  · rw [eN, eR, eV]
  · rw [eN, eR, eZ]; exact Nat.le_refl _
theorem FrK_rfl (h : AH) (c : Nat) : FrK h h c := ⟨rfl, fun _ _ _ _ _ => rfl⟩
theorem FrK_tr {a b d : AH} {c : Nat} (h1 : FrK a b c) (h2 : FrK b d c) : FrK a d c := ⟨h2.1.trans h1.1, fun o k e e2 e3 => (h2.2 o k e e2 e3).trans (h1.2 o k e e2 e3)⟩
theorem FrK_sI {h h' : AH} {c o k : Nat} (F : FrK h h' c) (v : Int32) (e : (o = 34 + 12 * c ∧ (k = 8 ∨ k = 9 ∨ k = 11 ∨ k = 12 ∨ k = 15)) ∨ (38 + 12 * c ≤ o ∧ o ≤ 42 + 12 * c) ∨ o = 45 + 12 * c) : FrK h (sI h' o k v) c := by
  refine ⟨F.1, fun p q e1 e2 e3 => ?_⟩
  rw [x_ne, F.2 p q e1 e2 e3]
  rintro ⟨rfl, rfl⟩
  rcases e with e | e | e
  · exact e1 e
  · exact e2 e
  · exact e3 e
theorem FrK_sA {h h' : AH} {c o : Nat} (F : FrK h h' c) (f : Nat → Int32) (e : (38 + 12 * c ≤ o ∧ o ≤ 42 + 12 * c) ∨ o = 45 + 12 * c) : FrK h (sA h' o f) c := by
  refine ⟨F.1, fun p q e1 e2 e3 => ?_⟩
  rw [x_neA, F.2 p q e1 e2 e3]
  rintro rfl
  rcases e with e | e
  · exact e2 e
  · exact e3 e
/-- what stays when one core's parts change -/
theorem RC_K {h h' : AH} {s t : St} {c : Nat} (R : RC h s) (hc : c < 16) (F : FrK h h' c)
    (n : ∀ G j, N t G j = N s G j ∨ (G = 1 ∨ G = 2 ∨ G = 3 ∨ G = 21) ∧ 32 * c ≤ j ∧ j < 32 * c + 32 ∨ (G = 12 ∨ G = 13 ∨ G = 14 ∨ G = 15 ∨ G = 22 ∨ G = 25) ∧ j = c ∨ G = 16 ∨ G = 19)
    (w : ∀ G j, Wda t G j = Wda s G j ∨ G = 0 ∨ G = 3 ∧ j = c ∨ G = 4 ∧ 32 * c ≤ j ∧ j < 32 * c + 32) (p : Pl t = Pl s) (q : Ql t = Ql s)
    (ek : hI h' (38 + 12 * c) 6 = nI (N t 22 c) ∧ hI h' (34 + 12 * c) 8 = pI (N t 13 c) ∧ (N t 13 c ≠ 0 → hI h' (34 + 12 * c) 9 = nI (N t 14 c)) ∧ hI h' (34 + 12 * c) 11 = pI (N t 12 c) ∧ hI h' (34 + 12 * c) 12 = nI (N t 15 c) ∧ hI h' (34 + 12 * c) 15 = nI (N t 25 c) ∧ (∀ j, j < 4 → hI h' (45 + 12 * c) j = w4 (Wda t 3 c) j) ∧ hI h' (38 + 12 * c) 4 = hI h (38 + 12 * c) 4 ∧ hI h' (38 + 12 * c) 5 = hI h (38 + 12 * c) 5)
    (ec : ∀ i, i < 32 → hI h' (40 + 12 * c) i = nI (N t 2 (32 * c + i)) ∧ (N t 2 (32 * c + i) ≠ 0 → hI h' (39 + 12 * c) i = nI (N t 1 (32 * c + i))) ∧ hI h' (41 + 12 * c) i = nI (N t 21 (32 * c + i)) ∧ (∀ j, j < 4 → hI h' (42 + 12 * c) (4 * i + j) = w4 (Wda t 4 (32 * c + i)) j)) : RC h' t := by
  obtain ⟨⟨L, z⟩, rs, rk, rc, rh, rm, rp, rq⟩ := R
  obtain ⟨a1, a2⟩ := F
  have eR : ∀ o k, hR h' o k = hR h o k := fun o k => by show h'.2.2.1 o k = h.2.2.1 o k; rw [a1]
  have eS : ∀ o, hS h' o = hS h o := fun o => by show h'.2.2.2.1 o = h.2.2.2.1 o; rw [a1]
  have eN : ∀ o, hN h' o = hN h o := fun o => by show h'.2.2.2.2.1 o = h.2.2.2.2.1 o; rw [a1]
  have eZ : hZ h' = hZ h := by show h'.2.2.2.2.2.1 = h.2.2.2.2.2.1; rw [a1]
  refine ⟨⟨lc_of L (fun o k _ _ => eR o k) (fun o _ => ⟨eS o, eN o⟩), by omega⟩, ?_, ?_, ?_, ?_, ?_, ?_, ?_⟩
  · refine RCs_ag rs (fun i _ => a2 32 i (by omega) (by omega) (by omega)) (fun k _ _ => a2 19 k (by omega) (by omega) (by omega)) (a2 _ _ (by omega) (by omega) (by omega)) (fun i => ?_) ?_ ?_ ?_
    · rcases n 0 i with h | h | h | h <;> first | exact h | omega
    · rcases n 24 0 with h | h | h | h <;> first | exact h | omega
    · rcases n 20 0 with h | h | h | h <;> first | exact h | omega
    · rcases n 18 0 with h | h | h | h <;> first | exact h | omega
  · intro d hd
    have n0 : ∀ i, N t 0 i = N s 0 i := fun i => by rcases n 0 i with h | h | h | h <;> first | exact h | omega
    obtain ⟨b1, b2, b3, b4, b5, b6, b7, b8, b9, b10⟩ := rk d hd
    by_cases e : d = c
    · subst e
      obtain ⟨e1, e2, e3, e4, e5, e6, e7, e8, e9⟩ := ek
      refine ⟨?_, ?_, e1, ?_, e2, e3, e4, e5, e6, e7⟩
      · rw [e8, n0]; exact b1
      · rw [e9, n0]; exact b2
      · rw [a2 _ _ (by omega) (by omega) (by omega)]; exact b4
    · have nd : ∀ G, G = 22 ∨ G = 12 ∨ G = 13 ∨ G = 14 ∨ G = 15 ∨ G = 25 → N t G d = N s G d := fun G hG => by rcases n G d with h | h | h | h <;> first | exact h | omega
      have wd : Wda t 3 d = Wda s 3 d := by rcases w 3 d with h | h | h | h <;> first | exact h | omega
      refine ⟨?_, ?_, ?_, ?_, ?_, ?_, ?_, ?_, ?_, ?_⟩
      · rw [a2 _ _ (by omega) (by omega) (by omega), n0]; exact b1
      · rw [a2 _ _ (by omega) (by omega) (by omega), n0]; exact b2
      · rw [a2 _ _ (by omega) (by omega) (by omega), nd 22 (by omega)]; exact b3
      · rw [a2 _ _ (by omega) (by omega) (by omega)]; exact b4
      · rw [a2 _ _ (by omega) (by omega) (by omega), nd 13 (by omega)]; exact b5
      · rw [a2 _ _ (by omega) (by omega) (by omega), nd 13 (by omega), nd 14 (by omega)]; exact b6
      · rw [a2 _ _ (by omega) (by omega) (by omega), nd 12 (by omega)]; exact b7
      · rw [a2 _ _ (by omega) (by omega) (by omega), nd 15 (by omega)]; exact b8
      · rw [a2 _ _ (by omega) (by omega) (by omega), nd 25 (by omega)]; exact b9
      · intro j hj; rw [a2 _ _ (by omega) (by omega) (by omega), wd]; exact b10 j hj
  · intro d i hd hi
    by_cases e : d = c
    · subst e; exact ec i hi
    · obtain ⟨b1, b2, b3, b4⟩ := rc d i hd hi
      have nd : ∀ G, G = 1 ∨ G = 2 ∨ G = 21 → N t G (32 * d + i) = N s G (32 * d + i) := fun G hG => by rcases n G (32 * d + i) with h | h | h | h <;> first | exact h | omega
      have wd : Wda t 4 (32 * d + i) = Wda s 4 (32 * d + i) := by rcases w 4 (32 * d + i) with h | h | h | h <;> first | exact h | omega
      refine ⟨?_, ?_, ?_, ?_⟩
      · rw [a2 _ _ (by omega) (by omega) (by omega), nd 2 (by omega)]; exact b1
      · rw [a2 _ _ (by omega) (by omega) (by omega), nd 2 (by omega), nd 1 (by omega)]; exact b2
      · rw [a2 _ _ (by omega) (by omega) (by omega), nd 21 (by omega)]; exact b3
      · intro j hj; rw [a2 _ _ (by omega) (by omega) (by omega), wd]; exact b4 j hj
  · refine RCh_ag rh (fun o k _ _ => a2 _ _ (by omega) (by omega) (by omega)) (fun i => ?_) (fun F k hF => ?_) (fun k => ?_)
    · rcases n 0 i with h | h | h | h <;> first | exact h | omega
    · rcases n F k with h | h | h | h <;> first | exact h | omega
    · rcases w 2 k with h | h | h | h <;> first | exact h | omega
  · refine RCm_ag rm (fun k => a2 _ _ (by omega) (by omega) (by omega)) (fun l _ => ?_)
    rcases w 1 l with h | h | h | h <;> first | exact h | omega
  · have b3 := rp.2.2.1
    exact RCp_ag rp (eR _ _) (a2 _ _ (by omega) (by omega) (by omega)) (eS _) (eN _) (fun k => a2 _ _ (by omega) (by omega) (by omega)) (by omega) p
  · exact RCq_ag rq (a2 _ _ (by omega) (by omega) (by omega)) (fun k => a2 _ _ (by omega) (by omega) (by omega)) q
