/-- CoreHouse's frame: all that isn't the memory system's, and what is due at the home -/
def FrD (h h' : AH) : Prop := FrC h h' ∧ ∀ k, hI h' 26 k = hI h 26 k
theorem FrD_rfl (h : AH) : FrD h h := ⟨FrC_rfl h, fun _ => rfl⟩
theorem FrD_tr {a b c : AH} (h1 : FrD a b) (h2 : FrD b c) : FrD a c := ⟨FrC_tr h1.1 h2.1, fun k => (h2.2 k).trans (h1.2 k)⟩
theorem FrD_K {h h' : AH} {c : Nat} (F : FrK h h' c) : FrD h h' := ⟨FrC_K F, fun k => F.2 26 k (by omega) (by omega) (by omega)⟩
theorem FrD_P {h h' : AH} (F : FrP h h') : FrD h h' := ⟨FrC_P F, fun k => F.1 26 k (by omega) (by omega) (by omega)⟩
theorem uN_comm (s : St) {F i v G j w : Nat} (e : ¬ (F = G ∧ i = j)) : uN (uN s F i v) G j w = uN (uN s G j w) F i v := by
  unfold uN
  congr 1
  funext a b
  unfold up2
  simp only
  split <;> split <;> first | rfl | omega
theorem c_state {h : AH} {s : St} (R : RC h s) {c i v : Nat} (hc : c < 16) (hi : i < 32) (hv : v = 0 ∨ N s 2 (32 * c + i) ≠ 0) : RC (sI h (40 + 12 * c) i (nI v)) (uN s 2 (32 * c + i) v) ∧ FrK h (sI h (40 + 12 * c) i (nI v)) c := by
  obtain ⟨k1, k2, k3, k4, k5, k6, k7, k8, k9, k10⟩ := R.2.2.1 c hc
  have F : FrK h (sI h (40 + 12 * c) i (nI v)) c := FrK_sI (FrK_rfl h c) _ (by omega)
  refine ⟨RC_K R hc F ?_ (fun G j => Or.inl rfl) rfl rfl ?_ ?_, F⟩
  · intro G j
    simp only [N_uN]
    (repeat' split) <;> omega
  · refine ⟨?_, ?_, ?_, ?_, ?_, ?_, ?_, ?_, ?_⟩
    · rw [x_ne (by omega)]; exact k3
    · rw [x_ne (by omega)]; exact k5
    · rw [x_ne (by omega)]; exact k6
    · rw [x_ne (by omega)]; exact k7
    · rw [x_ne (by omega)]; exact k8
    · rw [x_ne (by omega)]; exact k9
    · intro j hj; rw [x_ne (by omega)]; exact k10 j hj
    · rw [x_ne (by omega)]
    · rw [x_ne (by omega)]
  · intro i' hi'
    obtain ⟨d1, d2, d3, d4⟩ := R.2.2.2.1 c i' hc hi'
    by_cases e : i' = i
    · subst e
      refine ⟨?_, ?_, ?_, ?_⟩
      · rw [x_eq, N_eq]
      · intro g
        rw [N_eq] at g
        rw [x_ne (by omega), N_ne (by omega)]
        exact d2 (by rcases hv with h | h; exact absurd h g; exact h)
      · rw [x_ne (by omega)]; exact d3
      · intro j hj; rw [x_ne (by omega)]; exact d4 j hj
    · refine ⟨?_, ?_, ?_, ?_⟩
      · rw [x_ne (by omega), N_ne (by omega)]; exact d1
      · rw [x_ne (by omega), N_ne (by omega)]; exact d2
      · rw [x_ne (by omega)]; exact d3
      · intro j hj; rw [x_ne (by omega)]; exact d4 j hj
/-- one of a core's own fields -/
theorem c_field {h : AH} {s : St} (R : RC h s) {c f F v : Nat} {x : Int32} (hc : c < 16)
    (hf : (f = 8 ∧ F = 13 ∧ x = pI v ∧ (v = 0 ∨ hI h (34 + 12 * c) 9 = nI (N s 14 c))) ∨ (f = 9 ∧ F = 14 ∧ x = nI v) ∨ (f = 11 ∧ F = 12 ∧ x = pI v) ∨ (f = 12 ∧ F = 15 ∧ x = nI v) ∨ (f = 15 ∧ F = 25 ∧ x = nI v)) : RC (sI h (34 + 12 * c) f x) (uN s F c v) ∧ FrK h (sI h (34 + 12 * c) f x) c := by
  obtain ⟨k1, k2, k3, k4, k5, k6, k7, k8, k9, k10⟩ := R.2.2.1 c hc
  have F : FrK h (sI h (34 + 12 * c) f x) c := FrK_sI (FrK_rfl h c) _ (by omega)
  refine ⟨RC_K R hc F ?_ (fun G j => Or.inl rfl) rfl rfl ?_ ?_, F⟩
  · intro G j
    simp only [N_uN]
    (repeat' split) <;> omega
  · rcases hf with ⟨rfl, rfl, rfl, hv⟩ | ⟨rfl, rfl, rfl⟩ | ⟨rfl, rfl, rfl⟩ | ⟨rfl, rfl, rfl⟩ | ⟨rfl, rfl, rfl⟩
    · refine ⟨?_, ?_, ?_, ?_, ?_, ?_, ?_, ?_, ?_⟩
      · rw [x_ne (by omega)]; exact k3
      · rw [x_eq, N_eq]
      · intro g; rw [N_eq] at g; rw [x_ne (by omega), N_ne (by omega)]; rcases hv with h | h; exact absurd h g; exact h
      · rw [x_ne (by omega)]; exact k7
      · rw [x_ne (by omega)]; exact k8
      · rw [x_ne (by omega)]; exact k9
      · intro j hj; rw [x_ne (by omega)]; exact k10 j hj
      · rw [x_ne (by omega)]
      · rw [x_ne (by omega)]
    · refine ⟨?_, ?_, ?_, ?_, ?_, ?_, ?_, ?_, ?_⟩
      · rw [x_ne (by omega)]; exact k3
      · rw [x_ne (by omega)]; exact k5
      · intro _; rw [x_eq, N_eq]
      · rw [x_ne (by omega)]; exact k7
      · rw [x_ne (by omega)]; exact k8
      · rw [x_ne (by omega)]; exact k9
      · intro j hj; rw [x_ne (by omega)]; exact k10 j hj
      · rw [x_ne (by omega)]
      · rw [x_ne (by omega)]
    · refine ⟨?_, ?_, ?_, ?_, ?_, ?_, ?_, ?_, ?_⟩
      · rw [x_ne (by omega)]; exact k3
      · rw [x_ne (by omega)]; exact k5
      · rw [x_ne (by omega)]; exact k6
      · rw [x_eq, N_eq]
      · rw [x_ne (by omega)]; exact k8
      · rw [x_ne (by omega)]; exact k9
      · intro j hj; rw [x_ne (by omega)]; exact k10 j hj
      · rw [x_ne (by omega)]
      · rw [x_ne (by omega)]
    · refine ⟨?_, ?_, ?_, ?_, ?_, ?_, ?_, ?_, ?_⟩
      · rw [x_ne (by omega)]; exact k3
      · rw [x_ne (by omega)]; exact k5
      · rw [x_ne (by omega)]; exact k6
      · rw [x_ne (by omega)]; exact k7
      · rw [x_eq, N_eq]
      · rw [x_ne (by omega)]; exact k9
      · intro j hj; rw [x_ne (by omega)]; exact k10 j hj
      · rw [x_ne (by omega)]
      · rw [x_ne (by omega)]
    · refine ⟨?_, ?_, ?_, ?_, ?_, ?_, ?_, ?_, ?_⟩
      · rw [x_ne (by omega)]; exact k3
      · rw [x_ne (by omega)]; exact k5
      · rw [x_ne (by omega)]; exact k6
      · rw [x_ne (by omega)]; exact k7
      · rw [x_ne (by omega)]; exact k8
      · rw [x_eq, N_eq]
      · intro j hj; rw [x_ne (by omega)]; exact k10 j hj
      · rw [x_ne (by omega)]
      · rw [x_ne (by omega)]
  · intro i hi
    obtain ⟨d1, d2, d3, d4⟩ := R.2.2.2.1 c i hc hi
    refine ⟨?_, ?_, ?_, ?_⟩
    · rw [x_ne (by omega), N_ne (by omega)]; exact d1
    · rw [x_ne (by omega), N_ne (by omega), N_ne (by omega)]; exact d2
    · rw [x_ne (by omega), N_ne (by omega)]; exact d3
    · intro j hj; rw [x_ne (by omega)]; exact d4 j hj
theorem c_answer {h : AH} {s : St} (R : RC h s) (B : Bz s) (G : Rg s) {c l v : Nat} (hc : c < 16) (hl : l < 512) (hv : v ≤ 1) (hp : (Pl s).length < 8400)
    (hw1 : ∀ k, sWay s c l = some k → 1 < N s 2 k → Wda s 4 k = Wda s 0 l) (hw2 : N s 13 c = l + 1 → N s 14 c = 0 → Wda s 3 c = Wda s 0 l) :
    ∃ h', f_X3_answer h (34 + 12 * c) (nI l) (nI v) = some h' ∧ RC h' (sState (sAnswer s c l) c l v) ∧ FrD h h' := by
  have L := RC_L R
  obtain ⟨k1, k2, k3, k4, k5, k6, k7, k8, k9, k10⟩ := R.2.2.1 c hc
  have g13 := G 13 c (by omega) hc
  have g14 := G 14 c (by omega) hc
  have sw : sWay (sAnswer s c l) c l = sWay s c l := sWay_congr (fun i => sAnswer_N s c _ 0 i (by omega)) (fun i => sAnswer_N s c _ 1 i (by omega)) (fun i => sAnswer_N s c _ 2 i (by omega)) c l
  -- behind the sending: the state, then the shelf
  have fin : ∀ (h1 : AH) (x : Msg), RC h1 (sPost s x) → FrD h h1 → sAnswer s c l = sPost (sGone s c l) x → ∃ h', f_X3_answer_L105 h1 (34 + 12 * c) (nI v) (oI ((sWay s c l).map (lo c))) (if N s 13 c = l + 1 then nI 1 else nI 0) = some h' ∧ RC h' (sState (sAnswer s c l) c l v) ∧ FrD h h' := by
    intro h1 x R1 F1 ex
    have L1 := RC_L R1
    have gone : ∀ (h2 : AH) (t : St), RC h2 (sPost t x) → FrD h h2 → N t 13 c = N s 13 c → ∃ h', f_X3_answer_L131 h2 (34 + 12 * c) (if N s 13 c = l + 1 then nI 1 else nI 0) = some h' ∧ RC h' (sPost (if N s 13 c = l + 1 then uN t 14 c 1 else t) x) ∧ FrD h h' := by
      intro h2 t R2 F2 et
      have L2 := RC_L R2
      unfold f_X3_answer_L131
      by_cases e : N s 13 c = l + 1
      · rw [if_pos e, if_neg (show ¬ nI 1 = 0 from by decide), if_pos e, y_gs, if_pos (lk_S34 L2 hc), y_lt]
        have := c_field R2 (c := c) (f := 9) (F := 14) (v := 1) (x := nI 1) hc (Or.inr (Or.inl ⟨rfl, rfl, rfl⟩))
        exact ⟨_, rfl, this.1, FrD_tr F2 (FrD_K this.2)⟩
      · rw [if_neg e, if_pos (show nI 0 = 0 from rfl), if_neg e]
        exact ⟨_, rfl, R2, F2⟩
    unfold f_X3_answer_L105 sState
    rw [sw, ex]
    cases e : sWay s c l with
    | none =>
      rw [show oI (none.map (lo c)) = nN from rfl, if_pos (show nN < 0 from by decide)]
      exact gone h1 s R1 F1 rfl
    | some k =>
      obtain ⟨hk, h2, hk1, g1, g2⟩ := sWay_lt B hc e
      have hs := sSet_le B c l
      have g2 := G 2 k (by omega) hk
      have hi : lo c k < 32 := by unfold lo; omega
      have hkk : 32 * c + lo c k = k := by unfold lo; omega
      obtain ⟨d1, d2, d3, d4⟩ := R1.2.2.2.1 c (lo c k) hc hi
      rw [hkk] at d1
      have d1' : hI h1 (40 + 12 * c) (lo c k) = nI (N s 2 k) := d1
      rw [show oI ((some k).map (lo c)) = nI (lo c k) from rfl, if_neg (show ¬ nI (lo c k) < 0 from by rw [show (0 : Int32) = nI 0 from rfl, q_lt (by omega) (by omega)]; omega)]
      have mn : (if nI v < nI (N s 2 k) then nI v else nI (N s 2 k)) = nI v := by
        by_cases c1 : v < N s 2 k
        · rw [if_pos ((q_lt (by omega) (by omega)).mpr c1)]
        · rw [if_neg (by rw [q_lt (by omega) (by omega)]; exact c1), show N s 2 k = v by omega]
      simp (disch := omega) only [↓y_gs, ↓y_gb, ↓y_lt, ↓y_bds, q_lit, q_cl, q_ib, q_add, q_mul, ↓reduceIte, decide_true, Nat.reduceAdd, Nat.reduceMul, lk_S34 L1 hc, lk_R34_6 L1 hc, lk_S38 L1 hc, lk_R38_1 L1 hc, lk_S40 L1 hc, lk_N40 L1 hc, d1', mn]
      obtain ⟨R2, F2⟩ := c_state R1 (v := v) hc hi (Or.inr (by rw [hkk]; show N s 2 k ≠ 0; omega))
      rw [hkk] at R2
      obtain ⟨h', e', R', F'⟩ := gone _ (uN s 2 k v) R2 (FrD_tr F1 (FrD_K F2)) rfl
      refine ⟨h', e', ?_, F'⟩
      unfold sGone
      by_cases e3 : N s 13 c = l + 1
      · rw [if_pos e3] at R' ⊢
        rw [show uN (sPost (uN s 14 c 1) x) 2 k v = sPost (uN (uN s 14 c 1) 2 k v) x from rfl, uN_comm s (by omega)]
        exact R'
      · rw [if_neg e3] at R' ⊢
        exact R'
  have ack0 : sHas s c l = false → sAnswer s c l = sPost (sGone s c l) (5, c, 16, l, 0, w0) := fun e => by unfold sAnswer; rw [e]; rfl
  have ack1 : sHas s c l = true → sAnswer s c l = sPost (sGone s c l) (5, c, 16, l, 1, Wda s 0 l) := fun e => by unfold sAnswer; rw [e]; rfl
  unfold f_X3_answer
  rw [y_gs, if_pos (lk_S34 L hc), lk_R34_6 L hc, y_gs, if_pos (lk_S38 L hc), c_find R B G hc hl, y_bds, k5]
  have sh : (if ¬ pI (N s 13 c) = nI l then f_X3_answer_L22 h (34 + 12 * c) (nI l) (nI v) (oI ((sWay s c l).map (lo c))) 0 else f_X3_answer_L22 h (34 + 12 * c) (nI l) (nI v) (oI ((sWay s c l).map (lo c))) 1) = f_X3_answer_L22 h (34 + 12 * c) (nI l) (nI v) (oI ((sWay s c l).map (lo c))) (if N s 13 c = l + 1 then nI 1 else nI 0) := by
    by_cases e : N s 13 c = l + 1
    · rw [if_neg (show ¬ ¬ pI (N s 13 c) = nI l from fun h => h ((pI_nI (by omega) (by omega)).mpr e)), if_pos e]; rfl
    · rw [if_pos (show ¬ pI (N s 13 c) = nI l from fun h => e ((pI_nI (by omega) (by omega)).mp h)), if_neg e]; rfl
  rw [sh]
  -- without a line of its own: what the shelf has
  have l69 : sHas s c l = (decide (N s 13 c = l + 1) && decide (N s 14 c = 0)) → ∃ h', f_X3_answer_L69 h (34 + 12 * c) (nI l) (nI v) (oI ((sWay s c l).map (lo c))) (if N s 13 c = l + 1 then nI 1 else nI 0) = some h' ∧ RC h' (sState (sAnswer s c l) c l v) ∧ FrD h h' := by
    intro eh
    unfold f_X3_answer_L69
    have no : (N s 13 c = l + 1 → N s 14 c ≠ 0) → ∃ h', f_X3_answer_L100 h (34 + 12 * c) (nI v) (oI ((sWay s c l).map (lo c))) (if N s 13 c = l + 1 then nI 1 else nI 0) 16 (nI 5) (nI c) (nI 16) (nI l) = some h' ∧ RC h' (sState (sAnswer s c l) c l v) ∧ FrD h h' := by
      intro hn
      obtain ⟨h1, e1, R1, F1⟩ := c_send R (kd := 5) (fr := c) (to := 16) (l := l) (wid := 0) (idx := 0) (fi := 0) (ws := w0) (Or.inl ⟨rfl, rfl, rfl⟩) hp
      unfold f_X3_answer_L100 f_X3_answer_L101
      rw [y_gs, if_pos (lc_S16 L), show (0 : Int32) = nI 0 from rfl, e1, y_bds]
      refine fin h1 _ R1 (FrD_P F1) (ack0 ?_)
      rw [eh]
      by_cases e : N s 13 c = l + 1
      · rw [decide_eq_true e, decide_eq_false (hn e)]; rfl
      · rw [decide_eq_false e]; rfl
    rw [y_gs, if_pos (lk_S34 L hc), lk_R34_1 L hc, k4, lk_R34_10 L hc]
    by_cases e : N s 13 c = l + 1
    · rw [if_pos e, if_neg (show ¬ nI 1 = 0 from by decide), k6 (by omega)]
      by_cases e2 : N s 14 c = 0
      · rw [if_neg (show ¬ ¬ nI (N s 14 c) = 0 from fun h => h (by rw [e2]; rfl))]
        obtain ⟨h1, e1, R1, F1⟩ := c_send R (kd := 5) (fr := c) (to := 16) (l := l) (wid := 45 + 12 * c) (idx := 0) (fi := 1) (ws := Wda s 0 l) (Or.inr ⟨by omega, by omega, by omega, by omega, rfl, lk_S45 L hc, by rw [lk_N45 L hc]; omega, by rw [lk_N45 L hc]; omega, fun j hj => by rw [Nat.zero_add, k10 j hj, hw2 e e2]⟩) hp
        unfold f_X3_answer_L101
        rw [y_gs, if_pos (lc_S16 L), show (5 : Int32) = nI 5 from rfl, show (16 : Int32) = nI 16 from rfl, show (0 : Int32) = nI 0 from rfl, e1, y_bds]
        have := fin h1 _ R1 (FrD_P F1) (ack1 (by rw [eh, decide_eq_true e, decide_eq_true e2]; rfl))
        rw [if_pos e] at this; exact this
      · rw [if_pos (show ¬ nI (N s 14 c) = 0 from fun h => e2 ((q_eq (b := 0) (by omega) (by omega)).mp h))]
        have := no (fun _ => e2)
        rw [if_pos e] at this; exact this
    · rw [if_neg e, if_pos (show nI 0 = 0 from rfl)]
      have := no (fun h => absurd h e)
      rw [if_neg e] at this; exact this
  unfold f_X3_answer_L22
  cases e : sWay s c l with
  | none =>
    rw [e] at l69
    rw [show oI (none.map (lo c)) = nN from rfl, if_pos (show nN < 0 from by decide)]
    refine l69 ?_
    unfold sHas; rw [e]; rfl
  | some k =>
    obtain ⟨hk, h2, hk1, g1, g2⟩ := sWay_lt B hc e
    have hs := sSet_le B c l
    have g2 := G 2 k (by omega) hk
    have hi : lo c k < 32 := by unfold lo; omega
    have hkk : 32 * c + lo c k = k := by unfold lo; omega
    obtain ⟨d1, d2, d3, d4⟩ := R.2.2.2.1 c (lo c k) hc hi
    rw [hkk] at d1 d4
    rw [e] at l69 fin
    rw [show oI ((some k).map (lo c)) = nI (lo c k) from rfl] at l69 fin ⊢
    rw [if_neg (show ¬ nI (lo c k) < 0 from by rw [show (0 : Int32) = nI 0 from rfl, q_lt (by omega) (by omega)]; omega)]
    rw [y_gs, if_pos (lk_S34 L hc), lk_R34_6 L hc, y_gs, if_pos (lk_S38 L hc), lk_R38_1 L hc, y_gs, if_pos (lk_S40 L hc), lk_N40 L hc, y_gb, if_pos (q_ib hi (by omega)), q_cl (show lo c k < 2 ^ 31 by omega), d1]
    by_cases c2 : N s 2 k < 2
    · rw [if_pos (show nI (N s 2 k) < (2 : Int32) from (q_lt (b := 2) (by omega) (by omega)).mpr c2)]
      refine l69 ?_
      unfold sHas; rw [e]
      show (decide (1 < N s 2 k) || _) = _
      rw [decide_eq_false (by omega)]; rfl
    · rw [if_neg (show ¬ nI (N s 2 k) < (2 : Int32) from fun h => c2 ((q_lt (b := 2) (by omega) (by omega)).mp h))]
      obtain ⟨h1, e1, R1, F1⟩ := c_send R (kd := 5) (fr := c) (to := 16) (l := l) (wid := 42 + 12 * c) (idx := lo c k * 4) (fi := 1) (ws := Wda s 0 l) (Or.inr ⟨by omega, by omega, by omega, by omega, rfl, lk_S42 L hc, by rw [lk_N42 L hc]; omega, by rw [lk_N42 L hc]; omega, fun j hj => by rw [show lo c k * 4 + j = 4 * lo c k + j by omega, d4 j hj, hw1 k e (by omega)]⟩) hp
      rw [lk_R34_1 L hc, y_gs, if_pos (lc_S16 L), k4, lk_R38_3 L hc, show (5 : Int32) = nI 5 from rfl, show (16 : Int32) = nI 16 from rfl, show (4 : Int32) = nI 4 from rfl, q_mul, e1, y_bds]
      refine fin h1 _ R1 (FrD_P F1) (ack1 ?_)
      unfold sHas; rw [e]
      show (decide (1 < N s 2 k) || _) = _
      rw [decide_eq_true (by omega)]; rfl
