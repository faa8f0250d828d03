theorem TQ_h {h h' m : AH} {c : Nat → Nat} {T Nn i : Nat} (Q : TQ h m c T Nn i) (e : h'.2.2 = h.2.2) (f : ∀ o k, o = 2 ∨ o = 3 → hI h' o k = hI h o k) (g : hL h' 2 5 = hL h 2 5) : TQ h' m c T Nn i := by
  obtain ⟨⟨a, b, d, e', f'⟩, y⟩ := Q
  exact ⟨⟨CT_of a e (fun o k q => f o k (by omega)), by rw [f _ _ (by omega)]; exact b, by rw [f _ _ (by omega)]; exact d, by rw [f _ _ (by omega)]; exact e', by rw [g]; exact f'⟩, y⟩
theorem TQ_m {h m m' : AH} {c : Nat → Nat} {T Nn i : Nat} (Q : TQ h m c T Nn i) (e : m'.2.2 = m.2.2) (f : ∀ o k, o = 228 ∨ o = 229 ∨ (o = 226 ∧ k = 9) → hI m' o k = hI m o k) (g : ∀ k, hL m' 230 k = hL m 230 k) : TQ h m' c T Nn i := by
  obtain ⟨x, ⟨a, b, d⟩, z⟩ := Q
  refine ⟨x, ⟨LM_3 a e, fun j hj => ?_, by rw [f _ _ (by omega)]; exact d⟩, z⟩
  have t := b j hj
  unfold tkA at t ⊢
  rw [f 228 j (by omega), f 229 j (by omega), g j]; exact t
theorem nx {h m : AH} {c : Nat → Nat} {T Nn i : Nat} (Q : TQ h m c T Nn i) (hi : i < Nn) : f_X8_next h 2 = some (tkH h c T (ts c T (i + 1))) ∧ TQ (tkH h c T (ts c T (i + 1))) (sI m 226 9 (nI (i + 1))) c T Nn (i + 1) ∧ FA h (tkH h c T (ts c T (i + 1))) := by
  obtain ⟨⟨a, b, d, e', f'⟩, ⟨l, tk, at'⟩, z1, z2⟩ := Q
  have tl : ts c T i < T := by
    have := ts_le c T i
    by_cases g : ts c T i < T
    · exact g
    · exact absurd (kind_end.mpr (by omega)) (z2.2.1 i hi).2
  have te := (tEnd_gt (c := c) tl).2
  have t : tkH h c T (ts c T (i + 1)) = sL (sI (sI (sI h 2 2 (nI (tEnd c T (ts c T (i + 1))))) 2 3 (nI (tKind c T (ts c T (i + 1))))) 2 4 (nI (ts c T (i + 1)))) 2 5 (tVal c T (ts c T (i + 1))) := rfl
  have fr : ∀ o k, ¬ (o = 2 ∧ (k = 2 ∨ k = 3 ∨ k = 4)) → hI (tkH h c T (ts c T (i + 1))) o k = hI h o k := fun o k w => by rw [t, x_hI_sL, x_ne (by omega), x_ne (by omega), x_ne (by omega)]
  refine ⟨next_c a b te, ⟨⟨CT_of a rfl (fun o k q => fr o k (by omega)), ?_, ?_, ?_, ?_⟩, ⟨l, fun j hj => ?_, x_eq _ _ _ _⟩, by omega, z2⟩, rfl, fun o k h1 h2 => fr o k h2⟩
  · rw [t, x_hI_sL, x_ne (by omega), x_ne (by omega), x_eq]
  · rw [t, x_hI_sL, x_ne (by omega), x_eq]
  · rw [t, x_hI_sL, x_eq]
  · rw [t, x_hL_sL, if_pos ⟨rfl, rfl⟩]
  · have q := tk j hj
    unfold tkA at q ⊢
    rw [x_ne (by omega), x_ne (by omega)]; exact q
theorem FB_9 (m : AH) (v : Int32) : FB m (sI m 226 9 v) := ⟨rfl, fun o k h1 h2 => x_ne (by omega)⟩
/-- what the reference sees at its token -/
theorem TQ_r {h m : AH} {c : Nat → Nat} {T Nn i : Nat} (Q : TQ h m c T Nn i) : hI m 226 9 = nI i ∧ hI m 228 i = nI (rk (tKind c T (ts c T i))) ∧ hI m 229 i = nI (ts c T i) ∧ ib (nI i) 1502 = true ∧ i < 2 ^ 31 ∧ i ≤ 1500 := by
  obtain ⟨_, ⟨l, tk, at'⟩, z1, z2, _⟩ := Q
  have t := tk i z1
  exact ⟨at', t.1, t.2.1, q_ib (by omega) (by omega), by omega, by omega⟩
theorem t64 : ∀ a, a < 128 → ∀ b, b < 128 → ((nI a).toInt64 = (nI b).toInt64 ↔ a = b) := by
  intro a ha b hb
  constructor
  · intro q
    have q3 := congrArg Int64.toInt q
    rw [Int32.toInt_toInt64, Int32.toInt_toInt64] at q3
    have q2 : nI a = nI b := Int32.toInt_inj.mp q3
    exact (q_eq (by omega) (by omega)).mp q2
  · intro q; rw [q]
theorem r_isSign {h m : AH} {c : Nat → Nat} {T Nn i : Nat} (Q : TQ h m c T Nn i) {s : Nat} (h3 : 3 < s) (hs : s < 128) : f_X11_isSign m 226 (nI s) = some (if tKind c T (ts c T i) = s then 1 else 0) := by
  obtain ⟨a1, a2, a3, a4, a5, a6⟩ := TQ_r Q
  obtain ⟨⟨C, _⟩, ⟨L, tk, _⟩, z1, z2, _⟩ := Q
  have kl := kind_lt C (ts c T i)
  have r3 := (rk_i (k := tKind c T (ts c T i))).2.2.1
  unfold f_X11_isSign
  rw [y_gs, if_pos (lm_S226 L), lm_R6 L, y_gs, if_pos (lm_S228 L), lm_N228 L, a1, y_gb, if_pos a4, q_cl a5, a2]
  by_cases g : 3 < tKind c T (ts c T i)
  · have v := (tk i z1).2.2.2 g
    rw [if_neg (fun q => q (r3.mpr g)), lm_R8 L, y_gs, if_pos (lm_S230 L), lm_N230 L, y_gb, if_pos a4, v]
    by_cases e : tKind c T (ts c T i) = s
    · rw [if_neg (fun q => q ((lg_0 _ _).mpr (by rw [e]))), if_pos e]
    · rw [if_pos (fun q => e ((t64 _ kl _ hs).mp ((lg_0 _ _).mp q))), if_neg e]
  · rw [if_pos (fun q => g (r3.mp q)), if_neg (by omega)]
/-- faults by their key: 4 place + kind; 100000: none -/
def FK (m : AH) (x : Nat) : Prop := (x = 100000 ∧ hI m 226 3 = 0 ∧ hI m 226 4 = 0) ∨ (x < 100000 ∧ 2 ≤ x % 4 ∧ hI m 226 3 = nI (x % 4) ∧ hI m 226 4 = nI (x / 4))
theorem FK_of {m m' : AH} {x : Nat} (h : FK m x) (f : ∀ k, k = 3 ∨ k = 4 → hI m' 226 k = hI m 226 k) : FK m' x := by
  unfold FK at h ⊢
  rw [f 3 (by omega), f 4 (by omega)]; exact h
/-- a fault noted: first or not -/
theorem r_note1 {m : AH} (L : LM m) (k w : Int32) : (∃ b : Bool, f_X11_note m 226 k w = some (if b = true then sI (sI m 226 3 k) 226 4 w else sI (sI m 226 3 (hI m 226 3)) 226 4 (hI m 226 4)) ∧ (b = true ↔ (hI m 226 3 = 0 ∨ k = (1 : Int32) ∨ (¬ hI m 226 3 = (1 : Int32) ∧ (w < hI m 226 4 ∨ (w = hI m 226 4 ∧ ¬ hI m 226 3 ≤ k)))))) := by
  have l49 : ∀ s : Int32, f_X11_note_L49 m 226 k w s = some (if s = 0 then sI (sI m 226 3 (hI m 226 3)) 226 4 (hI m 226 4) else sI (sI m 226 3 k) 226 4 w) := by
    intro s
    unfold f_X11_note_L49 f_X11_note_L63 f_X11_note_L79
    have La : ∀ v, LM (sI m 226 3 v) := fun v => L
    rw [y_gs, if_pos (lm_S226 L), y_gs, if_pos (lm_S226 L), y_lt, y_gs, if_pos (lm_S226 (La _)), y_gs, if_pos (lm_S226 (La _)), y_lt, y_gs, if_pos (lm_S226 (La _)), y_lt]
    by_cases z : s = 0
    · rw [if_pos z, if_pos z, if_pos z, x_ne (by omega)]
    · rw [if_neg z, if_neg z, y_gs, if_pos (lm_S226 L), y_lt, if_neg z, y_gs, if_pos (lm_S226 (La _)), y_lt]
  unfold f_X11_note f_X11_note_L44 f_X11_note_L48
  rw [y_gs, if_pos (lm_S226 L), l49, l49, if_neg (show ¬ (1 : Int32) = 0 from by decide), if_pos (show (0 : Int32) = 0 from rfl)]
  by_cases h1 : hI m 226 3 = 0
  · exact ⟨true, by rw [if_pos h1, if_pos rfl], ⟨fun _ => Or.inl h1, fun _ => rfl⟩⟩
  rw [if_neg h1]
  by_cases h2 : k = (1 : Int32)
  · exact ⟨true, by rw [if_pos h2, if_pos rfl], ⟨fun _ => Or.inr (Or.inl h2), fun _ => rfl⟩⟩
  rw [if_neg h2]
  by_cases h3 : hI m 226 3 = (1 : Int32)
  · exact ⟨false, by rw [if_pos h3, if_neg (by decide)], ⟨fun q => absurd q (by decide), fun q => by rcases q with q | q | q; exact absurd q h1; exact absurd q h2; exact absurd h3 q.1⟩⟩
  rw [if_neg h3]
  by_cases h4 : w < hI m 226 4
  · exact ⟨true, by rw [if_pos h4, if_pos rfl], ⟨fun _ => Or.inr (Or.inr ⟨h3, Or.inl h4⟩), fun _ => rfl⟩⟩
  rw [if_neg h4]
  by_cases h5 : w = hI m 226 4
  · rw [if_neg (fun q => q h5)]
    by_cases h6 : hI m 226 3 ≤ k
    · exact ⟨false, by rw [if_pos h6, if_neg (by decide)], ⟨fun q => absurd q (by decide), fun q => by rcases q with q | q | q; exact absurd q h1; exact absurd q h2; rcases q.2 with q | q; exact absurd q h4; exact absurd h6 q.2⟩⟩
    · exact ⟨true, by rw [if_neg h6, if_pos rfl], ⟨fun _ => Or.inr (Or.inr ⟨h3, Or.inr ⟨h5, h6⟩⟩), fun _ => rfl⟩⟩
  · exact ⟨false, by rw [if_pos h5, if_neg (by decide)], ⟨fun q => absurd q (by decide), fun q => by rcases q with q | q | q; exact absurd q h1; exact absurd q h2; rcases q.2 with q | q; exact absurd q h4; exact absurd q.1 h5⟩⟩
/-- only faults changed -/
def FN (m m' : AH) : Prop := m'.2 = m.2 ∧ ∀ o k, ¬ (o = 226 ∧ (k = 3 ∨ k = 4)) → hI m' o k = hI m o k
theorem FN_B {m m' : AH} (h : FN m m') : FB m m' := ⟨by rw [h.1], fun o k h1 h2 => h.2 o k (by omega)⟩
theorem FN_34 (m : AH) (v w : Int32) : FN m (sI (sI m 226 3 v) 226 4 w) := ⟨rfl, fun o k g => by rw [x_ne (by omega), x_ne (by omega)]⟩
theorem r_note {m : AH} (L : LM m) {x k w : Nat} (F : FK m x) (hk : k = 2 ∨ k = 3) (hw : w ≤ 2000) : ∃ m', f_X11_note m 226 (nI k) (nI w) = some m' ∧ FK m' (min x (4 * w + k)) ∧ FN m m' := by
  obtain ⟨b, e, hb⟩ := r_note1 L (nI k) (nI w)
  have k1 : ¬ nI k = (1 : Int32) := fun q => by have := (q_eq (b := 1) (by omega) (by omega)).mp q; omega
  refine ⟨_, e, ?_, ?_⟩
  · rcases F with ⟨x1, x2, x3⟩ | ⟨x1, x2, x3, x4⟩
    · have bt : b = true := hb.mpr (Or.inl x2)
      rw [if_pos bt, show min x (4 * w + k) = 4 * w + k by omega]
      refine Or.inr ⟨by omega, by omega, ?_, ?_⟩
      · rw [x_ne (by omega), x_eq, show (4 * w + k) % 4 = k by omega]
      · rw [x_eq, show (4 * w + k) / 4 = w by omega]
    · have f0 : ¬ hI m 226 3 = 0 := by rw [x3]; exact fun q => by have := (q_eq (b := 0) (by omega) (by omega)).mp q; omega
      have f1 : ¬ hI m 226 3 = (1 : Int32) := by rw [x3]; exact fun q => by have := (q_eq (b := 1) (by omega) (by omega)).mp q; omega
      have lt : nI w < hI m 226 4 ↔ w < x / 4 := by rw [x4]; exact q_lt (by omega) (by omega)
      have eq : nI w = hI m 226 4 ↔ w = x / 4 := by rw [x4]; exact q_eq (by omega) (by omega)
      have le : hI m 226 3 ≤ nI k ↔ x % 4 ≤ k := by rw [x3]; exact q_le (by omega) (by omega)
      by_cases g : 4 * w + k < x
      · have bt : b = true := hb.mpr (Or.inr (Or.inr ⟨f1, by
          by_cases g2 : w < x / 4
          · exact Or.inl (lt.mpr g2)
          · exact Or.inr ⟨eq.mpr (by omega), fun q => by have := le.mp q; omega⟩⟩))
        rw [if_pos bt, show min x (4 * w + k) = 4 * w + k by omega]
        refine Or.inr ⟨by omega, by omega, ?_, ?_⟩
        · rw [x_ne (by omega), x_eq, show (4 * w + k) % 4 = k by omega]
        · rw [x_eq, show (4 * w + k) / 4 = w by omega]
      · have bf : ¬ b = true := fun q => by
          rcases hb.mp q with z | z | ⟨_, z | ⟨z1, z2⟩⟩
          · exact f0 z
          · exact k1 z
          · have := lt.mp z; omega
          · have := eq.mp z1
            exact z2 (le.mpr (by omega))
        rw [if_neg bf, show min x (4 * w + k) = x by omega]
        refine Or.inr ⟨x1, x2, ?_, ?_⟩
        · rw [x_ne (by omega), x_eq]; exact x3
        · rw [x_eq]; exact x4
  · cases b
    · rw [if_neg (by decide)]; exact FN_34 _ _ _
    · rw [if_pos rfl]; exact FN_34 _ _ _
/-- the reference refuses at its token -/
theorem r_refuse {h m : AH} {c : Nat → Nat} {T Nn i : Nat} (Q : TQ h m c T Nn i) : ∃ m', f_X11_refuse m 226 = some ((0 : Int32), m') ∧ hI m' 226 3 = (1 : Int32) ∧ hI m' 226 4 = nI (ts c T i) ∧ FN m m' := by
  obtain ⟨a1, a2, a3, a4, a5, a6⟩ := TQ_r Q
  have L := Q.2.1.1
  obtain ⟨b, e, hb⟩ := r_note1 L (1 : Int32) (nI (ts c T i))
  have bt : b = true := hb.mpr (Or.inr (Or.inl rfl))
  rw [if_pos bt] at e
  refine ⟨sI (sI m 226 3 (1 : Int32)) 226 4 (nI (ts c T i)), ?_, ?_, ?_, FN_34 _ _ _⟩
  · unfold f_X11_refuse
    rw [y_gs, if_pos (lm_S226 L), lm_R7 L, y_gs, if_pos (lm_S229 L), lm_N229 L, a1, y_gb, if_pos a4, q_cl a5, a3, e, y_bds]
  · rw [x_ne (by omega), x_eq]
  · rw [x_eq]
theorem c_refuse {h : AH} (L : LC h) (p : Int32) : f_X1_refuse h 4 p = some ((0 : Int32), sI (sI h 4 16 (1 : Int32)) 4 17 p) := by
  unfold f_X1_refuse
  rw [y_gs, if_pos (lc_S4 L), y_lt, y_lt]
