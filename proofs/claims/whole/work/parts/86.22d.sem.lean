/-! Waits grow in both. -/
theorem sI_id (h : AH) (o k : Nat) : sI h o k (hI h o k) = h := by
  obtain ⟨a, r⟩ := h
  unfold sI hI
  congr 1
  funext p q
  unfold up2
  split
  · next g => rw [g.1, g.2]
  · rfl
theorem Rel_idle {h m : AH} {s : St} {e : Ex} {b c : Nat} (R : Rel h m s e b) (hc : c < 16) {i M : Int32} (hi : il i M) : Rel (sI (sI h (34 + 12 * c) 13 i) (34 + 12 * c) 14 M) (sI (sI m 255 c i) 256 c M) s e b := by
  have lim := Rel_lim R
  refine Rel_x R rfl (fun o k g => by rw [x_ne (fun w => g (by unfold xo; omega)), x_ne (fun w => g (by unfold xo; omega))]) rfl (fun o k g => by rw [x_ne (fun w => by have := irr_f g; omega), x_ne (fun w => by have := irr_f g; omega)]) ?_ (Nat.le_refl _) R.2.2.1.1.2
  have X := R.2.2.2.2
  refine EX_core (c := c) X lim (fun o k => ?_) (fun o k => ?_) (fun F i h => rfl) ?_
  · by_cases w : o = 34 + 12 * c
    · exact Or.inl (by omega)
    · exact Or.inr (by rw [x_ne (by omega), x_ne (by omega)])
  · by_cases w : (o = 255 ∨ o = 256) ∧ k = c
    · exact Or.inl (by omega)
    · exact Or.inr (by rw [x_ne (by omega), x_ne (by omega)])
  · have Xc := X.1 c hc
    obtain ⟨x1, ⟨x2, x3, x4⟩, ⟨x5, x6, x7⟩, ⟨x8, x9, x10, x11⟩, x12, ⟨x13, x14, x15⟩, x16, x17, x18⟩ := Xc
    have fh : ∀ o k, ¬ (o = 34 + 12 * c ∧ (k = 13 ∨ k = 14)) → hI (sI (sI h (34 + 12 * c) 13 i) (34 + 12 * c) 14 M) o k = hI h o k := fun o k g => by rw [x_ne (by omega), x_ne (by omega)]
    have fm : ∀ o k, o ≠ 255 → o ≠ 256 → hI (sI (sI m 255 c i) 256 c M) o k = hI m o k := fun o k g1 g2 => by rw [x_ne (by omega), x_ne (by omega)]
    have h14 : hI (sI (sI h (34 + 12 * c) 13 i) (34 + 12 * c) 14 M) (34 + 12 * c) 14 = M := x_eq _ _ _ _
    have h13 : hI (sI (sI h (34 + 12 * c) 13 i) (34 + 12 * c) 14 M) (34 + 12 * c) 13 = i := by rw [x_ne (by omega), x_eq]
    refine ⟨fun r hr => ?_, ⟨?_, ?_, x4⟩, ⟨?_, ?_, x7⟩, ⟨?_, ?_, x10, ?_⟩, fun j hj => ?_, ⟨?_, ?_, x15⟩, fun q hq hq2 => ?_, ?_, ?_⟩
    · rw [fh _ _ (by omega), fm _ _ (by omega) (by omega)]; exact x1 r hr
    · rw [fh _ _ (by omega)]; exact x2
    · rw [fm _ _ (by omega) (by omega)]; exact x3
    · rw [fh _ _ (by omega)]; exact x5
    · rw [fm _ _ (by omega) (by omega)]; exact x6
    · rw [fh _ _ (by omega)]; exact x8
    · rw [fm _ _ (by omega) (by omega)]; exact x9
    · rw [fh _ _ (by omega)]; exact x11
    · have z := x12 j hj
      rw [fh _ _ (by omega), fm 249 _ (by omega) (by omega), fh _ (3 * j + 1) (by omega), fm 250 _ (by omega) (by omega), fh _ (3 * j + 2) (by omega), fm 251 _ (by omega) (by omega)]
      exact z
    · rw [fh _ _ (by omega)]; exact x13
    · rw [fm _ _ (by omega) (by omega)]; exact x14
    · have z := x16 q hq hq2
      refine ⟨fun j hj => ?_, ?_⟩
      · rw [fh _ _ (by omega), fm _ _ (by omega) (by omega)]; exact z.1 j hj
      · rw [fh _ _ (by omega)]; exact z.2
    · rw [h13, x_ne (by omega), x_eq]
    · rw [h13, h14, x_eq]; exact ⟨rfl, hi⟩
/-- what stands behind the growing -/
def entE (h : AH) (a1 : Int32) : Option AH :=
  bd (f_X11_isDone h 226 a1) fun q5 => lt (q5.1) fun x6 => gs q5.2 226 10 <| lt (sI q5.2 226 66 ((hI q5.2 226 66) + (1 : Int32))) fun h8 => if x6 = 0 then f_X11_entry_L107 h8 226 (hI h8 226 67) (1 : Int32) else f_X11_entry_L107 h8 226 (hI h8 226 67) (0 : Int32)
theorem max_le2 (x y : Int32) : (if x ≤ y then y else x) = (if y < x then x else y) := by
  by_cases h : y < x
  · rw [if_pos h, if_neg (fun q => absurd (Int32.lt_of_lt_of_le h q) Int32.lt_irrefl)]
  · rw [if_neg h, if_pos (Int32.not_lt.mp h)]
theorem il_max {x y z : Int32} (h : 0 ≤ y) : il x (if y < x then x else y) := by
  unfold il
  by_cases g : y < x
  · rw [if_pos g]; exact ⟨Int32.le_refl _, Int32.le_trans h (Int32.le_of_lt g)⟩
  · rw [if_neg g]; exact ⟨Int32.not_lt.mp g, h⟩
theorem grow_both (a1 : Int32) : ∀ (r : Nat) {h m : AH} {s : St} {e : Ex} {b : Nat}, Rel h m s e b → ∀ i f g, i + r = N s 0 0 → r < f → r < g →
    ∃ h' m', f_X10_growWaits_L2 f h 1 (nI i) = some h' ∧ f_X11_entry_L2 g m 226 a1 (nI i) = entE m' a1 ∧ Rel h' m' s e b ∧ h'.2 = h.2 ∧ m'.2 = m.2 := by
  intro r
  induction r with
  | zero =>
    intro h m s e b R i f g hi hf hg
    have L := RC_L R.1.1
    have L2 := rm_L R.2.1
    have n16 := FR_b R
    obtain ⟨k1, k2, k3⟩ := c_pres R.1.1
    obtain ⟨f', rfl⟩ : ∃ f', f = f' + 1 := ⟨f - 1, by omega⟩
    obtain ⟨g', rfl⟩ : ∃ g', g = g' + 1 := ⟨g - 1, by omega⟩
    refine ⟨h, m, ?_, ?_, R, rfl, rfl⟩
    · unfold f_X10_growWaits_L2
      rw [y_gs, if_pos (lc_S1 L), y_gs, if_pos k1, y_gb, if_pos k2, k3, if_pos ((q_le (by omega) (by omega)).mpr (by omega))]
    · unfold f_X11_entry_L2
      rw [y_gs, if_pos (lm_S226 L2), lm_R21 L2, y_gs, if_pos (lm_S239 L2), lm_N239 L2, y_gb, if_pos (show ib (0 : Int32) 6 = true from by decide), show (0 : Int32).toNatClampNeg = 0 from by decide, rm_0 R.2.1 (by omega), if_pos ((q_le (by omega) (by omega)).mpr (by omega))]
      rfl
  | succ r ih =>
    intro h m s e b R i f g hi hf hg
    have L := RC_L R.1.1
    have L2 := rm_L R.2.1
    have n16 := FR_b R
    have i16 : i < 16 := by omega
    obtain ⟨k1, k2, k3⟩ := c_pres R.1.1
    obtain ⟨d1, d2, d3⟩ := c_cores L i16
    obtain ⟨f', rfl⟩ : ∃ f', f = f' + 1 := ⟨f - 1, by omega⟩
    obtain ⟨g', rfl⟩ : ∃ g', g = g' + 1 := ⟨g - 1, by omega⟩
    obtain ⟨_, _, ⟨x5, x6, x7⟩, _, _, _, _, x17, x18, x19⟩ := R.2.2.2.2.1 i i16
    have add1 : nI i + (1 : Int32) = nI (i + 1) := by rw [show (1 : Int32) = nI 1 from rfl, q_add]
    -- the new values
    have vals : ∃ v M, il v M ∧ f_X3_growWaits h (34 + 12 * i) = some (sI (sI h (34 + 12 * i) 13 v) (34 + 12 * i) 14 M) ∧ (∀ K, (if ¬ nI (e 1 i) = 0 then f_X11_entry_L33 K m 226 a1 (nI i) 255 (nI i) (hI m 255 i) (0 : Int32) else f_X11_entry_L33 K m 226 a1 (nI i) 255 (nI i) (hI m 255 i) (1 : Int32)) = K (sI (sI m 255 i v) 256 i M) 226 a1 (nI (i + 1))) := by
      have l33 : ∀ K d, f_X11_entry_L33 K m 226 a1 (nI i) 255 (nI i) (hI m 255 i) d = K (sI (sI m 255 i (hI m 255 i + d)) 256 i (if hI m 256 i < hI m 255 i + d then hI m 255 i + d else hI m 256 i)) 226 a1 (nI (i + 1)) := by
        intro K d
        have Lx : LM (sI m 255 i (hI m 255 i + d)) := L2
        have c5 : hI (sI m 255 i (hI m 255 i + d)) 255 i = hI m 255 i + d := x_eq _ _ _ _
        have c6 : hI (sI m 255 i (hI m 255 i + d)) 256 i = hI m 256 i := x_ne (by omega)
        unfold f_X11_entry_L33 f_X11_entry_L70
        rw [y_gs, if_pos (lm_S255 L2), lm_N255 L2, y_gb, if_pos (q_ib i16 (by omega)), q_cl (show i < 2 ^ 31 by omega), y_lt, y_gs, if_pos (lm_S226 Lx), lm_R37 Lx, y_gs, if_pos (lm_S255 Lx), lm_N255 Lx, y_gb, if_pos (q_ib i16 (by omega)), lm_R38 Lx, y_gs, if_pos (lm_S256 Lx), lm_N256 Lx, y_gb, if_pos (q_ib i16 (by omega)), c5, c6, y_gb, if_pos (q_ib i16 (by omega)), y_gb, if_pos (q_ib i16 (by omega)), y_gs, if_pos (lm_S256 Lx), y_gs, if_pos (lm_S256 Lx), y_gb, if_pos (q_ib i16 (by omega)), y_gb, if_pos (q_ib i16 (by omega)), y_lt, y_lt, y_lt, y_lt, add1, ← max_le2]
        split <;> rfl
      by_cases z : e 1 i = 0
      · have z1 : nI (e 1 i) = 0 := by rw [z]; rfl
        refine ⟨hI m 255 i + (1 : Int32), if hI m 256 i < hI m 255 i + (1 : Int32) then hI m 255 i + (1 : Int32) else hI m 256 i, il_max (z := 0) (x18 ▸ x19.2), ?_, fun K => ?_⟩
        · unfold f_X3_growWaits
          rw [y_gs, if_pos (lk_S34 L i16), x5, if_neg (fun q => q z1), y_lt, y_lt, x17, x_eq, x_ne (by omega), x18]
        · rw [if_neg (fun q => q z1), l33]
      · have z1 : ¬ nI (e 1 i) = 0 := fun q => z ((q_eq (b := 0) (by omega) (by omega)).mp q)
        refine ⟨hI h (34 + 12 * i) 13, hI h (34 + 12 * i) 14, x19, ?_, fun K => ?_⟩
        · unfold f_X3_growWaits
          rw [y_gs, if_pos (lk_S34 L i16), x5, if_pos z1, sI_id, sI_id]
        · rw [if_pos z1, l33, x17, x18, Int32.add_zero, if_neg (fun q => absurd (Int32.lt_of_lt_of_le q (x17 ▸ x18 ▸ x19.1)) Int32.lt_irrefl)]
    obtain ⟨v, M, hl, v1, v2⟩ := vals
    have R1 := Rel_idle R i16 hl
    obtain ⟨h', m', b1, b2, b3, b4, b5⟩ := ih R1 (i + 1) f' g' (by omega) (by omega) (by omega)
    refine ⟨h', m', ?_, ?_, b3, b4, b5⟩
    · rw [f_X10_growWaits_L2, y_gs, if_pos (lc_S1 L), y_gs, if_pos k1, y_gb, if_pos k2, k3, if_neg (fun w => by have := (q_le (by omega) (by omega)).mp w; omega), y_gs, if_pos d1, y_gb, if_pos d2, d3, y_gs, if_pos (lk_S34 L i16), v1, y_bds, add1, y_lt]
      exact b1
    · rw [f_X11_entry_L2, y_gs, if_pos (lm_S226 L2), lm_R21 L2, y_gs, if_pos (lm_S239 L2), lm_N239 L2, y_gb, if_pos (show ib (0 : Int32) 6 = true from by decide), show (0 : Int32).toNatClampNeg = 0 from by decide, rm_0 R.2.1 (by omega), if_neg (fun w => by have := (q_le (by omega) (by omega)).mp w; omega), lm_R37 L2, y_gs, if_pos (lm_S255 L2), lm_N255 L2, y_gb, if_pos (q_ib i16 (by omega)), lm_R27 L2, y_gs, if_pos (lm_S245 L2), lm_N245 L2, y_gb, if_pos (q_ib i16 (by omega)), q_cl (show i < 2 ^ 31 by omega), x6, v2]
      exact b2
