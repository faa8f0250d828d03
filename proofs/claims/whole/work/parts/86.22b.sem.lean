/-! Schedules: where they are wrong. -/
theorem tat_in {e : Ex} {k : Nat} (h : k < e 8 1) : tat e k = e 9 k := by unfold tat; rw [if_pos h]
theorem r_e53 {h m : AH} {s : St} {e : Ex} {b : Nat} (R : Rel h m s e b) {k n c j f : Nat} (hk : k < 2000) (hn : n ≤ 2) (hc : c < 128) (hj : j < 4000) :
    f_X11_endOf_L53 m (f + 1) 226 (nI k) (nI c) (nI n) (nI j) = if k + n < j then some (nI (k + 1 + n)) else if bdg e c k j = true then some ((-1 : Int32) - nI j) else f_X11_endOf_L53 m f 226 (nI k) (nI c) (nI n) (nI (j + 1)) := by
  have L2 := rm_L R.2.1
  have add1 : ∀ i, nI i + (1 : Int32) = nI (i + 1) := fun i => by rw [show (1 : Int32) = nI 1 from rfl, q_add]
  rw [f_X11_endOf_L53]; unfold f_X11_endOf_L95 f_X11_endOf_L100
  rw [q_add, add1, q_add, add1]
  by_cases g : k + n < j
  · rw [if_pos ((q_lt (by omega) (by omega)).mpr g), if_pos g]
  · rw [if_neg (fun q => g ((q_lt (by omega) (by omega)).mp q)), if_neg g, y_gs, if_pos (lm_S226 L2), r_digitAt R (by omega), y_bds, y_bds, y_lt]
    unfold bdg
    cases ed : dgt (tat e j) with
    | none => rw [oI_n, if_pos (show nN = (-1 : Int32) from rfl), if_pos rfl]
    | some d =>
      have d16 := dgt_lt ed
      rw [oI_s, if_neg (k_n1 (by omega))]
      by_cases g1 : c = 114
      · rw [if_neg (fun q => q (show nI c = (114 : Int32) from by rw [g1]; rfl))]
        by_cases g2 : j = k + 1
        · rw [if_neg (fun q => q (by rw [g2]))]
          by_cases g3 : 2 < d
          · rw [if_neg (show ¬ nI d ≤ (2 : Int32) from fun q => by have := (q_le (b := 2) (by omega) (by omega)).mp q; omega), if_pos (decide_eq_true ⟨g1, g2, g3⟩)]
          · rw [if_pos (show nI d ≤ (2 : Int32) from (q_le (b := 2) (by omega) (by omega)).mpr (by omega)), if_neg (fun q => g3 (of_decide_eq_true q).2.2)]
        · rw [if_pos (fun q => g2 ((q_eq (by omega) (by omega)).mp q)), if_neg (fun q => g2 (of_decide_eq_true q).2.1)]
      · rw [if_pos (show ¬ nI c = (114 : Int32) from fun q => g1 ((q_eq (by omega) (show 114 < 2 ^ 31 by omega)).mp q)), if_neg (fun q => g1 (of_decide_eq_true q).1)]
/-- where the entry at k ends, or is wrong -/
def eo (e : Ex) (k : Nat) : Int32 := match bad e k with
  | some j => (-1 : Int32) - nI j
  | none => nI (k + 1 + mny (tat e k))
theorem r_endOf {h m : AH} {s : St} {e : Ex} {b : Nat} (R : Rel h m s e b) {k : Nat} (hk : k < 2000) : f_X11_endOf m 226 (nI k) = some (eo e k) := by
  have L2 := rm_L R.2.1
  have lt := tat_lt R k
  have ml := mny_le (tat e k)
  unfold f_X11_endOf
  rw [y_gs, if_pos (lm_S226 L2), r_see R (by omega), y_bds]
  have cas : ∀ c, c < 128 → ∀ F : Int32 → Option Int32, (if nI c = (115 : Int32) then F (1 : Int32) else if ¬ nI c = (100 : Int32) then (if nI c = (109 : Int32) then F (2 : Int32) else if ¬ nI c = (114 : Int32) then F (0 : Int32) else F (2 : Int32)) else F (1 : Int32)) = F (nI (mny c)) := by
    intro c hc F
    have q : ∀ k, k < 128 → (nI c = nI k ↔ c = k) := fun k hk => q_eq (by omega) (by omega)
    unfold mny
    by_cases w1 : c = 115
    · rw [if_pos (show nI c = (115 : Int32) from (q 115 (by omega)).mpr w1), if_pos (Or.inl w1)]; rfl
    rw [if_neg (show ¬ nI c = (115 : Int32) from fun z => w1 ((q 115 (by omega)).mp z))]
    by_cases w2 : c = 100
    · rw [if_neg (fun z => z (show nI c = (100 : Int32) from (q 100 (by omega)).mpr w2)), if_pos (Or.inr w2)]; rfl
    rw [if_pos (show ¬ nI c = (100 : Int32) from fun z => w2 ((q 100 (by omega)).mp z)), if_neg (show ¬ (c = 115 ∨ c = 100) from by omega)]
    by_cases w3 : c = 109
    · rw [if_pos (show nI c = (109 : Int32) from (q 109 (by omega)).mpr w3), if_pos (Or.inl w3)]; rfl
    rw [if_neg (show ¬ nI c = (109 : Int32) from fun z => w3 ((q 109 (by omega)).mp z))]
    by_cases w4 : c = 114
    · rw [if_neg (fun z => z (show nI c = (114 : Int32) from (q 114 (by omega)).mpr w4)), if_pos (Or.inr w4)]; rfl
    · rw [if_pos (show ¬ nI c = (114 : Int32) from fun z => w4 ((q 114 (by omega)).mp z)), if_neg (show ¬ (c = 109 ∨ c = 114) from by omega)]; rfl
  unfold f_X11_endOf_L18 f_X11_endOf_L34
  rw [cas _ lt (fun z => f_X11_endOf_L39 m 226 (nI k) (nI (tat e k)) z)]
  unfold f_X11_endOf_L39 eo bad
  generalize hc : tat e k = c at *
  by_cases m0 : mny c = 0
  · rw [m0, if_neg (fun q => q rfl), if_pos rfl]
  · rw [if_pos (show ¬ nI (mny c) = 0 from fun q => m0 ((q_eq (b := 0) (by omega) (by omega)).mp q)), if_neg m0, y_lt, show nI k + (1 : Int32) = nI (k + 1) from by rw [show (1 : Int32) = nI 1 from rfl, q_add]]
    obtain ⟨f, hf⟩ := FU_ex (n := 3) (by omega)
    rw [hf, show f + 1 + 3 = f + 3 + 1 by omega, r_e53 R hk ml lt (by omega), if_neg (by omega)]
    by_cases b1 : bdg e c k (k + 1) = true
    · rw [if_pos b1, if_pos b1]
    · rw [if_neg b1, if_neg b1, show f + 3 = f + 2 + 1 by omega, r_e53 R hk ml lt (by omega)]
      by_cases m1 : mny c = 1
      · rw [if_pos (by omega), if_neg (fun q => by have := q.1; omega)]
      · have m2 : mny c = 2 := by omega
        rw [if_neg (by omega)]
        by_cases b2 : bdg e c k (k + 1 + 1) = true
        · rw [if_pos b2, if_pos ⟨m2, b2⟩]
        · rw [if_neg b2, if_neg (fun q => b2 q.2), show f + 2 = f + 1 + 1 by omega, r_e53 R hk ml lt (by omega), if_pos (by omega)]
theorem c_mark {h m : AH} {s : St} {e : Ex} {b : Nat} (R : Rel h m s e b) {k : Nat} (hk : k < e 8 1) : hS h (hR h 2 0) = 23 ∧ ib (nI k) (hN h (hR h 2 0)) = true ∧ hI h (hR h 2 0) (nI k).toNatClampNeg = nI (tat e k) ∧ k < 1500 := by
  have L := RC_L R.1.1
  obtain ⟨_, _, _, ⟨y7, y8, y9⟩, y10, _⟩ := R.2.2.2.2.2
  rw [lc_R2_0 L, lc_N3 L, q_cl (by omega), tat_in hk]
  exact ⟨lc_S3 L, q_ib (by omega) (by omega), (y10 k hk).1, by omega⟩
theorem c_s41 {h m : AH} {s : St} {e : Ex} {b : Nat} (R : Rel h m s e b) (he : e 8 0 = e 8 1) (K : Nat → Int32 → Option Int32) {k n j f : Nat} (hk : k < e 8 1) (hn : n ≤ 2) (hj : j < 4000) :
    f_X8_scheduleFault_L41 h K (f + 1) 2 (nI k) (nI n) (nI j) = if k + n < j then K 2 (nI (k + n + 1)) else if bdg e (tat e k) k j = true then some (nI j) else f_X8_scheduleFault_L41 h K f 2 (nI k) (nI n) (nI (j + 1)) := by
  have L := RC_L R.1.1
  have add1 : ∀ i, nI i + (1 : Int32) = nI (i + 1) := fun i => by rw [show (1 : Int32) = nI 1 from rfl, q_add]
  obtain ⟨_, _, _, ⟨y7, y8, y9⟩, y10, _⟩ := R.2.2.2.2.2
  rw [he] at y7
  obtain ⟨k1, k2, k3, k4⟩ := c_mark R hk
  have lt := tat_lt R k
  have l72 : ∀ mx, mx < 16 → f_X8_scheduleFault_L72 h K (f_X8_scheduleFault_L41 h K f) 2 (nI k) (nI n) (nI j) (nI mx) = if (match dgt (tat e j) with | none => true | some d => decide (mx < d)) = true then some (nI j) else f_X8_scheduleFault_L41 h K f 2 (nI k) (nI n) (nI (j + 1)) := by
    intro mx hm
    unfold f_X8_scheduleFault_L72 f_X8_scheduleFault_L108
    rw [y_gs, if_pos (lc_S2 L), y7]
    by_cases g : j < e 8 1
    · obtain ⟨j1, j2, j3, j4⟩ := c_mark R g
      rw [if_neg (fun q => by have := (q_le (by omega) (by omega)).mp q; omega), y_gs, if_pos j1, y_gb, if_pos j2, j3, c_digit h _ (tat_lt R j), y_bds, y_gb, if_pos j2, y_bds, y_lt, add1]
      cases ed : dgt (tat e j) with
      | none => rw [oI_n, if_pos (by decide), if_pos rfl]
      | some d =>
        have d16 := dgt_lt ed
        rw [oI_s, if_neg (lt0 (by omega))]
        by_cases q : d ≤ mx
        · rw [if_pos ((q_le (by omega) (by omega)).mpr q), if_neg (fun z => by have := of_decide_eq_true z; omega)]
        · rw [if_neg (fun z => q ((q_le (by omega) (by omega)).mp z)), if_pos (decide_eq_true (by omega))]
    · have t0 : dgt (tat e j) = none := by unfold tat; rw [if_neg g]; rfl
      rw [if_pos ((q_le (by omega) (by omega)).mpr (by omega)), t0, if_pos rfl]
  rw [f_X8_scheduleFault_L41]; unfold f_X8_scheduleFault_L120 f_X8_scheduleFault_L70
  rw [q_add, add1]
  by_cases g : k + n < j
  · rw [if_pos ((q_lt (by omega) (by omega)).mpr g), if_pos g, y_lt, y_lt, add1]
  · rw [if_neg (fun q => g ((q_lt (by omega) (by omega)).mp q)), if_neg g, y_gs, if_pos (lc_S2 L), y_gs, if_pos k1, y_gb, if_pos k2, k3]
    have l15 := l72 15 (by omega)
    have l2 := l72 2 (by omega)
    rw [show nI 15 = (15 : Int32) from rfl] at l15
    rw [show nI 2 = (2 : Int32) from rfl] at l2
    rw [l15, l2]
    unfold bdg
    by_cases g1 : tat e k = 114
    · rw [if_neg (fun q => q (show nI (tat e k) = (114 : Int32) from by rw [g1]; rfl))]
      by_cases g2 : j = k + 1
      · rw [if_neg (fun q => q (by rw [g2]))]
        cases ed : dgt (tat e j) with
        | none => rfl
        | some d =>
          show (if decide (2 < d) = true then _ else _) = (if decide (tat e k = 114 ∧ j = k + 1 ∧ 2 < d) = true then _ else _)
          rw [decide_eq_decide.mpr (show 2 < d ↔ (tat e k = 114 ∧ j = k + 1 ∧ 2 < d) from ⟨fun z => ⟨g1, g2, z⟩, fun z => z.2.2⟩)]
      · rw [if_pos (fun q => g2 ((q_eq (by omega) (by omega)).mp q))]
        cases ed : dgt (tat e j) with
        | none => rfl
        | some d =>
          have d16 := dgt_lt ed
          show (if decide (15 < d) = true then _ else _) = (if decide (tat e k = 114 ∧ j = k + 1 ∧ 2 < d) = true then _ else _)
          rw [if_neg (fun z => by have := of_decide_eq_true z; omega), if_neg (fun z => g2 (of_decide_eq_true z).2.1)]
    · rw [if_pos (show ¬ nI (tat e k) = (114 : Int32) from fun q => g1 ((q_eq (by omega) (show 114 < 2 ^ 31 by omega)).mp q))]
      cases ed : dgt (tat e j) with
      | none => rfl
      | some d =>
        have d16 := dgt_lt ed
        show (if decide (15 < d) = true then _ else _) = (if decide (tat e k = 114 ∧ j = k + 1 ∧ 2 < d) = true then _ else _)
        rw [if_neg (fun z => by have := of_decide_eq_true z; omega), if_neg (fun z => g1 (of_decide_eq_true z).1)]
theorem c_entry {h m : AH} {s : St} {e : Ex} {b : Nat} (R : Rel h m s e b) (he : e 8 0 = e 8 1) (K : Nat → Int32 → Option Int32) {k : Nat} (hk : k < e 8 1) (m0 : mny (tat e k) ≠ 0) :
    f_X8_scheduleFault_L41 h K FU 2 (nI k) (nI (mny (tat e k))) (nI (k + 1)) = match bad e k with | some j => some (nI j) | none => K 2 (nI (k + 1 + mny (tat e k))) := by
  have ml := mny_le (tat e k)
  obtain ⟨_, _, _, k4⟩ := c_mark R hk
  obtain ⟨f, hf⟩ := FU_ex (n := 3) (by omega)
  unfold bad
  rw [if_neg m0, hf, show f + 1 + 3 = f + 3 + 1 by omega, c_s41 R he K hk ml (by omega), if_neg (by omega)]
  by_cases b1 : bdg e (tat e k) k (k + 1) = true
  · rw [if_pos b1, if_pos b1]
  · rw [if_neg b1, if_neg b1, show f + 3 = f + 2 + 1 by omega, c_s41 R he K hk ml (by omega)]
    by_cases m1 : mny (tat e k) = 1
    · rw [if_pos (by omega), if_neg (fun q => by have := q.1; omega), m1]
    · have m2 : mny (tat e k) = 2 := by omega
      rw [if_neg (by omega)]
      by_cases b2 : bdg e (tat e k) k (k + 1 + 1) = true
      · rw [if_pos b2, if_pos ⟨m2, b2⟩]
      · rw [if_neg b2, if_neg (fun q => b2 q.2), show f + 2 = f + 1 + 1 by omega, c_s41 R he K hk ml (by omega), if_pos (by omega), m2, show k + 2 + 1 = k + 1 + 2 by omega]
