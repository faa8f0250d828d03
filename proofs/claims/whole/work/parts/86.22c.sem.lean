/-- from k on the schedule is good -/
def vs (e : Ex) : Nat → Nat → Prop
  | 0, _ => True
  | r + 1, k => e 8 1 ≤ k ∨ (k < e 8 1 ∧ tat e k = 32 ∧ vs e r (k + 1)) ∨ (k < e 8 1 ∧ tat e k ≠ 32 ∧ bad e k = none ∧ vs e r (k + 1 + mny (tat e k)))
theorem bad_m {e : Ex} {k : Nat} (h : bad e k = none) : mny (tat e k) ≠ 0 := by
  intro q; unfold bad at h; rw [if_pos q] at h; cases h
theorem bad_le {e : Ex} {k j : Nat} (h : bad e k = some j) : j ≤ k + 2 := by
  unfold bad at h
  split at h
  · cases h; omega
  · split at h
    · cases h; omega
    · split at h
      · cases h; omega
      · cases h
theorem sched_both {h m h0 m0 : AH} {s : St} {e : Ex} {b : Nat} (R : Rel h m0 s e b) (R' : Rel h0 m s e b) (he : e 8 0 = e 8 1) : ∀ (r k f g : Nat), e 8 1 ≤ k + r → k ≤ 1503 → r < f → r + 1 < g →
    ∃ (o : Option Nat) (a : Int32), f_X8_scheduleFault_L2 h f 2 (nI k) = some (oI o) ∧ f_X11_play_L12 g m 226 (nI k) = f_X11_play_L49 m 226 a ∧ (o = none → 0 ≤ a ∧ vs e r k) ∧ (∀ j, o = some j → j < 2000 ∧ a = (-1 : Int32) - nI j) := by
  have L := RC_L R.1.1
  have L2 := rm_L R'.2.1
  obtain ⟨_, _, _, ⟨y7, _, y9⟩, y10, _⟩ := R.2.2.2.2.2
  obtain ⟨_, _, _, ⟨_, y8, _⟩, _⟩ := R'.2.2.2.2.2
  rw [he] at y7
  have add1 : ∀ i, nI i + (1 : Int32) = nI (i + 1) := fun i => by rw [show (1 : Int32) = nI 1 from rfl, q_add]
  have fin : ∀ k f g, e 8 1 ≤ k → k ≤ 1503 → 0 < f → 0 < g → f_X8_scheduleFault_L2 h f 2 (nI k) = some (oI none) ∧ f_X11_play_L12 g m 226 (nI k) = f_X11_play_L49 m 226 (nI k) := by
    intro k f g hk hk2 hf hg
    obtain ⟨f', rfl⟩ : ∃ f', f = f' + 1 := ⟨f - 1, by omega⟩
    obtain ⟨g', rfl⟩ : ∃ g', g = g' + 1 := ⟨g - 1, by omega⟩
    unfold f_X8_scheduleFault_L2 f_X11_play_L12
    rw [y_gs, if_pos (lc_S2 L), y7, if_pos ((q_le (by omega) (by omega)).mpr hk), if_neg (lt0 (by omega)), y_gs, if_pos (lm_S226 L2), y8, if_pos ((q_le (by omega) (by omega)).mpr hk)]
    exact ⟨rfl, rfl⟩
  intro r
  induction r with
  | zero =>
    intro k f g hk hk2 hf hg
    obtain ⟨a1, a2⟩ := fin k f g (by omega) hk2 (by omega) (by omega)
    exact ⟨none, nI k, a1, a2, fun _ => ⟨le0n (by omega), trivial⟩, fun j hj => by cases hj⟩
  | succ r ih =>
    intro k f g hk hk2 hf hg
    by_cases gT : e 8 1 ≤ k
    · obtain ⟨a1, a2⟩ := fin k f g gT hk2 (by omega) (by omega)
      exact ⟨none, nI k, a1, a2, fun _ => ⟨le0n (by omega), Or.inl gT⟩, fun j hj => by cases hj⟩
    · have kT : k < e 8 1 := by omega
      obtain ⟨f', rfl⟩ : ∃ f', f = f' + 1 := ⟨f - 1, by omega⟩
      obtain ⟨g', rfl⟩ : ∃ g', g = g' + 1 := ⟨g - 1, by omega⟩
      obtain ⟨k1, k2, k3, k4⟩ := c_mark R kT
      have lt := tat_lt R k
      have ml := mny_le (tat e k)
      have nle : ¬ nI (e 8 1) ≤ nI k := fun q => by have := (q_le (by omega) (by omega)).mp q; omega
      have X : f_X8_scheduleFault_L2 h (f' + 1) 2 (nI k) = if nI (tat e k) = (32 : Int32) then f_X8_scheduleFault_L2 h f' 2 (nI (k + 1)) else if ¬ nI (mny (tat e k)) = 0 then f_X8_scheduleFault_L41 h (f_X8_scheduleFault_L2 h f') FU 2 (nI k) (nI (mny (tat e k))) (nI (k + 1)) else some (nI k) := by
        rw [f_X8_scheduleFault_L2]; unfold f_X8_scheduleFault_L120
        rw [y_gs, if_pos (lc_S2 L), y7, if_neg nle, y_gs, if_pos k1, y_gb, if_pos k2, k3, y_gb, if_pos k2, c_many h _ lt, y_bds, y_lt, y_lt, add1]
      have Y : f_X11_play_L12 (g' + 1) m 226 (nI k) = if ¬ nI (tat e k) = (32 : Int32) then f_X11_play_L12 g' m 226 (eo e k) else f_X11_play_L12 g' m 226 (nI (k + 1)) := by
        rw [f_X11_play_L12]; unfold f_X11_play_L45
        rw [if_neg (lt0 (by omega)), y_gs, if_pos (lm_S226 L2), y8, if_neg nle, r_see R' (by omega), y_bds, r_endOf R' (by omega), y_bds, add1]
      rw [X, Y]
      by_cases c32 : tat e k = 32
      · have z : nI (tat e k) = (32 : Int32) := by rw [c32]; rfl
        rw [if_pos z, if_neg (fun q => q z)]
        obtain ⟨o, a, o1, o2, o3, o4⟩ := ih (k + 1) f' g' (by omega) (by omega) (by omega) (by omega)
        exact ⟨o, a, o1, o2, fun q => ⟨(o3 q).1, Or.inr (Or.inl ⟨kT, c32, (o3 q).2⟩)⟩, o4⟩
      · have z : ¬ nI (tat e k) = (32 : Int32) := fun q => c32 ((q_eq (by omega) (show 32 < 2 ^ 31 by omega)).mp q)
        rw [if_neg z, if_pos z]
        unfold eo
        cases hb : bad e k with
        | some j =>
          have jl := bad_le hb
          have Y2 : f_X11_play_L12 g' m 226 ((-1 : Int32) - nI j) = f_X11_play_L49 m 226 ((-1 : Int32) - nI j) := by
            obtain ⟨g'', rfl⟩ : ∃ g'', g' = g'' + 1 := ⟨g' - 1, by omega⟩
            unfold f_X11_play_L12
            rw [if_pos (m1_neg (by omega))]
          refine ⟨some j, _, ?_, Y2, fun q => (by cases q), fun j' hj => (by cases hj; exact ⟨by omega, rfl⟩)⟩
          by_cases m0 : mny (tat e k) = 0
          · have : j = k := by unfold bad at hb; rw [if_pos m0] at hb; cases hb; rfl
            rw [m0, if_neg (fun q => q rfl), this]; rfl
          · rw [if_pos (show ¬ nI (mny (tat e k)) = 0 from fun q => m0 ((q_eq (b := 0) (by omega) (by omega)).mp q)), c_entry R he _ kT m0, hb]; rfl
        | none =>
          have m0 := bad_m hb
          obtain ⟨o, a, o1, o2, o3, o4⟩ := ih (k + 1 + mny (tat e k)) f' g' (by omega) (by omega) (by omega) (by omega)
          refine ⟨o, a, ?_, o2, fun q => ⟨(o3 q).1, Or.inr (Or.inr ⟨kT, c32, hb, (o3 q).2⟩)⟩, o4⟩
          rw [if_pos (show ¬ nI (mny (tat e k)) = 0 from fun q => m0 ((q_eq (b := 0) (by omega) (by omega)).mp q)), c_entry R he _ kT m0, hb]; exact o1
