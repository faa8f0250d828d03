/-- only the pool's count and rows differ -/
def FrP (h h' : AH) : Prop := (∀ o k, o ≤ 225 → o ≠ 16 → o ≠ 17 → hI h' o k = hI h o k) ∧ hI h' 16 2 = hI h 16 2 ∧ (∀ o k, o ≤ 225 → hL h' o k = hL h o k) ∧ (∀ o k, o ≤ 225 → ¬ (o = 16 ∧ k = 0) → hR h' o k = hR h o k) ∧ (∀ o, o ≤ 225 → hS h' o = hS h o ∧ hN h' o = hN h o) ∧ hV h' + 2 * hN h (hR h 16 0) = hV h + 2 * hN h' (hR h' 16 0) ∧ 576 * hZ h' + hN h (hR h 16 0) ≤ 576 * hZ h + hN h' (hR h' 16 0) ∧ hZ h ≤ hZ h'
theorem FrP_rfl (h : AH) : FrP h h := ⟨fun _ _ _ _ _ => rfl, rfl, fun _ _ _ => rfl, fun _ _ _ _ => rfl, fun _ _ => ⟨rfl, rfl⟩, rfl, Nat.le_refl _, Nat.le_refl _⟩
theorem FrP_tr {a b c : AH} (h1 : FrP a b) (h2 : FrP b c) : FrP a c := by
  obtain ⟨a1, a0, a2, a3, a4, a5, a6, a7⟩ := h1
  obtain ⟨b1, b0, b2, b3, b4, b5, b6, b7⟩ := h2
  exact ⟨fun o k e e2 e3 => (b1 o k e e2 e3).trans (a1 o k e e2 e3), b0.trans a0, fun o k e => (b2 o k e).trans (a2 o k e), fun o k e e2 => (b3 o k e e2).trans (a3 o k e e2), fun o e => ⟨(b4 o e).1.trans (a4 o e).1, (b4 o e).2.trans (a4 o e).2⟩, by omega, by omega, by omega⟩
theorem FrC_P {h h' : AH} (F : FrP h h') : FrC h h' := by
  obtain ⟨a1, a0, a2, a3, a4, a5, a6, a7⟩ := F
  refine ⟨fun o k e => a1 o k ?_ ?_ ?_, a2, a3, a4, a5, a6⟩
  · unfold crr at e; simp only [Bool.and_eq_true, decide_eq_true_eq] at e; exact e.1.1
  · rintro rfl; rw [crr_h k (by omega)] at e; cases e
  · rintro rfl; rw [crr_h k (by omega)] at e; cases e
theorem RC_P {h h' : AH} {s : St} {p : List Msg} (R : RC h s) (F : FrP h h') (Rp : RCp h' (uP s p)) : RC h' (uP s p) := by
  obtain ⟨⟨L, z⟩, rs, rk, rc, rh, rm, rp, rq⟩ := R
  obtain ⟨a1, a0, a2, a3, a4, a5, a6, a7⟩ := F
  refine ⟨⟨lc_of L a3 a4, by omega⟩, ?_, ?_, ?_, ?_, ?_, Rp, ?_⟩
  · exact RCs_ag rs (fun i _ => a1 32 i (by omega) (by omega) (by omega)) (fun k _ _ => a1 19 k (by omega) (by omega) (by omega)) a0 (fun _ => rfl) rfl rfl rfl
  · exact RCk_ag rk (fun c k hc _ _ => a1 _ _ (by omega) (by omega) (by omega)) (fun c k hc _ => a1 _ _ (by omega) (by omega) (by omega)) (fun c k hc => a1 _ _ (by omega) (by omega) (by omega)) (fun _ => rfl) (fun _ _ _ _ => rfl) (fun _ _ => rfl)
  · exact RCc_ag rc (fun c r k hc _ _ => a1 _ _ (by omega) (by omega) (by omega)) (fun _ _ _ _ => rfl) (fun _ _ => rfl)
  · exact RCh_ag rh (fun o k _ _ => a1 _ _ (by omega) (by omega) (by omega)) (fun _ => rfl) (fun _ _ _ => rfl) (fun _ => rfl)
  · exact RCm_ag rm (fun k => a1 _ _ (by omega) (by omega) (by omega)) (fun _ _ => rfl)
  · exact RCq_ag rq (a1 _ _ (by omega) (by omega) (by omega)) (fun k => a1 _ _ (by omega) (by omega) (by omega)) rfl
/-- the pool's rows, twice as long -/
theorem c_grow {h : AH} {s : St} (Rp : RCp h s) (z : 225 ≤ hZ h) (hn : hN h (hR h 16 0) < 75600) :
    ∃ hg, f_J7_copyOf_59c91 h (hR h 16 0) (nI (hN h (hR h 16 0)) * nI 2) = some (hZ h + 1, hg) ∧ RCp (sR hg 16 0 (hZ h + 1)) s ∧ FrP h (sR hg 16 0 (hZ h + 1)) ∧ hS hg 16 = hS h 16 ∧ hN (sR hg 16 0 (hZ h + 1)) (hR (sR hg 16 0 (hZ h + 1)) 16 0) = 2 * hN h (hR h 16 0) := by
  obtain ⟨a1, a2, a3, a4, a5, a6, a7, a8⟩ := Rp
  generalize hr : hR h 16 0 = r at *
  generalize hn' : hN h r = n at *
  have rne : ¬ r = hZ h + 1 := by omega
  unfold f_J7_copyOf_59c91
  have e1 : ¬ nI (n * 2) = nI n := by rw [q_eq (by omega) (by omega)]; omega
  have e2 : ¬ nI (n * 2) < nI n := by rw [q_lt (by omega) (by omega)]; omega
  have e3 : decide (¬ nI (n * 2) < (0 : Int32)) = true := decide_eq_true (by rw [show (0 : Int32) = nI 0 from rfl, q_lt (by omega) (by omega)]; omega)
  have e4 : decide (n * 2 ≤ 10000000) = true := decide_eq_true (by omega)
  have e5 : cpok (0 : Int32) (0 : Int32) (nI n) n (n * 2) = true := by
    unfold cpok
    rw [show (0 : Int32).toNatClampNeg = 0 from rfl, q_cl (by omega)]
    have : decide (¬ nI n < (0 : Int32)) = true := decide_eq_true (by rw [show (0 : Int32) = nI 0 from rfl, q_lt (by omega) (by omega)]; omega)
    rw [this, show decide (¬ (0 : Int32) < (0 : Int32)) = true from rfl, show decide (0 + n ≤ n) = true from decide_eq_true (by omega), show decide (0 + n ≤ n * 2) = true from decide_eq_true (by omega)]; rfl
  rw [q_mul, y_gs, if_pos a2, hn', if_pos e1, y_gb, q_cl (by omega), e3, e4, if_pos (by rfl), y_lt, y_gs, x_hS_hNew, if_neg rne, if_pos a2, y_gb, x_hN_hNew, if_neg rne, hn', if_neg e2, x_hN_hNew, if_pos rfl, e5, if_pos rfl, y_lt]
  refine ⟨_, rfl, ?_, ?_, ?_, ?_⟩
  · refine ⟨?_, ?_, ?_, ?_, ?_, ?_, ?_, ?_⟩
    · simp only [x_hI_sR, x_hI_sA, x_hI_hNew]
      rw [if_neg (by omega), if_neg (by omega)]; exact a1
    · simp only [x_hR_sR, x_hS_sR, x_hS_sA, x_hS_hNew, and_self, ↓reduceIte]
    · simp only [x_hR_sR, and_self, ↓reduceIte]; right; omega
    · simp only [x_hR_sR, x_hZ_sR, x_hZ_sA, x_hZ_hNew, and_self, ↓reduceIte]; omega
    · simp only [x_hR_sR, x_hN_sR, x_hN_sA, x_hN_hNew, and_self, ↓reduceIte]; omega
    · simp only [x_hR_sR, x_hN_sR, x_hN_sA, x_hN_hNew, and_self, ↓reduceIte]; omega
    · simp only [x_hR_sR, x_hN_sR, x_hN_sA, x_hN_hNew, and_self, ↓reduceIte]; omega
    · intro i j hi hj
      simp only [x_hR_sR, x_hI_sR, x_hI_sA, and_self, ↓reduceIte]
      unfold va_cpy
      rw [show (0 : Int32).toNatClampNeg = 0 from rfl, q_cl (by omega), if_pos (by omega), x_hI_hNew, if_neg rne, show 0 + (9 * i + j - 0) = 9 * i + j by omega]
      exact a8 i j hi hj
  · refine ⟨?_, ?_, ?_, ?_, ?_, ?_, ?_, ?_⟩
    · intro o k e e2 e3
      simp only [x_hI_sR, x_hI_sA, x_hI_hNew]
      rw [if_neg (by omega), if_neg (by omega)]
    · simp only [x_hI_sR, x_hI_sA, x_hI_hNew]
      rw [if_neg (by omega), if_neg (by omega)]
    · intro o k e
      simp only [x_hL_sR, x_hL_sA, x_hL_hNew]
      rw [if_neg (by omega)]
    · intro o k e e2
      simp only [x_hR_sR, x_hR_sA, x_hR_hNew]
      rw [if_neg e2, if_neg (by omega)]
    · intro o e
      simp only [x_hS_sR, x_hS_sA, x_hS_hNew, x_hN_sR, x_hN_sA, x_hN_hNew]
      rw [if_neg (by omega), if_neg (by omega)]
      exact ⟨rfl, rfl⟩
    · simp only [x_hR_sR, x_hN_sR, x_hN_sA, x_hN_hNew, and_self, ↓reduceIte]
      rw [hr, hn']
      show hV h + n * 2 + 2 * n = _
      omega
    · simp only [x_hR_sR, x_hN_sR, x_hN_sA, x_hN_hNew, x_hZ_sR, x_hZ_sA, x_hZ_hNew, and_self, ↓reduceIte]
      rw [hr, hn']
      omega
    · simp only [x_hZ_sR, x_hZ_sA, x_hZ_hNew]; omega
  · simp only [x_hS_sA, x_hS_hNew]; rw [if_neg (by omega)]
  · simp only [x_hR_sR, x_hN_sR, x_hN_sA, x_hN_hNew, and_self, ↓reduceIte]; omega
