/-- what is known when the operands of item n are read -/
def LH (h m : AH) (c : Nat → Nat) (T Nn i n L a : Nat) (g : Gh) (op nk np nm pl x : Nat) (R hw : Int32) : Prop :=
  (AC h m n L a g) ∧
  (OQ h m c T Nn i n (mBase.getD op 0) (tBas.getD op 0) R nk np hw x) ∧
  (op < 61) ∧
  (hI h 5 n = nI op) ∧
  (hI h 6 n = nI pl ∧ pl ≤ 1500 ∧ np ≤ 1500) ∧
  (nm < 1502 ∧ hI m 229 nm = nI pl) ∧
  (g 7 n + 2 < 700) ∧
  (nk = 0 ↔ nNu (opl (tHow.getD op 0)) = 0) ∧
  (tForm.getD op 0 = 0 → hw = (-1 : Int32)) ∧
  (tForm.getD op 0 ≠ 0 → tForm.getD op 0 ≠ 9 → tForm.getD op 0 ≠ 10 → hw = nI (hnO (tHow.getD op 0) op)) ∧
  (tForm.getD op 0 = 7 → ∃ r, r < 32 ∧ R = nI r <<< ((7 : Int32) &&& 31)) ∧
  (x = if nk = 1 ∧ fitB (tForm.getD op 0) (hL h 11 n) = false then min (KX h g n L) (4 * np + 3) else KX h g n L) ∧
  (tForm.getD op 0 = 9 ∨ tForm.getD op 0 = 10 → nk = 1 ∧ ∃ v, v < 2 ^ 40 ∧ hL h 11 n = Int64.ofNat v) ∧
  (tForm.getD op 0 = 8 → hI h 8 n = 0)
theorem LH.ac {h m : AH} {c : Nat → Nat} {T Nn i n L a : Nat} {g : Gh} {op nk np nm pl x : Nat} {R hw : Int32} (Q : LH h m c T Nn i n L a g op nk np nm pl x R hw) : AC h m n L a g := Q.1
theorem LH.oq {h m : AH} {c : Nat → Nat} {T Nn i n L a : Nat} {g : Gh} {op nk np nm pl x : Nat} {R hw : Int32} (Q : LH h m c T Nn i n L a g op nk np nm pl x R hw) : OQ h m c T Nn i n (mBase.getD op 0) (tBas.getD op 0) R nk np hw x := Q.2.1
theorem LH.op61 {h m : AH} {c : Nat → Nat} {T Nn i n L a : Nat} {g : Gh} {op nk np nm pl x : Nat} {R hw : Int32} (Q : LH h m c T Nn i n L a g op nk np nm pl x R hw) : op < 61 := Q.2.2.1
theorem LH.h5 {h m : AH} {c : Nat → Nat} {T Nn i n L a : Nat} {g : Gh} {op nk np nm pl x : Nat} {R hw : Int32} (Q : LH h m c T Nn i n L a g op nk np nm pl x R hw) : hI h 5 n = nI op := Q.2.2.2.1
theorem LH.h6 {h m : AH} {c : Nat → Nat} {T Nn i n L a : Nat} {g : Gh} {op nk np nm pl x : Nat} {R hw : Int32} (Q : LH h m c T Nn i n L a g op nk np nm pl x R hw) : hI h 6 n = nI pl ∧ pl ≤ 1500 ∧ np ≤ 1500 := Q.2.2.2.2.1
theorem LH.nm {h m : AH} {c : Nat → Nat} {T Nn i n L a : Nat} {g : Gh} {op nk np nm pl x : Nat} {R hw : Int32} (Q : LH h m c T Nn i n L a g op nk np nm pl x R hw) : nm < 1502 ∧ hI m 229 nm = nI pl := Q.2.2.2.2.2.1
theorem LH.gp {h m : AH} {c : Nat → Nat} {T Nn i n L a : Nat} {g : Gh} {op nk np nm pl x : Nat} {R hw : Int32} (Q : LH h m c T Nn i n L a g op nk np nm pl x R hw) : g 7 n + 2 < 700 := Q.2.2.2.2.2.2.1
theorem LH.nk0 {h m : AH} {c : Nat → Nat} {T Nn i n L a : Nat} {g : Gh} {op nk np nm pl x : Nat} {R hw : Int32} (Q : LH h m c T Nn i n L a g op nk np nm pl x R hw) : nk = 0 ↔ nNu (opl (tHow.getD op 0)) = 0 := Q.2.2.2.2.2.2.2.1
theorem LH.hw0 {h m : AH} {c : Nat → Nat} {T Nn i n L a : Nat} {g : Gh} {op nk np nm pl x : Nat} {R hw : Int32} (Q : LH h m c T Nn i n L a g op nk np nm pl x R hw) : tForm.getD op 0 = 0 → hw = (-1 : Int32) := Q.2.2.2.2.2.2.2.2.1
theorem LH.hw1 {h m : AH} {c : Nat → Nat} {T Nn i n L a : Nat} {g : Gh} {op nk np nm pl x : Nat} {R hw : Int32} (Q : LH h m c T Nn i n L a g op nk np nm pl x R hw) : tForm.getD op 0 ≠ 0 → tForm.getD op 0 ≠ 9 → tForm.getD op 0 ≠ 10 → hw = nI (hnO (tHow.getD op 0) op) := Q.2.2.2.2.2.2.2.2.2.1
theorem LH.li {h m : AH} {c : Nat → Nat} {T Nn i n L a : Nat} {g : Gh} {op nk np nm pl x : Nat} {R hw : Int32} (Q : LH h m c T Nn i n L a g op nk np nm pl x R hw) : tForm.getD op 0 = 7 → ∃ r, r < 32 ∧ R = nI r <<< ((7 : Int32) &&& 31) := Q.2.2.2.2.2.2.2.2.2.2.1
theorem LH.hx {h m : AH} {c : Nat → Nat} {T Nn i n L a : Nat} {g : Gh} {op nk np nm pl x : Nat} {R hw : Int32} (Q : LH h m c T Nn i n L a g op nk np nm pl x R hw) : x = if nk = 1 ∧ fitB (tForm.getD op 0) (hL h 11 n) = false then min (KX h g n L) (4 * np + 3) else KX h g n L := Q.2.2.2.2.2.2.2.2.2.2.2.1
theorem LH.hz {h m : AH} {c : Nat → Nat} {T Nn i n L a : Nat} {g : Gh} {op nk np nm pl x : Nat} {R hw : Int32} (Q : LH h m c T Nn i n L a g op nk np nm pl x R hw) : tForm.getD op 0 = 9 ∨ tForm.getD op 0 = 10 → nk = 1 ∧ ∃ v, v < 2 ^ 40 ∧ hL h 11 n = Int64.ofNat v := Q.2.2.2.2.2.2.2.2.2.2.2.2.1
theorem LH.w8 {h m : AH} {c : Nat → Nat} {T Nn i n L a : Nat} {g : Gh} {op nk np nm pl x : Nat} {R hw : Int32} (Q : LH h m c T Nn i n L a g op nk np nm pl x R hw) : tForm.getD op 0 = 8 → hI h 8 n = 0 := Q.2.2.2.2.2.2.2.2.2.2.2.2.2
def LO (h m : AH) (c : Nat → Nat) (T Nn i n L a : Nat) (g : Gh) (op nk nm : Nat) : Prop := ∃ h' m' a' g', f_X1_layOut h 4 (mForm.getD op 0) = some h' ∧ trl m 226 (nI nm) (nI op) = f_X11_readStatement_L402 m' 226 ∧ AC h' m' (n + 1) L a' g' ∧ TQ h' m' c T Nn i ∧ FK m' (KX h' g' (n + 1) L) ∧ FA h h' ∧ FB m m' ∧ g' 7 (n + 1) = g 7 n + wds op nk (hL h 11 n)
theorem r_how {m : AH} (L : LM m) (C : cst m) {op : Nat} (hop : op < 61) : hS m (hR m 226 69) = 21 ∧ ib (nI op) (hN m (hR m 226 69)) = true ∧ hI m (hR m 226 69) (nI op).toNatClampNeg = nI (tHow.getD op 0) := by
  rw [lm_R69 L, lm_N274 L, q_cl (by omega)]
  exact ⟨lm_S274 L, q_ib hop (by omega), (C op hop).1⟩
theorem how_le : ∀ op, op < 61 → tHow.getD op 0 ≤ 16 := by decide +kernel
theorem trl_w {m : AH} (L : LM m) (C : cst m) {op nm : Nat} (hop : op < 61) (h15 : tHow.getD op 0 ≠ 15) (h16 : tHow.getD op 0 ≠ 16) : trl m 226 (nI nm) (nI op) = if ¬ tHow.getD op 0 = 13 then (bd (f_X11_lay m 226 (nI nm) (hI m 226 76)) fun q7 => f_X11_readStatement_L402 q7 226) else bd (f_X11_layLi m 226 (nI nm)) fun q8 => f_X11_readStatement_L402 q8 226 := by
  obtain ⟨k1, k2, k3⟩ := r_how L C hop
  have hl := how_le op hop
  unfold trl f_X11_readStatement_L363
  have q13 : nI (tHow.getD op 0) = (13 : Int32) ↔ tHow.getD op 0 = 13 := q_eq (b := 13) (by omega) (by omega)
  have q15 : nI (tHow.getD op 0) = (15 : Int32) ↔ tHow.getD op 0 = 15 := q_eq (b := 15) (by omega) (by omega)
  have q16 : nI (tHow.getD op 0) = (16 : Int32) ↔ tHow.getD op 0 = 16 := q_eq (b := 16) (by omega) (by omega)
  rw [y_gs, if_pos (lm_S226 L), y_gs, if_pos k1, y_gb, if_pos k2, k3, if_pos (fun q => h15 (q15.mp q)), y_gb, if_pos k2, if_pos (fun q => h16 (q16.mp q)), y_gs, if_pos (lm_S226 L), y_gs, if_pos k1, y_gb, if_pos k2, y_gb, if_pos k2, if_neg (fun q => h16 (q16.mp q))]
  simp only [q13]
theorem KX_new {h h' : AH} {g : Gh} {n L op pl a nk np W : Nat} (hL' : ∀ o k, o = 11 ∨ o = 12 → hL h' o k = hL h o k) (hW : W = wds op nk (hL h 11 n)) : KX h' (gI g n op pl a nk np W) (n + 1) L = min (KX h g n L) (min (if W ≠ 0 ∧ 8192 < a + 4 * W then 4 * pl + 3 else 100000) (if nk = 1 ∧ fitB (tForm.getD op 0) (hL h 11 n) = false then 4 * np + 3 else 100000)) := by
  have e := KX_congr (h := h) (h' := h') (g := g) (g' := gI g n op pl a nk np W) (n := n) (L := L) (fun k hk => ⟨hL' 12 k (by omega), gI_ne (by omega)⟩) (fun k hk => ⟨hL' 11 k (by omega), fun F hF => gI_ne (by omega)⟩)
  obtain ⟨a0, a1, a2, a3, a4, a5, a6⟩ := gI_at g n op pl a nk np W
  have kn : KA h' (gI g n op pl a nk np W) n = min (if W ≠ 0 ∧ 8192 < a + 4 * W then 4 * pl + 3 else 100000) (if nk = 1 ∧ fitB (tForm.getD op 0) (hL h 11 n) = false then 4 * np + 3 else 100000) := by
    unfold KA
    rw [a0, a1, a2, a3, a4, hL' 11 n (by omega), ← hW]
  rw [← e]
  unfold KX
  show min (mn (DL h' (gI g n op pl a nk np W)) L) (min (mn (KA h' (gI g n op pl a nk np W)) n) (KA h' (gI g n op pl a nk np W) n)) = _
  rw [kn]; omega
theorem mn_le (f : Nat → Nat) : ∀ n, mn f n ≤ 100000
  | 0 => by unfold mn; omega
  | n + 1 => by have := mn_le f n; unfold mn; omega
theorem layC_f (h : AH) (n a t W : Nat) : (layC h n a t W).2 = h.2 ∧ (∀ o k, ¬ (o = 7 ∧ k = n) → ¬ (o = 4 ∧ (k = 1 ∨ k = 13 ∨ k = 14)) → hI (layC h n a t W) o k = hI h o k) ∧ hI (layC h n a t W) 7 n = nI a ∧ hI (layC h n a t W) 4 1 = nI (n + 1) ∧ hI (layC h n a t W) 4 13 = nI (a + 4 * W) ∧ hI (layC h n a t W) 4 14 = nI (t + W) := by
  unfold layC
  refine ⟨rfl, fun o k h1 h2 => ?_, ?_, ?_, ?_, ?_⟩
  · rw [x_ne (by omega), x_ne (by omega), x_ne (by omega), x_ne (by omega)]
  · rw [x_ne (by omega), x_ne (by omega), x_ne (by omega), x_eq]
  · rw [x_eq]
  · rw [x_ne (by omega), x_ne (by omega), x_eq]
  · rw [x_ne (by omega), x_eq]
/-- the class's half of an item with words; what the reference must bring -/
theorem lay_fin {h m m' : AH} {c : Nat → Nat} {T Nn i n L a : Nat} {g : Gh} {op nk np nm pl x W : Nat} {R hw : Int32} (H : LH h m c T Nn i n L a g op nk np nm pl x R hw) (f9 : tForm.getD op 0 ≠ 9) (f10 : tForm.getD op 0 ≠ 10) (hW : W = wds op nk (hL h 11 n)) (w1 : 1 ≤ W) (et : trl m 226 (nI nm) (nI op) = f_X11_readStatement_L402 m' 226) (e2' : m'.2.2 = m.2.2) (f3 : ∀ o k, ¬ ((233 ≤ o ∧ o ≤ 237) ∧ g 7 n ≤ k) → ¬ (o = 226 ∧ (k = 3 ∨ k = 4 ∨ k = 13 ∨ k = 20 ∨ k = 71)) → hI m' o k = hI m o k) (f4 : ∀ o k, ¬ (o = 236 ∧ g 7 n ≤ k) → hL m' o k = hL m o k) (m13 : hI m' 226 13 = nI (g 7 n + W)) (m20 : hI m' 226 20 = nI (a + 4 * W)) (hP : PT (layC h n a (g 7 n) W) m' (gI g n op pl a nk np W) n) (hK : FK m' (if 8192 < a + 4 * W then min x (4 * pl + 3) else x)) : LO h m c T Nn i n L a g op nk nm := by
  have L0 := H.oq.tq.1.1.1
  obtain ⟨it, n375⟩ := H.oq.it
  obtain ⟨c1, c2, c3, c4, c5, c6⟩ := layC_f h n a (g 7 n) W
  have W2 := wds_le op nk (hL h 11 n)
  have ad := H.ac.ad
  have cls := c_lay L0 n375 (by omega) (t := g 7 n) (by have := H.gp; omega) it ad.1 H.ac.it.2.2 H.op61 H.h5 H.oq.n0.1 H.oq.n0.2.1 f9 f10
  rw [← hW] at cls
  obtain ⟨a0, a1, a2, a3, a4, a5, a6⟩ := gI_at g n op pl a nk np W
  have hL' : ∀ o k, hL (layC h n a (g 7 n) W) o k = hL h o k := fun o k => rfl
  refine ⟨_, m', a + 4 * W, gI g n op pl a nk np W, cls, et, ?_, ?_, ?_, ?_, ?_, by rw [a6, hW]⟩
  · refine AC_item (W := W) H.ac (fun o k h1 h2 h3 => c2 o k h3 (by omega)) (fun k hk => c2 4 k (by omega) (by omega)) (fun o k _ => rfl) e2' (fun o k q => f3 o k (by omega) (by omega)) (fun o k q => f4 o k (by omega)) ⟨c4, m13, c6⟩ ⟨c5, m20, by omega, by omega⟩ ?_ (fun d hd => ?_) (fun F k h1 h2 => gI_ne (by omega)) (fun j => ⟨gI_ne (by omega), gI_ne (by omega)⟩) (fun k hk => gI_ne (by omega)) a6
    · unfold IT
      rw [a0, a1, a2, a3, a4, a5, a6, c2 5 n (by omega) (by omega), c2 6 n (by omega) (by omega), c3, c2 8 n (by omega) (by omega), c2 9 n (by omega) (by omega), c2 10 n (by omega) (by omega), hL']
      exact ⟨⟨H.op61, H.h5⟩, ⟨H.h6.1, H.h6.2.1⟩, ⟨rfl, ad.2.2.1, by omega⟩, ⟨H.oq.n0.1, H.oq.n0.2.1, H.h6.2.2, H.oq.n3, H.nk0, fun q => by rcases q with q | q <;> omega, H.w8⟩, by rw [hW], hP⟩
    · rw [c2 15 d (by omega) (by omega), f3 238 d (by omega) (by omega), gI_ne (by omega)]; exact H.ac.st d hd
  · refine TQ_m (TQ_h H.oq.tq rfl (fun o k q => c2 o k (by omega) (by omega)) rfl) e2' (fun o k q => f3 o k (by omega) (by omega)) (fun k => f4 230 k (by omega))
  · rw [KX_new (fun o k _ => hL' o k) hW]
    have hx := H.hx
    have e : (if 8192 < a + 4 * W then min x (4 * pl + 3) else x) = min (KX h g n L) (min (if W ≠ 0 ∧ 8192 < a + 4 * W then 4 * pl + 3 else 100000) (if nk = 1 ∧ fitB (tForm.getD op 0) (hL h 11 n) = false then 4 * np + 3 else 100000)) := by
      have kx : KX h g n L ≤ 100000 := by
        unfold KX
        have := mn_le (DL h g) L; omega
      have p1 : 4 * pl + 3 ≤ 100000 := by have := H.h6.2.1; omega
      have p2' : 4 * np + 3 ≤ 100000 := by have := H.h6.2.2; omega
      rw [hx]
      generalize 100000 = M at *
      generalize 4 * pl + 3 = A1 at *
      generalize 4 * np + 3 = A2 at *
      generalize KX h g n L = X at *
      by_cases q1 : nk = 1 ∧ fitB (tForm.getD op 0) (hL h 11 n) = false
      · rw [if_pos q1, if_pos q1]
        by_cases q2 : 8192 < a + 4 * W
        · have q3 : W ≠ 0 ∧ 8192 < a + 4 * W := ⟨by omega, q2⟩
          rw [if_pos q2, if_pos q3, Nat.min_assoc, Nat.min_comm A2 A1]
        · rw [if_neg q2, if_neg (fun z => q2 z.2), Nat.min_eq_right p2']
      · rw [if_neg q1, if_neg q1]
        by_cases q2 : 8192 < a + 4 * W
        · have q3 : W ≠ 0 ∧ 8192 < a + 4 * W := ⟨by omega, q2⟩
          rw [if_pos q2, if_pos q3, Nat.min_eq_left p1]
        · rw [if_neg q2, if_neg (fun z => q2 z.2), Nat.min_self, Nat.min_eq_left kx]
    rw [← e]; exact hK
  · exact ⟨rfl, fun o k h1 h2 => c2 o k (by omega) (by omega)⟩
  · exact ⟨e2', fun o k h1 h2 => f3 o k (by omega) (by omega)⟩
