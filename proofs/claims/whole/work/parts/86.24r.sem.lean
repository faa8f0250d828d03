/-! The kinds of items. -/
theorem FN_L {m mm : AH} (F : FN m mm) (o k : Nat) : hL mm o k = hL m o k := by show mm.2.1 o k = m.2.1 o k; rw [F.1]
/-- ordinary words -/
theorem lay_ord {h m : AH} {c : Nat → Nat} {T Nn i n L a : Nat} {g : Gh} {op nk np nm pl x : Nat} {R hw : Int32} (H : LH h m c T Nn i n L a g op nk np nm pl x R hw) (f7 : tForm.getD op 0 ≠ 7) (f9 : tForm.getD op 0 ≠ 9) (f10 : tForm.getD op 0 ≠ 10) : LO h m c T Nn i n L a g op nk nm := by
  have O := H.oq
  have L2 := O.tq.2.1.1
  obtain ⟨q1, q2, q3, q4⟩ := op_f1 op H.op61
  obtain ⟨b1, _, hn6⟩ := op_f2 op H.op61
  have ad := H.ac.ad
  obtain ⟨it, n375⟩ := O.it
  have hW : 1 = wds op nk (hL h 11 n) := by unfold wds; rw [if_neg (by omega), if_neg (fun q => f7 q.1)]
  have hwv : hw = (-1 : Int32) ∨ ∃ k, k ≤ 8 ∧ hw = nI k := by
    by_cases z : tForm.getD op 0 = 0
    · exact Or.inl (H.hw0 z)
    · exact Or.inr ⟨_, by omega, H.hw1 z f9 f10⟩
  obtain ⟨mm, F1, F2, F3⟩ := r_lay L2 (p := g 7 n) (a := a) (nm := nm) (q := pl) (by have := H.gp; omega) (by omega) H.ac.it.2.1 ad.2.1 hwv O.fk H.nm.1 H.nm.2 H.h6.2.1
  have made : hI m 226 71 = hI h 8 n := by
    rw [O.bi.2, O.bi.1]
    rcases b1 with z | z
    · exact absurd z f7
    · rw [z]
  obtain ⟨l1, l2, l3, l4, l5, l6, l7, l8, l9, l10⟩ := layM_f mm (g 7 n) a (hI m 226 71 ||| (if hw = (-1 : Int32) ∨ ¬ hI m 226 73 = 0 then 0 else putV hw.toNatClampNeg (hL m 226 72).toInt32)) (if hI m 226 73 = 0 then (-1 : Int32) else hw)
  generalize hm' : layM mm (g 7 n) a (hI m 226 71 ||| (if hw = (-1 : Int32) ∨ ¬ hI m 226 73 = 0 then 0 else putV hw.toNatClampNeg (hL m 226 72).toInt32)) (if hI m 226 73 = 0 then (-1 : Int32) else hw) = m' at *
  refine lay_fin (W := 1) (m' := m') H f9 f10 hW (Nat.le_refl _) ?_ ?_ (fun o k h1 h2 => ?_) (fun o k h1 => ?_) l9 l10 ?_ ?_
  · rw [trl_w L2 H.ac.cs.1 H.op61 (fun z => f9 (q1.mpr z)) (fun z => f10 (q2.mpr z)), if_pos (fun z => f7 (q3.mpr z)), O.hh, F3, y_bds]
  · rw [l1, F1.1]
  · rw [l2 o k (by omega) (by omega), F1.2 o k (by omega)]
  · rw [l3 o k (by omega), FN_L F1]
  · obtain ⟨a0, a1, a2, a3, a4, a5, a6⟩ := gI_at g n op pl a nk np 1
    obtain ⟨c1, c2, c3, c4, c5, c6⟩ := layC_f h n a (g 7 n) 1
    unfold PT
    rw [a0, a2, a3, a4, a5, c2 8 n (by omega) (by omega), show hL (layC h n a (g 7 n) 1) 11 n = hL h 11 n from rfl, ← hW]
    refine ⟨fun _ => ⟨l4, fun k2 => ?_, fun k2 => ?_⟩, fun q => absurd q (by decide)⟩
    · have n73 : hI m 226 73 = 1 := by rw [O.n4, if_pos k2]
      have form0 : tForm.getD op 0 ≠ 0 := fun z => by
        have := H.nk0.mpr (q4.mp z); omega
      rw [n73, if_neg n10] at l6
      rw [n73, if_pos (Or.inr (by decide)), Int32.or_zero] at l5
      refine ⟨?_, ?_, ?_, ?_⟩
      · rw [l6, H.hw1 form0 f9 f10]; unfold hwI; rw [if_neg f7]
      · rw [l7, FN_L F1]; exact (O.n2 k2).1
      · rw [l8, F1.2 _ _ (by omega)]; exact (O.n2 k2).2
      · rw [l5]; exact made
    · have n73 : hI m 226 73 = 0 := by rw [O.n4, if_neg k2]
      rw [n73, if_pos rfl] at l6
      refine ⟨l6, ?_⟩
      rw [l5, n73, made]
      by_cases z : tForm.getD op 0 = 0
      · rw [if_pos (Or.inl (H.hw0 z)), Int32.or_zero, if_neg (fun q => q.2 z)]
      · have hwe := H.hw1 z f9 f10
        have nk1 : nk = 1 := by
          have n0 : nk ≠ 0 := fun q => z (q4.mpr (H.nk0.mp q))
          have := O.n0.2.1; omega
        have ng : ¬ (hw = (-1 : Int32) ∨ ¬ (0 : Int32) = 0) := fun q => q.elim (fun w => by rw [hwe] at w; exact k_n1 (by omega) w) (fun w => w rfl)
        rw [if_neg ng, if_pos ⟨nk1, z⟩, O.n1 nk1, hwe, q_cl (by omega)]
        unfold hwI; rw [if_neg f7]
  · have e : (if a ≤ 8191 then x else min x (4 * pl + 3)) = (if 8192 < a + 4 * 1 then min x (4 * pl + 3) else x) := by
      have := ad.2.2.1
      by_cases z : a ≤ 8191
      · rw [if_pos z, if_neg (by omega)]
      · rw [if_neg z, if_pos (by omega)]
    rw [← e]
    exact FK_of F2 (fun k hk => l2 226 k (by omega) (by omega))
theorem liR : ∀ r, r < 32 → (((19 : Int32) ||| (nI r <<< ((7 : Int32) &&& 31))) &&& (3968 : Int32)) = nI r <<< ((7 : Int32) &&& 31) := by decide +kernel
/-- li -/
theorem lay_li {h m : AH} {c : Nat → Nat} {T Nn i n L a : Nat} {g : Gh} {op nk np nm pl x : Nat} {R hw : Int32} (H : LH h m c T Nn i n L a g op nk np nm pl x R hw) (f7 : tForm.getD op 0 = 7) : LO h m c T Nn i n L a g op nk nm := by
  have O := H.oq
  have L2 := O.tq.2.1.1
  obtain ⟨q1, q2, q3, q4⟩ := op_f1 op H.op61
  obtain ⟨_, b2, hn6⟩ := op_f2 op H.op61
  obtain ⟨bb1, bb2, _⟩ : mBase.getD op 0 = 19 ∧ tBas.getD op 0 = 0 ∧ hnO (tHow.getD op 0) op = 5 := by
    rcases b2 with z | z
    · exact absurd f7 z
    · exact z
  have ad := H.ac.ad
  have gp := H.gp
  obtain ⟨it, n375⟩ := O.it
  obtain ⟨r, r32, hR⟩ := H.li f7
  have made : hI m 226 71 = R := by rw [O.bi.2, bb2, Int32.zero_or]
  have bits : hI h 8 n = (19 : Int32) ||| R := by rw [O.bi.1, bb1]
  have dd : hI h 8 n &&& (3968 : Int32) = R := by rw [bits, hR]; exact liR r r32
  have n0 : nk ≠ 0 := fun q => by
    have := q4.mpr (H.nk0.mp q); omega
  have nk2 := O.n0.2.1
  have hd : trl m 226 (nI nm) (nI op) = bd (f_X11_layLi m 226 (nI nm)) fun q8 => f_X11_readStatement_L402 q8 226 := by
    rw [trl_w L2 H.ac.cs.1 H.op61 (fun z => by have := q1.mpr z; omega) (fun z => by have := q2.mpr z; omega), if_neg (fun z => z (q3.mp f7))]
  have sm : (nk = 1 ∧ fitB 1 (hL h 11 n) = true) ↔ (hI m 226 73 = 0 ∧ ¬ hL m 226 72 < (-2048 : Int64) ∧ ¬ (2047 : Int64) < hL m 226 72) := by
    constructor
    · intro q
      have v := O.n1 q.1
      have z : hI m 226 73 = 0 := by rw [O.n4, if_neg (by omega)]
      have f := q.2
      unfold fitB rngB at f
      have f' := of_decide_eq_true f
      rw [v]; exact ⟨z, f'.1, f'.2⟩
    · intro q
      have k1 : nk = 1 := by
        by_cases w : nk = 2
        · rw [O.n4, if_pos w] at q; exact absurd q.1 (by decide)
        · omega
      refine ⟨k1, ?_⟩
      have v := O.n1 k1
      rw [v] at q
      unfold fitB rngB
      exact decide_eq_true q.2
  have li : f_X11_layLi m 226 (nI nm) = if nk = 1 ∧ fitB 1 (hL h 11 n) = true then (bd (f_X11_lay (sI m 226 71 ((19 : Int32) ||| R)) 226 (nI nm) (0 : Int32)) fun q8 => some q8) else f_X11_layLi_L49 m 226 (nI nm) R := by
    unfold f_X11_layLi
    rw [y_gs, if_pos (lm_S226 L2), made, y_lt, y_lt]
    simp only [lg_lt]
    by_cases s : nk = 1 ∧ fitB 1 (hL h 11 n) = true
    · obtain ⟨s1, s2, s3⟩ := sm.mp s
      rw [if_pos s, if_neg (fun z => z s1), if_neg s2, if_neg s3]
    · rw [if_neg s]
      by_cases z1 : hI m 226 73 = 0
      · rw [if_neg (fun z => z z1)]
        by_cases z2 : hL m 226 72 < (-2048 : Int64)
        · rw [if_pos z2]
        · rw [if_neg z2, if_pos]
          by_cases z3 : (2047 : Int64) < hL m 226 72
          · exact z3
          · exact absurd (sm.mpr ⟨z1, z2, z3⟩) s
      · rw [if_pos z1]
  by_cases s : nk = 1 ∧ fitB 1 (hL h 11 n) = true
  · have hW : 1 = wds op nk (hL h 11 n) := by unfold wds; rw [if_neg (by omega), if_neg (fun q => q.2 s)]
    have L3 : LM (sI m 226 71 ((19 : Int32) ||| R)) := L2
    obtain ⟨mm, F1, F2, F3⟩ := r_lay L3 (p := g 7 n) (a := a) (nm := nm) (q := pl) (x := x) (hv := (0 : Int32)) (by omega) (by omega) (by rw [x_ne (by omega)]; exact H.ac.it.2.1) (by rw [x_ne (by omega)]; exact ad.2.1) (Or.inr ⟨0, by omega, rfl⟩) (FK_of O.fk (fun k hk => x_ne (by omega))) H.nm.1 (by rw [x_ne (by omega)]; exact H.nm.2) H.h6.2.1
    have z73 : hI (sI m 226 71 ((19 : Int32) ||| R)) 226 73 = 0 := by rw [x_ne (by omega)]; exact (sm.mp s).1
    have z71 : hI (sI m 226 71 ((19 : Int32) ||| R)) 226 71 = (19 : Int32) ||| R := x_eq _ _ _ _
    have ng : ¬ ((0 : Int32) = (-1 : Int32) ∨ ¬ (0 : Int32) = 0) := by decide
    rw [z73, z71, if_pos rfl, if_neg ng, x_hL_sI, O.n1 s.1] at F3
    obtain ⟨l1, l2, l3, l4, l5, l6, l7, l8, l9, l10⟩ := layM_f mm (g 7 n) a ((19 : Int32) ||| R ||| putV (0 : Int32).toNatClampNeg (hL h 11 n).toInt32) (-1 : Int32)
    generalize layM mm (g 7 n) a ((19 : Int32) ||| R ||| putV (0 : Int32).toNatClampNeg (hL h 11 n).toInt32) (-1 : Int32) = m' at *
    refine lay_fin (W := 1) (m' := m') H (by omega) (by omega) hW (Nat.le_refl _) ?_ ?_ (fun o k h1 h2 => ?_) (fun o k h1 => ?_) l9 l10 ?_ ?_
    · rw [hd, li, if_pos s, F3, y_bds, y_bds]
    · rw [l1, F1.1]; rfl
    · rw [l2 o k (by omega) (by omega), F1.2 o k (by omega), x_ne (by omega)]
    · rw [l3 o k (by omega), FN_L F1]; rfl
    · obtain ⟨a0, a1, a2, a3, a4, a5, a6⟩ := gI_at g n op pl a nk np 1
      obtain ⟨c1, c2, c3, c4, c5, c6⟩ := layC_f h n a (g 7 n) 1
      unfold PT
      rw [a0, a2, a3, a4, a5, c2 8 n (by omega) (by omega), show hL (layC h n a (g 7 n) 1) 11 n = hL h 11 n from rfl, ← hW]
      refine ⟨fun _ => ⟨l4, fun k2 => by omega, fun k2 => ⟨l6, ?_⟩⟩, fun q => absurd q (by decide)⟩
      rw [l5, if_pos ⟨s.1, by omega⟩, bits]
      unfold hwI; rw [if_pos f7]; rfl
    · have e : (if a ≤ 8191 then x else min x (4 * pl + 3)) = (if 8192 < a + 4 * 1 then min x (4 * pl + 3) else x) := by
        have := ad.2.2.1
        by_cases z : a ≤ 8191
        · rw [if_pos z, if_neg (by omega)]
        · rw [if_neg z, if_pos (by omega)]
      rw [← e]
      exact FK_of F2 (fun k hk => l2 226 k (by omega) (by omega))
  · have hW : 2 = wds op nk (hL h 11 n) := by unfold wds; rw [if_neg (by omega), if_pos ⟨f7, s⟩]
    have L3 : LM (sI m 226 71 ((55 : Int32) ||| R)) := L2
    obtain ⟨mm, F1, F2, F3⟩ := r_lay L3 (p := g 7 n) (a := a) (nm := nm) (q := pl) (x := x) (hv := (7 : Int32)) (by omega) (by omega) (by rw [x_ne (by omega)]; exact H.ac.it.2.1) (by rw [x_ne (by omega)]; exact ad.2.1) (Or.inr ⟨7, by omega, rfl⟩) (FK_of O.fk (fun k hk => x_ne (by omega))) H.nm.1 (by rw [x_ne (by omega)]; exact H.nm.2) H.h6.2.1
    have z73 : hI (sI m 226 71 ((55 : Int32) ||| R)) 226 73 = hI m 226 73 := x_ne (by omega)
    have z71 : hI (sI m 226 71 ((55 : Int32) ||| R)) 226 71 = (55 : Int32) ||| R := x_eq _ _ _ _
    rw [z73, z71, x_hL_sI] at F3
    -- what the label leaves
    have W1 : ∀ k : Nat, k ≤ 8 → ((if nI k = (-1 : Int32) ∨ ¬ hI m 226 73 = 0 then 0 else putV (nI k).toNatClampNeg (hL m 226 72).toInt32) = if nk = 2 then (0 : Int32) else putV k (hL h 11 n).toInt32) ∧ (if hI m 226 73 = 0 then (-1 : Int32) else nI k) = (if nk = 2 then nI k else (-1 : Int32)) := by
      intro k hk
      by_cases k2 : nk = 2
      · have n73 : ¬ hI m 226 73 = 0 := by rw [O.n4, if_pos k2]; decide
        rw [if_pos (Or.inr n73), if_pos k2, if_neg n73, if_pos k2]; exact ⟨rfl, rfl⟩
      · have n73 : hI m 226 73 = 0 := by rw [O.n4, if_neg k2]
        have k1 : nk = 1 := by omega
        have ng : ¬ (nI k = (-1 : Int32) ∨ ¬ hI m 226 73 = 0) := fun q => q.elim (fun w => k_n1 (by omega) w) (fun w => w n73)
        rw [if_neg ng, if_neg k2, if_pos n73, if_neg k2, O.n1 k1, q_cl (by omega)]; exact ⟨rfl, rfl⟩
    have W7 := W1 7 (by omega)
    have W8 := W1 8 (by omega)
    rw [show nI 7 = (7 : Int32) from rfl] at W7
    rw [show nI 8 = (8 : Int32) from rfl] at W8
    rw [W7.1, W7.2] at F3
    obtain ⟨l1, l2, l3, l4, l5, l6, l7, l8, l9, l10⟩ := layM_f mm (g 7 n) a ((55 : Int32) ||| R ||| (if nk = 2 then (0 : Int32) else putV 7 (hL h 11 n).toInt32)) (if nk = 2 then (7 : Int32) else (-1 : Int32))
    generalize layM mm (g 7 n) a ((55 : Int32) ||| R ||| (if nk = 2 then (0 : Int32) else putV 7 (hL h 11 n).toInt32)) (if nk = 2 then (7 : Int32) else (-1 : Int32)) = m1 at *
    -- from m to m1
    have h1 : ∀ o k, ¬ (233 ≤ o ∧ o ≤ 237 ∧ k = g 7 n) → ¬ (o = 226 ∧ (k = 3 ∨ k = 4 ∨ k = 13 ∨ k = 20 ∨ k = 71)) → hI m1 o k = hI m o k := fun o k w1 w2 => by rw [l2 o k w1 (by omega), F1.2 o k (by omega), x_ne (by omega)]
    have hl1 : ∀ o k, ¬ (o = 236 ∧ k = g 7 n) → hL m1 o k = hL m o k := fun o k w => by rw [l3 o k w, FN_L F1]; rfl
    have L1 : LM m1 := LM_3 L2 (by rw [l1, F1.1]; rfl)
    have L4 : LM (sI m1 226 71 (((19 : Int32) ||| R) ||| (R <<< ((8 : Int32) &&& 31)))) := L1
    obtain ⟨m2, G1, G2, G3⟩ := r_lay L4 (p := g 7 n + 1) (a := a + 4) (nm := nm) (q := pl) (x := if a ≤ 8191 then x else min x (4 * pl + 3)) (hv := (8 : Int32)) (by omega) (by omega) (by rw [x_ne (by omega)]; exact l9) (by rw [x_ne (by omega)]; exact l10) (Or.inr ⟨8, by omega, rfl⟩) (FK_of F2 (fun k hk => by rw [x_ne (by omega), l2 226 k (by omega) (by omega)])) H.nm.1 (by rw [x_ne (by omega), h1 229 nm (by omega) (by omega)]; exact H.nm.2) H.h6.2.1
    have y73 : hI (sI m1 226 71 (((19 : Int32) ||| R) ||| (R <<< ((8 : Int32) &&& 31)))) 226 73 = hI m 226 73 := by rw [x_ne (by omega), h1 226 73 (by omega) (by omega)]
    have y71 : hI (sI m1 226 71 (((19 : Int32) ||| R) ||| (R <<< ((8 : Int32) &&& 31)))) 226 71 = ((19 : Int32) ||| R) ||| (R <<< ((8 : Int32) &&& 31)) := x_eq _ _ _ _
    have y72 : hL (sI m1 226 71 (((19 : Int32) ||| R) ||| (R <<< ((8 : Int32) &&& 31)))) 226 72 = hL m 226 72 := by rw [x_hL_sI, hl1 226 72 (by omega)]
    rw [y73, y71, y72, W8.1, W8.2] at G3
    obtain ⟨k1, k2, k3, k4, k5, k6, k7, k8, k9, k10⟩ := layM_f m2 (g 7 n + 1) (a + 4) (((19 : Int32) ||| R) ||| (R <<< ((8 : Int32) &&& 31)) ||| (if nk = 2 then (0 : Int32) else putV 8 (hL h 11 n).toInt32)) (if nk = 2 then (8 : Int32) else (-1 : Int32))
    generalize layM m2 (g 7 n + 1) (a + 4) (((19 : Int32) ||| R) ||| (R <<< ((8 : Int32) &&& 31)) ||| (if nk = 2 then (0 : Int32) else putV 8 (hL h 11 n).toInt32)) (if nk = 2 then (8 : Int32) else (-1 : Int32)) = m' at *
    have h2 : ∀ o k, ¬ (233 ≤ o ∧ o ≤ 237 ∧ k = g 7 n + 1) → ¬ (o = 226 ∧ (k = 3 ∨ k = 4 ∨ k = 13 ∨ k = 20 ∨ k = 71)) → hI m' o k = hI m1 o k := fun o k w1 w2 => by rw [k2 o k w1 (by omega), G1.2 o k (by omega), x_ne (by omega)]
    have hl2 : ∀ o k, ¬ (o = 236 ∧ k = g 7 n + 1) → hL m' o k = hL m1 o k := fun o k w => by rw [k3 o k w, FN_L G1]; rfl
    have lab : hL m2 226 74 = hL m 226 74 := by rw [FN_L G1, x_hL_sI, hl1 226 74 (by omega)]
    have plc : hI m2 226 75 = hI m 226 75 := by rw [G1.2 226 75 (by omega), x_ne (by omega), h1 226 75 (by omega) (by omega)]
    refine lay_fin (W := 2) (m' := m') H (by omega) (by omega) hW (by omega) ?_ ?_ (fun o k w1 w2 => ?_) (fun o k w1 => ?_) k9 k10 ?_ ?_
    · rw [hd, li, if_neg s]
      unfold f_X11_layLi_L49
      rw [y_gs, if_pos (lm_S226 L2), y_lt, F3, y_bds, y_gs, if_pos (lm_S226 L1), y_lt, G3, y_bds, y_bds]
    · rw [k1, G1.1]; show m1.2.2 = m.2.2; rw [l1, F1.1]; rfl
    · rw [h2 o k (by omega) (by omega), h1 o k (by omega) (by omega)]
    · rw [hl2 o k (by omega), hl1 o k (by omega)]
    · obtain ⟨a0, a1, a2, a3, a4, a5, a6⟩ := gI_at g n op pl a nk np 2
      obtain ⟨c1, c2, c3, c4, c5, c6⟩ := layC_f h n a (g 7 n) 2
      unfold PT
      rw [a0, a2, a3, a4, a5, c2 8 n (by omega) (by omega), show hL (layC h n a (g 7 n) 2) 11 n = hL h 11 n from rfl, ← hW, dd]
      refine ⟨fun q => absurd q (by decide), fun _ => ⟨?_, k4, fun kk => ?_, fun kk => ?_⟩⟩
      · rw [h2 233 (g 7 n) (by omega) (by omega)]; exact l4
      · rw [if_pos kk] at l5 l6 k5 k6
        rw [Int32.or_zero] at l5 k5
        refine ⟨?_, k6, ?_, ?_, ?_, ?_, ?_, k5⟩
        · rw [h2 235 (g 7 n) (by omega) (by omega)]; exact l6
        · rw [hl2 236 (g 7 n) (by omega), l7, FN_L F1]; exact (O.n2 kk).1
        · rw [k7, lab]; exact (O.n2 kk).1
        · rw [h2 237 (g 7 n) (by omega) (by omega), l8, F1.2 _ _ (by omega), x_ne (by omega)]; exact (O.n2 kk).2
        · rw [k8, plc]; exact (O.n2 kk).2
        · rw [h2 234 (g 7 n) (by omega) (by omega)]; exact l5
      · rw [if_neg kk] at l5 l6 k5 k6
        refine ⟨?_, k6, ?_, k5⟩
        · rw [h2 235 (g 7 n) (by omega) (by omega)]; exact l6
        · rw [h2 234 (g 7 n) (by omega) (by omega)]; exact l5
    · have e : (if a + 4 ≤ 8191 then (if a ≤ 8191 then x else min x (4 * pl + 3)) else min (if a ≤ 8191 then x else min x (4 * pl + 3)) (4 * pl + 3)) = (if 8192 < a + 4 * 2 then min x (4 * pl + 3) else x) := by
        have := ad.2.2.1
        by_cases z : a + 4 ≤ 8191
        · rw [if_pos z, if_pos (by omega), if_neg (by omega)]
        · rw [if_neg z, if_pos (show 8192 < a + 4 * 2 by omega)]
          by_cases z2 : a ≤ 8191
          · rw [if_pos z2]
          · rw [if_neg z2, Nat.min_assoc, Nat.min_self]
      rw [← e]
      exact FK_of G2 (fun k hk => k2 226 k (by omega) (by omega))
