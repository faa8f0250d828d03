theorem hfpO (how : Nat) (v : Int64) : rft 0 (moO how) (muO how) v ↔ fitB (fpO how) v = true := by
  unfold moO muO fpO
  by_cases g : how = 16
  · rw [if_pos g, if_pos g, if_pos g]; exact rf_10 v
  · rw [if_neg g, if_neg g, if_neg g]; exact rf_9 v
theorem hmuO (how : Nat) : ¬ (muO how).toInt64 = 0 := by
  unfold muO; split <;> decide
theorem AC_tk {h m : AH} {n L a : Nat} {g : Gh} (A : AC h m n L a g) (c : Nat → Nat) (T p : Nat) (v : Int32) : AC (tkH h c T p) (sI m 226 9 v) n L a g := by
  obtain ⟨t1, t2, t3⟩ := tkH_f h c T p
  exact AC_fr A t3 (fun o k h1 _ h3 _ => t1 o k (by omega)) (fun o k h1 _ => t2 o k (by omega)) rfl (fun o k q => x_ne (by omega)) (fun o k q => rfl)
theorem KX_tk (h : AH) (g : Gh) (n L : Nat) (c : Nat → Nat) (T p : Nat) : KX (tkH h c T p) g n L = KX h g n L := by
  obtain ⟨t1, t2, t3⟩ := tkH_f h c T p
  exact KX_congr (fun k _ => ⟨t2 _ _ (by omega), rfl⟩) (fun k _ => ⟨t2 _ _ (by omega), fun _ _ => rfl⟩)
/-- an instruction behind its word -/
theorem ins_both {h m : AH} {c : Nat → Nat} {T Nn i n L a : Nat} {g : Gh} {op pl nm : Nat} (A : AC h m n L a g) (Q : TQ h m c T Nn i) (F : FK m (KX h g n L)) (zc : ∀ i, T ≤ i → c i = 0) (hop : op < 61) (n375 : n < 375) (gp : g 7 n + 2 < 700) (hnm : nm < 1502 ∧ hI m 229 nm = nI pl) (hpl : pl ≤ 1500) :
    (∃ h' m' i' a' g', f_X1_readInstruction h 4 (nI op) (nI pl) = some ((1 : Int32), h') ∧ refI m (nI nm) (nI op) = some ((1 : Int32), m') ∧ AC h' m' (n + 1) L a' g' ∧ TQ h' m' c T Nn (i' + 1) ∧ FK m' (KX h' g' (n + 1) L) ∧ FA h h' ∧ FB m m' ∧ i + (opl (tHow.getD op 0)).length ≤ i' ∧ i' < Nn ∧ (g' 7 (n + 1) ≤ g 7 n + 1 ∨ (g' 7 (n + 1) ≤ g 7 n + 2 ∧ op = 57)) ∧ (∀ ch l', opl (tHow.getD op 0) = ch :: l' → (ch = 78 → i + (opl (tHow.getD op 0)).length < i' ∨ tKind c T (ts c T i) = 2 ∨ tKind c T (ts c T i) = 3) ∧ (ch = 100 → tKind c T (ts c T i) = 2 ∧ ∃ r, rgO (tVal c T (ts c T i)) = some r))) ∨ FR3 h m c T i Nn (f_X1_readInstruction h 4 (nI op) (nI pl)) (refI m (nI nm) (nI op)) := by
  have L1 := Q.1.1.1
  have L2 := Q.2.1.1
  obtain ⟨o1, o2, o3, o4, o5, o6, o7⟩ := op_t op hop
  have Lc : LC (insC h n op pl) := L1
  have cF : ∀ o k, ¬ ((o = 5 ∨ o = 6 ∨ o = 8 ∨ o = 9) ∧ k = n) → hI (insC h n op pl) o k = hI h o k := fun o k q => by unfold insC; rw [x_ne (by omega), x_ne (by omega), x_ne (by omega), x_ne (by omega)]
  have mF : ∀ o k, ¬ (o = 226 ∧ (k = 71 ∨ k = 73 ∨ k = 76)) → hI (insM m op) o k = hI m o k := fun o k q => by unfold insM; rw [x_ne (by omega), x_ne (by omega), x_ne (by omega)]
  have FAi : FA h (insC h n op pl) := ⟨rfl, fun o k h1 h2 => cF o k (by omega)⟩
  have FBi : FB m (insM m op) := ⟨rfl, fun o k h1 h2 => mF o k (by omega)⟩
  have O : OQ (insC h n op pl) (insM m op) c T Nn i n (mBase.getD op 0) (tBas.getD op 0) 0 0 0 (-1 : Int32) (KX h g n L) := by
    refine ⟨TQ_m (TQ_h Q rfl (fun o k q => cF o k (by omega)) rfl) rfl (fun o k q => mF o k (by omega)) (fun k => rfl), ⟨by rw [cF _ _ (by omega)]; exact A.it.1, n375⟩, ⟨?_, ?_⟩, ⟨?_, by omega, by omega⟩, fun q => absurd q (by decide), fun q => absurd q (by decide), fun q => absurd rfl q, ?_, ?_, FK_of F (fun k hk => mF _ _ (by omega))⟩
    · rw [Int32.or_zero]; unfold insC; rw [x_ne (by omega), x_eq]
    · rw [Int32.or_zero]; unfold insM; rw [x_ne (by omega), x_ne (by omega), x_eq]
    · unfold insC; rw [x_eq]; rfl
    · unfold insM; rw [x_eq]; rfl
    · unfold insM; rw [x_ne (by omega), x_eq]
  obtain ⟨q1, q2, q3, q4⟩ := op_f1 op hop
  obtain ⟨p1, p2, p3⟩ := op_f2 op hop
  have hnn : nNu (opl (tHow.getD op 0)) = 0 ∨ nNu (opl (tHow.getD op 0)) = 1 := by omega
  have sq := seq_ok (n := n) (op := op) (S := mOps.getD op 0) (hn := hnO (tHow.getD op 0) op) (fp := fpO (tHow.getD op 0)) (mo := moO (tHow.getD op 0)) (mu := muO (tHow.getD op 0)) hop o2 o3 p3 zc (hfpO _) (hmuO _) (opl (tHow.getD op 0)) i 0 FU 0 0 0 (-1 : Int32) (KX h g n L) O (by omega) (fun t ht => by rw [Nat.zero_add]; exact o5 t ht) o7 (by omega) (FU_gt (by have := t_len _ o3; omega))
  obtain ⟨rc, out⟩ := sq
  rw [← insC_e L1 n375 A.it.1 hop] at out
  have rI := insM_e L2 A.cs.1 hop (nI nm)
  rw [parts_all hop o1 (fun _ => trivial) rc] at rI
  rcases out with ⟨h', m', i', D, nk', np', hw', x', e1, e2, e3, e4, O', rr, w0, w1, wf, f1, j1⟩ | ⟨h', m', p, e1, e2, e3, e4, e5, e6, e7, e8, e9⟩
  rotate_left
  · right
    rw [rI, e2, y_bds, if_neg (fun q => q rfl)]
    exact ⟨h', m', p, e1, rfl, e3, e4, e5, e6, e7, FA_tr FAi e8, FB_tr FBi (FJ_B e9)⟩
  rw [e2, y_bds, if_pos (show ¬ (1 : Int32) = 0 from by decide)] at rI
  have kx : KX h' g n L = KX h g n L := KX_congr (fun k _ => ⟨f1.2.2 _ _ (by omega) (by omega), rfl⟩) (fun k hk => ⟨f1.2.2 _ _ (by omega) (by omega), fun _ _ => rfl⟩)
  have AC' : AC h' m' n L a g := AC_fr A (f1.1) (fun o k h1 h2 h3 h4 => by rw [f1.2.1 o k (by omega) (by omega)]; exact cF o k (by omega)) (fun o k h1 h2 => f1.2.2 o k (by omega) (by omega)) j1.1 (fun o k q => by rw [j1.2.1 o k (by omega)]; exact mF o k (by omega)) (fun o k q => j1.2.2 o k (by omega))
  obtain ⟨w15, w110⟩ := how_110 _ o1
  rw [show (0 : Int32) ||| D = D from Int32.zero_or] at O'
  have H : LH h' m' c T Nn i' n L a g op nk' np' nm pl x' D hw' := by
    refine ⟨AC', O', hop, ?_, ⟨?_, hpl, O'.n0.2.2⟩, ⟨hnm.1, ?_⟩, gp, ?_, ?_, ?_, ?_, ?_, ?_, ?_⟩
    · rw [f1.2.1 _ _ (by omega) (by omega)]; unfold insC; rw [x_ne (by omega), x_ne (by omega), x_ne (by omega), x_eq]
    · rw [f1.2.1 _ _ (by omega) (by omega)]; unfold insC; rw [x_ne (by omega), x_ne (by omega), x_eq]
    · rw [j1.2.1 _ _ (by omega), mF _ _ (by omega)]; exact hnm.2
    · rcases hnn with z | z
      · exact ⟨fun _ => z, fun _ => (w0 z).1⟩
      · refine ⟨fun q => ?_, fun q => by omega⟩
        have ne := w1 z
        by_cases y : tHow.getD op 0 = 15 ∨ tHow.getD op 0 = 16
        · rw [w15 y] at ne; have := (NE_110 ne).2.1; omega
        · have := NE_78 _ (w110 (fun t => y (Or.inl t)) (fun t => y (Or.inr t))) z ne
          omega
    · intro f0
      exact (w0 (q4.mp f0)).2.2.1
    · intro f0 f9 f10
      have z : nNu (opl (tHow.getD op 0)) = 1 := by rcases hnn with z | z; exact absurd (q4.mpr z) f0; exact z
      exact (NE_78 _ (w110 (fun t => f9 (q1.mpr t)) (fun t => f10 (q2.mpr t))) z (w1 z)).1
    · intro f7
      rw [q3.mp f7] at rr
      have rr' : RR [100, 44, 78] D := rr
      unfold RR at rr'
      rw [if_pos (show isRg 100 = true from rfl)] at rr'
      obtain ⟨r, D', r1, r2, r3⟩ := rr'
      have r2' : D' = 0 := r2
      refine ⟨r, r1, ?_⟩
      rw [r3, r2', Int32.or_zero]; rfl
    · rcases hnn with z | z
      · obtain ⟨y1, y2, y3, y4, y5⟩ := w0 z
        rw [y4, if_neg (by omega), kx]
      · have ne := w1 z
        rw [kx]
        by_cases y : tHow.getD op 0 = 15 ∨ tHow.getD op 0 = 16
        · rw [w15 y] at ne
          obtain ⟨y1, y2, y3, y4⟩ := NE_110 ne
          have ff : fpO (tHow.getD op 0) = tForm.getD op 0 := by
            rcases y with y | y
            · rw [q1.mpr y, y]; rfl
            · rw [q2.mpr y, y]; rfl
          rw [y4, ff]
          cases hb : fitB (tForm.getD op 0) (hL h' 11 n)
          · rw [if_neg (by decide), if_pos ⟨y2, rfl⟩]
          · rw [if_pos rfl, if_neg (fun q => absurd q.2 (by decide))]
        · have n0 : tForm.getD op 0 ≠ 0 := fun q => by have := q4.mp q; omega
          have n9 : tForm.getD op 0 ≠ 9 := fun q => y (Or.inl (q1.mp q))
          have n10' : tForm.getD op 0 ≠ 10 := fun q => y (Or.inr (q2.mp q))
          obtain ⟨_, nn⟩ := NE_78 _ (w110 (fun t => y (Or.inl t)) (fun t => y (Or.inr t))) z ne
          have ff : fitB (frm (hnO (tHow.getD op 0) op)) (hL h' 11 n) = fitB (tForm.getD op 0) (hL h' 11 n) := by
            rcases op_f3 op hop with q | q | q | q | q
            · exact absurd q n0
            · have : hnO (tHow.getD op 0) op = 5 := by rcases p2 with t | t; exact absurd q t; exact t.2.2
              rw [this, q]; rfl
            · exact absurd q n9
            · exact absurd q n10'
            · rw [q]
          rw [ff] at nn
          rcases nn with ⟨k1, k2⟩ | ⟨k1, k2⟩
          · rw [k2]
            cases hb : fitB (tForm.getD op 0) (hL h' 11 n)
            · rw [if_neg (by decide), if_pos ⟨k1, rfl⟩]
            · rw [if_pos rfl, if_neg (fun q => absurd q.2 (by decide))]
          · rw [k2, if_neg (by omega)]
    · intro f910
      have y : tHow.getD op 0 = 15 ∨ tHow.getD op 0 = 16 := by rcases f910 with q | q; exact Or.inl (q1.mp q); exact Or.inr (q2.mp q)
      have z : nNu (opl (tHow.getD op 0)) = 1 := by rw [w15 y]; rfl
      have ne := w1 z
      rw [w15 y] at ne
      obtain ⟨y1, y2, y3, y4⟩ := NE_110 ne
      exact ⟨y2, y3⟩
    · intro f8
      have t58 : ∀ op, op < 61 → tForm.getD op 0 = 8 → tHow.getD op 0 = 14 ∧ mBase.getD op 0 = 0 := by decide +kernel
      obtain ⟨u1, u2⟩ := t58 op hop f8
      rw [u1] at rr
      have rr' : RR [78] D := rr
      have D0 : D = 0 := rr'
      rw [O'.bi.1, u2, D0]; rfl
  obtain ⟨h2, m2, a', g', l1, l2, l3, l4, l5, l6, l7, l8⟩ := lay_all H
  have FA2 : FA h h2 := FA_tr FAi (FA_tr (FI_A f1) l6)
  have FB2 : FB m m2 := FB_tr FBi (FB_tr (FJ_B j1) l7)
  have cE : insE h' op = f_X1_readEnd h2 4 ∨ True := Or.inr trivial
  have L2c : LC h2 := l4.1.1.1
  rcases end_both l4 with ⟨d1, d2, d3, d4⟩ | R
  · left
    refine ⟨tkH h2 c T (ts c T (i' + 1)), sI m2 226 9 (nI (i' + 1)), i', a', g', ?_, ?_, AC_tk l3 _ _ _ _, d4, ?_, FA_tr FA2 (FA_tk _ _ _ _), FB_tr FB2 (FB_9 _ _), e3, d3, ?_, wf⟩
    · rw [e1]; unfold insE
      rw [l1, y_bds, y_gs, if_pos (lc_S4 L2c), d1, y_bds, gb01 (Or.inr rfl)]
    · rw [rI, l2, d2]
    · rw [KX_tk]; exact FK_of l5 (fun k hk => x_ne (by omega))
    · rw [l8]
      have wl := wds_le op nk' (hL h' 11 n)
      by_cases q : wds op nk' (hL h' 11 n) ≤ 1
      · left; omega
      · right
        refine ⟨by omega, ?_⟩
        have f7 : tForm.getD op 0 = 7 := by
          by_cases t : tForm.getD op 0 = 7
          · exact t
          · exfalso; apply q; unfold wds; split
            · omega
            · rw [if_neg (fun w => t w.1)]; omega
        have : ∀ op, op < 61 → tForm.getD op 0 = 7 → op = 57 := by decide +kernel
        exact this op hop f7
  · right
    obtain ⟨h3, m3, p, r1, r2, r3, r4, r5, r6, r7, r8, r9⟩ := R
    obtain ⟨r3, i3, r3a, r3b, r3c⟩ := r3
    refine ⟨h3, m3, p, ?_, ?_, ⟨r3, i3, r3a, by omega, r3c⟩, r4, r5, r6, r7, FA_tr FA2 r8, FB_tr FB2 r9⟩
    · rw [e1]; unfold insE
      rw [l1, y_bds, y_gs, if_pos (lc_S4 L2c), r1, y_bds, gb01 (Or.inl rfl)]
    · rw [rI, l2, r2]
