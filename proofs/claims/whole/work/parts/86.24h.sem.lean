theorem FI_put (n : Nat) (h : AH) (v : Int32) (z : Int64) : FI n h (sL (sI h 9 n v) 11 n z) := by
  refine ⟨rfl, fun o k h1 h2 => ?_, fun o k h1 h2 => ?_⟩
  · rw [x_hI_sL, x_ne (by omega)]
  · rw [x_hL_sL, if_neg (by omega)]; rfl
theorem OQ_put {h m m' : AH} {c : Nat → Nat} {T Nn i n : Nat} {B1 B2 R : Int32} {nk np : Nat} {hw : Int32} {x : Nat} (O : OQ h m c T Nn i n B1 B2 R nk np hw x) {v : Nat} {z : Int64} {p x' : Nat} (hv : v = 1 ∨ v = 2) (hp : p ≤ 1500) (e : m'.2.2 = m.2.2) (f : ∀ o k, ¬ (o = 226 ∧ (k = 3 ∨ k = 4 ∨ k = 9 ∨ k = 73 ∨ k = 75)) → hI m' o k = hI m o k) (f9 : hI m' 226 9 = nI i) (g : ∀ o k, ¬ (o = 226 ∧ (k = 72 ∨ k = 74)) → hL m' o k = hL m o k) (h10 : hI h 10 n = nI p) (hk : FK m' x') (h73 : hI m' 226 73 = (if v = 2 then 1 else 0)) (h72 : v = 1 → hL m' 226 72 = z) (h74 : v = 2 → hL m' 226 74 = z ∧ hI m' 226 75 = nI p) :
    OQ (sL (sI h 9 n (nI v)) 11 n z) m' c T Nn i n B1 B2 R v p hw x' := by
  refine ⟨?_, ?_, ?_, ?_, fun q => ?_, fun q => ?_, fun q => ?_, h73, ?_, hk⟩
  · have Q1 : TQ (sL (sI h 9 n (nI v)) 11 n z) m c T Nn i := TQ_h O.tq rfl (fun o k q => by rw [x_hI_sL, x_ne (by omega)]) (by rw [x_hL_sL, if_neg (by omega)]; rfl)
    obtain ⟨x1, ⟨l, tk, _⟩, z1⟩ := Q1
    refine ⟨x1, ⟨LM_3 l e, fun j hj => ?_, f9⟩, z1⟩
    have t := tk j hj
    unfold tkA at t ⊢
    rw [f 228 j (by omega), f 229 j (by omega), g 230 j (by omega)]; exact t
  · rw [x_hI_sL, x_ne (by omega)]; exact O.it
  · rw [x_hI_sL, x_ne (by omega), f _ _ (by omega)]; exact O.bi
  · rw [x_hI_sL, x_eq]; exact ⟨rfl, by omega, hp⟩
  · rw [h72 q, x_hL_sL, if_pos ⟨rfl, rfl⟩]
  · rw [x_hL_sL, if_pos ⟨rfl, rfl⟩]; exact h74 q
  · rw [x_hI_sL, x_ne (by omega)]; exact h10
  · rw [f _ _ (by omega)]; exact O.hh
/-- a number (or, where any may stand, a label) -/
theorem step_num {h m : AH} {c : Nat → Nat} {T Nn i n : Nat} {B1 B2 R : Int32} {nk np : Nat} {hw : Int32} {x form : Nat} {lo hi : Int64} {mu : Int32} (O : OQ h m c T Nn i n B1 B2 R nk np hw x) (nk0 : nk = 0) (hfit : ∀ v, rft lo hi mu v ↔ fitB form v = true) (hmu : ¬ mu.toInt64 = 0) (any : Bool) :
    (∃ h' m' i' nk' x', f_X1_readNumber h 4 (if any = true then 1 else 0) = some ((1 : Int32), h') ∧ f_X11_wantNumber m 226 (if any = true then 0 else 1) lo hi mu = some ((1 : Int32), m') ∧ (i' = i + 1 ∧ (tKind c T (ts c T i) = 2 ∨ tKind c T (ts c T i) = 3) ∨ i' = i + 2 ∧ tKind c T (ts c T i) = 45) ∧ i' ≤ Nn ∧ OQ h' m' c T Nn i' n B1 B2 R nk' (ts c T i) hw x' ∧ (nk' = 1 ∧ x' = (if fitB form (hL h' 11 n) = true then x else min x (4 * ts c T i + 3)) ∨ nk' = 2 ∧ any = true ∧ x' = x) ∧ FI n h h' ∧ FJ m m' ∧ (any = false → tKind c T (ts c T i) = 3 ∧ hL h' 11 n = tVal c T (ts c T i))) ∨ FLx n h m c T i Nn (f_X1_readNumber h 4 (if any = true then 1 else 0)) (f_X11_wantNumber m 226 (if any = true then 0 else 1) lo hi mu) := by
  have Q := O.tq
  have C := Q.1.1
  have L := C.1
  have L2 := Q.2.1.1
  have T15 := C.2.2.2.1
  have tl := ts_le c T i
  have kl := kind_lt C (ts c T i)
  obtain ⟨it, n375⟩ := O.it
  have kk : hI h 2 3 = nI (tKind c T (ts c T i)) := Q.1.2.2.1
  have st : hI h 2 4 = nI (ts c T i) := Q.1.2.2.2.1
  obtain ⟨a1, a2, a3, a4, a5, a6⟩ := TQ_r Q
  have r1 := (rk_i (k := tKind c T (ts c T i))).1
  have r2 := (rk_i (k := tKind c T (ts c T i))).2.1
  -- the place of the number
  generalize hh5 : sI h 10 n (nI (ts c T i)) = h5 at *
  have fr5 : ∀ o k, ¬ (o = 10 ∧ k = n) → hI h5 o k = hI h o k := fun o k g => by rw [← hh5]; exact x_ne (by omega)
  have p5 : hI h5 10 n = nI (ts c T i) := by rw [← hh5]; exact x_eq _ _ _ _
  have e5 : h5.2 = h.2 := by rw [← hh5]; rfl
  have Q5 : TQ h5 m c T Nn i := TQ_h Q (by rw [e5]) (fun o k q => fr5 o k (by omega)) (by show h5.2.1 2 5 = h.2.1 2 5; rw [e5])
  have it5 : hI h5 4 1 = nI n := by rw [fr5 _ _ (by omega)]; exact it
  have F5 : FI n h h5 := ⟨by rw [e5], fun o k h1 h2 => fr5 o k (by omega), fun o k _ _ => by show h5.2.1 o k = h.2.1 o k; rw [e5]⟩
  have L5 : LC h5 := Q5.1.1.1
  have cls : f_X1_readNumber h 4 (if any = true then 1 else 0) = if any = true ∧ tKind c T (ts c T i) = 45 then (bd (f_X8_next h5 2) fun q4 => f_X1_readNumber_L49 q4 4 (1 : Int32) (1 : Int32)) else f_X1_readNumber_L49 h5 4 (if any = true then 1 else 0) (0 : Int32) := by
    unfold f_X1_readNumber f_X1_readNumber_L36 f_X1_readNumber_L37
    rw [y_gs, if_pos (lc_S4 L), lc_R4_0 L, y_gs, if_pos (lc_S2 L), lc_R4_7 L, y_gs, if_pos (lc_S10 L), lc_N10 L, it, y_gb, if_pos (q_ib n375 (by omega)), q_cl (by omega), st, y_lt, hh5, lc_R4_0 L5, if_pos (show (0 : Int32) = 0 from rfl), if_neg (show ¬ (1 : Int32) = 0 from by decide), y_gs, if_pos (lc_S2 L5), fr5 2 3 (by omega), kk, y_gs, if_pos (lc_S4 L5), y_gs, if_pos (lc_S2 L5)]
    have h45 : nI (tKind c T (ts c T i)) = (45 : Int32) ↔ tKind c T (ts c T i) = 45 := q_eq (b := 45) (by omega) (by omega)
    cases any with
    | false => rw [if_neg (show ¬ false = true from by decide), if_pos rfl, if_neg (fun q => absurd q.1 (by decide))]
    | true =>
      rw [if_pos (show true = true from rfl), if_neg (show ¬ (1 : Int32) = 0 from by decide)]
      by_cases g : tKind c T (ts c T i) = 45
      · rw [if_neg (fun q => q (h45.mpr g)), if_pos ⟨rfl, g⟩]
      · rw [if_pos (fun q => g (h45.mp q)), if_neg (fun q => g q.2)]
  -- the reference's isLabel
  have m3 : ∀ v : Int32, LM (sI m 226 73 v) := fun v => L2
  have ref : f_X11_wantNumber m 226 (if any = true then 0 else 1) lo hi mu = if any = true ∧ tKind c T (ts c T i) = 2 then some ((1 : Int32), sI (sI (sL (sI m 226 73 (1 : Int32)) 226 74 (tVal c T (ts c T i))) 226 75 (nI (ts c T i))) 226 9 (nI (i + 1))) else if any = true ∧ tKind c T (ts c T i) = 45 then f_X11_wantNumber_L112 (sI (sI m 226 73 (0 : Int32)) 226 9 (nI (i + 1))) 226 lo hi mu (nI i) (1 : Int32) else f_X11_wantNumber_L112 (sI m 226 73 (0 : Int32)) 226 lo hi mu (nI i) (0 : Int32) := by
    have Q3 : TQ h (sI m 226 73 (0 : Int32)) c T Nn i := TQ_m Q rfl (fun o k q => x_ne (by omega)) (fun k => rfl)
    have l28 : f_X11_wantNumber_L28 m 226 (if any = true then 0 else 1) lo hi mu (nI i) 226 = if any = true ∧ tKind c T (ts c T i) = 45 then f_X11_wantNumber_L112 (sI (sI m 226 73 (0 : Int32)) 226 9 (nI (i + 1))) 226 lo hi mu (nI i) (1 : Int32) else f_X11_wantNumber_L112 (sI m 226 73 (0 : Int32)) 226 lo hi mu (nI i) (0 : Int32) := by
      unfold f_X11_wantNumber_L28 f_X11_wantNumber_L29 f_X11_wantNumber_L94 f_X11_wantNumber_L95
      have sg45 : f_X11_isSign (sI m 226 73 (0 : Int32)) 226 (45 : Int32) = some (if tKind c T (ts c T i) = 45 then 1 else 0) := r_isSign Q3 (s := 45) (by omega) (by omega)
      rw [y_gs, if_pos (lm_S226 L2), y_gb, if_pos (by decide), y_lt, y_gs, if_pos (lm_S226 (m3 0)), x_eq, if_pos (show (0 : Int32) = 0 from rfl), if_pos (show (0 : Int32) = 0 from rfl), sg45, y_bds, if_neg (show ¬ (1 : Int32) = 0 from by decide), y_gs, if_pos (lm_S226 (m3 0)), x_ne (by omega), a1, show (1 : Int32) = nI 1 from rfl, q_add, y_lt]
      cases any with
      | false => rw [if_neg (show ¬ false = true from by decide), if_pos (show ¬ nI 1 = 0 from by decide), if_neg (fun q => absurd q.1 (by decide))]
      | true =>
        rw [if_pos (show true = true from rfl), if_neg (fun q => q rfl)]
        by_cases g : tKind c T (ts c T i) = 45
        · rw [if_pos g, if_neg (show ¬ nI 1 = 0 from by decide), if_pos ⟨rfl, g⟩]
        · rw [if_neg g, if_pos rfl, if_neg (fun q => g q.2)]
    unfold f_X11_wantNumber
    rw [y_gs, if_pos (lm_S226 L2), a1, y_lt, l28, lm_R6 L2, y_gs, if_pos (lm_S228 L2), lm_N228 L2, y_gb, if_pos a4, q_cl a5, a2]
    cases any with
    | false => rw [if_neg (show ¬ false = true from by decide), if_pos (show ¬ (1 : Int32) = 0 from by decide), if_neg (show ¬ (false = true ∧ tKind c T (ts c T i) = 2) from fun q => absurd q.1 (by decide))]
    | true =>
      rw [if_pos (show true = true from rfl), if_neg (fun q => q rfl)]
      by_cases g : tKind c T (ts c T i) = 2
      · have vv : hL m 230 i = tVal c T (ts c T i) := (Q.2.1.2.1 i Q.2.2.1).2.2.1 (Or.inl g)
        rw [if_neg (fun q => q (r1.mpr g)), if_pos ⟨rfl, g⟩]
        unfold f_X11_wantNumber_L29
        have La : LM (sL (sI m 226 73 (1 : Int32)) 226 74 (tVal c T (ts c T i))) := LM_3 L2 rfl
        rw [y_gs, if_pos (lm_S226 L2), y_gb, if_pos (by decide), y_lt, y_gs, if_pos (lm_S226 (m3 1)), x_eq, if_neg (show ¬ (1 : Int32) = 0 from by decide), lm_R8 (m3 1), y_gs, if_pos (lm_S230 (m3 1)), lm_N230 (m3 1), x_ne (by omega), a1, y_gb, if_pos a4, q_cl a5, x_hL_sI, vv, y_lt, lm_R7 La, y_gs, if_pos (lm_S229 La), lm_N229 La, x_hI_sL, x_ne (by omega), a1, y_gb, if_pos a4, q_cl a5, x_hI_sL, x_ne (by omega), a3, y_lt, x_ne (by omega), x_hI_sL, x_ne (by omega), a1, show nI i + (1 : Int32) = nI (i + 1) from by rw [show (1 : Int32) = nI 1 from rfl, q_add], y_lt]
      · rw [if_pos (fun q => g (r1.mp q)), if_neg (show ¬ (true = true ∧ tKind c T (ts c T i) = 2) from fun q => g q.2)]
  rw [cls, ref]
  have OQ5 : OQ h5 m c T Nn i n B1 B2 R 0 np hw x := by
    refine ⟨Q5, ⟨it5, n375⟩, ?_, ?_, fun q => absurd q (by decide), fun q => absurd q (by decide), fun q => absurd rfl q, ?_, O.hh, O.fk⟩
    · rw [fr5 _ _ (by omega)]; exact O.bi
    · rw [fr5 _ _ (by omega)]; exact ⟨by rw [O.n0.1, nk0], by omega, O.n0.2.2⟩
    · rw [O.n4, nk0]
  have OQ3 : OQ h5 (sI m 226 73 (0 : Int32)) c T Nn i n B1 B2 R 0 np hw x := by
    refine ⟨TQ_m Q5 rfl (fun o k q => x_ne (by omega)) (fun k => rfl), OQ5.it, ?_, OQ5.n0, fun q => absurd q (by decide), fun q => absurd q (by decide), fun q => absurd rfl q, x_eq _ _ _ _, ?_, FK_of OQ5.fk (fun k hk => x_ne (by omega))⟩
    · rw [x_ne (by omega)]; exact OQ5.bi
    · rw [x_ne (by omega)]; exact OQ5.hh
  have J3 : FJ m (sI m 226 73 (0 : Int32)) := ⟨rfl, fun o k h1 => x_ne (by omega), fun o k _ => rfl⟩
  -- a number stands at i0, read in (hq, mq)
  have numc : ∀ (hq mq : AH) (i0 : Nat) (neg : Int32) (an : Int32), OQ hq mq c T Nn i0 n B1 B2 R 0 np hw x → i ≤ i0 → hI hq 10 n = nI (ts c T i) → hI mq 226 73 = 0 → FI n h hq → FJ m mq → tKind c T (ts c T i0) = 3 →
      ∃ h' m' x', f_X1_readNumber_L49 hq 4 an neg = some ((1 : Int32), h') ∧ f_X11_wantNumber_L112 mq 226 lo hi mu (nI i) neg = some ((1 : Int32), m') ∧ i0 + 1 ≤ Nn ∧ OQ h' m' c T Nn (i0 + 1) n B1 B2 R 1 (ts c T i) hw x' ∧ x' = (if fitB form (hL h' 11 n) = true then x else min x (4 * ts c T i + 3)) ∧ FI n h h' ∧ FJ m m' ∧ hL h' 11 n = (if neg = 0 then tVal c T (ts c T i0) else -(tVal c T (ts c T i0))) := by
    intro hq mq i0 neg an Oq ii h10 m73 Fq Jq k3
    obtain ⟨m', e1, e2, e3, e4, e5', e6, e7⟩ := r_num Oq hfit hmu ii neg k3
    have iN := kn_i Oq.tq (by omega) (by omega)
    have m'' : OQ (sL (sI hq 9 n (nI 1)) 11 n (if neg = 0 then tVal c T (ts c T i0) else -(tVal c T (ts c T i0)))) (sI m' 226 9 (nI i0)) c T Nn i0 n B1 B2 R 1 (ts c T i) hw _ := OQ_put (v := 1) (z := (if neg = 0 then tVal c T (ts c T i0) else -(tVal c T (ts c T i0)))) (p := ts c T i) Oq (Or.inl rfl) (by omega) (by show m'.2.2 = mq.2.2; exact e5') (fun o k g => by rw [x_ne (by omega)]; exact e6 o k (by omega)) (x_eq _ _ _ _) (fun o k g => by rw [x_hL_sI]; exact e7 o k (by omega)) h10 (FK_of e4 (fun k hk => x_ne (by omega))) (by rw [x_ne (by omega), e6 _ _ (by omega), m73]; rfl) (fun _ => by rw [x_hL_sI]; exact e3) (fun q => absurd q (by decide))
    obtain ⟨g1, g2⟩ := OQ_nx m'' iN
    have back : sI (sI m' 226 9 (nI i0)) 226 9 (nI (i0 + 1)) = m' := by rw [sI_sI, ← e2, sI_id]
    rw [back] at g2
    have v11 : hL (tkH (sL (sI hq 9 n (nI 1)) 11 n (if neg = 0 then tVal c T (ts c T i0) else -(tVal c T (ts c T i0)))) c T (ts c T (i0 + 1))) 11 n = (if neg = 0 then tVal c T (ts c T i0) else -(tVal c T (ts c T i0))) := by
      rw [(tkH_f _ _ _ _).2.1 _ _ (by omega), x_hL_sL, if_pos ⟨rfl, rfl⟩]
    refine ⟨_, m', _, ?_, e1, by omega, g2, ?_, ?_, ?_, v11⟩
    · rw [c_num Oq.tq Oq.it.1 n375, if_pos k3]
      have g1' : f_X8_next (sL (sI hq 9 n (1 : Int32)) 11 n (if neg = 0 then tVal c T (ts c T i0) else -(tVal c T (ts c T i0)))) 2 = _ := g1
      rw [g1', y_bds]
    · rw [v11]
    · exact FI_tr Fq (FI_tr (FI_put n hq _ _) (FI_tk _ _ _ _ _))
    · exact FJ_tr Jq ⟨e5', fun o k h1 => e6 o k (by omega), fun o k h1 => e7 o k (by omega)⟩
  -- no number
  have nonum : ∀ (hq mq : AH) (i0 : Nat) (neg an : Int32), i ≤ i0 → TQ hq mq c T Nn i0 → hI hq 4 1 = nI n → FI n h hq → FJ m mq → tKind c T (ts c T i0) ≠ 3 → ¬ (tKind c T (ts c T i0) = 2 ∧ ¬ an = 0 ∧ neg = 0) → FLx n h m c T i Nn (f_X1_readNumber_L49 hq 4 an neg) (f_X11_wantNumber_L112 mq 226 lo hi mu (nI i) neg) := by
    intro hq mq i0 neg an hi0 Tq itq Fq Jq k3 k2
    obtain ⟨b1, b2, b3, b4, b5, b6⟩ := TQ_r Tq
    have Lq := Tq.2.1.1
    have r2' := (rk_i (k := tKind c T (ts c T i0))).2.1
    have ee : f_X11_wantNumber_L112 mq 226 lo hi mu (nI i) neg = bd (f_X11_refuse mq 226) fun q2 => gb (q2.1 == 0 || q2.1 == 1) <| some (q2.1, q2.2) := by
      unfold f_X11_wantNumber_L112
      rw [y_gs, if_pos (lm_S226 Lq), lm_R6 Lq, y_gs, if_pos (lm_S228 Lq), lm_N228 Lq, b1, y_gb, if_pos b4, q_cl b5, b2, if_neg (fun q => k3 (r2'.mp q))]
    rw [ee]
    obtain ⟨h', m', i', w0, w1, w2, w3, w4, w5, w6, w7, w8⟩ := fail_at (h := h) (n := n) (X := f_X1_readNumber_L49 hq 4 an neg) Tq hi0 (by rw [c_num Tq itq n375, if_neg k3, if_neg k2]) Fq
    exact ⟨h', m', i', w0, w1, w2, w3, w4, w5, w6, w7, FJ_tr Jq w8⟩
  by_cases gL : any = true ∧ tKind c T (ts c T i) = 2
  · left
    have iN := kn_i Q (by omega) (by omega)
    rw [if_pos gL, if_neg (show ¬ (any = true ∧ tKind c T (ts c T i) = 45) from fun q => by omega), if_pos gL.1, c_num Q5 it5 n375, if_neg (by omega), if_pos ⟨gL.2, by decide, rfl⟩]
    have Op : OQ (sL (sI h5 9 n (nI 2)) 11 n (tVal c T (ts c T i))) (sI (sL (sI m 226 73 (1 : Int32)) 226 74 (tVal c T (ts c T i))) 226 75 (nI (ts c T i))) c T Nn i n B1 B2 R 2 (ts c T i) hw x := OQ_put (v := 2) (z := tVal c T (ts c T i)) (p := ts c T i) OQ5 (Or.inr rfl) (by omega) rfl (fun o k g => by rw [x_ne (by omega), x_hI_sL, x_ne (by omega)]) (by rw [x_ne (by omega), x_hI_sL, x_ne (by omega)]; exact a1) (fun o k g => by rw [x_hL_sI, x_hL_sL, if_neg (by omega)]; rfl) p5 (FK_of OQ5.fk (fun k hk => by rw [x_ne (by omega), x_hI_sL, x_ne (by omega)])) (by rw [x_ne (by omega), x_hI_sL, x_eq]; rfl) (fun q => absurd q (by decide)) (fun _ => ⟨by rw [x_hL_sI, x_hL_sL, if_pos ⟨rfl, rfl⟩], x_eq _ _ _ _⟩)
    obtain ⟨g1, g2⟩ := OQ_nx Op iN
    have g1' : f_X8_next (sL (sI h5 9 n (2 : Int32)) 11 n (tVal c T (ts c T i))) 2 = _ := g1
    rw [g1', y_bds]
    refine ⟨_, _, i + 1, 2, x, rfl, rfl, Or.inl ⟨rfl, Or.inl gL.2⟩, by omega, g2, Or.inr ⟨rfl, gL.1, rfl⟩, ?_, ?_, fun q => by rw [gL.1] at q; cases q⟩
    · exact FI_tr F5 (FI_tr (FI_put n h5 _ _) (FI_tk _ _ _ _ _))
    · refine ⟨rfl, fun o k h1 => ?_, fun o k h1 => ?_⟩
      · rw [x_ne (by omega), x_ne (by omega), x_hI_sL, x_ne (by omega)]
      · rw [x_hL_sI, x_hL_sI, x_hL_sL, if_neg (by omega)]; rfl
  · rw [if_neg gL]
    by_cases gM : any = true ∧ tKind c T (ts c T i) = 45
    · have iN := kn_i Q (by omega) (by omega)
      obtain ⟨g1, g2⟩ := OQ_nx OQ3 iN
      rw [if_pos gM, if_pos gM, g1, y_bds]
      have h10' : hI (tkH h5 c T (ts c T (i + 1))) 10 n = nI (ts c T i) := by rw [(tkH_f _ _ _ _).1 _ _ (by omega)]; exact p5
      have J4 : FJ m (sI (sI m 226 73 (0 : Int32)) 226 9 (nI (i + 1))) := FJ_tr J3 (FJ_9 _ _)
      by_cases k3 : tKind c T (ts c T (i + 1)) = 3
      · left
        obtain ⟨h', m', x', w1, w2, w3, w4, w5, w6, w7, w8⟩ := numc _ _ (i + 1) (1 : Int32) (1 : Int32) g2 (by omega) h10' (by rw [x_ne (by omega), x_eq]) (FI_tr F5 (FI_tk _ _ _ _ _)) J4 k3
        exact ⟨h', m', i + 2, 1, x', w1, w2, Or.inr ⟨rfl, gM.2⟩, w3, w4, Or.inl ⟨rfl, w5⟩, w6, w7, fun q => by rw [gM.1] at q; cases q⟩
      · right
        exact nonum _ _ (i + 1) (1 : Int32) (1 : Int32) (by omega) g2.tq g2.it.1 (FI_tr F5 (FI_tk _ _ _ _ _)) J4 k3 (fun q => absurd q.2.2 (by decide))
    · rw [if_neg gM, if_neg gM]
      by_cases k3 : tKind c T (ts c T i) = 3
      · left
        obtain ⟨h', m', x', w1, w2, w3, w4, w5, w6, w7, w8⟩ := numc h5 _ i (0 : Int32) (if any = true then 1 else 0) OQ3 (by omega) p5 (x_eq _ _ _ _) F5 J3 k3
        exact ⟨h', m', i + 1, 1, x', w1, w2, Or.inl ⟨rfl, Or.inr k3⟩, w3, w4, Or.inl ⟨rfl, w5⟩, w6, w7, fun _ => ⟨k3, by rw [w8, if_pos rfl]⟩⟩
      · right
        refine nonum h5 _ i (0 : Int32) _ (Nat.le_refl _) OQ3.tq it5 F5 J3 k3 (fun q => gL ⟨?_, q.1⟩)
        cases any with
        | false => exact absurd rfl q.2.1
        | true => rfl
