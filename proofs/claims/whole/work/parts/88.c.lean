/-! Both as they are at the start are alike. -/
theorem mq_I (o k : Nat) (h1 : 226 ≤ o) (h2 : o ≤ 272) : hI mq21 o k = 0 := by
  rw [show hI mq21 o k = hI (nfx 226 [(80, 21, (9 : Int32).toNatClampNeg)] (sR mq20 226 70 275) 276) o k from rfl, nfx_I, if_neg (by show ¬ (276 ≤ o ∧ o < 276 + 1); omega), sR_I]
  rw [show hI mq20 o k = hI (wI 275 rw_L1470 mq19) o k from rfl, wI_ne (by omega)]
  rw [show hI mq19 o k = hI (wI 275 rw_L1361 mq18) o k from rfl, wI_ne (by omega)]
  rw [show hI mq18 o k = hI (wI 275 rw_L1255 mq17) o k from rfl, wI_ne (by omega)]
  rw [show hI mq17 o k = hI (wI 275 rw_L1147 mq16) o k from rfl, wI_ne (by omega)]
  rw [show hI mq16 o k = hI (wI 275 rv_L1050 mq15) o k from rfl, wI_ne (by omega)]
  rw [show hI mq15 o k = hI (nw (sR mq14 226 69 274) 275 21 61 61) o k from rfl, nw_I (by omega), sR_I]
  rw [show hI mq14 o k = hI (wI 274 rw_L1050 mq13) o k from rfl, wI_ne (by omega)]
  rw [show hI mq13 o k = hI (wI 274 rw_L955 mq12) o k from rfl, wI_ne (by omega)]
  rw [show hI mq12 o k = hI (wI 274 rw_L875 mq11) o k from rfl, wI_ne (by omega)]
  rw [show hI mq11 o k = hI (wI 274 rw_L798 mq10) o k from rfl, wI_ne (by omega)]
  rw [show hI mq10 o k = hI (wI 274 rv_L697 mq9) o k from rfl, wI_ne (by omega)]
  rw [show hI mq9 o k = hI (nw (sR mq8 226 68 273) 274 21 61 61) o k from rfl, nw_I (by omega), sR_I]
  rw [show hI mq8 o k = hI (wRr 273 rw_L697 mq7) o k from rfl, wRr_I]
  rw [show hI mq7 o k = hI (wRr 273 rw_L601 mq6) o k from rfl, wRr_I]
  rw [show hI mq6 o k = hI (wRr 273 rw_L505 mq5) o k from rfl, wRr_I]
  rw [show hI mq5 o k = hI (wRr 273 rw_L414 mq4) o k from rfl, wRr_I]
  rw [show hI mq4 o k = hI (sR (nw mq3 273 26 61 61) 273 0 1) o k from rfl, sR_I, nw_I (by omega)]
  rw [show hI mq3 o k = hI (nfx 226 rl3 mq2 258) o k from rfl, nfx_I, show rl3.length = 15 from rfl]
  by_cases q3 : 258 ≤ o ∧ o < 258 + 15
  · rw [if_pos q3]
  rw [if_neg q3, show hI mq2 o k = hI (nfx 226 rl2 mq1 242) o k from rfl, nfx_I, show rl2.length = 16 from rfl]
  by_cases q2 : 242 ≤ o ∧ o < 242 + 16
  · rw [if_pos q2]
  rw [if_neg q2, show hI mq1 o k = hI (nfx 226 rl1 mq0 227) o k from rfl, nfx_I, show rl1.length = 15 from rfl]
  by_cases q1 : 227 ≤ o ∧ o < 227 + 15
  · rw [if_pos q1]
  have : o = 226 := by omega
  subst this
  rw [if_neg q1]
  exact nw_I0
theorem LM_of {m : AH} (h : chkM m = true) : LM m ∧ NR m ∧ cst m ∧ hZ m = 276 ∧ hV m ≤ 130000 := by
  unfold chkM at h
  simp only [Bool.and_eq_true, decide_eq_true_eq, List.all_eq_true, List.mem_range] at h
  obtain ⟨⟨⟨⟨⟨h1, h2⟩, h3⟩, h4⟩, h5⟩, h6⟩ := h
  exact ⟨⟨h1, fun x hx => ⟨(h2 x hx).1.1, (h2 x hx).1.2, (h2 x hx).2⟩⟩, fun k hk => h3 k hk, fun k hk => h4 k hk, h5, h6⟩
theorem lyK_ge : ∀ x, x ∈ lyK → 34 ≤ x.1 ∧ x.1 ≤ 43 ∧ x.2.2.1 ≤ 45 := by decide
theorem core_it {h : AH} {c : Nat} (hc : c < 16) (z : hZ h = 33 + 12 * c) (s1 : hS h 1 = 9) (r2 : hR h 1 2 = 16) (r4 : hR h 1 4 = 31) (s31 : hS h 31 = 25) (n31 : hN h 31 = 16) (n : Nat) :
    ∃ h', f_X10_init_L131 (n + 1) h 1 (nI c) = f_X10_init_L131 n h' 1 (nI (c + 1)) ∧ hZ h' = 45 + 12 * c ∧ hV h' = hV h + 593 ∧ (∀ o, o ≤ 33 + 12 * c → hS h' o = hS h o ∧ hN h' o = hN h o ∧ (∀ k, ¬ (o = 31 ∧ k = c) → hR h' o k = hR h o k) ∧ ∀ k, hI h' o k = hI h o k) ∧ hR h' 31 c = 34 + 12 * c ∧ LK h' c ∧ CF h' c (0 : Int32) (1 : Int32) (1 : Int32) (1 : Int32) ∧ hI h' (34 + 12 * c) 0 = nI c ∧ ∀ k, hI h' (45 + 12 * c) k = 0 ∧ hI h' (41 + 12 * c) k = 0 ∧ hI h' (42 + 12 * c) k = 0 := by
  obtain ⟨hb, e1, e2, e3, e4⟩ := c_beginKk (kq_LK h c) (0 : Int32) (1 : Int32) (1 : Int32) (1 : Int32)
  have eS : ∀ o, hS hb o = hS (kq h c) o := fun o => by show hb.2.2.2.1 o = _; rw [e2]; rfl
  have eN : ∀ o, hN hb o = hN (kq h c) o := fun o => by show hb.2.2.2.2.1 o = _; rw [e2]; rfl
  have eR : ∀ o k, hR hb o k = hR (kq h c) o k := fun o k => by show hb.2.2.1 o k = _; rw [e2]; rfl
  have eZ : hZ hb = 45 + 12 * c := by show hb.2.2.2.2.2.1 = _; rw [e2]; rfl
  have eV : hV hb = hV h + 593 := by show hb.2.2.2.2.2.2 = _; rw [e2]; rfl
  have K := kq_LK h c
  have KI := kq_I h c
  have z1 : hZ h + 1 = 34 + 12 * c := by omega
  refine ⟨sR hb 31 c (34 + 12 * c), ?_, eZ, eV, fun o ho => ⟨(eS o).trans (kq_lo h ho).1, (eN o).trans (kq_lo h ho).2.1, fun k q => ?_, fun k => ?_⟩, sR_R0, ⟨(eS _).trans K.1, ?_, fun x hx => ⟨?_, (eS _).trans (K.2.2 x hx).2.1, (eN _).trans (K.2.2 x hx).2.2⟩⟩, e4, ?_, fun k => ⟨?_, ?_, ?_⟩⟩
  · show (if (16 : Int32) ≤ nI c then some h else gs h 1 9 <| lt (hNew h 3 0 17) fun h3 => gs h3 1 9 <| bd (f_X3_init h3 (hZ h + 1) (nI c) (hR h3 1 2)) fun q6 => gs q6 (hR h 1 4) 25 <| gb (ib (nI c) (hN q6 (hR h 1 4))) <| gs q6 (hZ h + 1) 3 <| lt (sR q6 (hR h 1 4) (nI c).toNatClampNeg (hZ h + 1)) fun h10 => lt (nI c + (1 : Int32)) fun x11 => f_X10_init_L131 n h10 1 x11) = _
    rw [if_neg (by rw [show (16 : Int32) = nI 16 from rfl, q_le (by omega) (by omega)]; omega), y_gs, if_pos s1, hNew_nw z1, z1, y_lt, y_gs, if_pos ((nw_S (by omega)).trans s1), (show hR (nw h (34 + 12 * c) 3 0 17) 1 2 = 16 from (nw_R (by omega)).trans r2), mk_core, e1, y_bds, y_bds, r4, y_gs, if_pos (by rw [eS, (kq_lo h (o := 31) (by omega)).1]; exact s31), (show hN hb 31 = 16 by rw [eN, (kq_lo h (o := 31) (by omega)).2.1]; exact n31), y_gb, if_pos (x_ib hc (by omega)), y_gs, if_pos (by rw [eS]; exact K.1), y_lt, y_lt, x_cl (by omega), show nI c + (1 : Int32) = nI (c + 1) from q_add c 1]
  · rw [sR_R (by omega), eR]; exact (kq_lo h ho).2.2.1 k
  · rw [sR_I, e3 o k (by unfold bcell; omega)]; exact (kq_lo h ho).2.2.2 k
  · rw [sR_R (by omega), eR]; exact K.2.1
  · have := lyK_ge x hx
    rw [sR_R (by omega), eR]; exact (K.2.2 x hx).1
  · rw [sR_I, e3 _ _ (by unfold bcell; omega)]; exact KI.1
  · rw [sR_I, e3 _ _ (by unfold bcell; omega)]; exact (KI.2 k).1
  · rw [sR_I, e3 _ _ (by unfold bcell; omega)]; exact (KI.2 k).2.1
  · rw [sR_I, e3 _ _ (by unfold bcell; omega)]; exact (KI.2 k).2.2
theorem CF_cong {h h' : AH} {c : Nat} {a1 a2 a3 a4 : Int32} (q : ∀ o k, 34 + 12 * c ≤ o → o ≤ 45 + 12 * c → hI h' o k = hI h o k) (C : CF h c a1 a2 a3 a4) : CF h' c a1 a2 a3 a4 := by
  obtain ⟨f1, ⟨f2, f3⟩, ⟨f4, f5⟩, ⟨f6, f7, f8⟩, f9, f10, f11, f12, f13, f14, f15, f16, f17⟩ := C
  exact ⟨fun r hr => (q _ _ (by omega) (by omega)).trans (f1 r hr), ⟨(q _ _ (by omega) (by omega)).trans f2, (q _ _ (by omega) (by omega)).trans f3⟩, ⟨(q _ _ (by omega) (by omega)).trans f4, (q _ _ (by omega) (by omega)).trans f5⟩, ⟨(q _ _ (by omega) (by omega)).trans f6, (q _ _ (by omega) (by omega)).trans f7, (q _ _ (by omega) (by omega)).trans f8⟩, fun r hr => (q _ _ (by omega) (by omega)).trans (f9 r hr), (q _ _ (by omega) (by omega)).trans f10, (q _ _ (by omega) (by omega)).trans f11, (q _ _ (by omega) (by omega)).trans f12, (q _ _ (by omega) (by omega)).trans f13, (q _ _ (by omega) (by omega)).trans f14, (q _ _ (by omega) (by omega)).trans f15, (q _ _ (by omega) (by omega)).trans f16, (q _ _ (by omega) (by omega)).trans f17⟩
def ICk (h : AH) (c : Nat) : Prop := hR h 31 c = 34 + 12 * c ∧ LK h c ∧ CF h c (0 : Int32) (1 : Int32) (1 : Int32) (1 : Int32) ∧ hI h (34 + 12 * c) 0 = nI c ∧ ∀ k, hI h (45 + 12 * c) k = 0 ∧ hI h (41 + 12 * c) k = 0 ∧ hI h (42 + 12 * c) k = 0
def IC (g h : AH) (j : Nat) : Prop := hZ h = 33 + 12 * j ∧ hV h = hV g + 593 * j ∧ (∀ o, o ≤ 33 → hS h o = hS g o ∧ hN h o = hN g o ∧ (∀ k, o ≠ 31 → hR h o k = hR g o k) ∧ ∀ k, hI h o k = hI g o k) ∧ ∀ c, c < j → ICk h c
theorem core_loop {g : AH} (s1 : hS g 1 = 9) (r2 : hR g 1 2 = 16) (r4 : hR g 1 4 = 31) (s31 : hS g 31 = 25) (n31 : hN g 31 = 16) : ∀ (r f : Nat) (h : AH) (j : Nat), j + r = 16 → r < f → IC g h j → ∃ hF, f_X10_init_L131 f h 1 (nI j) = some hF ∧ IC g hF 16
  | 0, f + 1, h, j, hj, _, I => by
    have : j = 16 := by omega
    subst this
    refine ⟨h, ?_, I⟩
    show (if (16 : Int32) ≤ nI 16 then some h else _) = _
    rw [if_pos (by decide)]
  | r + 1, f + 1, h, j, hj, hf, I => by
    obtain ⟨i1, i2, i3, i4⟩ := I
    obtain ⟨h', a1, a2, a3, a4, a5, a6, a7, a8, a9⟩ := core_it (h := h) (c := j) (by omega) i1 ((i3 1 (by omega)).1.trans s1) (((i3 1 (by omega)).2.2.1 2 (by omega)).trans r2) (((i3 1 (by omega)).2.2.1 4 (by omega)).trans r4) ((i3 31 (by omega)).1.trans s31) ((i3 31 (by omega)).2.1.trans n31) f
    obtain ⟨hF, b1, b2⟩ := core_loop s1 r2 r4 s31 n31 r f h' (j + 1) (by omega) (by omega) ⟨by rw [a2]; omega, by rw [a3, i2]; omega, fun o ho => ⟨(a4 o (by omega)).1.trans (i3 o ho).1, (a4 o (by omega)).2.1.trans (i3 o ho).2.1, fun k q => ((a4 o (by omega)).2.2.1 k (by omega)).trans ((i3 o ho).2.2.1 k q), fun k => ((a4 o (by omega)).2.2.2 k).trans ((i3 o ho).2.2.2 k)⟩, fun c hc => by
      by_cases q : c = j
      · subst q; exact ⟨a5, a6, a7, a8, a9⟩
      · obtain ⟨c1, c2, c3, c4, c5⟩ := i4 c (by omega)
        refine ⟨((a4 31 (by omega)).2.2.1 c (by omega)).trans c1, ⟨(a4 _ (by omega)).1.trans c2.1, ((a4 _ (by omega)).2.2.1 1 (by omega)).trans c2.2.1, fun x hx => ?_⟩, CF_cong (fun o k w1 w2 => (a4 o (by omega)).2.2.2 k) c3, ((a4 _ (by omega)).2.2.2 0).trans c4, fun k => ⟨((a4 _ (by omega)).2.2.2 k).trans (c5 k).1, ((a4 _ (by omega)).2.2.2 k).trans (c5 k).2.1, ((a4 _ (by omega)).2.2.2 k).trans (c5 k).2.2⟩⟩
        have w := lyK_ge x hx
        exact ⟨((a4 _ (by omega)).2.2.1 _ (by omega)).trans (c2.2.2 x hx).1, (a4 _ (by omega)).1.trans (c2.2.2 x hx).2.1, (a4 _ (by omega)).2.1.trans (c2.2.2 x hx).2.2⟩⟩
    exact ⟨hF, a1.trans b1, b2⟩
def chkC (m : AH) : Bool := decide (hS m 1 = 9) && (lyC.all fun x => decide (hR m x.1 x.2.1 = x.2.2.1) && decide (hS m x.2.2.1 = x.2.2.2.1) && decide (hN m x.2.2.1 = x.2.2.2.2)) && decide (hR m 16 0 = 17) && decide (hS m 17 = 21) && decide (hN m 17 = 576) && decide (hV m ≤ 30000) && decide (hZ m = 33) && ((List.range 6).all fun i => decide (hI m 32 i = 1) && decide (hI m 33 i = 1)) && decide (hI m 16 1 = 0 ∧ hI m 16 2 = 0 ∧ hI m 19 12 = 0 ∧ hI m 19 13 = 1 ∧ hI m 19 14 = 1 ∧ hI m 19 15 = 0 ∧ hI m 19 16 = 0 ∧ hI m 1 7 = 0 ∧ hI m 1 8 = 0 ∧ hI m 1 9 = 0 ∧ hI m 1 10 = 0 ∧ hI m 2 1 = 0)
theorem c_chk : chkC gq13 = true := by decide +kernel
theorem lyC_33 : ∀ x, x ∈ lyC → x.1 ≤ 19 ∧ x.2.2.1 ≤ 33 := by decide
theorem gq_10 {o k : Nat} (h : o ≤ 30) (n : ¬ o = 1) : hI gq13 o k = hI gq10 o k := by
  rw [show hI gq13 o k = hI (sR (wI 33 c6 (nw gq12 33 21 (6 : Int32).toNatClampNeg (6 : Int32).toNatClampNeg)) 1 6 33) o k from rfl, sR_I, wI_ne (by omega), nw_I (by omega), show hI gq12 o k = hI (sR (wI 32 c6 (nw gq11 32 21 (6 : Int32).toNatClampNeg (6 : Int32).toNatClampNeg)) 1 5 32) o k from rfl, sR_I, wI_ne (by omega), nw_I (by omega), show hI gq11 o k = hI (sR (nw (sR gq10 1 3 19) 31 25 (16 : Int32).toNatClampNeg (16 : Int32).toNatClampNeg) 1 4 31) o k from rfl, sR_I, nw_I (by omega), sR_I]
theorem gq_f (j : Nat) : (j < 2048 → hI gq13 20 j = 0) ∧ (j < 512 → hI gq13 21 j = (-1 : Int32) ∧ hI gq13 24 j = (-1 : Int32)) := by
  refine ⟨fun hj => ?_, fun hj => ⟨?_, ?_⟩⟩
  · rw [gq_10 (by omega) (by omega)]; unfold gq10; rw [x_ne (by omega), x_ne (by omega), x_ne (by omega), flR_ne (by omega), flR_ne (by omega), flR_eq hj]
  · rw [gq_10 (by omega) (by omega)]; unfold gq10; rw [x_ne (by omega), x_ne (by omega), x_ne (by omega), flR_ne (by omega), flR_eq hj]
  · rw [gq_10 (by omega) (by omega)]; unfold gq10; rw [x_ne (by omega), x_ne (by omega), x_ne (by omega), flR_eq hj]
def sZ9 : St := (fun _ _ => 0, fun _ _ => (0, 0, 0, 0), [], [])
def z19 : Nat → Nat := fun _ => 1
theorem szs_1 : szs z19 := ⟨⟨Nat.le_refl _, by show 1 ≤ 16; omega⟩, ⟨Nat.le_refl _, by show 1 ≤ 16; omega⟩, ⟨0, by omega, rfl⟩, ⟨0, by omega, rfl⟩, ⟨0, by omega, rfl⟩, ⟨Nat.le_refl _, by show 1 ≤ 8; omega⟩, by show 1 * 1 * 1 ≤ 1 * 1; omega⟩
theorem IV_ini {z t23 : Nat → Nat} {mem : Nat → W4} (Z6 : szs z) : IV (sNew sZ9 z t23 mem) 0 := by
  have z0 : ∀ {F i : Nat}, F ≠ 0 ∧ F ≠ 9 ∧ F ≠ 17 ∧ F ≠ 21 ∧ F ≠ 23 → N (sNew sZ9 z t23 mem) F i = 0 := fun h => sNew_z h
  have hw : ∀ l, hWay (sNew sZ9 z t23 mem) l = none := fun l => fst_none.mpr (fun j _ _ => decide_eq_false (by rw [z0 (by omega)]; omega))
  have sw : ∀ c l, sWay (sNew sZ9 z t23 mem) c l = none := fun c l => fst_none.mpr (fun j _ _ => by rw [z0 (F := 2) (by omega)]; rfl)
  have mz : ∀ κ, mm (sNew sZ9 z t23 mem) κ = none := fun κ => rfl
  have tk0 : ∀ l c, tk (sNew sZ9 z t23 mem) l c = 0 := fun l c => by unfold tk; rw [mz]; split <;> rfl
  have vS0 : ∀ l c, vS (sNew sZ9 z t23 mem) l c = 0 := fun l c => by unfold vS; rw [sw]; split <;> rfl
  have vR0 : ∀ c, vR (sNew sZ9 z t23 mem) c = 0 := fun c => by unfold vR; rw [z0 (by omega)]; split <;> rfl
  have vF0 : ∀ c, vF (sNew sZ9 z t23 mem) c = 0 := fun c => by unfold vF; rw [z0 (by omega)]; split <;> rfl
  have vX0 : ∀ l, vX (sNew sZ9 z t23 mem) l = 0 := fun l => by unfold vX; rw [hw]
  have hv0 : ∀ l F, hv (sNew sZ9 z t23 mem) l F = 0 := fun l F => by unfold hv; rw [hw]
  have vQ0 : ∀ c, vQ (sNew sZ9 z t23 mem) c = 0 := fun c => by unfold vQ; rw [if_neg (fun q => q.2 (mz c))]
  have cnR : cn (vR (sNew sZ9 z t23 mem)) 16 = 0 := cn_zero.mpr (fun c _ => vR0 c)
  have cnQ : cn (vQ (sNew sZ9 z t23 mem)) 16 = 0 := cn_zero.mpr (fun c _ => vQ0 c)
  have no : ∀ x, ¬ x ∈ Z (sNew sZ9 z t23 mem) := fun x h => by cases h
  refine ⟨⟨Z6, by omega⟩, ⟨⟨fun k _ h => absurd (z0 (by omega)) h, fun k k' _ _ h => absurd (z0 (by omega)) h⟩, ⟨fun k _ h => absurd (z0 (by omega)) h, fun k k' _ _ h => absurd (z0 (by omega)) h⟩⟩, ⟨trivial, fun x h => absurd h (no x), fun x h => by cases h⟩, fun l hl => ?_, ⟨fun k hk => ?_, fun c hc => ?_, fun k _ h => absurd (z0 (by omega)) h, fun k _ _ => z0 (by omega)⟩, fun x h => absurd h (no x), fun c l _ h => ?_, ⟨fun l k h => ?_, fun l _ _ => rfl, fun l k h => ?_, fun x h => absurd h (no x), fun k _ h => absurd (z0 (by omega)) h, fun c l _ h => ?_, fun l k c h => ?_⟩, ?_⟩
  · unfold LIs
    have e1 : tk (sNew sZ9 z t23 mem) l = fun _ => 0 := funext (tk0 l)
    have e2 : vS (sNew sZ9 z t23 mem) l = fun _ => 0 := funext (vS0 l)
    have e3 : vR (sNew sZ9 z t23 mem) = fun _ => 0 := funext vR0
    have e4 : vF (sNew sZ9 z t23 mem) = fun _ => 0 := funext vF0
    rw [e1, e2, e3, e4, vX0, hv0, hv0, hv0, hv0]
    unfold LI
    simp
  · rw [z0 (F := 1) (by omega), z0 (F := 2) (by omega), z0 (F := 3) (by omega), z0 (F := 4) (by omega), z0 (F := 5) (by omega), z0 (F := 6) (by omega), z0 (F := 7) (by omega), z0 (F := 8) (by omega), z0 (F := 10) (by omega), z0 (F := 11) (by omega)]
    exact ⟨by omega, by omega, by omega, by omega, by omega, by omega, by omega, by omega, (show (0 : Nat) ≤ 1 by omega), by omega, by omega, (show (0 : Nat) ≤ 536870912 by omega), Nat.le_refl _⟩
  · rw [z0 (F := 12) (by omega), z0 (F := 13) (by omega), z0 (F := 14) (by omega)]
    exact ⟨by omega, by omega, by omega, fun _ => ⟨rfl, rfl⟩⟩
  · rw [z0 (F := 12) (by omega)] at h; omega
  · rw [hw] at h; cases h
  · rw [hw] at h; cases h
  · rw [z0 (F := 13) (by omega)] at h; omega
  · rw [hw] at h; cases h
  · refine ⟨fun k k' _ _ h => absurd (z0 (by omega)) h, fun k _ h => absurd (z0 (by omega)) h, fun k k' _ _ _ _ h => absurd (z0 (by omega)) h, fun k _ _ h => absurd (z0 (by omega)) h, ?_, ?_, fun c hc => ?_, ?_⟩
    · rw [cnR, z0 (F := 16) (by omega)]; omega
    · rw [cnQ]
      show (0 : Nat) + 0 ≤ 0; omega
    · rw [z0 (F := 22) (by omega)]; omega
    · rw [z0 (F := 24) (by omega)]; omega
def sI9 (h : AH) : St := sNew sZ9 z19 (t23w h z19) (mem4 fun _ => 0)
theorem mem4_0 (l : Nat) {j : Nat} (hj : j < 4) : w4 (mem4 (fun _ => 0) l) j = 0 := mem4_w (fun _ => 0) l hj
theorem RC_ini {hF : AH} (L : LC hF) (Z : 225 ≤ hZ hF) (p0 : hR hF 16 0 = 17) (p1 : hS hF 17 = 21) (p2 : hN hF 17 = 576) (ck : ∀ c, c < 16 → ICk hF c) (h32 : ∀ i, i < 6 → hI hF 32 i = 1) (h16 : hI hF 16 1 = 0 ∧ hI hF 16 2 = 0) (h19 : hI hF 19 12 = 0 ∧ hI hF 19 13 = 1 ∧ hI hF 19 14 = 1 ∧ hI hF 19 15 = 0 ∧ hI hF 19 16 = 0) (h20 : ∀ j, j < 2048 → hI hF 20 j = 0) (h21 : ∀ j, j < 512 → hI hF 21 j = (-1 : Int32) ∧ hI hF 24 j = (-1 : Int32)) : RC hF (sI9 hF) ∧ DZ hF (sI9 hF) := by
  have z0 : ∀ {F i : Nat}, F ≠ 0 ∧ F ≠ 9 ∧ F ≠ 17 ∧ F ≠ 21 ∧ F ≠ 23 → N (sI9 hF) F i = 0 := fun h => sNew_z h
  refine ⟨⟨⟨L, Z⟩, ⟨h32, h19.2.1, h19.2.2.1, ?_, ?_, ?_⟩, fun c hc => ?_, fun c i hc hi => ?_, fun a b ha hb => ?_, fun l j hl hj => ?_, ?_, ?_⟩, fun k _ h4 => absurd (z0 (by omega)) h4⟩
  · rw [z0 (by omega)]; exact h19.2.2.2.1
  · rw [z0 (by omega)]; exact h19.2.2.2.2
  · rw [z0 (by omega)]; exact h16.2
  · obtain ⟨k1, k2, ⟨f1, f2, f3, f4, f5, f6, f7⟩, k4, k5⟩ := ck c hc
    rw [z0 (F := 22) (by omega), z0 (F := 13) (by omega), z0 (F := 12) (by omega), z0 (F := 15) (by omega), z0 (F := 25) (by omega)]
    exact ⟨f4.1, f4.2.1, f4.2.2, k4, f7.1, fun q => absurd rfl q, f7.2.2.1, f7.2.2.2.1, f7.2.2.2.2.2.2, fun j hj => by rw [(k5 j).1]; rcases lt4 hj with rfl | rfl | rfl | rfl <;> rfl⟩
  · obtain ⟨k1, k2, ⟨f1, f2, f3, f4, f5, f6, f7⟩, k4, k5⟩ := ck c hc
    refine ⟨by rw [z0 (by omega)]; exact f5 i hi, fun q => absurd (z0 (by omega)) q, ?_, fun j hj => ?_⟩
    · rw [(k5 i).2.1]; rfl
    · rw [(k5 _).2.2]; rcases lt4 hj with rfl | rfl | rfl | rfl <;> rfl
  · have a0 : a = 0 := by have : a < 1 := ha; omega
    have b0 : b = 0 := by have : b < 1 := hb; omega
    subst a0 b0
    obtain ⟨q1, q2⟩ := h21 0 (by omega)
    refine ⟨?_, ?_, ?_, fun q => absurd (z0 (by omega)) q⟩
    · rw [z0 (F := 4) (by omega)]; exact q1
    · rw [z0 (F := 8) (by omega)]; exact q2
    · show hI hF 28 (0 * 1 + 0) = nI (t23w hF z19 (8 * 0 + 0))
      unfold t23w
      rw [nI_n]
      rfl
  · show hI hF 20 (4 * l + j) = w4 (mem4 (fun _ => 0) l) j
    rw [h20 _ (by omega), mem4_0 l hj]
  · refine ⟨h16.1, ?_, ?_, ?_, ?_, ?_, ?_, fun i j hi => absurd hi (Nat.not_lt_zero i)⟩
    · rw [p0]; exact p1
    · exact Or.inl p0
    · rw [p0]; omega
    · rw [p0, p2]; omega
    · rw [p0, p2]; omega
    · exact Nat.zero_le _
  · exact ⟨h19.1, fun i j hi => absurd hi (Nat.not_lt_zero i)⟩
theorem RM_ini {hF m : AH} (L : LM m) (h240 : ∀ k, k < 6 → hI m 240 k = 1) (zz : ∀ o k, 226 ≤ o → o ≤ 272 → o ≠ 240 → hI m o k = 0) : RM (clM m) (sI9 hF) := by
  have z0 : ∀ {F i : Nat}, F ≠ 0 ∧ F ≠ 9 ∧ F ≠ 17 ∧ F ≠ 21 ∧ F ≠ 23 → N (sI9 hF) F i = 0 := fun h => sNew_z h
  obtain ⟨w1, w2, c5, c6, h226, w6⟩ := clM_f m
  have zz' : ∀ o k, o = 241 ∨ o = 242 ∨ o = 262 ∨ o = 267 → hI (clM m) o k = 0 := fun o k q => by
    rw [w6 o k (by omega) (by rcases q with rfl | rfl | rfl | rfl <;> rfl) (by rcases q with rfl | rfl | rfl | rfl <;> rfl) (by omega)]
    exact zz o k (by omega) (by omega) (by omega)
  refine ⟨LM_2 L w1, fun F i hF hi => ?_, fun F i j hF hi hj => ?_, ?_, fun i j hi => absurd hi (Nat.not_lt_zero i), ?_, fun i j hi => absurd hi (Nat.not_lt_zero i)⟩
  · have F21 : F = 0 ∨ F = 1 ∨ F = 2 ∨ F = 3 ∨ F = 4 ∨ F = 5 ∨ F = 6 ∨ F = 7 ∨ F = 8 ∨ F = 9 ∨ F = 10 ∨ F = 11 ∨ F = 12 ∨ F = 13 ∨ F = 14 ∨ F = 15 ∨ F = 16 ∨ F = 17 ∨ F = 18 ∨ F = 19 ∨ F = 20 := by omega
    rcases F21 with rfl | rfl | rfl | rfl | rfl | rfl | rfl | rfl | rfl | rfl | rfl | rfl | rfl | rfl | rfl | rfl | rfl | rfl | rfl | rfl | rfl
    · exact (w2 i hi).trans (h240 i hi)
    · rw [z0 (by omega)]; exact c5 258 (nI 0) i rfl hi
    · rw [z0 (by omega)]; exact c5 259 (nI 0) i rfl hi
    · rw [z0 (by omega)]; exact c5 260 (nI 0) i rfl hi
    · rw [z0 (by omega)]; exact c5 261 nN i rfl hi
    · rw [z0 (by omega)]; exact c5 263 (nI 0) i rfl hi
    · rw [z0 (by omega)]; exact c5 264 nN i rfl hi
    · rw [z0 (by omega)]; exact c5 265 (nI 0) i rfl hi
    · rw [z0 (by omega)]; exact c5 266 nN i rfl hi
    · exact zz' 267 i (by omega)
    · rw [z0 (by omega)]; exact c5 268 (nI 0) i rfl hi
    · rw [z0 (by omega)]; exact c5 269 (nI 0) i rfl hi
    · rw [z0 (by omega)]; exact c6 252 nN i rfl hi
    · rw [z0 (by omega)]; exact c6 253 nN i rfl hi
    · rw [z0 (by omega)]; exact c6 254 (nI 0) i rfl hi
    · rw [z0 (by omega)]; exact c6 247 (nI 0) i rfl hi
    · rw [z0 (by omega)]; exact h226 47 (by omega)
    · have i0 : i = 0 := by have : i < 1 := hi; omega
      subst i0
      show hI (clM m) 226 79 = nI 0
      rw [w6 226 79 (by omega) rfl rfl (by omega)]
      exact zz 226 79 (by omega) (by omega) (by omega)
    · rw [z0 (by omega)]; exact h226 63 (by omega)
    · rw [z0 (by omega)]; exact h226 64 (by omega)
    · rw [z0 (by omega)]; exact h226 65 (by omega)
  · have F3 : F = 0 ∨ F = 1 ∨ F = 2 := by omega
    rcases F3 with rfl | rfl | rfl
    · show hI (clM m) 241 (4 * i + j) = w4 (mem4 (fun _ => 0) i) j
      rw [zz' _ _ (by omega), mem4_0 i hj]
    · show hI (clM m) 242 (4 * i + j) = w4 (mem4 (fun _ => 0) i) j
      rw [zz' _ _ (by omega), mem4_0 i hj]
    · show hI (clM m) 262 (4 * i + j) = w4 (0, 0, 0, 0) j
      rw [zz' _ _ (by omega)]
      rcases lt4 hj with rfl | rfl | rfl | rfl <;> rfl
  · exact h226 59 (by omega)
  · exact h226 57 (by omega)
def eI9 : Ex := fun F _ => if F = 10 then 1 else 0
theorem start_alike : ∃ hF mF, f_X10_init gq1 1 = some hF ∧ f_X11_init mq0 226 = some mF ∧ hZ hF = 225 ∧ hZ mF = 276 ∧ hV hF ≤ 40000 ∧ hV mF ≤ 130000 ∧ pN hF = 576 ∧ NR mF ∧ Rel hF mF (sI9 hF) eI9 0 := by
  have C := c_chk
  unfold chkC at C
  simp only [Bool.and_eq_true, decide_eq_true_eq, List.all_eq_true, List.mem_range] at C
  obtain ⟨⟨⟨⟨⟨⟨⟨⟨c1, c2⟩, c3⟩, c4⟩, c5⟩, c6⟩, c7⟩, c8⟩, d1, d2, d3, d4, d5, d6, d7, d8, d9, d10, d11, d12⟩ := C
  obtain ⟨hF, q1, q2, q3, q4, q5⟩ := core_loop (g := gq13) c1 (c2 (1, 2, 16, 5, 0) (List.mem_of_getElem? (l := lyC) (i := 2) rfl)).1.1 (c2 (1, 4, 31, 25, 16) (List.mem_of_getElem? (l := lyC) (i := 4) rfl)).1.1 (c2 (1, 4, 31, 25, 16) (List.mem_of_getElem? (l := lyC) (i := 4) rfl)).1.2 (c2 (1, 4, 31, 25, 16) (List.mem_of_getElem? (l := lyC) (i := 4) rfl)).2 16 FU gq13 0 (by omega) (by decide) ⟨c7, rfl, fun o _ => ⟨rfl, rfl, fun _ _ => rfl, fun _ => rfl⟩, fun c hc => absurd hc (Nat.not_lt_zero c)⟩
  obtain ⟨h2, r1, r2, r3, r4⟩ := x11_made
  obtain ⟨l1, l2, l3, l4, l5⟩ := LM_of m_chk
  have L2 : LM h2 := LM_2 l1 r2
  have Z1 : hZ hF = 225 := q2
  have V1 : hV hF ≤ 40000 := by rw [q3]; exact Nat.le_trans (Nat.add_le_add_right c6 (593 * 16)) (by decide)
  have LCF : LC hF := by
    refine ⟨(q4 1 (by omega)).1.trans c1, fun x hx => ?_, fun c hc => ?_⟩
    · have w := lyC_33 x hx
      exact ⟨((q4 _ (by omega)).2.2.1 _ (by omega)).trans (c2 x hx).1.1, (q4 _ (by omega)).1.trans (c2 x hx).1.2, (q4 _ (by omega)).2.1.trans (c2 x hx).2⟩
    · obtain ⟨k1, k2, k3, k4, k5⟩ := q5 c hc
      exact ⟨k2.1, k1, k2.2.1, k2.2.2⟩
  have eI : ∀ o k, o ≤ 33 → hI hF o k = hI gq13 o k := fun o k ho => (q4 o ho).2.2.2 k
  have p0 : hR hF 16 0 = 17 := ((q4 16 (by omega)).2.2.1 0 (by omega)).trans c3
  have zz : ∀ o k, 226 ≤ o → o ≤ 272 → o ≠ 240 → hI h2 o k = 0 := fun o k w1 w2 w3 => (r3 o k (by omega)).trans (mq_I o k w1 w2)
  obtain ⟨w1, w2, w5, w6, w226, wo⟩ := clM_f h2
  have mZ : ∀ k, k = 0 ∨ k = 2 ∨ k = 3 ∨ k = 4 → hI (clM h2) 226 k = 0 := fun k hk => by
    rw [wo 226 k (by omega) rfl rfl (by omega)]; exact zz 226 k (by omega) (by omega) (by omega)
  have RCF := RC_ini (hF := hF) LCF (by omega) p0 ((q4 17 (by omega)).1.trans c4) ((q4 17 (by omega)).2.1.trans c5) q5 (fun i hi => (eI 32 i (by omega)).trans (c8 i hi).1) ⟨(eI _ _ (by omega)).trans d1, (eI _ _ (by omega)).trans d2⟩ ⟨(eI _ _ (by omega)).trans d3, (eI _ _ (by omega)).trans d4, (eI _ _ (by omega)).trans d5, (eI _ _ (by omega)).trans d6, (eI _ _ (by omega)).trans d7⟩ (fun j hj => (eI _ _ (by omega)).trans ((gq_f j).1 hj)) (fun j hj => ⟨(eI _ _ (by omega)).trans ((gq_f j).2 hj).1, (eI _ _ (by omega)).trans ((gq_f j).2 hj).2⟩)
  refine ⟨hF, clM h2, x10_made.trans q1, by rw [r1, r_clear L2, y_bds], Z1, ?_, V1, ?_, ?_, ?_, RCF, RM_ini L2 r4 zz, IV_ini szs_1, CN_new _ _ _ _, fun c hc => ?_, ?_⟩
  · show (clM h2).2.2.2.2.2.1 = 276
    rw [w1, r2]; exact l4
  · show (clM h2).2.2.2.2.2.2 ≤ 130000
    rw [w1, r2]; exact l5
  · show hN hF (hR hF 16 0) = 576
    rw [p0]; exact (q4 17 (by omega)).2.1.trans c5
  · exact NR_2 l2 (by rw [w1, r2])
  · obtain ⟨k1, k2, ⟨f1, f2, f3, f4, f5, f6, f7⟩, k4, k5⟩ := q5 c hc
    refine ⟨fun r hr => ?_, ⟨f2.1, w6 244 (nI 0) c rfl hc, by show 0 < 8192; omega⟩, ⟨f2.2, w6 245 (nI 0) c rfl hc, by show 0 ≤ 4; omega⟩, ⟨f3.1, w6 248 (nI 0) c rfl hc, Nat.zero_le _, f3.2⟩, fun i hi => absurd hi (Nat.not_lt_zero i), ⟨f6, w6 246 (nI 0) c rfl hc, Nat.le_refl _⟩, fun k _ hk => absurd hk (Nat.not_lt_zero k), ?_, ?_, ?_⟩
    · rw [f1 r hr, w5 243 (nI 0) (32 * c + r) rfl (by omega)]; rfl
    · rw [f7.2.2.2.2.1, w6 255 (nI 0) c rfl hc]; rfl
    · rw [f7.2.2.2.2.2.1, w6 256 (nI 0) c rfl hc]; rfl
    · rw [f7.2.2.2.2.1, f7.2.2.2.2.2.1]; exact ⟨by decide, by decide⟩
  · refine ⟨⟨?_, fun c _ => rfl⟩, ⟨?_, ?_⟩, ⟨?_, ?_⟩, ⟨?_, ?_, by show 0 ≤ 1500; omega⟩, fun i hi => absurd hi (Nat.not_lt_zero i), fun i hi => ⟨(eI 33 i (by omega)).trans (c8 i hi).2, ?_⟩, szs_1, ?_, ?_⟩
    · rw [w226 62 (by omega)]; rfl
    · rw [eI 1 9 (by omega), d10, w226 66 (by omega)]; rfl
    · rw [eI 1 10 (by omega), d11, w226 67 (by omega)]; rfl
    · rw [eI 1 7 (by omega), d8, mZ 3 (by omega)]
    · rw [eI 1 8 (by omega), d9, mZ 4 (by omega)]
    · rw [eI 2 1 (by omega), d12]; rfl
    · rw [mZ 2 (by omega)]; rfl
    · rw [wo 240 i (by omega) rfl rfl (by omega)]; exact r4 i hi
    · rw [mZ 0 (by omega)]; rfl
    · exact cst_of l3 (fun o k q => by rw [wo o k (by omega) (by rcases q with rfl | rfl <;> rfl) (by rcases q with rfl | rfl <;> rfl) (by omega)]; exact r3 o k (by omega))
