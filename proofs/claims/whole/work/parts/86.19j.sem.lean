/-- what the home does leaves the caches: the rest is to be shown -/
theorem IV_home {s t : St} {b e e' : Nat} (I : IVe s b e) (n : ∀ F j, F ≤ 3 ∨ (12 ≤ F ∧ F ≤ 14) ∨ F = 16 ∨ F = 21 ∨ F = 22 → N t F j = N s F j)
    (wl : Wl t) (ms : Ms t) (li : ∀ l, l < 512 → LIs t l)
    (rn : ∀ k, k < 512 → N t 4 k ≤ 512 ∧ N t 5 k ≤ 1 ∧ N t 6 k ≤ 16 ∧ N t 7 k < 65536 ∧ N t 8 k ≤ 17 ∧ N t 9 k ≤ 1 ∧ N t 10 k ≤ 16 ∧ N t 11 k ≤ 536870912 ∧ N t 23 k ≤ N t 23 k ∧ (N t 4 k ≠ 0 → N t 6 k ≤ N s 0 0 ∧ N t 7 k < 2 ^ N s 0 0) ∧ (N t 4 k = 0 → N t 8 k = 0))
    (rq : Rq t) (w : ∀ j, Wda t 0 j = Wda s 0 j ∧ Wda t 3 j = Wda s 3 j ∧ Wda t 4 j = Wda s 4 j) (u : ∀ c, vU t c ≠ 2 → vU s c ≠ 2)
    (d1 : ∀ l k, hWay t l = some k → N t 6 k = 0 → Wda t 2 k = Wda t 0 l) (d2 : ∀ l, l < 512 → hWay t l = none → Wda t 1 l = Wda t 0 l) (d3 : ∀ l k, hWay t l = some k → N t 5 k = 0 → Wda t 2 k = Wda t 1 l)
    (d4 : ∀ x, x ∈ Z t → (mKi x = 6 ∨ mKi x = 7 ∨ mKi x = 8 → mWo x = Wda t 0 (mLi x)) ∧ (mKi x = 5 → mFi x = 1 → mWo x = Wda t 0 (mLi x)) ∧ (mKi x = 2 → N t 14 (mFr x) = 0 → mWo x = Wda t 0 (mLi x)))
    (d7 : ∀ l k c, hWay t l = some k → tk t l c = 7 ∨ tk t l c = 8 → Wda t 2 k = Wda t 0 l)
    (o3 : ∀ k k', k < 512 → k' < 512 → k ≠ e' → k' ≠ e' → N t 4 k ≠ 0 → N t 4 k' ≠ 0 → (N t 11 k < N t 11 k' ↔ N t 23 k < N t 23 k')) (o4 : ∀ k, k < 512 → k ≠ e' → N t 4 k ≠ 0 → N t 11 k ≤ N t 17 0 ∧ N t 23 k ≤ N t 24 0) (o6 : N t 17 0 + cn (vQ t) 16 ≤ b) (o8 : N t 24 0 ≤ N t 17 0) : IVe t b e' := by
  obtain ⟨⟨B, hb⟩, ⟨L, W4'⟩, M, LL, Rg, Q, W, D, O1, O2, O3, O4, O5, O6, O7, O8⟩ := I
  obtain ⟨_, _, _, _, d5, d6, _⟩ := D
  have t0 : ∀ j, N t 0 j = N s 0 j := fun j => n 0 j (by omega)
  have t1 : ∀ j, N t 1 j = N s 1 j := fun j => n 1 j (by omega)
  have t2 : ∀ j, N t 2 j = N s 2 j := fun j => n 2 j (by omega)
  have sset : ∀ d l', sSet t d l' = sSet s d l' := by intro d l'; unfold sSet; rw [t0, t0]
  have sw := sWay_congr t0 t1 t2
  have sf : ∀ c l, sFree t c l = sFree s c l := by
    intro c l; unfold sFree; rw [sset, t0]
    exact fst_congr (fun j _ _ => by rw [t2])
  refine ⟨⟨by unfold Bz; simp only [t0]; exact B, hb⟩, ⟨?_, wl⟩, ms, li, ⟨fun k hk => ?_, fun c hc => ?_, fun k hk h => ?_, fun k hk h => (rn k hk).2.2.2.2.2.2.2.2.2.2 h⟩, rq, fun c l hc h12 => ?_, ⟨d1, d2, d3, d4, fun k hk h => ?_, fun c l hc h13 h14 hu => ?_, d7⟩, ?_, ?_, o3, o4, ?_, o6, ?_, o8⟩
  · refine ⟨fun j hj h => ?_, fun j j' hj hj' h h' => ?_⟩
    · rw [t2] at h; rw [t0, t1, t0, sset]; exact L.1 j hj h
    · rw [t2] at h h'; rw [t1, t1]; exact L.2 j j' hj hj' h h'
  · obtain ⟨a1, a2, a3, a4, a5, a6, a7, a8, a9, a10, a11, a12, a13⟩ := Rg.1 k hk
    obtain ⟨r1, r2, r3, r4, r5, r6, r7, r8, r9, _⟩ := rn k hk
    exact ⟨by rw [t1]; exact a1, by rw [t2]; exact a2, by rw [n 3 k (by omega)]; exact a3, r1, r2, r3, r4, r5, r6, r7, r8, by rw [n 21 k (by omega)]; exact a12, r9⟩
  · rw [n 12 c (by omega), n 13 c (by omega), n 14 c (by omega), t0]; exact Rg.2.1 c hc
  · rw [t0]; exact (rn k hk).2.2.2.2.2.2.2.2.2.1 h
  · rw [n 12 c (by omega)] at h12; rw [sw, sf]; exact W c l hc h12
  · rw [t2] at h; rw [(w k).2.2, (w _).1, t1]; exact d5 k hk h
  · rw [n 13 c (by omega)] at h13; rw [n 14 c (by omega)] at h14; rw [(w c).2.1, (w l).1]; exact d6 c l hc h13 h14 (u c hu)
  · intro j j' hj hj' g g' hd
    rw [t2] at g g'
    rw [n 3 _ (by omega), n 3 _ (by omega), n 21 _ (by omega), n 21 _ (by omega)]; exact O1 j j' hj hj' g g' hd
  · intro j hj g
    rw [t2] at g
    rw [n 3 _ (by omega), n 16 _ (by omega), n 21 _ (by omega), n 22 _ (by omega)]; exact O2 j hj g
  · have : cn (vR t) 16 = cn (vR s) 16 := cn_congr (fun d _ => by unfold vR; rw [n 12 d (by omega)])
    rw [this, n 16 _ (by omega)]; exact O5
  · intro d hd; rw [n 22 _ (by omega), n 16 _ (by omega)]; exact O7 d hd
/-- the ranges of a state's ways -/
theorem IV_rn {s : St} {b e : Nat} (I : IVe s b e) : ∀ k, k < 512 → N s 4 k ≤ 512 ∧ N s 5 k ≤ 1 ∧ N s 6 k ≤ 16 ∧ N s 7 k < 65536 ∧ N s 8 k ≤ 17 ∧ N s 9 k ≤ 1 ∧ N s 10 k ≤ 16 ∧ N s 11 k ≤ 536870912 ∧ N s 23 k ≤ N s 23 k ∧ (N s 4 k ≠ 0 → N s 6 k ≤ N s 0 0 ∧ N s 7 k < 2 ^ N s 0 0) ∧ (N s 4 k = 0 → N s 8 k = 0) := by
  obtain ⟨_, _, _, _, Rg, _⟩ := I
  intro k hk
  obtain ⟨a1, a2, a3, a4, a5, a6, a7, a8, a9, a10, a11, a12, a13⟩ := Rg.1 k hk
  exact ⟨a4, a5, a6, a7, a8, a9, a10, a11, a13, Rg.2.2.1 k hk, Rg.2.2.2 k hk⟩
/-- views when the slots, shelves and requests are the same -/
theorem vS_c {s t : St} (n : ∀ F j, F ≤ 3 ∨ (12 ≤ F ∧ F ≤ 14) ∨ F = 16 ∨ F = 21 ∨ F = 22 → N t F j = N s F j) (l d : Nat) : vS t l d = vS s l d := by
  unfold vS
  rw [sWay_congr (fun j => n 0 j (by omega)) (fun j => n 1 j (by omega)) (fun j => n 2 j (by omega)) d l]
  cases sWay s d l with
  | none => rfl
  | some k => show (if d < 16 then N t 2 k else 0) = _; rw [n 2 k (by omega)]
theorem hWay_c {s t : St} (h0 : ∀ j, N t 0 j = N s 0 j) (h4 : ∀ j, N t 4 j = N s 4 j) (l : Nat) : hWay t l = hWay s l := by
  unfold hWay hSet; rw [h0, h0]
  exact fst_congr (fun j _ _ => by rw [h4])
theorem Wl_c {s t : St} (h0 : ∀ j, N t 0 j = N s 0 j) (h4 : ∀ j, N t 4 j = N s 4 j) (W : Wl s) : Wl t := by
  refine ⟨fun j hj h => ?_, fun j j' hj hj' h h' => ?_⟩
  · rw [h4] at h; unfold hSet; rw [h4, h0, h0]; exact W.1 j hj h
  · rw [h4] at h; rw [h4, h4] at h'; exact W.2 j j' hj hj' h h'
theorem hv_c {s t : St} (hw : ∀ l, hWay t l = hWay s l) {F : Nat} (h : ∀ j, N t F j = N s F j) (l : Nat) : hv t l F = hv s l F := by
  unfold hv; rw [hw]
  cases hWay s l with
  | none => rfl
  | some k => exact h k
theorem vX_c {s t : St} (hw : ∀ l, hWay t l = hWay s l) (l : Nat) : vX t l = vX s l := by unfold vX; rw [hw]
/-- DONE -/
theorem IV_done {s : St} {b i l c k : Nat} (I : IV s b) (hi : i < (Pl s).length) (hx : mKi ((Pl s).getD i x0) = 10) (hl' : mLi ((Pl s).getD i x0) = l) (hc' : pc ((Pl s).getD i x0) = c) (hk : hWay s l = some k) : IV (uN (sOut s i) 8 k 0) b := by
  have I0 := I
  obtain ⟨⟨B, hb⟩, ⟨L, W4'⟩, M, LL, Rg, Q, W, D, O1, O2, O3, O4, O5, O6, O7, O8⟩ := I
  obtain ⟨d1, d2, d3, d4, d5, d6, d7⟩ := D
  have xp : isP ((Pl s).getD i x0) := by unfold isP; omega
  have xm : (Pl s).getD i x0 ∈ Z s := List.mem_append_left _ (getD_mem hi)
  have hl : l < 512 := by rw [← hl']; exact (M.2.1 _ xm).1
  have tkx : tk s l c = 10 := by
    have := tk_of M B xm xp
    rw [hl', hc'] at this
    rw [this]; unfold tcode; rw [if_neg (by omega)]; exact hx
  have kx : key ((Pl s).getD i x0) = 32 + 16 * l + c := by rw [key_p xp, hl', hc']
  obtain ⟨hX, c16, hA, hD, hz, _, _⟩ := ph_g (LL l hl) (c := c) (by omega)
  obtain ⟨k512, k4⟩ := (hWay_iff B W4').mp hk
  have tN : ∀ F j, F ≠ 8 → F ≠ 18 → N (uN (sOut s i) 8 k 0) F j = N s F j := by
    intro F j h1 h2; rw [N_ne (by omega), N_out _ _ _ _ h2]
  have t8 : ∀ j, N (uN (sOut s i) 8 k 0) 8 j = if j = k then 0 else N s 8 j := by
    intro j; rw [N_uN]
    by_cases e : j = k
    · rw [if_pos ⟨rfl, e⟩, if_pos e]
    · rw [if_neg (fun g => e g.2), if_neg e, N_out _ _ _ _ (by omega)]
  have tmm : ∀ κ, mm (uN (sOut s i) 8 k 0) κ = if κ = 32 + 16 * l + c then none else mm s κ := fun κ => by
    have := mm_out M.1 hi κ
    rw [kx] at this; exact this
  have tZ : ∀ y, y ∈ Z (uN (sOut s i) 8 k 0) → y ∈ Z s := fun y hy => ((Z_out M.1 hi y).mp hy).1
  have n := fun F j (h : F ≤ 3 ∨ (12 ≤ F ∧ F ≤ 14) ∨ F = 16 ∨ F = 21 ∨ F = 22) => tN F j (by omega) (by omega)
  have hw := hWay_c (s := s) (t := uN (sOut s i) 8 k 0) (fun j => tN 0 j (by omega) (by omega)) (fun j => tN 4 j (by omega) (by omega))
  have ttk : ∀ l' d, tk (uN (sOut s i) 8 k 0) l' d = if l' = l ∧ d = c then 0 else tk s l' d := by
    intro l' d
    by_cases g : d < 16
    · by_cases e : l' = l ∧ d = c
      · rw [if_pos e]; unfold tk; rw [if_pos g, tmm, if_pos (by omega)]
      · rw [if_neg e]; exact tk_mm (by rw [tmm, if_neg (by omega)])
    · unfold tk; rw [if_neg g, if_neg g, if_neg (by omega)]
  have tvU : ∀ d, vU (uN (sOut s i) 8 k 0) d = vU s d := by
    intro d
    by_cases g : d < 16
    · exact vU_mm (by rw [tmm, if_neg (by omega)])
    · unfold vU; rw [if_neg g, if_neg g]
  have tvB : ∀ l' d, vB (uN (sOut s i) 8 k 0) l' d = vB s l' d := by intro l' d; unfold vB; rw [hv_c hw (fun j => tN 7 j (by omega) (by omega))]
  have thv8 : ∀ l', hv (uN (sOut s i) 8 k 0) l' 8 = if l' = l then 0 else hv s l' 8 := by
    intro l'
    by_cases e : l' = l
    · rw [if_pos e, e]; unfold hv; rw [hw, hk]; show N (uN (sOut s i) 8 k 0) 8 k = 0; rw [t8, if_pos rfl]
    · rw [if_neg e]; unfold hv; rw [hw]
      cases e2 : hWay s l' with
      | none => rfl
      | some j =>
        show N (uN (sOut s i) 8 k 0) 8 j = N s 8 j
        rw [t8, if_neg]
        rintro rfl
        have := (hWay_iff B W4').mp e2
        omega
  have vr : ∀ d, vR (uN (sOut s i) 8 k 0) d = vR s d := fun d => by unfold vR; rw [n 12 d (by omega)]
  have vf : ∀ d, vF (uN (sOut s i) 8 k 0) d = vF s d := fun d => by unfold vF; rw [n 13 d (by omega)]
  refine IV_home I0 n (Wl_c (fun j => tN 0 j (by omega) (by omega)) (fun j => tN 4 j (by omega) (by omega)) W4') ⟨nk_out M.1 i, fun y hy => by rw [tN 0 0 (by omega) (by omega)]; exact M.2.1 y (tZ y hy), M.2.2⟩ (fun l' hl2 => ?_) (fun j hj => ?_) (fun y hy => ?_) (fun j => ⟨rfl, rfl, rfl⟩) (fun d hd => by rw [tvU] at hd; exact hd) (fun l' j hwj h6 => ?_) (fun l' hl2 hwn => ?_) (fun l' j hwj h5 => ?_) (fun y hy => ?_) (fun l' j d hwj ht => ?_) ?_ ?_ ?_ ?_
  · unfold LIs
    rw [vX_c hw, hv_c hw (fun j => tN 6 j (by omega) (by omega)), hv_c hw (fun j => tN 10 j (by omega) (by omega)), hv_c hw (fun j => tN 9 j (by omega) (by omega)), thv8]
    by_cases e : l' = l
    · subst e
      rw [if_pos rfl]
      refine LI_eq (LI_done (c := c) (T' := fun d => if d = c then 0 else tk s l' d) (LL l' hl2) tkx (fun _ => rfl)) (fun d => ?_) (fun d => vS_c n l' d) vr vf (fun d => n 14 d (by omega)) tvU (fun d => tvB l' d) rfl rfl rfl rfl rfl
      rw [ttk]
      by_cases g : d = c
      · rw [if_pos ⟨rfl, g⟩]; show _ = if d = c then _ else _; rw [if_pos g]
      · rw [if_neg (fun w => g w.2)]; show _ = if d = c then _ else _; rw [if_neg g]
    · rw [if_neg e]
      exact LI_eq (LL l' hl2) (fun d => by rw [ttk, if_neg (fun g => e g.1)]) (fun d => vS_c n l' d) vr vf (fun d => n 14 d (by omega)) tvU (fun d => tvB l' d) rfl rfl rfl rfl rfl
  · obtain ⟨r1, r2, r3, r4, r5, r6, r7, r8, r9, r10, r11⟩ := IV_rn I0 j hj
    rw [tN 4 _ (by omega) (by omega), tN 5 _ (by omega) (by omega), tN 6 _ (by omega) (by omega), tN 7 _ (by omega) (by omega), tN 9 _ (by omega) (by omega), tN 10 _ (by omega) (by omega), tN 11 _ (by omega) (by omega), tN 23 _ (by omega) (by omega), t8]
    refine ⟨r1, r2, r3, r4, ?_, r6, r7, r8, r9, r10, fun g => ?_⟩
    · split <;> omega
    · split
      · rfl
      · exact r11 g
  · obtain ⟨q1, q2, q3⟩ := Q y (tZ y hy)
    rw [tN 12 _ (by omega) (by omega), tN 13 _ (by omega) (by omega), tN 13 _ (by omega) (by omega)]
    refine ⟨fun h => ⟨(q1 h).1, fun l' hX' hA' => ?_⟩, q2, q3⟩
    rw [vX_c hw] at hX'
    rw [thv8] at hA'
    by_cases e : l' = l
    · rw [if_pos e] at hA'; omega
    · rw [if_neg e] at hA'
      rw [ttk, if_neg (fun g => e g.1)]
      exact (q1 h).2 l' hX' hA'
  · rw [hw] at hwj; rw [tN 6 _ (by omega) (by omega)] at h6; exact d1 l' j hwj h6
  · rw [hw] at hwn; exact d2 l' hl2 hwn
  · rw [hw] at hwj; rw [tN 5 _ (by omega) (by omega)] at h5; exact d3 l' j hwj h5
  · have := d4 y (tZ y hy)
    rw [tN 14 _ (by omega) (by omega)]; exact this
  · rw [hw] at hwj
    rw [ttk] at ht
    split at ht
    · omega
    · exact d7 l' j d hwj ht
  · intro j j' hj hj' he he' g g'
    rw [tN 4 _ (by omega) (by omega)] at g g'
    rw [tN 11 _ (by omega) (by omega), tN 11 _ (by omega) (by omega), tN 23 _ (by omega) (by omega), tN 23 _ (by omega) (by omega)]
    exact O3 j j' hj hj' he he' g g'
  · intro j hj he g
    rw [tN 4 _ (by omega) (by omega)] at g
    rw [tN 11 _ (by omega) (by omega), tN 23 _ (by omega) (by omega), tN 17 _ (by omega) (by omega), tN 24 _ (by omega) (by omega)]
    exact O4 j hj he g
  · have : cn (vQ (uN (sOut s i) 8 k 0)) 16 = cn (vQ s) 16 := cn_congr (fun d hd => by
      have e : mm (uN (sOut s i) 8 k 0) d = mm s d := by rw [tmm, if_neg (by omega)]
      unfold vQ; rw [e])
    rw [this, tN 17 _ (by omega) (by omega)]; exact O6
  · rw [tN 24 _ (by omega) (by omega), tN 17 _ (by omega) (by omega)]; exact O8
