/-- BACK -/
theorem IV_back {s : St} {b i c : Nat} (I : IV s b) (hi : i < (Pl s).length) (hc' : mTo ((Pl s).getD i x0) = c) (hkd : mKi ((Pl s).getD i x0) = 9) : IV (uN (uN (sOut s i) 13 c 0) 14 c 0) b := by
  obtain ⟨⟨B, hb⟩, ⟨L, W4'⟩, M, LL, Rg, Q, W, D, O1, O2, O3, O4, O5, O6, O7, O8⟩ := I
  obtain ⟨d1, d2, d3, d4, d5, d6, d7⟩ := D
  have xm : (Pl s).getD i x0 ∈ Z s := List.mem_append_left _ (getD_mem hi)
  have xw := M.2.1 _ xm
  have hc : c < N s 0 0 := by
    rw [← hc']
    obtain ⟨_, _, h3⟩ := xw; omega
  have c16 : c < 16 := by have := B.1.2; omega
  have kx : key ((Pl s).getD i x0) = 16 + c := by
    unfold key
    (repeat' split) <;> omega
  have mmx : mm s (16 + c) = some ((Pl s).getD i x0) := by rw [← kx]; exact mm_mem M.1 xm
  have vu : vU s c = 2 := by
    unfold vU; rw [if_pos c16, mmx]
    show (if mKi _ = 2 then 1 else 2) = 2
    rw [if_neg (by omega)]
  generalize hxe : (Pl s).getD i x0 = x at *
  generalize ht : uN (uN (sOut s i) 13 c 0) 14 c 0 = t
  have tN : ∀ F j, ¬ ((F = 13 ∨ F = 14) ∧ j = c) → F ≠ 18 → N t F j = N s F j := by
    intro F j h1 h2
    rw [← ht, N_ne (by omega), N_ne (by omega), N_out _ _ _ _ h2]
  have t13 : ∀ d, N t 13 d = if d = c then 0 else N s 13 d := by
    intro d
    by_cases e : d = c
    · rw [if_pos e, e, ← ht, N_ne (by omega), N_eq]
    · rw [if_neg e]; exact tN 13 d (by omega) (by omega)
  have t14 : ∀ d, N t 14 d = if d = c then 0 else N s 14 d := by
    intro d
    by_cases e : d = c
    · rw [if_pos e, e, ← ht, N_eq]
    · rw [if_neg e]; exact tN 14 d (by omega) (by omega)
  have n := fun F j (h : F ≤ 12 ∨ (15 ≤ F ∧ F ≤ 17) ∨ 21 ≤ F) => tN F j (by omega) (by omega)
  have tW : ∀ F j, Wda t F j = Wda s F j := fun F j => by rw [← ht]; rfl
  have tQ : Ql t = Ql s := by rw [← ht]; rfl
  have tZ : Z t = Z (sOut s i) := by rw [← ht]; rfl
  have tZs : ∀ y, y ∈ Z t → y ∈ Z s ∧ key y ≠ 16 + c := fun y hy => by
    rw [tZ] at hy
    have := (Z_out M.1 hi y).mp hy
    rw [hxe, kx] at this; exact this
  have tmm : ∀ κ, mm t κ = if κ = 16 + c then none else mm s κ := by
    intro κ
    have := mm_out M.1 hi κ
    rw [hxe, kx] at this; unfold mm; rw [tZ]; exact this
  have t0 : ∀ j, N t 0 j = N s 0 j := fun j => n 0 j (by omega)
  have t1 : ∀ j, N t 1 j = N s 1 j := fun j => n 1 j (by omega)
  have t2 : ∀ j, N t 2 j = N s 2 j := fun j => n 2 j (by omega)
  have t4 : ∀ j, N t 4 j = N s 4 j := fun j => n 4 j (by omega)
  have Bt' : Bz t := by unfold Bz; simp only [t0]; exact B
  have sset : ∀ d l', sSet t d l' = sSet s d l' := by intro d l'; unfold sSet; rw [t0, t0]
  have sw := sWay_congr t0 t1 t2
  have hw : ∀ l', hWay t l' = hWay s l' := hWay_c t0 t4
  have thv : ∀ l' F, F ≤ 11 → hv t l' F = hv s l' F := fun l' F h => hv_c hw (fun j => n F j (by omega)) l'
  have ttk : ∀ l' d, tk t l' d = tk s l' d := by
    intro l' d
    by_cases g : d < 16
    · exact tk_mm (by rw [tmm, if_neg (by omega)])
    · unfold tk; rw [if_neg g, if_neg g]
  have tvU : ∀ d, d ≠ c → vU t d = vU s d := by
    intro d hd
    exact vU_mm (by rw [tmm, if_neg (by omega)])
  have tvR : ∀ d, vR t d = vR s d := by intro d; unfold vR; rw [n 12 d (by omega)]
  have tvF : ∀ d, vF t d = if d = c then 0 else vF s d := by
    intro d; unfold vF
    by_cases e : d = c
    · rw [if_pos e, t13, if_pos e]; split <;> rfl
    · rw [if_neg e, t13, if_neg e]
  have tvS : ∀ l' d, vS t l' d = vS s l' d := by
    intro l' d; unfold vS; rw [sw]
    cases sWay s d l' with
    | none => rfl
    | some j => show (if d < 16 then N t 2 j else 0) = (if d < 16 then N s 2 j else 0); rw [t2]
  have nsh : ∀ z, z ∈ Z t → (mKi z = 2 → mFr z ≠ c) ∧ (mKi z = 9 → mTo z ≠ c) := by
    intro z hz
    have := (tZs z hz).2
    refine ⟨fun h g => this ?_, fun h g => this ?_⟩
    · unfold key; (repeat' split) <;> omega
    · unfold key; (repeat' split) <;> omega
  refine ⟨⟨Bt', hb⟩, ⟨?_, Wl_c t0 t4 W4'⟩, ⟨by rw [tZ]; exact nk_out M.1 i, fun z hz => by rw [t0]; exact M.2.1 z (tZs z hz).1, by rw [tQ]; exact M.2.2⟩, fun l' hl2 => ?_, ⟨fun j hj => ?_, fun d hd => ?_, fun j hj h => ?_, fun j hj h => ?_⟩, fun z hz => ?_, fun d l' hd h12 hwn => ?_, ⟨fun l' j hwj h6 => ?_, fun l' hl' hwn => ?_, fun l' j hwj h5 => ?_, fun z hz => ?_, fun j hj h => ?_, fun d l' hd h13 h14 hu => ?_, fun l' j d hwj htk => ?_⟩, ?_, ?_, ?_, ?_, ?_, ?_, ?_, ?_⟩
  · refine ⟨fun j hj h => ?_, fun j j' hj hj' h h' => ?_⟩
    · rw [t2] at h; rw [t0, t1, t0, sset]; exact L.1 j hj h
    · rw [t2] at h h'; rw [t1, t1]; exact L.2 j j' hj hj' h h'
  · unfold LIs
    rw [vX_c hw, thv _ 6 (by omega), thv _ 8 (by omega), thv _ 9 (by omega), thv _ 10 (by omega)]
    exact LI_eq (LI_back (c := c) (F' := vF t) (G' := N t 14) (U' := vU t) (LL l' hl2) vu tvF (fun d hd => by rw [t14, if_neg hd]) tvU) (fun d => ttk l' d) (fun d => tvS l' d) tvR (fun _ => rfl) (fun _ => rfl) (fun _ => rfl) (fun d => by unfold vB; rw [thv _ 7 (by omega)]) rfl rfl rfl rfl rfl
  · obtain ⟨a1, a2, a3, a4, a5, a6, a7, a8, a9, a10, a11, a12, a13⟩ := Rg.1 j hj
    rw [n 1 j (by omega), n 2 j (by omega), n 3 j (by omega), n 4 j (by omega), n 5 j (by omega), n 6 j (by omega), n 7 j (by omega), n 8 j (by omega), n 9 j (by omega), n 10 j (by omega), n 11 j (by omega), n 21 j (by omega), n 23 j (by omega)]
    exact ⟨a1, a2, a3, a4, a5, a6, a7, a8, a9, a10, a11, a12, a13⟩
  · obtain ⟨a1, a2, a3, a4⟩ := Rg.2.1 d hd
    rw [n 12 d (by omega), t13, t14, t0]
    by_cases e : d = c
    · rw [if_pos e, if_pos e]; exact ⟨a1, by omega, by omega, fun g => by omega⟩
    · rw [if_neg e, if_neg e]; exact ⟨a1, a2, a3, a4⟩
  · rw [t4] at h
    rw [n 6 j (by omega), n 7 j (by omega), t0]
    exact Rg.2.2.1 j hj h
  · rw [t4] at h
    rw [n 8 j (by omega)]
    exact Rg.2.2.2 j hj h
  · obtain ⟨q1, q2, q3⟩ := Q z (tZs z hz).1
    obtain ⟨s1, s2⟩ := nsh z hz
    rw [n 12 _ (by omega), t13, t13]
    refine ⟨fun h => ⟨(q1 h).1, fun l' hX hA => ?_⟩, fun h => ?_, fun h => ?_⟩
    · rw [vX_c hw] at hX
      rw [thv _ 8 (by omega)] at hA
      rw [ttk]
      exact (q1 h).2 l' hX hA
    · rw [if_neg (s1 h)]; exact q2 h
    · rw [if_neg (s2 h)]; exact q3 h
  · rw [n 12 _ (by omega)] at h12
    rw [sw] at hwn
    have := W d l' hd h12 hwn
    intro g
    apply this
    rw [← g]; unfold sFree; rw [sset, t0]
    exact fst_congr (fun j _ _ => by rw [t2])
  · rw [hw] at hwj
    rw [n 6 _ (by omega)] at h6
    rw [tW, tW]; exact d1 l' j hwj h6
  · rw [hw] at hwn
    rw [tW, tW]; exact d2 l' hl' hwn
  · rw [hw] at hwj
    rw [n 5 _ (by omega)] at h5
    rw [tW, tW]; exact d3 l' j hwj h5
  · obtain ⟨q1, q2, q3⟩ := d4 z (tZs z hz).1
    obtain ⟨s1, s2⟩ := nsh z hz
    rw [tW, t14]
    refine ⟨q1, q2, fun h => ?_⟩
    rw [if_neg (s1 h)]; exact q3 h
  · rw [t2] at h
    rw [tW, tW, t1]; exact d5 j hj h
  · rw [t13] at h13
    split at h13
    · omega
    · next e =>
      rw [tvU d e] at hu
      rw [t14, if_neg e] at h14
      rw [tW, tW]
      exact d6 d l' hd h13 h14 hu
  · rw [hw] at hwj
    rw [tW, tW]
    rw [ttk] at htk
    exact d7 l' j d hwj htk
  · intro j j' hj hj' g g' hd
    rw [t2] at g g'
    rw [n 3 _ (by omega), n 3 _ (by omega), n 21 _ (by omega), n 21 _ (by omega)]
    exact O1 j j' hj hj' g g' hd
  · intro j hj g
    rw [t2] at g
    rw [n 3 _ (by omega), n 16 _ (by omega), n 21 _ (by omega), n 22 _ (by omega)]
    exact O2 j hj g
  · intro j j' hj hj' he he' g g'
    rw [t4] at g g'
    rw [n 11 _ (by omega), n 11 _ (by omega), n 23 _ (by omega), n 23 _ (by omega)]
    exact O3 j j' hj hj' he he' g g'
  · intro j hj he g
    rw [t4] at g
    rw [n 11 _ (by omega), n 23 _ (by omega), n 17 _ (by omega), n 24 _ (by omega)]
    exact O4 j hj he g
  · have : cn (vR t) 16 = cn (vR s) 16 := cn_congr (fun d _ => by rw [tvR])
    rw [this, n 16 _ (by omega)]; exact O5
  · have : cn (vQ t) 16 = cn (vQ s) 16 := cn_congr (fun d hd => by
      have e : mm t d = mm s d := by rw [tmm, if_neg (by omega)]
      unfold vQ; rw [e])
    rw [this, n 17 _ (by omega)]; exact O6
  · intro d hd
    rw [n 22 _ (by omega), n 16 _ (by omega)]
    exact O7 d hd
  · rw [n 24 _ (by omega), n 17 _ (by omega)]; exact O8
