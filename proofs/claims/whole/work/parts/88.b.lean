/-! The class is made. -/
def c6 : List (Int32 × Int32) := [((0 : Int32), (1 : Int32)), ((1 : Int32), (1 : Int32)), ((2 : Int32), (1 : Int32)), ((3 : Int32), (1 : Int32)), ((4 : Int32), (1 : Int32)), ((5 : Int32), (1 : Int32))]
def lTp : List (Nat × Nat × Nat) := [(0, 23, (1500 : Int32).toNatClampNeg)]
def lAs : List (Nat × Nat × Nat) := [(2, 21, (375 : Int32).toNatClampNeg), (3, 21, (375 : Int32).toNatClampNeg), (4, 21, (375 : Int32).toNatClampNeg), (5, 21, (375 : Int32).toNatClampNeg), (6, 21, (375 : Int32).toNatClampNeg), (7, 21, (375 : Int32).toNatClampNeg), (8, 22, (375 : Int32).toNatClampNeg), (10, 22, (750 : Int32).toNatClampNeg), (11, 21, (750 : Int32).toNatClampNeg), (12, 21, (750 : Int32).toNatClampNeg), (15, 21, (16 : Int32).toNatClampNeg)]
def lPo : List (Nat × Nat × Nat) := [(0, 21, (576 : Int32).toNatClampNeg), (3, 21, (9 : Int32).toNatClampNeg)]
def lHo : List (Nat × Nat × Nat) := [(1, 21, (2048 : Int32).toNatClampNeg), (2, 21, (512 : Int32).toNatClampNeg), (3, 21, (512 : Int32).toNatClampNeg), (4, 21, (512 : Int32).toNatClampNeg), (5, 21, (512 : Int32).toNatClampNeg), (6, 21, (512 : Int32).toNatClampNeg), (7, 21, (512 : Int32).toNatClampNeg), (8, 24, (512 : Int32).toNatClampNeg), (9, 21, (512 : Int32).toNatClampNeg), (10, 21, (2048 : Int32).toNatClampNeg), (11, 21, (288 : Int32).toNatClampNeg)]
def lCa : List (Nat × Nat × Nat) := [(0, 21, (32 : Int32).toNatClampNeg), (1, 21, (32 : Int32).toNatClampNeg), (2, 21, (32 : Int32).toNatClampNeg), (3, 21, (128 : Int32).toNatClampNeg)]
theorem mk_8 (h : AH) (a0 : Nat) : f_X8_init h a0 = gs h a0 7 (Pn a0 7 some lTp h) := rfl
theorem mk_1 (h : AH) (a0 a1 : Nat) : f_X1_init h a0 a1 = gs h a0 1 (Pn a0 1 (fun h => lt (sR h a0 0 a1) fun h36 => some h36) lAs h) := rfl
theorem mk_6 (h : AH) (a0 : Nat) : f_X6_init h a0 = gs h a0 5 (Pn a0 5 some lPo h) := rfl
theorem mk_4 (h : AH) (a0 a1 : Nat) : f_X4_init h a0 a1 = gs h a0 4 (Pn a0 4 (fun h => lt (sR h a0 0 a1) fun h36 => bd (f_X4_begin h36 a0 (1 : Int32) (1 : Int32)) fun q38 => some q38) lHo h) := rfl
theorem mk_7 (h : AH) (a0 : Nat) : f_X7_init h a0 = gs h a0 6 (Pn a0 6 some [(0, 21, (48 : Int32).toNatClampNeg)] h) := rfl
theorem mk_2 (h : AH) (a0 : Nat) : f_X2_init h a0 = gs h a0 2 (Pn a0 2 some lCa h) := rfl
theorem mk_9 (h : AH) (a0 : Nat) : f_X9_init h a0 = gs h a0 8 (Pn a0 8 some [(0, 21, (256 : Int32).toNatClampNeg)] h) := rfl
def kD (i : Nat) (q21 : AH) : Option AH := gs q21 1 9 <| lt (sR q21 1 3 i) fun h23 => lt (hNew h23 25 (16 : Int32).toNatClampNeg (16 : Int32).toNatClampNeg) fun h24 => gs h24 1 9 <| lt (sR h24 1 4 (hZ h23 + 1)) fun h26 => lt (hNew h26 21 (6 : Int32).toNatClampNeg (6 : Int32).toNatClampNeg) fun h27 => QI (hZ h26 + 1) (fun h45 => gs h45 1 9 <| lt (sR h45 1 5 (hZ h26 + 1)) fun h47 => lt (hNew h47 21 (6 : Int32).toNatClampNeg (6 : Int32).toNatClampNeg) fun h48 => gb (ib (0 : Int32) (hN h48 (hZ h47 + 1))) <| lt (sI h48 (hZ h47 + 1) (0 : Int32).toNatClampNeg (1 : Int32)) fun h51 => f_X10_init_L106 h51 1 1 (hZ h47 + 1)) c6 h27
def kC (i : Nat) (q15 : AH) : Option AH := gs q15 1 9 <| lt (sR q15 1 2 i) fun h17 => lt (hNew h17 4 0 17) fun h18 => gs h18 1 9 <| bd (f_X4_init h18 (hZ h17 + 1) (hR h18 1 2)) fun q21 => kD (hZ h17 + 1) q21
def kB (i : Nat) (q10 : AH) : Option AH := gs q10 1 9 <| lt (sR q10 1 1 i) fun h12 => lt (hNew h12 5 0 4) fun h13 => bd (f_X6_init h13 (hZ h12 + 1)) fun q15 => kC (hZ h12 + 1) q15
def kA9 (i : Nat) (q4 : AH) : Option AH := gs q4 1 9 <| lt (sR q4 1 0 i) fun h6 => lt (hNew h6 1 0 18) fun h7 => gs h7 1 9 <| bd (f_X1_init h7 (hZ h6 + 1) (hR h7 1 0)) fun q10 => kB (hZ h6 + 1) q10
theorem mk_10 (h : AH) : f_X10_init h 1 = gs h 1 9 (lt (hNew h 7 0 6) fun h2 => bd (f_X8_init h2 (hZ h + 1)) fun q4 => kA9 (hZ h + 1) q4) := rfl
theorem mk_106 (h : AH) (s1 : Nat) : f_X10_init_L106 h 1 1 s1 = gs h s1 21 (QI s1 (fun h15 => gs h15 1 9 <| lt (sR h15 1 6 s1) fun h17 => lt ((0 : Int32)) fun x18 => f_X10_init_L131 FU h17 1 x18) [((1 : Int32), (1 : Int32)), ((2 : Int32), (1 : Int32)), ((3 : Int32), (1 : Int32)), ((4 : Int32), (1 : Int32)), ((5 : Int32), (1 : Int32))] h) := rfl
def gq1 : AH := nw mE 1 9 0 11
def gq2 : AH := nw gq1 2 7 0 6
def gq3 : AH := nfx 2 lTp gq2 3
def gq4 : AH := nw (sR gq3 1 0 2) 4 1 0 18
def gq5 : AH := sR (nfx 4 lAs gq4 5) 4 0 2
def gq6 : AH := nw (sR gq5 1 1 4) 16 5 0 4
def gq7 : AH := nfx 16 lPo gq6 17
def gq8 : AH := nw (sR gq7 1 2 16) 19 4 0 17
def gq9 : AH := sR (nfx 19 lHo gq8 20) 19 0 16
def gq10 : AH := sI (sI (sI (flR (flR (flR (sI (sI gq9 19 13 (1 : Int32)) 19 14 (1 : Int32)) 20 2048 (0 : Int32)) 21 512 (-1 : Int32)) 24 512 (-1 : Int32)) 19 12 (0 : Int32)) 19 15 (0 : Int32)) 19 16 (0 : Int32)
def gq11 : AH := sR (nw (sR gq10 1 3 19) 31 25 (16 : Int32).toNatClampNeg (16 : Int32).toNatClampNeg) 1 4 31
def gq12 : AH := sR (wI 32 c6 (nw gq11 32 21 (6 : Int32).toNatClampNeg (6 : Int32).toNatClampNeg)) 1 5 32
def gq13 : AH := sR (wI 33 c6 (nw gq12 33 21 (6 : Int32).toNatClampNeg (6 : Int32).toNatClampNeg)) 1 6 33
theorem mk_4b {h : AH} (e1 : hS h 19 = 4) (r1 : hR h 19 1 = 20) (r2 : hR h 19 2 = 21) (r5 : hR h 19 5 = 24) (s20 : hS h 20 = 21) (n20 : hN h 20 = 2048) (s21 : hS h 21 = 21) (n21 : hN h 21 = 512) (s24 : hS h 24 = 21) (n24 : hN h 24 = 512) : f_X4_begin h 19 (1 : Int32) (1 : Int32) = some (sI (sI (sI (flR (flR (flR (sI (sI h 19 13 (1 : Int32)) 19 14 (1 : Int32)) 20 2048 (0 : Int32)) 21 512 (-1 : Int32)) 24 512 (-1 : Int32)) 19 12 (0 : Int32)) 19 15 (0 : Int32)) 19 16 (0 : Int32)) := by
  unfold f_X4_begin
  rw [y_gs, if_pos e1, y_lt, y_lt, show hR (sI (sI h 19 13 (1 : Int32)) 19 14 (1 : Int32)) 19 1 = 20 from r1, c_fill53 (n := 2048) _ (show hS (sI (sI h 19 13 (1 : Int32)) 19 14 (1 : Int32)) 20 = 21 from s20) n20 (by omega), y_bds, y_gs, if_pos (show hS (flR (sI (sI h 19 13 (1 : Int32)) 19 14 (1 : Int32)) 20 2048 (0 : Int32)) 19 = 4 from e1), show hR (flR (sI (sI h 19 13 (1 : Int32)) 19 14 (1 : Int32)) 20 2048 (0 : Int32)) 19 2 = 21 from r2, c_fill53 (n := 512) _ (show hS (flR (sI (sI h 19 13 (1 : Int32)) 19 14 (1 : Int32)) 20 2048 (0 : Int32)) 21 = 21 from s21) n21 (by omega), y_bds, y_gs, if_pos (show hS (flR (flR (sI (sI h 19 13 (1 : Int32)) 19 14 (1 : Int32)) 20 2048 (0 : Int32)) 21 512 (-1 : Int32)) 19 = 4 from e1), show hR (flR (flR (sI (sI h 19 13 (1 : Int32)) 19 14 (1 : Int32)) 20 2048 (0 : Int32)) 21 512 (-1 : Int32)) 19 5 = 24 from r5, c_fill53 (n := 512) _ (show hS (flR (flR (sI (sI h 19 13 (1 : Int32)) 19 14 (1 : Int32)) 20 2048 (0 : Int32)) 21 512 (-1 : Int32)) 24 = 21 from s24) n24 (by omega), y_bds, y_gs, if_pos (show hS (flR (flR (flR (sI (sI h 19 13 (1 : Int32)) 19 14 (1 : Int32)) 20 2048 (0 : Int32)) 21 512 (-1 : Int32)) 24 512 (-1 : Int32)) 19 = 4 from e1), y_lt, y_lt, y_lt]
theorem x10_made : f_X10_init gq1 1 = f_X10_init_L131 FU gq13 1 (nI 0) := by
  rw [mk_10, y_gs, if_pos (by decide +kernel), hNew_nw (by decide +kernel : hZ gq1 + 1 = 2), (by decide +kernel : hZ gq1 + 1 = 2), y_lt]
  show (bd (f_X8_init gq2 2) fun q4 => kA9 2 q4) = _
  rw [mk_8, y_gs, if_pos (by decide +kernel), Pn_eq lTp gq2 3 (by decide +kernel) (by decide +kernel) (by decide +kernel), y_bds]
  show kA9 2 gq3 = _
  unfold kA9
  rw [y_gs, if_pos (by decide +kernel), y_lt, hNew_nw (by decide +kernel : hZ (sR gq3 1 0 2) + 1 = 4), (by decide +kernel : hZ (sR gq3 1 0 2) + 1 = 4), y_lt]
  show (gs gq4 1 9 <| bd (f_X1_init gq4 4 (hR gq4 1 0)) fun q10 => kB 4 q10) = _
  rw [y_gs, if_pos (by decide +kernel), (by decide +kernel : hR gq4 1 0 = 2), mk_1, y_gs, if_pos (by decide +kernel), Pn_eq lAs gq4 5 (by decide +kernel) (by decide +kernel) (by decide +kernel), y_lt, y_bds]
  show kB 4 gq5 = _
  unfold kB
  rw [y_gs, if_pos (by decide +kernel), y_lt, hNew_nw (by decide +kernel : hZ (sR gq5 1 1 4) + 1 = 16), (by decide +kernel : hZ (sR gq5 1 1 4) + 1 = 16), y_lt]
  show (bd (f_X6_init gq6 16) fun q15 => kC 16 q15) = _
  rw [mk_6, y_gs, if_pos (by decide +kernel), Pn_eq lPo gq6 17 (by decide +kernel) (by decide +kernel) (by decide +kernel), y_bds]
  show kC 16 gq7 = _
  unfold kC
  rw [y_gs, if_pos (by decide +kernel), y_lt, hNew_nw (by decide +kernel : hZ (sR gq7 1 2 16) + 1 = 19), (by decide +kernel : hZ (sR gq7 1 2 16) + 1 = 19), y_lt]
  show (gs gq8 1 9 <| bd (f_X4_init gq8 19 (hR gq8 1 2)) fun q21 => kD 19 q21) = _
  rw [y_gs, if_pos (by decide +kernel), (by decide +kernel : hR gq8 1 2 = 16), mk_4, y_gs, if_pos (by decide +kernel), Pn_eq lHo gq8 20 (by decide +kernel) (by decide +kernel) (by decide +kernel), y_lt]
  show (bd (bd (f_X4_begin gq9 19 (1 : Int32) (1 : Int32)) fun q38 => some q38) fun q21 => kD 19 q21) = _
  rw [mk_4b (h := gq9) (by decide +kernel) (by decide +kernel) (by decide +kernel) (by decide +kernel) (by decide +kernel) (by decide +kernel) (by decide +kernel) (by decide +kernel) (by decide +kernel) (by decide +kernel), y_bds, y_bds]
  show kD 19 gq10 = _
  unfold kD
  rw [y_gs, if_pos (by decide +kernel), y_lt, hNew_nw (by decide +kernel : hZ (sR gq10 1 3 19) + 1 = 31), (by decide +kernel : hZ (sR gq10 1 3 19) + 1 = 31), y_lt, y_gs, if_pos (by decide +kernel), y_lt]
  show (lt (hNew gq11 21 (6 : Int32).toNatClampNeg (6 : Int32).toNatClampNeg) fun h27 => QI (hZ gq11 + 1) (fun h45 => gs h45 1 9 <| lt (sR h45 1 5 (hZ gq11 + 1)) fun h47 => lt (hNew h47 21 (6 : Int32).toNatClampNeg (6 : Int32).toNatClampNeg) fun h48 => gb (ib (0 : Int32) (hN h48 (hZ h47 + 1))) <| lt (sI h48 (hZ h47 + 1) (0 : Int32).toNatClampNeg (1 : Int32)) fun h51 => f_X10_init_L106 h51 1 1 (hZ h47 + 1)) c6 h27) = _
  rw [(by decide +kernel : hZ gq11 + 1 = 32), hNew_nw (by decide +kernel : hZ gq11 + 1 = 32), y_lt, QI_eq (n := 6) c6 _ (by decide +kernel) (by decide +kernel), y_gs, if_pos (by decide +kernel), y_lt]
  show (lt (hNew gq12 21 (6 : Int32).toNatClampNeg (6 : Int32).toNatClampNeg) fun h48 => gb (ib (0 : Int32) (hN h48 (hZ gq12 + 1))) <| lt (sI h48 (hZ gq12 + 1) (0 : Int32).toNatClampNeg (1 : Int32)) fun h51 => f_X10_init_L106 h51 1 1 (hZ gq12 + 1)) = _
  rw [(by decide +kernel : hZ gq12 + 1 = 33), hNew_nw (by decide +kernel : hZ gq12 + 1 = 33), y_lt, y_gb, if_pos (by decide +kernel), y_lt, mk_106, y_gs, if_pos (by decide +kernel), QI_eq (n := 6) _ _ (by decide +kernel) (by decide +kernel), y_gs, if_pos (by decide +kernel), y_lt, y_lt]
  rfl

def kq (h : AH) (c : Nat) : AH := (sR (sI (sR (nw (sR (sR (nw (nw (sR (sR (nw (sR (nw (sR (nw (sR (nw (nw (sR (sR (nw (nw (sR (nw (nw h (34 + 12 * c) 3 0 17) (35 + 12 * c) 21 32 32) (34 + 12 * c) 2 (35 + 12 * c)) (36 + 12 * c) 6 0 3) (37 + 12 * c) 21 48 48) (36 + 12 * c) 0 (37 + 12 * c)) (34 + 12 * c) 5 (36 + 12 * c)) (38 + 12 * c) 2 0 7) (39 + 12 * c) 21 32 32) (38 + 12 * c) 0 (39 + 12 * c)) (40 + 12 * c) 21 32 32) (38 + 12 * c) 1 (40 + 12 * c)) (41 + 12 * c) 21 32 32) (38 + 12 * c) 2 (41 + 12 * c)) (42 + 12 * c) 21 128 128) (38 + 12 * c) 3 (42 + 12 * c)) (34 + 12 * c) 6 (38 + 12 * c)) (43 + 12 * c) 8 0 2) (44 + 12 * c) 21 256 256) (43 + 12 * c) 0 (44 + 12 * c)) (34 + 12 * c) 7 (43 + 12 * c)) (45 + 12 * c) 21 4 4) (34 + 12 * c) 10 (45 + 12 * c)) (34 + 12 * c) 0 (nI c)) (34 + 12 * c) 1 16)
theorem sR_S (h : AH) (o k v a : Nat) : hS (sR h o k v) a = hS h a := rfl
theorem sR_N (h : AH) (o k v a : Nat) : hN (sR h o k v) a = hN h a := rfl
theorem sR_I (h : AH) (o k v a b : Nat) : hI (sR h o k v) a b = hI h a b := rfl
theorem sI_S (h : AH) (o k : Nat) (v : Int32) (a : Nat) : hS (sI h o k v) a = hS h a := rfl
theorem sI_N (h : AH) (o k : Nat) (v : Int32) (a : Nat) : hN (sI h o k v) a = hN h a := rfl
theorem sI_R (h : AH) (o k : Nat) (v : Int32) (a b : Nat) : hR (sI h o k v) a b = hR h a b := rfl
theorem sR_R {h : AH} {o k v a b : Nat} (q : ¬ (a = o ∧ b = k)) : hR (sR h o k v) a b = hR h a b := by rw [x_hR_sR, if_neg q]
theorem sR_R0 {h : AH} {o k v : Nat} : hR (sR h o k v) o k = v := by rw [x_hR_sR, if_pos ⟨rfl, rfl⟩]
theorem kq_Z (h : AH) (c : Nat) : hZ (kq h c) = 45 + 12 * c := rfl
theorem kq_V (h : AH) (c : Nat) : hV (kq h c) = hV h + 593 := rfl
theorem kq_lo (h : AH) {c o : Nat} (ho : o ≤ 33 + 12 * c) : hS (kq h c) o = hS h o ∧ hN (kq h c) o = hN h o ∧ (∀ k, hR (kq h c) o k = hR h o k) ∧ ∀ k, hI (kq h c) o k = hI h o k := by
  unfold kq
  refine ⟨?_, ?_, fun k => ?_, fun k => ?_⟩
  · rw [sR_S, sI_S, sR_S, nw_S (by omega), sR_S, sR_S, nw_S (by omega), nw_S (by omega), sR_S, sR_S, nw_S (by omega), sR_S, nw_S (by omega), sR_S, nw_S (by omega), sR_S, nw_S (by omega), nw_S (by omega), sR_S, sR_S, nw_S (by omega), nw_S (by omega), sR_S, nw_S (by omega), nw_S (by omega)]
  · rw [sR_N, sI_N, sR_N, nw_N (by omega), sR_N, sR_N, nw_N (by omega), nw_N (by omega), sR_N, sR_N, nw_N (by omega), sR_N, nw_N (by omega), sR_N, nw_N (by omega), sR_N, nw_N (by omega), nw_N (by omega), sR_N, sR_N, nw_N (by omega), nw_N (by omega), sR_N, nw_N (by omega), nw_N (by omega)]
  · rw [sR_R (by omega), sI_R, sR_R (by omega), nw_R (by omega), sR_R (by omega), sR_R (by omega), nw_R (by omega), nw_R (by omega), sR_R (by omega), sR_R (by omega), nw_R (by omega), sR_R (by omega), nw_R (by omega), sR_R (by omega), nw_R (by omega), sR_R (by omega), nw_R (by omega), nw_R (by omega), sR_R (by omega), sR_R (by omega), nw_R (by omega), nw_R (by omega), sR_R (by omega), nw_R (by omega), nw_R (by omega)]
  · rw [sR_I, x_ne (by omega), sR_I, nw_I (by omega), sR_I, sR_I, nw_I (by omega), nw_I (by omega), sR_I, sR_I, nw_I (by omega), sR_I, nw_I (by omega), sR_I, nw_I (by omega), sR_I, nw_I (by omega), nw_I (by omega), sR_I, sR_I, nw_I (by omega), nw_I (by omega), sR_I, nw_I (by omega), nw_I (by omega)]
def LK (h : AH) (c : Nat) : Prop := hS h (34 + 12 * c) = 3 ∧ hR h (34 + 12 * c) 1 = 16 ∧ ∀ x, x ∈ lyK → hR h (x.1 + 12 * c) x.2.1 = x.2.2.1 + 12 * c ∧ hS h (x.2.2.1 + 12 * c) = x.2.2.2.1 ∧ hN h (x.2.2.1 + 12 * c) = x.2.2.2.2
theorem kq_LK (h : AH) (c : Nat) : LK (kq h c) c := by
  unfold kq
  refine ⟨?_, ?_, fun x hx => ?_⟩
  · rw [sR_S, sI_S, sR_S, nw_S (by omega), sR_S, sR_S, nw_S (by omega), nw_S (by omega), sR_S, sR_S, nw_S (by omega), sR_S, nw_S (by omega), sR_S, nw_S (by omega), sR_S, nw_S (by omega), nw_S (by omega), sR_S, sR_S, nw_S (by omega), nw_S (by omega), sR_S, nw_S (by omega), nw_S0]
  · rw [sR_R0]
  · simp only [lyK, List.mem_cons, List.not_mem_nil, or_false] at hx
    rcases hx with rfl | rfl | rfl | rfl | rfl | rfl | rfl | rfl | rfl | rfl | rfl
    · dsimp only
      refine ⟨?_, ?_, ?_⟩
      · rw [sR_R (by omega), sI_R, sR_R (by omega), nw_R (by omega), sR_R (by omega), sR_R (by omega), nw_R (by omega), nw_R (by omega), sR_R (by omega), sR_R (by omega), nw_R (by omega), sR_R (by omega), nw_R (by omega), sR_R (by omega), nw_R (by omega), sR_R (by omega), nw_R (by omega), nw_R (by omega), sR_R (by omega), sR_R (by omega), nw_R (by omega), nw_R (by omega), sR_R0]
      · rw [sR_S, sI_S, sR_S, nw_S (by omega), sR_S, sR_S, nw_S (by omega), nw_S (by omega), sR_S, sR_S, nw_S (by omega), sR_S, nw_S (by omega), sR_S, nw_S (by omega), sR_S, nw_S (by omega), nw_S (by omega), sR_S, sR_S, nw_S (by omega), nw_S (by omega), sR_S, nw_S0]
      · rw [sR_N, sI_N, sR_N, nw_N (by omega), sR_N, sR_N, nw_N (by omega), nw_N (by omega), sR_N, sR_N, nw_N (by omega), sR_N, nw_N (by omega), sR_N, nw_N (by omega), sR_N, nw_N (by omega), nw_N (by omega), sR_N, sR_N, nw_N (by omega), nw_N (by omega), sR_N, nw_N0]
    · dsimp only
      refine ⟨?_, ?_, ?_⟩
      · rw [sR_R (by omega), sI_R, sR_R (by omega), nw_R (by omega), sR_R (by omega), sR_R (by omega), nw_R (by omega), nw_R (by omega), sR_R (by omega), sR_R (by omega), nw_R (by omega), sR_R (by omega), nw_R (by omega), sR_R (by omega), nw_R (by omega), sR_R (by omega), nw_R (by omega), nw_R (by omega), sR_R0]
      · rw [sR_S, sI_S, sR_S, nw_S (by omega), sR_S, sR_S, nw_S (by omega), nw_S (by omega), sR_S, sR_S, nw_S (by omega), sR_S, nw_S (by omega), sR_S, nw_S (by omega), sR_S, nw_S (by omega), nw_S (by omega), sR_S, sR_S, nw_S (by omega), nw_S0]
      · rw [sR_N, sI_N, sR_N, nw_N (by omega), sR_N, sR_N, nw_N (by omega), nw_N (by omega), sR_N, sR_N, nw_N (by omega), sR_N, nw_N (by omega), sR_N, nw_N (by omega), sR_N, nw_N (by omega), nw_N (by omega), sR_N, sR_N, nw_N (by omega), nw_N0]
    · dsimp only
      refine ⟨?_, ?_, ?_⟩
      · rw [sR_R (by omega), sI_R, sR_R (by omega), nw_R (by omega), sR_R (by omega), sR_R (by omega), nw_R (by omega), nw_R (by omega), sR_R0]
      · rw [sR_S, sI_S, sR_S, nw_S (by omega), sR_S, sR_S, nw_S (by omega), nw_S (by omega), sR_S, sR_S, nw_S (by omega), sR_S, nw_S (by omega), sR_S, nw_S (by omega), sR_S, nw_S (by omega), nw_S0]
      · rw [sR_N, sI_N, sR_N, nw_N (by omega), sR_N, sR_N, nw_N (by omega), nw_N (by omega), sR_N, sR_N, nw_N (by omega), sR_N, nw_N (by omega), sR_N, nw_N (by omega), sR_N, nw_N (by omega), nw_N0]
    · dsimp only
      refine ⟨?_, ?_, ?_⟩
      · rw [sR_R (by omega), sI_R, sR_R (by omega), nw_R (by omega), sR_R0]
      · rw [sR_S, sI_S, sR_S, nw_S (by omega), sR_S, sR_S, nw_S (by omega), nw_S0]
      · rw [sR_N, sI_N, sR_N, nw_N (by omega), sR_N, sR_N, nw_N (by omega), nw_N0]
    · dsimp only
      refine ⟨?_, ?_, ?_⟩
      · rw [sR_R (by omega), sI_R, sR_R0]
      · rw [sR_S, sI_S, sR_S, nw_S0]
      · rw [sR_N, sI_N, sR_N, nw_N0]
    · dsimp only
      refine ⟨?_, ?_, ?_⟩
      · rw [sR_R (by omega), sI_R, sR_R (by omega), nw_R (by omega), sR_R (by omega), sR_R (by omega), nw_R (by omega), nw_R (by omega), sR_R (by omega), sR_R (by omega), nw_R (by omega), sR_R (by omega), nw_R (by omega), sR_R (by omega), nw_R (by omega), sR_R (by omega), nw_R (by omega), nw_R (by omega), sR_R (by omega), sR_R0]
      · rw [sR_S, sI_S, sR_S, nw_S (by omega), sR_S, sR_S, nw_S (by omega), nw_S (by omega), sR_S, sR_S, nw_S (by omega), sR_S, nw_S (by omega), sR_S, nw_S (by omega), sR_S, nw_S (by omega), nw_S (by omega), sR_S, sR_S, nw_S0]
      · rw [sR_N, sI_N, sR_N, nw_N (by omega), sR_N, sR_N, nw_N (by omega), nw_N (by omega), sR_N, sR_N, nw_N (by omega), sR_N, nw_N (by omega), sR_N, nw_N (by omega), sR_N, nw_N (by omega), nw_N (by omega), sR_N, sR_N, nw_N0]
    · dsimp only
      refine ⟨?_, ?_, ?_⟩
      · rw [sR_R (by omega), sI_R, sR_R (by omega), nw_R (by omega), sR_R (by omega), sR_R (by omega), nw_R (by omega), nw_R (by omega), sR_R (by omega), sR_R (by omega), nw_R (by omega), sR_R (by omega), nw_R (by omega), sR_R (by omega), nw_R (by omega), sR_R0]
      · rw [sR_S, sI_S, sR_S, nw_S (by omega), sR_S, sR_S, nw_S (by omega), nw_S (by omega), sR_S, sR_S, nw_S (by omega), sR_S, nw_S (by omega), sR_S, nw_S (by omega), sR_S, nw_S0]
      · rw [sR_N, sI_N, sR_N, nw_N (by omega), sR_N, sR_N, nw_N (by omega), nw_N (by omega), sR_N, sR_N, nw_N (by omega), sR_N, nw_N (by omega), sR_N, nw_N (by omega), sR_N, nw_N0]
    · dsimp only
      refine ⟨?_, ?_, ?_⟩
      · rw [sR_R (by omega), sI_R, sR_R (by omega), nw_R (by omega), sR_R (by omega), sR_R (by omega), nw_R (by omega), nw_R (by omega), sR_R (by omega), sR_R (by omega), nw_R (by omega), sR_R (by omega), nw_R (by omega), sR_R0]
      · rw [sR_S, sI_S, sR_S, nw_S (by omega), sR_S, sR_S, nw_S (by omega), nw_S (by omega), sR_S, sR_S, nw_S (by omega), sR_S, nw_S (by omega), sR_S, nw_S0]
      · rw [sR_N, sI_N, sR_N, nw_N (by omega), sR_N, sR_N, nw_N (by omega), nw_N (by omega), sR_N, sR_N, nw_N (by omega), sR_N, nw_N (by omega), sR_N, nw_N0]
    · dsimp only
      refine ⟨?_, ?_, ?_⟩
      · rw [sR_R (by omega), sI_R, sR_R (by omega), nw_R (by omega), sR_R (by omega), sR_R (by omega), nw_R (by omega), nw_R (by omega), sR_R (by omega), sR_R (by omega), nw_R (by omega), sR_R0]
      · rw [sR_S, sI_S, sR_S, nw_S (by omega), sR_S, sR_S, nw_S (by omega), nw_S (by omega), sR_S, sR_S, nw_S (by omega), sR_S, nw_S0]
      · rw [sR_N, sI_N, sR_N, nw_N (by omega), sR_N, sR_N, nw_N (by omega), nw_N (by omega), sR_N, sR_N, nw_N (by omega), sR_N, nw_N0]
    · dsimp only
      refine ⟨?_, ?_, ?_⟩
      · rw [sR_R (by omega), sI_R, sR_R (by omega), nw_R (by omega), sR_R (by omega), sR_R (by omega), nw_R (by omega), nw_R (by omega), sR_R (by omega), sR_R0]
      · rw [sR_S, sI_S, sR_S, nw_S (by omega), sR_S, sR_S, nw_S (by omega), nw_S (by omega), sR_S, sR_S, nw_S0]
      · rw [sR_N, sI_N, sR_N, nw_N (by omega), sR_N, sR_N, nw_N (by omega), nw_N (by omega), sR_N, sR_N, nw_N0]
    · dsimp only
      refine ⟨?_, ?_, ?_⟩
      · rw [sR_R (by omega), sI_R, sR_R (by omega), nw_R (by omega), sR_R (by omega), sR_R0]
      · rw [sR_S, sI_S, sR_S, nw_S (by omega), sR_S, sR_S, nw_S0]
      · rw [sR_N, sI_N, sR_N, nw_N (by omega), sR_N, sR_N, nw_N0]
theorem kq_I (h : AH) (c : Nat) : hI (kq h c) (34 + 12 * c) 0 = nI c ∧ ∀ k, hI (kq h c) (45 + 12 * c) k = 0 ∧ hI (kq h c) (41 + 12 * c) k = 0 ∧ hI (kq h c) (42 + 12 * c) k = 0 := by
  unfold kq
  refine ⟨?_, fun k => ⟨?_, ?_, ?_⟩⟩
  · rw [sR_I, x_eq]
  · rw [sR_I, x_ne (by omega), sR_I, nw_I0]
  · rw [sR_I, x_ne (by omega), sR_I, nw_I (by omega), sR_I, sR_I, nw_I (by omega), nw_I (by omega), sR_I, sR_I, nw_I (by omega), sR_I, nw_I0]
  · rw [sR_I, x_ne (by omega), sR_I, nw_I (by omega), sR_I, sR_I, nw_I (by omega), nw_I (by omega), sR_I, sR_I, nw_I0]
section LKS
variable {h : AH} {c : Nat}
theorem kk_S34 (L : LK h c) : hS h (34 + 12 * c) = 3 := L.1
theorem kk_R34_2 (L : LK h c) : hR h (34 + 12 * c) 2 = 35 + 12 * c := (L.2.2 (34, 2, 35, 21, 32) (List.mem_of_getElem? (l := lyK) (i := 0) rfl)).1
theorem kk_S35 (L : LK h c) : hS h (35 + 12 * c) = 21 := (L.2.2 (34, 2, 35, 21, 32) (List.mem_of_getElem? (l := lyK) (i := 0) rfl)).2.1
theorem kk_N35 (L : LK h c) : hN h (35 + 12 * c) = 32 := (L.2.2 (34, 2, 35, 21, 32) (List.mem_of_getElem? (l := lyK) (i := 0) rfl)).2.2
theorem kk_R34_5 (L : LK h c) : hR h (34 + 12 * c) 5 = 36 + 12 * c := (L.2.2 (34, 5, 36, 6, 0) (List.mem_of_getElem? (l := lyK) (i := 1) rfl)).1
theorem kk_S36 (L : LK h c) : hS h (36 + 12 * c) = 6 := (L.2.2 (34, 5, 36, 6, 0) (List.mem_of_getElem? (l := lyK) (i := 1) rfl)).2.1
theorem kk_N36 (L : LK h c) : hN h (36 + 12 * c) = 0 := (L.2.2 (34, 5, 36, 6, 0) (List.mem_of_getElem? (l := lyK) (i := 1) rfl)).2.2
theorem kk_R34_6 (L : LK h c) : hR h (34 + 12 * c) 6 = 38 + 12 * c := (L.2.2 (34, 6, 38, 2, 0) (List.mem_of_getElem? (l := lyK) (i := 2) rfl)).1
theorem kk_S38 (L : LK h c) : hS h (38 + 12 * c) = 2 := (L.2.2 (34, 6, 38, 2, 0) (List.mem_of_getElem? (l := lyK) (i := 2) rfl)).2.1
theorem kk_N38 (L : LK h c) : hN h (38 + 12 * c) = 0 := (L.2.2 (34, 6, 38, 2, 0) (List.mem_of_getElem? (l := lyK) (i := 2) rfl)).2.2
theorem kk_R34_7 (L : LK h c) : hR h (34 + 12 * c) 7 = 43 + 12 * c := (L.2.2 (34, 7, 43, 8, 0) (List.mem_of_getElem? (l := lyK) (i := 3) rfl)).1
theorem kk_S43 (L : LK h c) : hS h (43 + 12 * c) = 8 := (L.2.2 (34, 7, 43, 8, 0) (List.mem_of_getElem? (l := lyK) (i := 3) rfl)).2.1
theorem kk_N43 (L : LK h c) : hN h (43 + 12 * c) = 0 := (L.2.2 (34, 7, 43, 8, 0) (List.mem_of_getElem? (l := lyK) (i := 3) rfl)).2.2
theorem kk_R34_10 (L : LK h c) : hR h (34 + 12 * c) 10 = 45 + 12 * c := (L.2.2 (34, 10, 45, 21, 4) (List.mem_of_getElem? (l := lyK) (i := 4) rfl)).1
theorem kk_S45 (L : LK h c) : hS h (45 + 12 * c) = 21 := (L.2.2 (34, 10, 45, 21, 4) (List.mem_of_getElem? (l := lyK) (i := 4) rfl)).2.1
theorem kk_N45 (L : LK h c) : hN h (45 + 12 * c) = 4 := (L.2.2 (34, 10, 45, 21, 4) (List.mem_of_getElem? (l := lyK) (i := 4) rfl)).2.2
theorem kk_R36_0 (L : LK h c) : hR h (36 + 12 * c) 0 = 37 + 12 * c := (L.2.2 (36, 0, 37, 21, 48) (List.mem_of_getElem? (l := lyK) (i := 5) rfl)).1
theorem kk_S37 (L : LK h c) : hS h (37 + 12 * c) = 21 := (L.2.2 (36, 0, 37, 21, 48) (List.mem_of_getElem? (l := lyK) (i := 5) rfl)).2.1
theorem kk_N37 (L : LK h c) : hN h (37 + 12 * c) = 48 := (L.2.2 (36, 0, 37, 21, 48) (List.mem_of_getElem? (l := lyK) (i := 5) rfl)).2.2
theorem kk_R38_0 (L : LK h c) : hR h (38 + 12 * c) 0 = 39 + 12 * c := (L.2.2 (38, 0, 39, 21, 32) (List.mem_of_getElem? (l := lyK) (i := 6) rfl)).1
theorem kk_S39 (L : LK h c) : hS h (39 + 12 * c) = 21 := (L.2.2 (38, 0, 39, 21, 32) (List.mem_of_getElem? (l := lyK) (i := 6) rfl)).2.1
theorem kk_N39 (L : LK h c) : hN h (39 + 12 * c) = 32 := (L.2.2 (38, 0, 39, 21, 32) (List.mem_of_getElem? (l := lyK) (i := 6) rfl)).2.2
theorem kk_R38_1 (L : LK h c) : hR h (38 + 12 * c) 1 = 40 + 12 * c := (L.2.2 (38, 1, 40, 21, 32) (List.mem_of_getElem? (l := lyK) (i := 7) rfl)).1
theorem kk_S40 (L : LK h c) : hS h (40 + 12 * c) = 21 := (L.2.2 (38, 1, 40, 21, 32) (List.mem_of_getElem? (l := lyK) (i := 7) rfl)).2.1
theorem kk_N40 (L : LK h c) : hN h (40 + 12 * c) = 32 := (L.2.2 (38, 1, 40, 21, 32) (List.mem_of_getElem? (l := lyK) (i := 7) rfl)).2.2
theorem kk_R38_2 (L : LK h c) : hR h (38 + 12 * c) 2 = 41 + 12 * c := (L.2.2 (38, 2, 41, 21, 32) (List.mem_of_getElem? (l := lyK) (i := 8) rfl)).1
theorem kk_S41 (L : LK h c) : hS h (41 + 12 * c) = 21 := (L.2.2 (38, 2, 41, 21, 32) (List.mem_of_getElem? (l := lyK) (i := 8) rfl)).2.1
theorem kk_N41 (L : LK h c) : hN h (41 + 12 * c) = 32 := (L.2.2 (38, 2, 41, 21, 32) (List.mem_of_getElem? (l := lyK) (i := 8) rfl)).2.2
theorem kk_R38_3 (L : LK h c) : hR h (38 + 12 * c) 3 = 42 + 12 * c := (L.2.2 (38, 3, 42, 21, 128) (List.mem_of_getElem? (l := lyK) (i := 9) rfl)).1
theorem kk_S42 (L : LK h c) : hS h (42 + 12 * c) = 21 := (L.2.2 (38, 3, 42, 21, 128) (List.mem_of_getElem? (l := lyK) (i := 9) rfl)).2.1
theorem kk_N42 (L : LK h c) : hN h (42 + 12 * c) = 128 := (L.2.2 (38, 3, 42, 21, 128) (List.mem_of_getElem? (l := lyK) (i := 9) rfl)).2.2
theorem kk_R43_0 (L : LK h c) : hR h (43 + 12 * c) 0 = 44 + 12 * c := (L.2.2 (43, 0, 44, 21, 256) (List.mem_of_getElem? (l := lyK) (i := 10) rfl)).1
theorem kk_S44 (L : LK h c) : hS h (44 + 12 * c) = 21 := (L.2.2 (43, 0, 44, 21, 256) (List.mem_of_getElem? (l := lyK) (i := 10) rfl)).2.1
theorem kk_N44 (L : LK h c) : hN h (44 + 12 * c) = 256 := (L.2.2 (43, 0, 44, 21, 256) (List.mem_of_getElem? (l := lyK) (i := 10) rfl)).2.2
end LKS
theorem c_beginKk {h : AH} {c : Nat} (L : LK h c) (a1 a2 a3 a4 : Int32) : ∃ h', f_X3_begin h (34 + 12 * c) a1 a2 a3 a4 = some h' ∧ h'.2 = h.2 ∧ (∀ o k, ¬ bcell c o k → hI h' o k = hI h o k) ∧ CF h' c a1 a2 a3 a4 := by
  have L2 : LK (flR h (35 + 12 * c) 32 (0 : Int32)) c := L
  have L6 : LK (sI (sI (flR h (35 + 12 * c) 32 (0 : Int32)) (34 + 12 * c) 3 a1) (34 + 12 * c) 4 (0 : Int32)) c := L
  have L9 : LK (sI (sI (sI (sI (flR h (35 + 12 * c) 32 (0 : Int32)) (34 + 12 * c) 3 a1) (34 + 12 * c) 4 (0 : Int32)) (36 + 12 * c) 2 a2) (36 + 12 * c) 1 (0 : Int32)) c := L
  have L10 : LK (sI (sI (sI (sI (sI (sI (sI (flR h (35 + 12 * c) 32 (0 : Int32)) (34 + 12 * c) 3 a1) (34 + 12 * c) 4 (0 : Int32)) (36 + 12 * c) 2 a2) (36 + 12 * c) 1 (0 : Int32)) (38 + 12 * c) 4 a3) (38 + 12 * c) 5 a4) (38 + 12 * c) 6 (0 : Int32)) c := L
  have L12 : LK (flR (sI (sI (sI (sI (sI (sI (sI (flR h (35 + 12 * c) 32 (0 : Int32)) (34 + 12 * c) 3 a1) (34 + 12 * c) 4 (0 : Int32)) (36 + 12 * c) 2 a2) (36 + 12 * c) 1 (0 : Int32)) (38 + 12 * c) 4 a3) (38 + 12 * c) 5 a4) (38 + 12 * c) 6 (0 : Int32)) (40 + 12 * c) 32 (0 : Int32)) c := L
  refine ⟨(sI (sI (sI (sI (sI (sI (sI (sI (flR (sI (sI (sI (sI (sI (sI (sI (flR h (35 + 12 * c) 32 (0 : Int32)) (34 + 12 * c) 3 a1) (34 + 12 * c) 4 (0 : Int32)) (36 + 12 * c) 2 a2) (36 + 12 * c) 1 (0 : Int32)) (38 + 12 * c) 4 a3) (38 + 12 * c) 5 a4) (38 + 12 * c) 6 (0 : Int32)) (40 + 12 * c) 32 (0 : Int32)) (43 + 12 * c) 1 (0 : Int32)) (34 + 12 * c) 8 (-1 : Int32)) (34 + 12 * c) 9 (0 : Int32)) (34 + 12 * c) 11 (-1 : Int32)) (34 + 12 * c) 12 (0 : Int32)) (34 + 12 * c) 13 (0 : Int32)) (34 + 12 * c) 14 (0 : Int32)) (34 + 12 * c) 15 (0 : Int32)), ?_, rfl, fun o k q => ?_, ?_⟩
  · unfold f_X3_begin f_X7_begin f_X2_begin
    rw [y_gs, if_pos (kk_S34 L), kk_R34_2 L, c_fill53 _ (kk_S35 L) (kk_N35 L) (by omega), y_bds, y_gs, if_pos (kk_S34 L2), y_lt, y_lt, kk_R34_5 L6, y_gs, if_pos (kk_S36 L6), y_gs, if_pos (kk_S36 L6), y_lt, y_lt, y_bds, y_gs, if_pos (kk_S34 L9), kk_R34_6 L9, y_gs, if_pos (kk_S38 L9), y_gs, if_pos (kk_S38 L9), y_lt, y_lt, y_lt, kk_R38_1 L10, c_fill53 _ (kk_S40 L10) (kk_N40 L10) (by omega), y_bds, y_bds, y_gs, if_pos (kk_S34 L12), kk_R34_7 L12, y_gs, if_pos (kk_S43 L12), y_lt, y_lt, y_lt, y_lt, y_lt, y_lt, y_lt, y_lt]
  · unfold bcell at q
    rw [x_ne (by omega), x_ne (by omega), x_ne (by omega), x_ne (by omega), x_ne (by omega), x_ne (by omega), x_ne (by omega), x_ne (by omega), flR_ne (by omega), x_ne (by omega), x_ne (by omega), x_ne (by omega), x_ne (by omega), x_ne (by omega), x_ne (by omega), x_ne (by omega), flR_ne (by omega)]
  · refine ⟨fun r hr => ?_, ⟨?_, ?_⟩, ⟨?_, ?_⟩, ⟨?_, ?_, ?_⟩, fun r hr => ?_, ?_, ⟨?_, ?_, ?_, ?_, ?_, ?_, ?_⟩⟩
    · rw [x_ne (by omega), x_ne (by omega), x_ne (by omega), x_ne (by omega), x_ne (by omega), x_ne (by omega), x_ne (by omega), x_ne (by omega), flR_ne (by omega), x_ne (by omega), x_ne (by omega), x_ne (by omega), x_ne (by omega), x_ne (by omega), x_ne (by omega), x_ne (by omega), flR_eq hr]
    · rw [x_ne (by omega), x_ne (by omega), x_ne (by omega), x_ne (by omega), x_ne (by omega), x_ne (by omega), x_ne (by omega), x_ne (by omega), flR_ne (by omega), x_ne (by omega), x_ne (by omega), x_ne (by omega), x_ne (by omega), x_ne (by omega), x_ne (by omega), x_eq]
    · rw [x_ne (by omega), x_ne (by omega), x_ne (by omega), x_ne (by omega), x_ne (by omega), x_ne (by omega), x_ne (by omega), x_ne (by omega), flR_ne (by omega), x_ne (by omega), x_ne (by omega), x_ne (by omega), x_ne (by omega), x_ne (by omega), x_eq]
    · rw [x_ne (by omega), x_ne (by omega), x_ne (by omega), x_ne (by omega), x_ne (by omega), x_ne (by omega), x_ne (by omega), x_ne (by omega), flR_ne (by omega), x_ne (by omega), x_ne (by omega), x_ne (by omega), x_eq]
    · rw [x_ne (by omega), x_ne (by omega), x_ne (by omega), x_ne (by omega), x_ne (by omega), x_ne (by omega), x_ne (by omega), x_ne (by omega), flR_ne (by omega), x_ne (by omega), x_ne (by omega), x_ne (by omega), x_ne (by omega), x_eq]
    · rw [x_ne (by omega), x_ne (by omega), x_ne (by omega), x_ne (by omega), x_ne (by omega), x_ne (by omega), x_ne (by omega), x_ne (by omega), flR_ne (by omega), x_ne (by omega), x_ne (by omega), x_eq]
    · rw [x_ne (by omega), x_ne (by omega), x_ne (by omega), x_ne (by omega), x_ne (by omega), x_ne (by omega), x_ne (by omega), x_ne (by omega), flR_ne (by omega), x_ne (by omega), x_eq]
    · rw [x_ne (by omega), x_ne (by omega), x_ne (by omega), x_ne (by omega), x_ne (by omega), x_ne (by omega), x_ne (by omega), x_ne (by omega), flR_ne (by omega), x_eq]
    · rw [x_ne (by omega), x_ne (by omega), x_ne (by omega), x_ne (by omega), x_ne (by omega), x_ne (by omega), x_ne (by omega), x_ne (by omega), flR_eq hr]
    · rw [x_ne (by omega), x_ne (by omega), x_ne (by omega), x_ne (by omega), x_ne (by omega), x_ne (by omega), x_ne (by omega), x_eq]
    · rw [x_ne (by omega), x_ne (by omega), x_ne (by omega), x_ne (by omega), x_ne (by omega), x_ne (by omega), x_eq]
    · rw [x_ne (by omega), x_ne (by omega), x_ne (by omega), x_ne (by omega), x_ne (by omega), x_eq]
    · rw [x_ne (by omega), x_ne (by omega), x_ne (by omega), x_ne (by omega), x_eq]
    · rw [x_ne (by omega), x_ne (by omega), x_ne (by omega), x_eq]
    · rw [x_ne (by omega), x_ne (by omega), x_eq]
    · rw [x_ne (by omega), x_eq]
    · rw [x_eq]
theorem mk_3 (h : AH) (a0 : Nat) (a1 : Int32) (a2 : Nat) : f_X3_init h a0 a1 a2 = gs h a0 3 (Pn a0 3 (fun h4 => lt (hNew h4 6 0 3) fun h5 => bd (f_X7_init h5 (hZ h4 + 1)) fun q7 => gs q7 a0 3 <| lt (sR q7 a0 5 (hZ h4 + 1)) fun h9 => lt (hNew h9 2 0 7) fun h10 => bd (f_X2_init h10 (hZ h9 + 1)) fun q12 => gs q12 a0 3 <| lt (sR q12 a0 6 (hZ h9 + 1)) fun h14 => lt (hNew h14 8 0 2) fun h15 => bd (f_X9_init h15 (hZ h14 + 1)) fun q17 => gs q17 a0 3 <| lt (sR q17 a0 7 (hZ h14 + 1)) fun h19 => Pn a0 3 (fun h22 => lt (sI h22 a0 0 a1) fun h24 => lt (sR h24 a0 1 a2) fun h26 => bd (f_X3_begin h26 a0 (0 : Int32) (1 : Int32) (1 : Int32) (1 : Int32)) fun q28 => some q28) [(10, 21, (4 : Int32).toNatClampNeg)] h19) [(2, 21, (32 : Int32).toNatClampNeg)] h) := rfl
def kz3 (a0 : Nat) (a1 : Int32) (a2 : Nat) (h19 : AH) : Option AH := Pn a0 3 (fun h22 => lt (sI h22 a0 0 a1) fun h24 => lt (sR h24 a0 1 a2) fun h26 => bd (f_X3_begin h26 a0 (0 : Int32) (1 : Int32) (1 : Int32) (1 : Int32)) fun q28 => some q28) [(10, 21, (4 : Int32).toNatClampNeg)] h19
def kz2 (a0 : Nat) (a1 : Int32) (a2 : Nat) (h14 : AH) : Option AH := lt (hNew h14 8 0 2) fun h15 => bd (f_X9_init h15 (hZ h14 + 1)) fun q17 => gs q17 a0 3 <| lt (sR q17 a0 7 (hZ h14 + 1)) fun h19 => kz3 a0 a1 a2 h19
def kz1 (a0 : Nat) (a1 : Int32) (a2 : Nat) (h9 : AH) : Option AH := lt (hNew h9 2 0 7) fun h10 => bd (f_X2_init h10 (hZ h9 + 1)) fun q12 => gs q12 a0 3 <| lt (sR q12 a0 6 (hZ h9 + 1)) fun h14 => kz2 a0 a1 a2 h14
def kz0 (a0 : Nat) (a1 : Int32) (a2 : Nat) (h4 : AH) : Option AH := lt (hNew h4 6 0 3) fun h5 => bd (f_X7_init h5 (hZ h4 + 1)) fun q7 => gs q7 a0 3 <| lt (sR q7 a0 5 (hZ h4 + 1)) fun h9 => kz1 a0 a1 a2 h9
theorem mk_3k (h : AH) (a0 : Nat) (a1 : Int32) (a2 : Nat) : f_X3_init h a0 a1 a2 = gs h a0 3 (Pn a0 3 (fun h4 => kz0 a0 a1 a2 h4) [(2, 21, (32 : Int32).toNatClampNeg)] h) := rfl
def ku1 (h : AH) (c : Nat) : AH := (sR (nw (nw h (34 + 12 * c) 3 0 17) (35 + 12 * c) 21 32 32) (34 + 12 * c) 2 (35 + 12 * c))
def ku2 (h : AH) (c : Nat) : AH := (sR (sR (nw (nw (sR (nw (nw h (34 + 12 * c) 3 0 17) (35 + 12 * c) 21 32 32) (34 + 12 * c) 2 (35 + 12 * c)) (36 + 12 * c) 6 0 3) (37 + 12 * c) 21 48 48) (36 + 12 * c) 0 (37 + 12 * c)) (34 + 12 * c) 5 (36 + 12 * c))
def ku3 (h : AH) (c : Nat) : AH := (sR (sR (nw (sR (nw (sR (nw (sR (nw (nw (sR (sR (nw (nw (sR (nw (nw h (34 + 12 * c) 3 0 17) (35 + 12 * c) 21 32 32) (34 + 12 * c) 2 (35 + 12 * c)) (36 + 12 * c) 6 0 3) (37 + 12 * c) 21 48 48) (36 + 12 * c) 0 (37 + 12 * c)) (34 + 12 * c) 5 (36 + 12 * c)) (38 + 12 * c) 2 0 7) (39 + 12 * c) 21 32 32) (38 + 12 * c) 0 (39 + 12 * c)) (40 + 12 * c) 21 32 32) (38 + 12 * c) 1 (40 + 12 * c)) (41 + 12 * c) 21 32 32) (38 + 12 * c) 2 (41 + 12 * c)) (42 + 12 * c) 21 128 128) (38 + 12 * c) 3 (42 + 12 * c)) (34 + 12 * c) 6 (38 + 12 * c))
def ku4 (h : AH) (c : Nat) : AH := (sR (sR (nw (nw (sR (sR (nw (sR (nw (sR (nw (sR (nw (nw (sR (sR (nw (nw (sR (nw (nw h (34 + 12 * c) 3 0 17) (35 + 12 * c) 21 32 32) (34 + 12 * c) 2 (35 + 12 * c)) (36 + 12 * c) 6 0 3) (37 + 12 * c) 21 48 48) (36 + 12 * c) 0 (37 + 12 * c)) (34 + 12 * c) 5 (36 + 12 * c)) (38 + 12 * c) 2 0 7) (39 + 12 * c) 21 32 32) (38 + 12 * c) 0 (39 + 12 * c)) (40 + 12 * c) 21 32 32) (38 + 12 * c) 1 (40 + 12 * c)) (41 + 12 * c) 21 32 32) (38 + 12 * c) 2 (41 + 12 * c)) (42 + 12 * c) 21 128 128) (38 + 12 * c) 3 (42 + 12 * c)) (34 + 12 * c) 6 (38 + 12 * c)) (43 + 12 * c) 8 0 2) (44 + 12 * c) 21 256 256) (43 + 12 * c) 0 (44 + 12 * c)) (34 + 12 * c) 7 (43 + 12 * c))
theorem mk_core {h : AH} {c : Nat} : f_X3_init (nw h (34 + 12 * c) 3 0 17) (34 + 12 * c) (nI c) 16 = (bd (f_X3_begin (kq h c) (34 + 12 * c) (0 : Int32) (1 : Int32) (1 : Int32) (1 : Int32)) fun q => some q) := by
  rw [mk_3k, y_gs, if_pos nw_S0, Pn_eq _ _ (35 + 12 * c) nw_S0 (show 34 + 12 * c ≤ 34 + 12 * c by omega) (show 34 + 12 * c + 1 = 35 + 12 * c by omega)]
  show kz0 (34 + 12 * c) (nI c) 16 (ku1 h c) = _
  unfold kz0
  rw [(show hZ (ku1 h c) + 1 = 36 + 12 * c by show 35 + 12 * c + 1 = _; omega), hNew_nw (show hZ (ku1 h c) + 1 = 36 + 12 * c by show 35 + 12 * c + 1 = _; omega), y_lt, mk_7, y_gs, if_pos nw_S0, Pn_eq _ _ (37 + 12 * c) nw_S0 (show 36 + 12 * c ≤ 36 + 12 * c by omega) (show 36 + 12 * c + 1 = 37 + 12 * c by omega), y_bds, y_gs, if_pos (show hS (nfx (36 + 12 * c) [(0, 21, (48 : Int32).toNatClampNeg)] (nw (ku1 h c) (36 + 12 * c) 6 0 3) (37 + 12 * c)) (34 + 12 * c) = 3 from (show hS (sR (nw (nw (sR (nw (nw h (34 + 12 * c) 3 0 17) (35 + 12 * c) 21 32 32) (34 + 12 * c) 2 (35 + 12 * c)) (36 + 12 * c) 6 0 3) (37 + 12 * c) 21 48 48) (36 + 12 * c) 0 (37 + 12 * c)) (34 + 12 * c) = 3 by rw [sR_S, nw_S (by omega), nw_S (by omega), sR_S, nw_S (by omega), nw_S0])), y_lt]
  show kz1 (34 + 12 * c) (nI c) 16 (ku2 h c) = _
  unfold kz1
  rw [(show hZ (ku2 h c) + 1 = 38 + 12 * c by show 37 + 12 * c + 1 = _; omega), hNew_nw (show hZ (ku2 h c) + 1 = 38 + 12 * c by show 37 + 12 * c + 1 = _; omega), y_lt, mk_2, y_gs, if_pos nw_S0, Pn_eq _ _ (39 + 12 * c) nw_S0 (show 38 + 12 * c ≤ 38 + 12 * c by omega) (show 38 + 12 * c + 1 = 39 + 12 * c by omega), y_bds]
  show (gs (nfx (38 + 12 * c) lCa (nw (ku2 h c) (38 + 12 * c) 2 0 7) (39 + 12 * c)) (34 + 12 * c) 3 <| lt (sR (nfx (38 + 12 * c) lCa (nw (ku2 h c) (38 + 12 * c) 2 0 7) (39 + 12 * c)) (34 + 12 * c) 6 (38 + 12 * c)) fun h14 => kz2 (34 + 12 * c) (nI c) 16 h14) = _
  rw [show nfx (38 + 12 * c) lCa (nw (ku2 h c) (38 + 12 * c) 2 0 7) (39 + 12 * c) = (sR (nw (sR (nw (sR (nw (sR (nw (nw (sR (sR (nw (nw (sR (nw (nw h (34 + 12 * c) 3 0 17) (35 + 12 * c) 21 32 32) (34 + 12 * c) 2 (35 + 12 * c)) (36 + 12 * c) 6 0 3) (37 + 12 * c) 21 48 48) (36 + 12 * c) 0 (37 + 12 * c)) (34 + 12 * c) 5 (36 + 12 * c)) (38 + 12 * c) 2 0 7) (39 + 12 * c) 21 32 32) (38 + 12 * c) 0 (39 + 12 * c)) (40 + 12 * c) 21 32 32) (38 + 12 * c) 1 (40 + 12 * c)) (41 + 12 * c) 21 32 32) (38 + 12 * c) 2 (41 + 12 * c)) (42 + 12 * c) 21 128 128) (38 + 12 * c) 3 (42 + 12 * c)) by unfold ku2 lCa nfx nfx nfx nfx nfx; rw [show 39 + 12 * c + 1 = 40 + 12 * c by omega, show 40 + 12 * c + 1 = 41 + 12 * c by omega, show 41 + 12 * c + 1 = 42 + 12 * c by omega]; rfl, y_gs, if_pos (show hS (sR (nw (sR (nw (sR (nw (sR (nw (nw (sR (sR (nw (nw (sR (nw (nw h (34 + 12 * c) 3 0 17) (35 + 12 * c) 21 32 32) (34 + 12 * c) 2 (35 + 12 * c)) (36 + 12 * c) 6 0 3) (37 + 12 * c) 21 48 48) (36 + 12 * c) 0 (37 + 12 * c)) (34 + 12 * c) 5 (36 + 12 * c)) (38 + 12 * c) 2 0 7) (39 + 12 * c) 21 32 32) (38 + 12 * c) 0 (39 + 12 * c)) (40 + 12 * c) 21 32 32) (38 + 12 * c) 1 (40 + 12 * c)) (41 + 12 * c) 21 32 32) (38 + 12 * c) 2 (41 + 12 * c)) (42 + 12 * c) 21 128 128) (38 + 12 * c) 3 (42 + 12 * c)) (34 + 12 * c) = 3 by rw [sR_S, nw_S (by omega), sR_S, nw_S (by omega), sR_S, nw_S (by omega), sR_S, nw_S (by omega), nw_S (by omega), sR_S, sR_S, nw_S (by omega), nw_S (by omega), sR_S, nw_S (by omega), nw_S0]), y_lt]
  show kz2 (34 + 12 * c) (nI c) 16 (ku3 h c) = _
  unfold kz2
  rw [(show hZ (ku3 h c) + 1 = 43 + 12 * c by show 42 + 12 * c + 1 = _; omega), hNew_nw (show hZ (ku3 h c) + 1 = 43 + 12 * c by show 42 + 12 * c + 1 = _; omega), y_lt, mk_9, y_gs, if_pos nw_S0, Pn_eq _ _ (44 + 12 * c) nw_S0 (show 43 + 12 * c ≤ 43 + 12 * c by omega) (show 43 + 12 * c + 1 = 44 + 12 * c by omega), y_bds, y_gs, if_pos (show hS (nfx (43 + 12 * c) [(0, 21, (256 : Int32).toNatClampNeg)] (nw (ku3 h c) (43 + 12 * c) 8 0 2) (44 + 12 * c)) (34 + 12 * c) = 3 from (show hS (sR (nw (nw (sR (sR (nw (sR (nw (sR (nw (sR (nw (nw (sR (sR (nw (nw (sR (nw (nw h (34 + 12 * c) 3 0 17) (35 + 12 * c) 21 32 32) (34 + 12 * c) 2 (35 + 12 * c)) (36 + 12 * c) 6 0 3) (37 + 12 * c) 21 48 48) (36 + 12 * c) 0 (37 + 12 * c)) (34 + 12 * c) 5 (36 + 12 * c)) (38 + 12 * c) 2 0 7) (39 + 12 * c) 21 32 32) (38 + 12 * c) 0 (39 + 12 * c)) (40 + 12 * c) 21 32 32) (38 + 12 * c) 1 (40 + 12 * c)) (41 + 12 * c) 21 32 32) (38 + 12 * c) 2 (41 + 12 * c)) (42 + 12 * c) 21 128 128) (38 + 12 * c) 3 (42 + 12 * c)) (34 + 12 * c) 6 (38 + 12 * c)) (43 + 12 * c) 8 0 2) (44 + 12 * c) 21 256 256) (43 + 12 * c) 0 (44 + 12 * c)) (34 + 12 * c) = 3 by rw [sR_S, nw_S (by omega), nw_S (by omega), sR_S, sR_S, nw_S (by omega), sR_S, nw_S (by omega), sR_S, nw_S (by omega), sR_S, nw_S (by omega), nw_S (by omega), sR_S, sR_S, nw_S (by omega), nw_S (by omega), sR_S, nw_S (by omega), nw_S0])), y_lt]
  show kz3 (34 + 12 * c) (nI c) 16 (ku4 h c) = _
  unfold kz3
  rw [Pn_eq _ _ (45 + 12 * c) (show hS (ku4 h c) (34 + 12 * c) = 3 by unfold ku4; rw [sR_S, sR_S, nw_S (by omega), nw_S (by omega), sR_S, sR_S, nw_S (by omega), sR_S, nw_S (by omega), sR_S, nw_S (by omega), sR_S, nw_S (by omega), nw_S (by omega), sR_S, sR_S, nw_S (by omega), nw_S (by omega), sR_S, nw_S (by omega), nw_S0]) (show 34 + 12 * c ≤ 44 + 12 * c by omega) (show 44 + 12 * c + 1 = 45 + 12 * c by omega), y_lt, y_lt]
  rfl
