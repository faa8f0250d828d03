theorem parts_all {m : AH} {how op : Nat} (hop : op < 61) (hh : how ≤ 16) (h1 : how = 1 → True) (H : Rch (hnO how op) (moO how) (muO how) (opl how) m) : f_X11_wantParts m 226 (nI how) (nI op) = rsq (hnO how op) (moO how) (muO how) (opl how) m := by
  have hd : f_X11_wantParts m 226 (nI how) (nI op) = f_X11_wantParts_L18 m 226 (nI how) (nI (if 16 ≤ op ∧ op ≤ 18 then 6 else 0)) := by
    unfold f_X11_wantParts f_X11_wantParts_L17
    by_cases g1 : op ≤ 15
    · rw [if_pos (show nI op ≤ (15 : Int32) from (q_le (b := 15) (by omega) (by omega)).mpr g1), if_neg (by omega)]; rfl
    · rw [if_neg (show ¬ nI op ≤ (15 : Int32) from fun q => g1 ((q_le (b := 15) (by omega) (by omega)).mp q))]
      by_cases g2 : 19 ≤ op
      · rw [if_pos (show (19 : Int32) ≤ nI op from (q_le (a := 19) (by omega) (by omega)).mpr g2), if_neg (by omega)]; rfl
      · rw [if_neg (show ¬ (19 : Int32) ≤ nI op from fun q => g2 ((q_le (a := 19) (by omega) (by omega)).mp q)), if_pos (by omega)]; rfl
  rw [hd]
  have : how = 0 ∨ how = 1 ∨ how = 2 ∨ how = 3 ∨ how = 4 ∨ how = 5 ∨ how = 6 ∨ how = 7 ∨ how = 8 ∨ how = 9 ∨ how = 10 ∨ how = 11 ∨ how = 12 ∨ how = 13 ∨ how = 14 ∨ how = 15 ∨ how = 16 := by omega
  rcases this with rfl | rfl | rfl | rfl | rfl | rfl | rfl | rfl | rfl | rfl | rfl | rfl | rfl | rfl | rfl | rfl | rfl
  · exact parts_0 _  H
  · exact parts_1 _ rfl H
  · exact parts_2 _ rfl H
  · exact parts_3 _ rfl H
  · exact parts_4 _ rfl H
  · exact parts_5 _ rfl H
  · exact parts_6 _ rfl H
  · exact parts_7 _  H
  · exact parts_8 _  H
  · exact parts_9 _  H
  · exact parts_10 _  H
  · exact parts_11 _ rfl H
  · exact parts_12 _ rfl H
  · exact parts_13 _ rfl H
  · exact parts_14 _ rfl H
  · exact parts_15 _ ⟨rfl, rfl⟩ H
  · exact parts_16 _ ⟨rfl, rfl⟩ H
