/-! CoreHouse's objects, and how its heap holds the state of the memory system. -/
def lyC : List (Nat × Nat × Nat × Nat × Nat) := [(1, 0, 2, 7, 0), (1, 1, 4, 1, 0), (1, 2, 16, 5, 0), (1, 3, 19, 4, 0), (1, 4, 31, 25, 16), (1, 5, 32, 21, 6), (1, 6, 33, 21, 6), (2, 0, 3, 23, 1500), (4, 0, 2, 7, 0), (4, 2, 5, 21, 375), (4, 3, 6, 21, 375), (4, 4, 7, 21, 375), (4, 5, 8, 21, 375), (4, 6, 9, 21, 375), (4, 7, 10, 21, 375), (4, 8, 11, 22, 375), (4, 10, 12, 22, 750), (4, 11, 13, 21, 750), (4, 12, 14, 21, 750), (4, 15, 15, 21, 16), (16, 3, 18, 21, 9), (19, 0, 16, 5, 0), (19, 1, 20, 21, 2048), (19, 2, 21, 21, 512), (19, 3, 22, 21, 512), (19, 4, 23, 21, 512), (19, 5, 24, 21, 512), (19, 6, 25, 21, 512), (19, 7, 26, 21, 512), (19, 8, 27, 24, 512), (19, 9, 28, 21, 512), (19, 10, 29, 21, 2048), (19, 11, 30, 21, 288)]
def lyK : List (Nat × Nat × Nat × Nat × Nat) := [(34, 2, 35, 21, 32), (34, 5, 36, 6, 0), (34, 6, 38, 2, 0), (34, 7, 43, 8, 0), (34, 10, 45, 21, 4), (36, 0, 37, 21, 48), (38, 0, 39, 21, 32), (38, 1, 40, 21, 32), (38, 2, 41, 21, 32), (38, 3, 42, 21, 128), (43, 0, 44, 21, 256)]
def LC (h : AH) : Prop := hS h 1 = 9 ∧ (∀ x, x ∈ lyC → hR h x.1 x.2.1 = x.2.2.1 ∧ hS h x.2.2.1 = x.2.2.2.1 ∧ hN h x.2.2.1 = x.2.2.2.2) ∧ (∀ c, c < 16 → hS h (34 + 12 * c) = 3 ∧ hR h 31 c = 34 + 12 * c ∧ hR h (34 + 12 * c) 1 = 16 ∧ ∀ x, x ∈ lyK → hR h (x.1 + 12 * c) x.2.1 = x.2.2.1 + 12 * c ∧ hS h (x.2.2.1 + 12 * c) = x.2.2.2.1 ∧ hN h (x.2.2.1 + 12 * c) = x.2.2.2.2)
theorem lc_S1 {h : AH} (L : LC h) : hS h 1 = 9 := L.1
theorem lc_R1_0 {h : AH} (L : LC h) : hR h 1 0 = 2 := (L.2.1 (1, 0, 2, 7, 0) (List.mem_of_getElem? (l := lyC) (i := 0) rfl)).1
theorem lc_S2 {h : AH} (L : LC h) : hS h 2 = 7 := (L.2.1 (1, 0, 2, 7, 0) (List.mem_of_getElem? (l := lyC) (i := 0) rfl)).2.1
theorem lc_R1_1 {h : AH} (L : LC h) : hR h 1 1 = 4 := (L.2.1 (1, 1, 4, 1, 0) (List.mem_of_getElem? (l := lyC) (i := 1) rfl)).1
theorem lc_S4 {h : AH} (L : LC h) : hS h 4 = 1 := (L.2.1 (1, 1, 4, 1, 0) (List.mem_of_getElem? (l := lyC) (i := 1) rfl)).2.1
theorem lc_R1_2 {h : AH} (L : LC h) : hR h 1 2 = 16 := (L.2.1 (1, 2, 16, 5, 0) (List.mem_of_getElem? (l := lyC) (i := 2) rfl)).1
theorem lc_S16 {h : AH} (L : LC h) : hS h 16 = 5 := (L.2.1 (1, 2, 16, 5, 0) (List.mem_of_getElem? (l := lyC) (i := 2) rfl)).2.1
theorem lc_R1_3 {h : AH} (L : LC h) : hR h 1 3 = 19 := (L.2.1 (1, 3, 19, 4, 0) (List.mem_of_getElem? (l := lyC) (i := 3) rfl)).1
theorem lc_S19 {h : AH} (L : LC h) : hS h 19 = 4 := (L.2.1 (1, 3, 19, 4, 0) (List.mem_of_getElem? (l := lyC) (i := 3) rfl)).2.1
theorem lc_R1_4 {h : AH} (L : LC h) : hR h 1 4 = 31 := (L.2.1 (1, 4, 31, 25, 16) (List.mem_of_getElem? (l := lyC) (i := 4) rfl)).1
theorem lc_S31 {h : AH} (L : LC h) : hS h 31 = 25 := (L.2.1 (1, 4, 31, 25, 16) (List.mem_of_getElem? (l := lyC) (i := 4) rfl)).2.1
theorem lc_N31 {h : AH} (L : LC h) : hN h 31 = 16 := (L.2.1 (1, 4, 31, 25, 16) (List.mem_of_getElem? (l := lyC) (i := 4) rfl)).2.2
theorem lc_R1_5 {h : AH} (L : LC h) : hR h 1 5 = 32 := (L.2.1 (1, 5, 32, 21, 6) (List.mem_of_getElem? (l := lyC) (i := 5) rfl)).1
theorem lc_S32 {h : AH} (L : LC h) : hS h 32 = 21 := (L.2.1 (1, 5, 32, 21, 6) (List.mem_of_getElem? (l := lyC) (i := 5) rfl)).2.1
theorem lc_N32 {h : AH} (L : LC h) : hN h 32 = 6 := (L.2.1 (1, 5, 32, 21, 6) (List.mem_of_getElem? (l := lyC) (i := 5) rfl)).2.2
theorem lc_R1_6 {h : AH} (L : LC h) : hR h 1 6 = 33 := (L.2.1 (1, 6, 33, 21, 6) (List.mem_of_getElem? (l := lyC) (i := 6) rfl)).1
theorem lc_S33 {h : AH} (L : LC h) : hS h 33 = 21 := (L.2.1 (1, 6, 33, 21, 6) (List.mem_of_getElem? (l := lyC) (i := 6) rfl)).2.1
theorem lc_N33 {h : AH} (L : LC h) : hN h 33 = 6 := (L.2.1 (1, 6, 33, 21, 6) (List.mem_of_getElem? (l := lyC) (i := 6) rfl)).2.2
theorem lc_R2_0 {h : AH} (L : LC h) : hR h 2 0 = 3 := (L.2.1 (2, 0, 3, 23, 1500) (List.mem_of_getElem? (l := lyC) (i := 7) rfl)).1
theorem lc_S3 {h : AH} (L : LC h) : hS h 3 = 23 := (L.2.1 (2, 0, 3, 23, 1500) (List.mem_of_getElem? (l := lyC) (i := 7) rfl)).2.1
theorem lc_N3 {h : AH} (L : LC h) : hN h 3 = 1500 := (L.2.1 (2, 0, 3, 23, 1500) (List.mem_of_getElem? (l := lyC) (i := 7) rfl)).2.2
theorem lc_R4_0 {h : AH} (L : LC h) : hR h 4 0 = 2 := (L.2.1 (4, 0, 2, 7, 0) (List.mem_of_getElem? (l := lyC) (i := 8) rfl)).1
theorem lc_R4_2 {h : AH} (L : LC h) : hR h 4 2 = 5 := (L.2.1 (4, 2, 5, 21, 375) (List.mem_of_getElem? (l := lyC) (i := 9) rfl)).1
theorem lc_S5 {h : AH} (L : LC h) : hS h 5 = 21 := (L.2.1 (4, 2, 5, 21, 375) (List.mem_of_getElem? (l := lyC) (i := 9) rfl)).2.1
theorem lc_N5 {h : AH} (L : LC h) : hN h 5 = 375 := (L.2.1 (4, 2, 5, 21, 375) (List.mem_of_getElem? (l := lyC) (i := 9) rfl)).2.2
theorem lc_R4_3 {h : AH} (L : LC h) : hR h 4 3 = 6 := (L.2.1 (4, 3, 6, 21, 375) (List.mem_of_getElem? (l := lyC) (i := 10) rfl)).1
theorem lc_S6 {h : AH} (L : LC h) : hS h 6 = 21 := (L.2.1 (4, 3, 6, 21, 375) (List.mem_of_getElem? (l := lyC) (i := 10) rfl)).2.1
theorem lc_N6 {h : AH} (L : LC h) : hN h 6 = 375 := (L.2.1 (4, 3, 6, 21, 375) (List.mem_of_getElem? (l := lyC) (i := 10) rfl)).2.2
theorem lc_R4_4 {h : AH} (L : LC h) : hR h 4 4 = 7 := (L.2.1 (4, 4, 7, 21, 375) (List.mem_of_getElem? (l := lyC) (i := 11) rfl)).1
theorem lc_S7 {h : AH} (L : LC h) : hS h 7 = 21 := (L.2.1 (4, 4, 7, 21, 375) (List.mem_of_getElem? (l := lyC) (i := 11) rfl)).2.1
theorem lc_N7 {h : AH} (L : LC h) : hN h 7 = 375 := (L.2.1 (4, 4, 7, 21, 375) (List.mem_of_getElem? (l := lyC) (i := 11) rfl)).2.2
theorem lc_R4_5 {h : AH} (L : LC h) : hR h 4 5 = 8 := (L.2.1 (4, 5, 8, 21, 375) (List.mem_of_getElem? (l := lyC) (i := 12) rfl)).1
theorem lc_S8 {h : AH} (L : LC h) : hS h 8 = 21 := (L.2.1 (4, 5, 8, 21, 375) (List.mem_of_getElem? (l := lyC) (i := 12) rfl)).2.1
theorem lc_N8 {h : AH} (L : LC h) : hN h 8 = 375 := (L.2.1 (4, 5, 8, 21, 375) (List.mem_of_getElem? (l := lyC) (i := 12) rfl)).2.2
theorem lc_R4_6 {h : AH} (L : LC h) : hR h 4 6 = 9 := (L.2.1 (4, 6, 9, 21, 375) (List.mem_of_getElem? (l := lyC) (i := 13) rfl)).1
theorem lc_S9 {h : AH} (L : LC h) : hS h 9 = 21 := (L.2.1 (4, 6, 9, 21, 375) (List.mem_of_getElem? (l := lyC) (i := 13) rfl)).2.1
theorem lc_N9 {h : AH} (L : LC h) : hN h 9 = 375 := (L.2.1 (4, 6, 9, 21, 375) (List.mem_of_getElem? (l := lyC) (i := 13) rfl)).2.2
theorem lc_R4_7 {h : AH} (L : LC h) : hR h 4 7 = 10 := (L.2.1 (4, 7, 10, 21, 375) (List.mem_of_getElem? (l := lyC) (i := 14) rfl)).1
theorem lc_S10 {h : AH} (L : LC h) : hS h 10 = 21 := (L.2.1 (4, 7, 10, 21, 375) (List.mem_of_getElem? (l := lyC) (i := 14) rfl)).2.1
theorem lc_N10 {h : AH} (L : LC h) : hN h 10 = 375 := (L.2.1 (4, 7, 10, 21, 375) (List.mem_of_getElem? (l := lyC) (i := 14) rfl)).2.2
theorem lc_R4_8 {h : AH} (L : LC h) : hR h 4 8 = 11 := (L.2.1 (4, 8, 11, 22, 375) (List.mem_of_getElem? (l := lyC) (i := 15) rfl)).1
theorem lc_S11 {h : AH} (L : LC h) : hS h 11 = 22 := (L.2.1 (4, 8, 11, 22, 375) (List.mem_of_getElem? (l := lyC) (i := 15) rfl)).2.1
theorem lc_N11 {h : AH} (L : LC h) : hN h 11 = 375 := (L.2.1 (4, 8, 11, 22, 375) (List.mem_of_getElem? (l := lyC) (i := 15) rfl)).2.2
theorem lc_R4_10 {h : AH} (L : LC h) : hR h 4 10 = 12 := (L.2.1 (4, 10, 12, 22, 750) (List.mem_of_getElem? (l := lyC) (i := 16) rfl)).1
theorem lc_S12 {h : AH} (L : LC h) : hS h 12 = 22 := (L.2.1 (4, 10, 12, 22, 750) (List.mem_of_getElem? (l := lyC) (i := 16) rfl)).2.1
theorem lc_N12 {h : AH} (L : LC h) : hN h 12 = 750 := (L.2.1 (4, 10, 12, 22, 750) (List.mem_of_getElem? (l := lyC) (i := 16) rfl)).2.2
theorem lc_R4_11 {h : AH} (L : LC h) : hR h 4 11 = 13 := (L.2.1 (4, 11, 13, 21, 750) (List.mem_of_getElem? (l := lyC) (i := 17) rfl)).1
theorem lc_S13 {h : AH} (L : LC h) : hS h 13 = 21 := (L.2.1 (4, 11, 13, 21, 750) (List.mem_of_getElem? (l := lyC) (i := 17) rfl)).2.1
theorem lc_N13 {h : AH} (L : LC h) : hN h 13 = 750 := (L.2.1 (4, 11, 13, 21, 750) (List.mem_of_getElem? (l := lyC) (i := 17) rfl)).2.2
theorem lc_R4_12 {h : AH} (L : LC h) : hR h 4 12 = 14 := (L.2.1 (4, 12, 14, 21, 750) (List.mem_of_getElem? (l := lyC) (i := 18) rfl)).1
theorem lc_S14 {h : AH} (L : LC h) : hS h 14 = 21 := (L.2.1 (4, 12, 14, 21, 750) (List.mem_of_getElem? (l := lyC) (i := 18) rfl)).2.1
theorem lc_N14 {h : AH} (L : LC h) : hN h 14 = 750 := (L.2.1 (4, 12, 14, 21, 750) (List.mem_of_getElem? (l := lyC) (i := 18) rfl)).2.2
theorem lc_R4_15 {h : AH} (L : LC h) : hR h 4 15 = 15 := (L.2.1 (4, 15, 15, 21, 16) (List.mem_of_getElem? (l := lyC) (i := 19) rfl)).1
theorem lc_S15 {h : AH} (L : LC h) : hS h 15 = 21 := (L.2.1 (4, 15, 15, 21, 16) (List.mem_of_getElem? (l := lyC) (i := 19) rfl)).2.1
theorem lc_N15 {h : AH} (L : LC h) : hN h 15 = 16 := (L.2.1 (4, 15, 15, 21, 16) (List.mem_of_getElem? (l := lyC) (i := 19) rfl)).2.2
theorem lc_R16_3 {h : AH} (L : LC h) : hR h 16 3 = 18 := (L.2.1 (16, 3, 18, 21, 9) (List.mem_of_getElem? (l := lyC) (i := 20) rfl)).1
theorem lc_S18 {h : AH} (L : LC h) : hS h 18 = 21 := (L.2.1 (16, 3, 18, 21, 9) (List.mem_of_getElem? (l := lyC) (i := 20) rfl)).2.1
theorem lc_N18 {h : AH} (L : LC h) : hN h 18 = 9 := (L.2.1 (16, 3, 18, 21, 9) (List.mem_of_getElem? (l := lyC) (i := 20) rfl)).2.2
theorem lc_R19_0 {h : AH} (L : LC h) : hR h 19 0 = 16 := (L.2.1 (19, 0, 16, 5, 0) (List.mem_of_getElem? (l := lyC) (i := 21) rfl)).1
theorem lc_R19_1 {h : AH} (L : LC h) : hR h 19 1 = 20 := (L.2.1 (19, 1, 20, 21, 2048) (List.mem_of_getElem? (l := lyC) (i := 22) rfl)).1
theorem lc_S20 {h : AH} (L : LC h) : hS h 20 = 21 := (L.2.1 (19, 1, 20, 21, 2048) (List.mem_of_getElem? (l := lyC) (i := 22) rfl)).2.1
theorem lc_N20 {h : AH} (L : LC h) : hN h 20 = 2048 := (L.2.1 (19, 1, 20, 21, 2048) (List.mem_of_getElem? (l := lyC) (i := 22) rfl)).2.2
theorem lc_R19_2 {h : AH} (L : LC h) : hR h 19 2 = 21 := (L.2.1 (19, 2, 21, 21, 512) (List.mem_of_getElem? (l := lyC) (i := 23) rfl)).1
theorem lc_S21 {h : AH} (L : LC h) : hS h 21 = 21 := (L.2.1 (19, 2, 21, 21, 512) (List.mem_of_getElem? (l := lyC) (i := 23) rfl)).2.1
theorem lc_N21 {h : AH} (L : LC h) : hN h 21 = 512 := (L.2.1 (19, 2, 21, 21, 512) (List.mem_of_getElem? (l := lyC) (i := 23) rfl)).2.2
theorem lc_R19_3 {h : AH} (L : LC h) : hR h 19 3 = 22 := (L.2.1 (19, 3, 22, 21, 512) (List.mem_of_getElem? (l := lyC) (i := 24) rfl)).1
theorem lc_S22 {h : AH} (L : LC h) : hS h 22 = 21 := (L.2.1 (19, 3, 22, 21, 512) (List.mem_of_getElem? (l := lyC) (i := 24) rfl)).2.1
theorem lc_N22 {h : AH} (L : LC h) : hN h 22 = 512 := (L.2.1 (19, 3, 22, 21, 512) (List.mem_of_getElem? (l := lyC) (i := 24) rfl)).2.2
theorem lc_R19_4 {h : AH} (L : LC h) : hR h 19 4 = 23 := (L.2.1 (19, 4, 23, 21, 512) (List.mem_of_getElem? (l := lyC) (i := 25) rfl)).1
theorem lc_S23 {h : AH} (L : LC h) : hS h 23 = 21 := (L.2.1 (19, 4, 23, 21, 512) (List.mem_of_getElem? (l := lyC) (i := 25) rfl)).2.1
theorem lc_N23 {h : AH} (L : LC h) : hN h 23 = 512 := (L.2.1 (19, 4, 23, 21, 512) (List.mem_of_getElem? (l := lyC) (i := 25) rfl)).2.2
theorem lc_R19_5 {h : AH} (L : LC h) : hR h 19 5 = 24 := (L.2.1 (19, 5, 24, 21, 512) (List.mem_of_getElem? (l := lyC) (i := 26) rfl)).1
theorem lc_S24 {h : AH} (L : LC h) : hS h 24 = 21 := (L.2.1 (19, 5, 24, 21, 512) (List.mem_of_getElem? (l := lyC) (i := 26) rfl)).2.1
theorem lc_N24 {h : AH} (L : LC h) : hN h 24 = 512 := (L.2.1 (19, 5, 24, 21, 512) (List.mem_of_getElem? (l := lyC) (i := 26) rfl)).2.2
theorem lc_R19_6 {h : AH} (L : LC h) : hR h 19 6 = 25 := (L.2.1 (19, 6, 25, 21, 512) (List.mem_of_getElem? (l := lyC) (i := 27) rfl)).1
theorem lc_S25 {h : AH} (L : LC h) : hS h 25 = 21 := (L.2.1 (19, 6, 25, 21, 512) (List.mem_of_getElem? (l := lyC) (i := 27) rfl)).2.1
theorem lc_N25 {h : AH} (L : LC h) : hN h 25 = 512 := (L.2.1 (19, 6, 25, 21, 512) (List.mem_of_getElem? (l := lyC) (i := 27) rfl)).2.2
theorem lc_R19_7 {h : AH} (L : LC h) : hR h 19 7 = 26 := (L.2.1 (19, 7, 26, 21, 512) (List.mem_of_getElem? (l := lyC) (i := 28) rfl)).1
theorem lc_S26 {h : AH} (L : LC h) : hS h 26 = 21 := (L.2.1 (19, 7, 26, 21, 512) (List.mem_of_getElem? (l := lyC) (i := 28) rfl)).2.1
theorem lc_N26 {h : AH} (L : LC h) : hN h 26 = 512 := (L.2.1 (19, 7, 26, 21, 512) (List.mem_of_getElem? (l := lyC) (i := 28) rfl)).2.2
theorem lc_R19_8 {h : AH} (L : LC h) : hR h 19 8 = 27 := (L.2.1 (19, 8, 27, 24, 512) (List.mem_of_getElem? (l := lyC) (i := 29) rfl)).1
theorem lc_S27 {h : AH} (L : LC h) : hS h 27 = 24 := (L.2.1 (19, 8, 27, 24, 512) (List.mem_of_getElem? (l := lyC) (i := 29) rfl)).2.1
theorem lc_N27 {h : AH} (L : LC h) : hN h 27 = 512 := (L.2.1 (19, 8, 27, 24, 512) (List.mem_of_getElem? (l := lyC) (i := 29) rfl)).2.2
theorem lc_R19_9 {h : AH} (L : LC h) : hR h 19 9 = 28 := (L.2.1 (19, 9, 28, 21, 512) (List.mem_of_getElem? (l := lyC) (i := 30) rfl)).1
theorem lc_S28 {h : AH} (L : LC h) : hS h 28 = 21 := (L.2.1 (19, 9, 28, 21, 512) (List.mem_of_getElem? (l := lyC) (i := 30) rfl)).2.1
theorem lc_N28 {h : AH} (L : LC h) : hN h 28 = 512 := (L.2.1 (19, 9, 28, 21, 512) (List.mem_of_getElem? (l := lyC) (i := 30) rfl)).2.2
theorem lc_R19_10 {h : AH} (L : LC h) : hR h 19 10 = 29 := (L.2.1 (19, 10, 29, 21, 2048) (List.mem_of_getElem? (l := lyC) (i := 31) rfl)).1
theorem lc_S29 {h : AH} (L : LC h) : hS h 29 = 21 := (L.2.1 (19, 10, 29, 21, 2048) (List.mem_of_getElem? (l := lyC) (i := 31) rfl)).2.1
theorem lc_N29 {h : AH} (L : LC h) : hN h 29 = 2048 := (L.2.1 (19, 10, 29, 21, 2048) (List.mem_of_getElem? (l := lyC) (i := 31) rfl)).2.2
theorem lc_R19_11 {h : AH} (L : LC h) : hR h 19 11 = 30 := (L.2.1 (19, 11, 30, 21, 288) (List.mem_of_getElem? (l := lyC) (i := 32) rfl)).1
theorem lc_S30 {h : AH} (L : LC h) : hS h 30 = 21 := (L.2.1 (19, 11, 30, 21, 288) (List.mem_of_getElem? (l := lyC) (i := 32) rfl)).2.1
theorem lc_N30 {h : AH} (L : LC h) : hN h 30 = 288 := (L.2.1 (19, 11, 30, 21, 288) (List.mem_of_getElem? (l := lyC) (i := 32) rfl)).2.2
theorem lk_S34 {h : AH} (L : LC h) {c : Nat} (hc : c < 16) : hS h (34 + 12 * c) = 3 := (L.2.2 c hc).1
theorem lk_R31 {h : AH} (L : LC h) {c : Nat} (hc : c < 16) : hR h 31 c = 34 + 12 * c := (L.2.2 c hc).2.1
theorem lk_R34_1 {h : AH} (L : LC h) {c : Nat} (hc : c < 16) : hR h (34 + 12 * c) 1 = 16 := (L.2.2 c hc).2.2.1
theorem lk_R34_2 {h : AH} (L : LC h) {c : Nat} (hc : c < 16) : hR h (34 + 12 * c) 2 = 35 + 12 * c := ((L.2.2 c hc).2.2.2 (34, 2, 35, 21, 32) (List.mem_of_getElem? (l := lyK) (i := 0) rfl)).1
theorem lk_S35 {h : AH} (L : LC h) {c : Nat} (hc : c < 16) : hS h (35 + 12 * c) = 21 := ((L.2.2 c hc).2.2.2 (34, 2, 35, 21, 32) (List.mem_of_getElem? (l := lyK) (i := 0) rfl)).2.1
theorem lk_N35 {h : AH} (L : LC h) {c : Nat} (hc : c < 16) : hN h (35 + 12 * c) = 32 := ((L.2.2 c hc).2.2.2 (34, 2, 35, 21, 32) (List.mem_of_getElem? (l := lyK) (i := 0) rfl)).2.2
theorem lk_R34_5 {h : AH} (L : LC h) {c : Nat} (hc : c < 16) : hR h (34 + 12 * c) 5 = 36 + 12 * c := ((L.2.2 c hc).2.2.2 (34, 5, 36, 6, 0) (List.mem_of_getElem? (l := lyK) (i := 1) rfl)).1
theorem lk_S36 {h : AH} (L : LC h) {c : Nat} (hc : c < 16) : hS h (36 + 12 * c) = 6 := ((L.2.2 c hc).2.2.2 (34, 5, 36, 6, 0) (List.mem_of_getElem? (l := lyK) (i := 1) rfl)).2.1
theorem lk_R34_6 {h : AH} (L : LC h) {c : Nat} (hc : c < 16) : hR h (34 + 12 * c) 6 = 38 + 12 * c := ((L.2.2 c hc).2.2.2 (34, 6, 38, 2, 0) (List.mem_of_getElem? (l := lyK) (i := 2) rfl)).1
theorem lk_S38 {h : AH} (L : LC h) {c : Nat} (hc : c < 16) : hS h (38 + 12 * c) = 2 := ((L.2.2 c hc).2.2.2 (34, 6, 38, 2, 0) (List.mem_of_getElem? (l := lyK) (i := 2) rfl)).2.1
theorem lk_R34_7 {h : AH} (L : LC h) {c : Nat} (hc : c < 16) : hR h (34 + 12 * c) 7 = 43 + 12 * c := ((L.2.2 c hc).2.2.2 (34, 7, 43, 8, 0) (List.mem_of_getElem? (l := lyK) (i := 3) rfl)).1
theorem lk_S43 {h : AH} (L : LC h) {c : Nat} (hc : c < 16) : hS h (43 + 12 * c) = 8 := ((L.2.2 c hc).2.2.2 (34, 7, 43, 8, 0) (List.mem_of_getElem? (l := lyK) (i := 3) rfl)).2.1
theorem lk_R34_10 {h : AH} (L : LC h) {c : Nat} (hc : c < 16) : hR h (34 + 12 * c) 10 = 45 + 12 * c := ((L.2.2 c hc).2.2.2 (34, 10, 45, 21, 4) (List.mem_of_getElem? (l := lyK) (i := 4) rfl)).1
theorem lk_S45 {h : AH} (L : LC h) {c : Nat} (hc : c < 16) : hS h (45 + 12 * c) = 21 := ((L.2.2 c hc).2.2.2 (34, 10, 45, 21, 4) (List.mem_of_getElem? (l := lyK) (i := 4) rfl)).2.1
theorem lk_N45 {h : AH} (L : LC h) {c : Nat} (hc : c < 16) : hN h (45 + 12 * c) = 4 := ((L.2.2 c hc).2.2.2 (34, 10, 45, 21, 4) (List.mem_of_getElem? (l := lyK) (i := 4) rfl)).2.2
theorem lk_R36_0 {h : AH} (L : LC h) {c : Nat} (hc : c < 16) : hR h (36 + 12 * c) 0 = 37 + 12 * c := ((L.2.2 c hc).2.2.2 (36, 0, 37, 21, 48) (List.mem_of_getElem? (l := lyK) (i := 5) rfl)).1
theorem lk_S37 {h : AH} (L : LC h) {c : Nat} (hc : c < 16) : hS h (37 + 12 * c) = 21 := ((L.2.2 c hc).2.2.2 (36, 0, 37, 21, 48) (List.mem_of_getElem? (l := lyK) (i := 5) rfl)).2.1
theorem lk_N37 {h : AH} (L : LC h) {c : Nat} (hc : c < 16) : hN h (37 + 12 * c) = 48 := ((L.2.2 c hc).2.2.2 (36, 0, 37, 21, 48) (List.mem_of_getElem? (l := lyK) (i := 5) rfl)).2.2
theorem lk_R38_0 {h : AH} (L : LC h) {c : Nat} (hc : c < 16) : hR h (38 + 12 * c) 0 = 39 + 12 * c := ((L.2.2 c hc).2.2.2 (38, 0, 39, 21, 32) (List.mem_of_getElem? (l := lyK) (i := 6) rfl)).1
theorem lk_S39 {h : AH} (L : LC h) {c : Nat} (hc : c < 16) : hS h (39 + 12 * c) = 21 := ((L.2.2 c hc).2.2.2 (38, 0, 39, 21, 32) (List.mem_of_getElem? (l := lyK) (i := 6) rfl)).2.1
theorem lk_N39 {h : AH} (L : LC h) {c : Nat} (hc : c < 16) : hN h (39 + 12 * c) = 32 := ((L.2.2 c hc).2.2.2 (38, 0, 39, 21, 32) (List.mem_of_getElem? (l := lyK) (i := 6) rfl)).2.2
theorem lk_R38_1 {h : AH} (L : LC h) {c : Nat} (hc : c < 16) : hR h (38 + 12 * c) 1 = 40 + 12 * c := ((L.2.2 c hc).2.2.2 (38, 1, 40, 21, 32) (List.mem_of_getElem? (l := lyK) (i := 7) rfl)).1
theorem lk_S40 {h : AH} (L : LC h) {c : Nat} (hc : c < 16) : hS h (40 + 12 * c) = 21 := ((L.2.2 c hc).2.2.2 (38, 1, 40, 21, 32) (List.mem_of_getElem? (l := lyK) (i := 7) rfl)).2.1
theorem lk_N40 {h : AH} (L : LC h) {c : Nat} (hc : c < 16) : hN h (40 + 12 * c) = 32 := ((L.2.2 c hc).2.2.2 (38, 1, 40, 21, 32) (List.mem_of_getElem? (l := lyK) (i := 7) rfl)).2.2
theorem lk_R38_2 {h : AH} (L : LC h) {c : Nat} (hc : c < 16) : hR h (38 + 12 * c) 2 = 41 + 12 * c := ((L.2.2 c hc).2.2.2 (38, 2, 41, 21, 32) (List.mem_of_getElem? (l := lyK) (i := 8) rfl)).1
theorem lk_S41 {h : AH} (L : LC h) {c : Nat} (hc : c < 16) : hS h (41 + 12 * c) = 21 := ((L.2.2 c hc).2.2.2 (38, 2, 41, 21, 32) (List.mem_of_getElem? (l := lyK) (i := 8) rfl)).2.1
theorem lk_N41 {h : AH} (L : LC h) {c : Nat} (hc : c < 16) : hN h (41 + 12 * c) = 32 := ((L.2.2 c hc).2.2.2 (38, 2, 41, 21, 32) (List.mem_of_getElem? (l := lyK) (i := 8) rfl)).2.2
theorem lk_R38_3 {h : AH} (L : LC h) {c : Nat} (hc : c < 16) : hR h (38 + 12 * c) 3 = 42 + 12 * c := ((L.2.2 c hc).2.2.2 (38, 3, 42, 21, 128) (List.mem_of_getElem? (l := lyK) (i := 9) rfl)).1
theorem lk_S42 {h : AH} (L : LC h) {c : Nat} (hc : c < 16) : hS h (42 + 12 * c) = 21 := ((L.2.2 c hc).2.2.2 (38, 3, 42, 21, 128) (List.mem_of_getElem? (l := lyK) (i := 9) rfl)).2.1
theorem lk_N42 {h : AH} (L : LC h) {c : Nat} (hc : c < 16) : hN h (42 + 12 * c) = 128 := ((L.2.2 c hc).2.2.2 (38, 3, 42, 21, 128) (List.mem_of_getElem? (l := lyK) (i := 9) rfl)).2.2
theorem lk_R43_0 {h : AH} (L : LC h) {c : Nat} (hc : c < 16) : hR h (43 + 12 * c) 0 = 44 + 12 * c := ((L.2.2 c hc).2.2.2 (43, 0, 44, 21, 256) (List.mem_of_getElem? (l := lyK) (i := 10) rfl)).1
theorem lk_S44 {h : AH} (L : LC h) {c : Nat} (hc : c < 16) : hS h (44 + 12 * c) = 21 := ((L.2.2 c hc).2.2.2 (43, 0, 44, 21, 256) (List.mem_of_getElem? (l := lyK) (i := 10) rfl)).2.1
theorem lk_N44 {h : AH} (L : LC h) {c : Nat} (hc : c < 16) : hN h (44 + 12 * c) = 256 := ((L.2.2 c hc).2.2.2 (43, 0, 44, 21, 256) (List.mem_of_getElem? (l := lyK) (i := 10) rfl)).2.2
theorem lc_sI (m : AH) (o k : Nat) (v : Int32) : LC (sI m o k v) = LC m := rfl
theorem lc_sL (m : AH) (o k : Nat) (v : Int64) : LC (sL m o k v) = LC m := rfl
theorem lc_sA (m : AH) (o : Nat) (f : Nat → Int32) : LC (sA m o f) = LC m := rfl
theorem lc_hB (m : AH) (n : Nat) : LC (hB m n) = LC m := rfl
theorem lc_hT (m : AH) : LC (hT m) = LC m := rfl
theorem lyC_b : ∀ x, x ∈ lyC → x.1 ≤ 225 ∧ ¬ (x.1 = 16 ∧ x.2.1 = 0) ∧ x.2.2.1 ≤ 225 := by decide
theorem lyK_b : ∀ x, x ∈ lyK → 34 ≤ x.1 ∧ x.1 ≤ 45 ∧ x.2.2.1 ≤ 45 := by decide
theorem lc_of {h h' : AH} (L : LC h) (e : ∀ o k, o ≤ 225 → ¬ (o = 16 ∧ k = 0) → hR h' o k = hR h o k) (e2 : ∀ o, o ≤ 225 → hS h' o = hS h o ∧ hN h' o = hN h o) : LC h' := by
  refine ⟨(e2 1 (by omega)).1.trans L.1, fun x hx => ?_, fun c hc => ⟨?_, ?_, ?_, fun x hx => ?_⟩⟩
  · have a := L.2.1 x hx
    have b := lyC_b x hx
    rw [e _ _ b.1 b.2.1, (e2 _ b.2.2).1, (e2 _ b.2.2).2]; exact a
  · rw [(e2 _ (by omega)).1]; exact (L.2.2 c hc).1
  · rw [e _ _ (by omega) (by omega)]; exact (L.2.2 c hc).2.1
  · rw [e _ _ (by omega) (by omega)]; exact (L.2.2 c hc).2.2.1
  · have a := (L.2.2 c hc).2.2.2 x hx
    have b := lyK_b x hx
    rw [e _ _ (by omega) (by omega), (e2 _ (by omega)).1, (e2 _ (by omega)).2]; exact a
