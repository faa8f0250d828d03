/-! The reference's objects, and how its heap holds the state of the memory system. -/
def lyR : List (Nat × Nat × Nat × Nat) := [(1, 227, 21, 1500), (6, 228, 21, 1502), (7, 229, 21, 1502), (8, 230, 22, 1502), (11, 231, 22, 760), (12, 232, 21, 760), (14, 233, 21, 700), (15, 234, 21, 700), (16, 235, 21, 700), (17, 236, 22, 700), (18, 237, 21, 700), (19, 238, 21, 16), (21, 239, 21, 6), (22, 240, 21, 6), (23, 241, 21, 2048), (24, 242, 21, 2048), (25, 243, 21, 512), (26, 244, 21, 16), (27, 245, 21, 16), (28, 246, 21, 16), (29, 247, 21, 16), (30, 248, 21, 16), (31, 249, 21, 256), (32, 250, 21, 256), (33, 251, 21, 256), (34, 252, 21, 16), (35, 253, 21, 16), (36, 254, 24, 16), (37, 255, 21, 16), (38, 256, 21, 16), (39, 257, 21, 3584), (44, 258, 21, 512), (45, 259, 21, 512), (46, 260, 21, 512), (48, 261, 21, 512), (49, 262, 21, 2048), (50, 263, 24, 512), (51, 264, 21, 512), (52, 265, 21, 512), (53, 266, 21, 512), (54, 267, 21, 512), (55, 268, 21, 512), (56, 269, 21, 512), (58, 270, 21, 700), (60, 271, 21, 75600), (61, 272, 21, 9), (68, 273, 26, 61), (69, 274, 21, 61), (70, 275, 21, 61), (80, 276, 21, 9)]
def LM (m : AH) : Prop := hS m 226 = 10 ∧ ∀ x, x ∈ lyR → hR m 226 x.1 = x.2.1 ∧ hS m x.2.1 = x.2.2.1 ∧ hN m x.2.1 = x.2.2.2
theorem lm_S226 {m : AH} (L : LM m) : hS m 226 = 10 := L.1
theorem lm_R1 {m : AH} (L : LM m) : hR m 226 1 = 227 := (L.2 (1, 227, 21, 1500) (List.mem_of_getElem? (l := lyR) (i := 0) rfl)).1
theorem lm_S227 {m : AH} (L : LM m) : hS m 227 = 21 := (L.2 (1, 227, 21, 1500) (List.mem_of_getElem? (l := lyR) (i := 0) rfl)).2.1
theorem lm_N227 {m : AH} (L : LM m) : hN m 227 = 1500 := (L.2 (1, 227, 21, 1500) (List.mem_of_getElem? (l := lyR) (i := 0) rfl)).2.2
theorem lm_R6 {m : AH} (L : LM m) : hR m 226 6 = 228 := (L.2 (6, 228, 21, 1502) (List.mem_of_getElem? (l := lyR) (i := 1) rfl)).1
theorem lm_S228 {m : AH} (L : LM m) : hS m 228 = 21 := (L.2 (6, 228, 21, 1502) (List.mem_of_getElem? (l := lyR) (i := 1) rfl)).2.1
theorem lm_N228 {m : AH} (L : LM m) : hN m 228 = 1502 := (L.2 (6, 228, 21, 1502) (List.mem_of_getElem? (l := lyR) (i := 1) rfl)).2.2
theorem lm_R7 {m : AH} (L : LM m) : hR m 226 7 = 229 := (L.2 (7, 229, 21, 1502) (List.mem_of_getElem? (l := lyR) (i := 2) rfl)).1
theorem lm_S229 {m : AH} (L : LM m) : hS m 229 = 21 := (L.2 (7, 229, 21, 1502) (List.mem_of_getElem? (l := lyR) (i := 2) rfl)).2.1
theorem lm_N229 {m : AH} (L : LM m) : hN m 229 = 1502 := (L.2 (7, 229, 21, 1502) (List.mem_of_getElem? (l := lyR) (i := 2) rfl)).2.2
theorem lm_R8 {m : AH} (L : LM m) : hR m 226 8 = 230 := (L.2 (8, 230, 22, 1502) (List.mem_of_getElem? (l := lyR) (i := 3) rfl)).1
theorem lm_S230 {m : AH} (L : LM m) : hS m 230 = 22 := (L.2 (8, 230, 22, 1502) (List.mem_of_getElem? (l := lyR) (i := 3) rfl)).2.1
theorem lm_N230 {m : AH} (L : LM m) : hN m 230 = 1502 := (L.2 (8, 230, 22, 1502) (List.mem_of_getElem? (l := lyR) (i := 3) rfl)).2.2
theorem lm_R11 {m : AH} (L : LM m) : hR m 226 11 = 231 := (L.2 (11, 231, 22, 760) (List.mem_of_getElem? (l := lyR) (i := 4) rfl)).1
theorem lm_S231 {m : AH} (L : LM m) : hS m 231 = 22 := (L.2 (11, 231, 22, 760) (List.mem_of_getElem? (l := lyR) (i := 4) rfl)).2.1
theorem lm_N231 {m : AH} (L : LM m) : hN m 231 = 760 := (L.2 (11, 231, 22, 760) (List.mem_of_getElem? (l := lyR) (i := 4) rfl)).2.2
theorem lm_R12 {m : AH} (L : LM m) : hR m 226 12 = 232 := (L.2 (12, 232, 21, 760) (List.mem_of_getElem? (l := lyR) (i := 5) rfl)).1
theorem lm_S232 {m : AH} (L : LM m) : hS m 232 = 21 := (L.2 (12, 232, 21, 760) (List.mem_of_getElem? (l := lyR) (i := 5) rfl)).2.1
theorem lm_N232 {m : AH} (L : LM m) : hN m 232 = 760 := (L.2 (12, 232, 21, 760) (List.mem_of_getElem? (l := lyR) (i := 5) rfl)).2.2
theorem lm_R14 {m : AH} (L : LM m) : hR m 226 14 = 233 := (L.2 (14, 233, 21, 700) (List.mem_of_getElem? (l := lyR) (i := 6) rfl)).1
theorem lm_S233 {m : AH} (L : LM m) : hS m 233 = 21 := (L.2 (14, 233, 21, 700) (List.mem_of_getElem? (l := lyR) (i := 6) rfl)).2.1
theorem lm_N233 {m : AH} (L : LM m) : hN m 233 = 700 := (L.2 (14, 233, 21, 700) (List.mem_of_getElem? (l := lyR) (i := 6) rfl)).2.2
theorem lm_R15 {m : AH} (L : LM m) : hR m 226 15 = 234 := (L.2 (15, 234, 21, 700) (List.mem_of_getElem? (l := lyR) (i := 7) rfl)).1
theorem lm_S234 {m : AH} (L : LM m) : hS m 234 = 21 := (L.2 (15, 234, 21, 700) (List.mem_of_getElem? (l := lyR) (i := 7) rfl)).2.1
theorem lm_N234 {m : AH} (L : LM m) : hN m 234 = 700 := (L.2 (15, 234, 21, 700) (List.mem_of_getElem? (l := lyR) (i := 7) rfl)).2.2
theorem lm_R16 {m : AH} (L : LM m) : hR m 226 16 = 235 := (L.2 (16, 235, 21, 700) (List.mem_of_getElem? (l := lyR) (i := 8) rfl)).1
theorem lm_S235 {m : AH} (L : LM m) : hS m 235 = 21 := (L.2 (16, 235, 21, 700) (List.mem_of_getElem? (l := lyR) (i := 8) rfl)).2.1
theorem lm_N235 {m : AH} (L : LM m) : hN m 235 = 700 := (L.2 (16, 235, 21, 700) (List.mem_of_getElem? (l := lyR) (i := 8) rfl)).2.2
theorem lm_R17 {m : AH} (L : LM m) : hR m 226 17 = 236 := (L.2 (17, 236, 22, 700) (List.mem_of_getElem? (l := lyR) (i := 9) rfl)).1
theorem lm_S236 {m : AH} (L : LM m) : hS m 236 = 22 := (L.2 (17, 236, 22, 700) (List.mem_of_getElem? (l := lyR) (i := 9) rfl)).2.1
theorem lm_N236 {m : AH} (L : LM m) : hN m 236 = 700 := (L.2 (17, 236, 22, 700) (List.mem_of_getElem? (l := lyR) (i := 9) rfl)).2.2
theorem lm_R18 {m : AH} (L : LM m) : hR m 226 18 = 237 := (L.2 (18, 237, 21, 700) (List.mem_of_getElem? (l := lyR) (i := 10) rfl)).1
theorem lm_S237 {m : AH} (L : LM m) : hS m 237 = 21 := (L.2 (18, 237, 21, 700) (List.mem_of_getElem? (l := lyR) (i := 10) rfl)).2.1
theorem lm_N237 {m : AH} (L : LM m) : hN m 237 = 700 := (L.2 (18, 237, 21, 700) (List.mem_of_getElem? (l := lyR) (i := 10) rfl)).2.2
theorem lm_R19 {m : AH} (L : LM m) : hR m 226 19 = 238 := (L.2 (19, 238, 21, 16) (List.mem_of_getElem? (l := lyR) (i := 11) rfl)).1
theorem lm_S238 {m : AH} (L : LM m) : hS m 238 = 21 := (L.2 (19, 238, 21, 16) (List.mem_of_getElem? (l := lyR) (i := 11) rfl)).2.1
theorem lm_N238 {m : AH} (L : LM m) : hN m 238 = 16 := (L.2 (19, 238, 21, 16) (List.mem_of_getElem? (l := lyR) (i := 11) rfl)).2.2
theorem lm_R21 {m : AH} (L : LM m) : hR m 226 21 = 239 := (L.2 (21, 239, 21, 6) (List.mem_of_getElem? (l := lyR) (i := 12) rfl)).1
theorem lm_S239 {m : AH} (L : LM m) : hS m 239 = 21 := (L.2 (21, 239, 21, 6) (List.mem_of_getElem? (l := lyR) (i := 12) rfl)).2.1
theorem lm_N239 {m : AH} (L : LM m) : hN m 239 = 6 := (L.2 (21, 239, 21, 6) (List.mem_of_getElem? (l := lyR) (i := 12) rfl)).2.2
theorem lm_R22 {m : AH} (L : LM m) : hR m 226 22 = 240 := (L.2 (22, 240, 21, 6) (List.mem_of_getElem? (l := lyR) (i := 13) rfl)).1
theorem lm_S240 {m : AH} (L : LM m) : hS m 240 = 21 := (L.2 (22, 240, 21, 6) (List.mem_of_getElem? (l := lyR) (i := 13) rfl)).2.1
theorem lm_N240 {m : AH} (L : LM m) : hN m 240 = 6 := (L.2 (22, 240, 21, 6) (List.mem_of_getElem? (l := lyR) (i := 13) rfl)).2.2
theorem lm_R23 {m : AH} (L : LM m) : hR m 226 23 = 241 := (L.2 (23, 241, 21, 2048) (List.mem_of_getElem? (l := lyR) (i := 14) rfl)).1
theorem lm_S241 {m : AH} (L : LM m) : hS m 241 = 21 := (L.2 (23, 241, 21, 2048) (List.mem_of_getElem? (l := lyR) (i := 14) rfl)).2.1
theorem lm_N241 {m : AH} (L : LM m) : hN m 241 = 2048 := (L.2 (23, 241, 21, 2048) (List.mem_of_getElem? (l := lyR) (i := 14) rfl)).2.2
theorem lm_R24 {m : AH} (L : LM m) : hR m 226 24 = 242 := (L.2 (24, 242, 21, 2048) (List.mem_of_getElem? (l := lyR) (i := 15) rfl)).1
theorem lm_S242 {m : AH} (L : LM m) : hS m 242 = 21 := (L.2 (24, 242, 21, 2048) (List.mem_of_getElem? (l := lyR) (i := 15) rfl)).2.1
theorem lm_N242 {m : AH} (L : LM m) : hN m 242 = 2048 := (L.2 (24, 242, 21, 2048) (List.mem_of_getElem? (l := lyR) (i := 15) rfl)).2.2
theorem lm_R25 {m : AH} (L : LM m) : hR m 226 25 = 243 := (L.2 (25, 243, 21, 512) (List.mem_of_getElem? (l := lyR) (i := 16) rfl)).1
theorem lm_S243 {m : AH} (L : LM m) : hS m 243 = 21 := (L.2 (25, 243, 21, 512) (List.mem_of_getElem? (l := lyR) (i := 16) rfl)).2.1
theorem lm_N243 {m : AH} (L : LM m) : hN m 243 = 512 := (L.2 (25, 243, 21, 512) (List.mem_of_getElem? (l := lyR) (i := 16) rfl)).2.2
theorem lm_R26 {m : AH} (L : LM m) : hR m 226 26 = 244 := (L.2 (26, 244, 21, 16) (List.mem_of_getElem? (l := lyR) (i := 17) rfl)).1
theorem lm_S244 {m : AH} (L : LM m) : hS m 244 = 21 := (L.2 (26, 244, 21, 16) (List.mem_of_getElem? (l := lyR) (i := 17) rfl)).2.1
theorem lm_N244 {m : AH} (L : LM m) : hN m 244 = 16 := (L.2 (26, 244, 21, 16) (List.mem_of_getElem? (l := lyR) (i := 17) rfl)).2.2
theorem lm_R27 {m : AH} (L : LM m) : hR m 226 27 = 245 := (L.2 (27, 245, 21, 16) (List.mem_of_getElem? (l := lyR) (i := 18) rfl)).1
theorem lm_S245 {m : AH} (L : LM m) : hS m 245 = 21 := (L.2 (27, 245, 21, 16) (List.mem_of_getElem? (l := lyR) (i := 18) rfl)).2.1
theorem lm_N245 {m : AH} (L : LM m) : hN m 245 = 16 := (L.2 (27, 245, 21, 16) (List.mem_of_getElem? (l := lyR) (i := 18) rfl)).2.2
theorem lm_R28 {m : AH} (L : LM m) : hR m 226 28 = 246 := (L.2 (28, 246, 21, 16) (List.mem_of_getElem? (l := lyR) (i := 19) rfl)).1
theorem lm_S246 {m : AH} (L : LM m) : hS m 246 = 21 := (L.2 (28, 246, 21, 16) (List.mem_of_getElem? (l := lyR) (i := 19) rfl)).2.1
theorem lm_N246 {m : AH} (L : LM m) : hN m 246 = 16 := (L.2 (28, 246, 21, 16) (List.mem_of_getElem? (l := lyR) (i := 19) rfl)).2.2
theorem lm_R29 {m : AH} (L : LM m) : hR m 226 29 = 247 := (L.2 (29, 247, 21, 16) (List.mem_of_getElem? (l := lyR) (i := 20) rfl)).1
theorem lm_S247 {m : AH} (L : LM m) : hS m 247 = 21 := (L.2 (29, 247, 21, 16) (List.mem_of_getElem? (l := lyR) (i := 20) rfl)).2.1
theorem lm_N247 {m : AH} (L : LM m) : hN m 247 = 16 := (L.2 (29, 247, 21, 16) (List.mem_of_getElem? (l := lyR) (i := 20) rfl)).2.2
theorem lm_R30 {m : AH} (L : LM m) : hR m 226 30 = 248 := (L.2 (30, 248, 21, 16) (List.mem_of_getElem? (l := lyR) (i := 21) rfl)).1
theorem lm_S248 {m : AH} (L : LM m) : hS m 248 = 21 := (L.2 (30, 248, 21, 16) (List.mem_of_getElem? (l := lyR) (i := 21) rfl)).2.1
theorem lm_N248 {m : AH} (L : LM m) : hN m 248 = 16 := (L.2 (30, 248, 21, 16) (List.mem_of_getElem? (l := lyR) (i := 21) rfl)).2.2
theorem lm_R31 {m : AH} (L : LM m) : hR m 226 31 = 249 := (L.2 (31, 249, 21, 256) (List.mem_of_getElem? (l := lyR) (i := 22) rfl)).1
theorem lm_S249 {m : AH} (L : LM m) : hS m 249 = 21 := (L.2 (31, 249, 21, 256) (List.mem_of_getElem? (l := lyR) (i := 22) rfl)).2.1
theorem lm_N249 {m : AH} (L : LM m) : hN m 249 = 256 := (L.2 (31, 249, 21, 256) (List.mem_of_getElem? (l := lyR) (i := 22) rfl)).2.2
theorem lm_R32 {m : AH} (L : LM m) : hR m 226 32 = 250 := (L.2 (32, 250, 21, 256) (List.mem_of_getElem? (l := lyR) (i := 23) rfl)).1
theorem lm_S250 {m : AH} (L : LM m) : hS m 250 = 21 := (L.2 (32, 250, 21, 256) (List.mem_of_getElem? (l := lyR) (i := 23) rfl)).2.1
theorem lm_N250 {m : AH} (L : LM m) : hN m 250 = 256 := (L.2 (32, 250, 21, 256) (List.mem_of_getElem? (l := lyR) (i := 23) rfl)).2.2
theorem lm_R33 {m : AH} (L : LM m) : hR m 226 33 = 251 := (L.2 (33, 251, 21, 256) (List.mem_of_getElem? (l := lyR) (i := 24) rfl)).1
theorem lm_S251 {m : AH} (L : LM m) : hS m 251 = 21 := (L.2 (33, 251, 21, 256) (List.mem_of_getElem? (l := lyR) (i := 24) rfl)).2.1
theorem lm_N251 {m : AH} (L : LM m) : hN m 251 = 256 := (L.2 (33, 251, 21, 256) (List.mem_of_getElem? (l := lyR) (i := 24) rfl)).2.2
theorem lm_R34 {m : AH} (L : LM m) : hR m 226 34 = 252 := (L.2 (34, 252, 21, 16) (List.mem_of_getElem? (l := lyR) (i := 25) rfl)).1
theorem lm_S252 {m : AH} (L : LM m) : hS m 252 = 21 := (L.2 (34, 252, 21, 16) (List.mem_of_getElem? (l := lyR) (i := 25) rfl)).2.1
theorem lm_N252 {m : AH} (L : LM m) : hN m 252 = 16 := (L.2 (34, 252, 21, 16) (List.mem_of_getElem? (l := lyR) (i := 25) rfl)).2.2
theorem lm_R35 {m : AH} (L : LM m) : hR m 226 35 = 253 := (L.2 (35, 253, 21, 16) (List.mem_of_getElem? (l := lyR) (i := 26) rfl)).1
theorem lm_S253 {m : AH} (L : LM m) : hS m 253 = 21 := (L.2 (35, 253, 21, 16) (List.mem_of_getElem? (l := lyR) (i := 26) rfl)).2.1
theorem lm_N253 {m : AH} (L : LM m) : hN m 253 = 16 := (L.2 (35, 253, 21, 16) (List.mem_of_getElem? (l := lyR) (i := 26) rfl)).2.2
theorem lm_R36 {m : AH} (L : LM m) : hR m 226 36 = 254 := (L.2 (36, 254, 24, 16) (List.mem_of_getElem? (l := lyR) (i := 27) rfl)).1
theorem lm_S254 {m : AH} (L : LM m) : hS m 254 = 24 := (L.2 (36, 254, 24, 16) (List.mem_of_getElem? (l := lyR) (i := 27) rfl)).2.1
theorem lm_N254 {m : AH} (L : LM m) : hN m 254 = 16 := (L.2 (36, 254, 24, 16) (List.mem_of_getElem? (l := lyR) (i := 27) rfl)).2.2
theorem lm_R37 {m : AH} (L : LM m) : hR m 226 37 = 255 := (L.2 (37, 255, 21, 16) (List.mem_of_getElem? (l := lyR) (i := 28) rfl)).1
theorem lm_S255 {m : AH} (L : LM m) : hS m 255 = 21 := (L.2 (37, 255, 21, 16) (List.mem_of_getElem? (l := lyR) (i := 28) rfl)).2.1
theorem lm_N255 {m : AH} (L : LM m) : hN m 255 = 16 := (L.2 (37, 255, 21, 16) (List.mem_of_getElem? (l := lyR) (i := 28) rfl)).2.2
theorem lm_R38 {m : AH} (L : LM m) : hR m 226 38 = 256 := (L.2 (38, 256, 21, 16) (List.mem_of_getElem? (l := lyR) (i := 29) rfl)).1
theorem lm_S256 {m : AH} (L : LM m) : hS m 256 = 21 := (L.2 (38, 256, 21, 16) (List.mem_of_getElem? (l := lyR) (i := 29) rfl)).2.1
theorem lm_N256 {m : AH} (L : LM m) : hN m 256 = 16 := (L.2 (38, 256, 21, 16) (List.mem_of_getElem? (l := lyR) (i := 29) rfl)).2.2
theorem lm_R39 {m : AH} (L : LM m) : hR m 226 39 = 257 := (L.2 (39, 257, 21, 3584) (List.mem_of_getElem? (l := lyR) (i := 30) rfl)).1
theorem lm_S257 {m : AH} (L : LM m) : hS m 257 = 21 := (L.2 (39, 257, 21, 3584) (List.mem_of_getElem? (l := lyR) (i := 30) rfl)).2.1
theorem lm_N257 {m : AH} (L : LM m) : hN m 257 = 3584 := (L.2 (39, 257, 21, 3584) (List.mem_of_getElem? (l := lyR) (i := 30) rfl)).2.2
theorem lm_R44 {m : AH} (L : LM m) : hR m 226 44 = 258 := (L.2 (44, 258, 21, 512) (List.mem_of_getElem? (l := lyR) (i := 31) rfl)).1
theorem lm_S258 {m : AH} (L : LM m) : hS m 258 = 21 := (L.2 (44, 258, 21, 512) (List.mem_of_getElem? (l := lyR) (i := 31) rfl)).2.1
theorem lm_N258 {m : AH} (L : LM m) : hN m 258 = 512 := (L.2 (44, 258, 21, 512) (List.mem_of_getElem? (l := lyR) (i := 31) rfl)).2.2
theorem lm_R45 {m : AH} (L : LM m) : hR m 226 45 = 259 := (L.2 (45, 259, 21, 512) (List.mem_of_getElem? (l := lyR) (i := 32) rfl)).1
theorem lm_S259 {m : AH} (L : LM m) : hS m 259 = 21 := (L.2 (45, 259, 21, 512) (List.mem_of_getElem? (l := lyR) (i := 32) rfl)).2.1
theorem lm_N259 {m : AH} (L : LM m) : hN m 259 = 512 := (L.2 (45, 259, 21, 512) (List.mem_of_getElem? (l := lyR) (i := 32) rfl)).2.2
theorem lm_R46 {m : AH} (L : LM m) : hR m 226 46 = 260 := (L.2 (46, 260, 21, 512) (List.mem_of_getElem? (l := lyR) (i := 33) rfl)).1
theorem lm_S260 {m : AH} (L : LM m) : hS m 260 = 21 := (L.2 (46, 260, 21, 512) (List.mem_of_getElem? (l := lyR) (i := 33) rfl)).2.1
theorem lm_N260 {m : AH} (L : LM m) : hN m 260 = 512 := (L.2 (46, 260, 21, 512) (List.mem_of_getElem? (l := lyR) (i := 33) rfl)).2.2
theorem lm_R48 {m : AH} (L : LM m) : hR m 226 48 = 261 := (L.2 (48, 261, 21, 512) (List.mem_of_getElem? (l := lyR) (i := 34) rfl)).1
theorem lm_S261 {m : AH} (L : LM m) : hS m 261 = 21 := (L.2 (48, 261, 21, 512) (List.mem_of_getElem? (l := lyR) (i := 34) rfl)).2.1
theorem lm_N261 {m : AH} (L : LM m) : hN m 261 = 512 := (L.2 (48, 261, 21, 512) (List.mem_of_getElem? (l := lyR) (i := 34) rfl)).2.2
theorem lm_R49 {m : AH} (L : LM m) : hR m 226 49 = 262 := (L.2 (49, 262, 21, 2048) (List.mem_of_getElem? (l := lyR) (i := 35) rfl)).1
theorem lm_S262 {m : AH} (L : LM m) : hS m 262 = 21 := (L.2 (49, 262, 21, 2048) (List.mem_of_getElem? (l := lyR) (i := 35) rfl)).2.1
theorem lm_N262 {m : AH} (L : LM m) : hN m 262 = 2048 := (L.2 (49, 262, 21, 2048) (List.mem_of_getElem? (l := lyR) (i := 35) rfl)).2.2
theorem lm_R50 {m : AH} (L : LM m) : hR m 226 50 = 263 := (L.2 (50, 263, 24, 512) (List.mem_of_getElem? (l := lyR) (i := 36) rfl)).1
theorem lm_S263 {m : AH} (L : LM m) : hS m 263 = 24 := (L.2 (50, 263, 24, 512) (List.mem_of_getElem? (l := lyR) (i := 36) rfl)).2.1
theorem lm_N263 {m : AH} (L : LM m) : hN m 263 = 512 := (L.2 (50, 263, 24, 512) (List.mem_of_getElem? (l := lyR) (i := 36) rfl)).2.2
theorem lm_R51 {m : AH} (L : LM m) : hR m 226 51 = 264 := (L.2 (51, 264, 21, 512) (List.mem_of_getElem? (l := lyR) (i := 37) rfl)).1
theorem lm_S264 {m : AH} (L : LM m) : hS m 264 = 21 := (L.2 (51, 264, 21, 512) (List.mem_of_getElem? (l := lyR) (i := 37) rfl)).2.1
theorem lm_N264 {m : AH} (L : LM m) : hN m 264 = 512 := (L.2 (51, 264, 21, 512) (List.mem_of_getElem? (l := lyR) (i := 37) rfl)).2.2
theorem lm_R52 {m : AH} (L : LM m) : hR m 226 52 = 265 := (L.2 (52, 265, 21, 512) (List.mem_of_getElem? (l := lyR) (i := 38) rfl)).1
theorem lm_S265 {m : AH} (L : LM m) : hS m 265 = 21 := (L.2 (52, 265, 21, 512) (List.mem_of_getElem? (l := lyR) (i := 38) rfl)).2.1
theorem lm_N265 {m : AH} (L : LM m) : hN m 265 = 512 := (L.2 (52, 265, 21, 512) (List.mem_of_getElem? (l := lyR) (i := 38) rfl)).2.2
theorem lm_R53 {m : AH} (L : LM m) : hR m 226 53 = 266 := (L.2 (53, 266, 21, 512) (List.mem_of_getElem? (l := lyR) (i := 39) rfl)).1
theorem lm_S266 {m : AH} (L : LM m) : hS m 266 = 21 := (L.2 (53, 266, 21, 512) (List.mem_of_getElem? (l := lyR) (i := 39) rfl)).2.1
theorem lm_N266 {m : AH} (L : LM m) : hN m 266 = 512 := (L.2 (53, 266, 21, 512) (List.mem_of_getElem? (l := lyR) (i := 39) rfl)).2.2
theorem lm_R54 {m : AH} (L : LM m) : hR m 226 54 = 267 := (L.2 (54, 267, 21, 512) (List.mem_of_getElem? (l := lyR) (i := 40) rfl)).1
theorem lm_S267 {m : AH} (L : LM m) : hS m 267 = 21 := (L.2 (54, 267, 21, 512) (List.mem_of_getElem? (l := lyR) (i := 40) rfl)).2.1
theorem lm_N267 {m : AH} (L : LM m) : hN m 267 = 512 := (L.2 (54, 267, 21, 512) (List.mem_of_getElem? (l := lyR) (i := 40) rfl)).2.2
theorem lm_R55 {m : AH} (L : LM m) : hR m 226 55 = 268 := (L.2 (55, 268, 21, 512) (List.mem_of_getElem? (l := lyR) (i := 41) rfl)).1
theorem lm_S268 {m : AH} (L : LM m) : hS m 268 = 21 := (L.2 (55, 268, 21, 512) (List.mem_of_getElem? (l := lyR) (i := 41) rfl)).2.1
theorem lm_N268 {m : AH} (L : LM m) : hN m 268 = 512 := (L.2 (55, 268, 21, 512) (List.mem_of_getElem? (l := lyR) (i := 41) rfl)).2.2
theorem lm_R56 {m : AH} (L : LM m) : hR m 226 56 = 269 := (L.2 (56, 269, 21, 512) (List.mem_of_getElem? (l := lyR) (i := 42) rfl)).1
theorem lm_S269 {m : AH} (L : LM m) : hS m 269 = 21 := (L.2 (56, 269, 21, 512) (List.mem_of_getElem? (l := lyR) (i := 42) rfl)).2.1
theorem lm_N269 {m : AH} (L : LM m) : hN m 269 = 512 := (L.2 (56, 269, 21, 512) (List.mem_of_getElem? (l := lyR) (i := 42) rfl)).2.2
theorem lm_R58 {m : AH} (L : LM m) : hR m 226 58 = 270 := (L.2 (58, 270, 21, 700) (List.mem_of_getElem? (l := lyR) (i := 43) rfl)).1
theorem lm_S270 {m : AH} (L : LM m) : hS m 270 = 21 := (L.2 (58, 270, 21, 700) (List.mem_of_getElem? (l := lyR) (i := 43) rfl)).2.1
theorem lm_N270 {m : AH} (L : LM m) : hN m 270 = 700 := (L.2 (58, 270, 21, 700) (List.mem_of_getElem? (l := lyR) (i := 43) rfl)).2.2
theorem lm_R60 {m : AH} (L : LM m) : hR m 226 60 = 271 := (L.2 (60, 271, 21, 75600) (List.mem_of_getElem? (l := lyR) (i := 44) rfl)).1
theorem lm_S271 {m : AH} (L : LM m) : hS m 271 = 21 := (L.2 (60, 271, 21, 75600) (List.mem_of_getElem? (l := lyR) (i := 44) rfl)).2.1
theorem lm_N271 {m : AH} (L : LM m) : hN m 271 = 75600 := (L.2 (60, 271, 21, 75600) (List.mem_of_getElem? (l := lyR) (i := 44) rfl)).2.2
theorem lm_R61 {m : AH} (L : LM m) : hR m 226 61 = 272 := (L.2 (61, 272, 21, 9) (List.mem_of_getElem? (l := lyR) (i := 45) rfl)).1
theorem lm_S272 {m : AH} (L : LM m) : hS m 272 = 21 := (L.2 (61, 272, 21, 9) (List.mem_of_getElem? (l := lyR) (i := 45) rfl)).2.1
theorem lm_N272 {m : AH} (L : LM m) : hN m 272 = 9 := (L.2 (61, 272, 21, 9) (List.mem_of_getElem? (l := lyR) (i := 45) rfl)).2.2
theorem lm_R68 {m : AH} (L : LM m) : hR m 226 68 = 273 := (L.2 (68, 273, 26, 61) (List.mem_of_getElem? (l := lyR) (i := 46) rfl)).1
theorem lm_S273 {m : AH} (L : LM m) : hS m 273 = 26 := (L.2 (68, 273, 26, 61) (List.mem_of_getElem? (l := lyR) (i := 46) rfl)).2.1
theorem lm_N273 {m : AH} (L : LM m) : hN m 273 = 61 := (L.2 (68, 273, 26, 61) (List.mem_of_getElem? (l := lyR) (i := 46) rfl)).2.2
theorem lm_R69 {m : AH} (L : LM m) : hR m 226 69 = 274 := (L.2 (69, 274, 21, 61) (List.mem_of_getElem? (l := lyR) (i := 47) rfl)).1
theorem lm_S274 {m : AH} (L : LM m) : hS m 274 = 21 := (L.2 (69, 274, 21, 61) (List.mem_of_getElem? (l := lyR) (i := 47) rfl)).2.1
theorem lm_N274 {m : AH} (L : LM m) : hN m 274 = 61 := (L.2 (69, 274, 21, 61) (List.mem_of_getElem? (l := lyR) (i := 47) rfl)).2.2
theorem lm_R70 {m : AH} (L : LM m) : hR m 226 70 = 275 := (L.2 (70, 275, 21, 61) (List.mem_of_getElem? (l := lyR) (i := 48) rfl)).1
theorem lm_S275 {m : AH} (L : LM m) : hS m 275 = 21 := (L.2 (70, 275, 21, 61) (List.mem_of_getElem? (l := lyR) (i := 48) rfl)).2.1
theorem lm_N275 {m : AH} (L : LM m) : hN m 275 = 61 := (L.2 (70, 275, 21, 61) (List.mem_of_getElem? (l := lyR) (i := 48) rfl)).2.2
theorem lm_R80 {m : AH} (L : LM m) : hR m 226 80 = 276 := (L.2 (80, 276, 21, 9) (List.mem_of_getElem? (l := lyR) (i := 49) rfl)).1
theorem lm_S276 {m : AH} (L : LM m) : hS m 276 = 21 := (L.2 (80, 276, 21, 9) (List.mem_of_getElem? (l := lyR) (i := 49) rfl)).2.1
theorem lm_N276 {m : AH} (L : LM m) : hN m 276 = 9 := (L.2 (80, 276, 21, 9) (List.mem_of_getElem? (l := lyR) (i := 49) rfl)).2.2
theorem lm_sI (m : AH) (o k : Nat) (v : Int32) : LM (sI m o k v) = LM m := rfl
theorem lm_sL (m : AH) (o k : Nat) (v : Int64) : LM (sL m o k v) = LM m := rfl
theorem lm_sA (m : AH) (o : Nat) (f : Nat → Int32) : LM (sA m o f) = LM m := rfl
theorem lm_hB (m : AH) (n : Nat) : LM (hB m n) = LM m := rfl
theorem lm_of {m m' : AH} (e : m'.2.2.1 = m.2.2.1) (e2 : m'.2.2.2.1 = m.2.2.2.1) (e3 : m'.2.2.2.2.1 = m.2.2.2.2.1) (L : LM m) : LM m' := by
  refine ⟨?_, fun x hx => ?_⟩
  · show m'.2.2.2.1 226 = 10; rw [e2]; exact L.1
  · have := L.2 x hx
    refine ⟨?_, ?_, ?_⟩
    · show m'.2.2.1 226 x.1 = _; rw [e]; exact this.1
    · show m'.2.2.2.1 x.2.1 = _; rw [e2]; exact this.2.1
    · show m'.2.2.2.2.1 x.2.1 = _; rw [e3]; exact this.2.2
def adO (F : Nat) : Nat := match F with
  | 0 => 239
  | 1 => 258
  | 2 => 259
  | 3 => 260
  | 4 => 261
  | 5 => 263
  | 6 => 264
  | 7 => 265
  | 8 => 266
  | 9 => 267
  | 10 => 268
  | 11 => 269
  | 12 => 252
  | 13 => 253
  | 14 => 254
  | 15 => 247
  | _ => 226
def adK (F i : Nat) : Nat := match F with
  | 16 => 47
  | 17 => 79
  | 18 => 63
  | 19 => 64
  | 20 => 65
  | _ => i
def fl (F : Nat) : Nat := match F with
  | 0 => 6
  | 12 => 16
  | 13 => 16
  | 14 => 16
  | 15 => 16
  | 16 => 1
  | 17 => 1
  | 18 => 1
  | 19 => 1
  | 20 => 1
  | _ => 512
def cv (F v : Nat) : Int32 := match F with
  | 4 => pI v
  | 6 => pI v
  | 8 => pI v
  | 12 => pI v
  | 13 => pI v
  | _ => nI v
def wO (F : Nat) : Nat := match F with
  | 0 => 241
  | 1 => 242
  | _ => 262
def RM (m : AH) (s : St) : Prop := LM m ∧ (∀ F i, F < 21 → i < fl F → hI m (adO F) (adK F i) = cv F (N s F i)) ∧
  (∀ F i j, F < 3 → i < 512 → j < 4 → hI m (wO F) (4 * i + j) = w4 (Wda s F i) j) ∧
  hI m 226 59 = nI (Pl s).length ∧ (∀ i j, i < (Pl s).length → j < 9 → hI m 271 (9 * i + j) = mp ((Pl s).getD i x0) j) ∧
  hI m 226 57 = nI (Ql s).length ∧ (∀ i j, i < (Ql s).length → j < 7 → hI m 270 (7 * i + j) = qp ((Ql s).getD i x0) j)
theorem ad_inj : ∀ F, F < 21 → ∀ G, G < 21 → adO G = adO F → (F < 16 ∧ G = F) ∨ (16 ≤ F ∧ 16 ≤ G) := by decide +kernel
theorem ad_injK : ∀ F, F < 21 → ∀ G, G < 21 → 16 ≤ F → 16 ≤ G → adK G 0 = adK F 0 → G = F := by decide +kernel
theorem ad_K : ∀ F, F < 21 → F < 16 → ∀ i, adK F i = i := by
  intro F _ h i
  match F, h with
  | 0, _ => rfl | 1, _ => rfl | 2, _ => rfl | 3, _ => rfl | 4, _ => rfl | 5, _ => rfl | 6, _ => rfl | 7, _ => rfl
  | 8, _ => rfl | 9, _ => rfl | 10, _ => rfl | 11, _ => rfl | 12, _ => rfl | 13, _ => rfl | 14, _ => rfl | 15, _ => rfl
  | n + 16, h => exact absurd h (by omega)
theorem fl_16 : ∀ F, F < 21 → 16 ≤ F → fl F = 1 := by decide +kernel
theorem ad_ne : ∀ F, F < 21 → (∀ G, G < 3 → adO F ≠ wO G) ∧ adO F ≠ 271 ∧ adO F ≠ 270 := by decide +kernel
theorem ad_59 : ∀ F, F < 21 → adO F = 226 → ∀ i, i < 1 → adK F i ≠ 59 ∧ adK F i ≠ 57 := by decide +kernel
theorem ad_226 : ∀ F, F < 21 → (16 ≤ F ↔ adO F = 226) := by decide +kernel
theorem wO_ne : ∀ F, F < 3 → wO F ≠ 271 ∧ wO F ≠ 270 ∧ wO F ≠ 226 := by decide +kernel
theorem wO_inj : ∀ F, F < 3 → ∀ G, G < 3 → wO F = wO G → F = G := by decide +kernel
theorem RM_N {m : AH} {s : St} (R : RM m s) {F i v : Nat} (hF : F < 21) (hi : i < fl F) : RM (sI m (adO F) (adK F i) (cv F v)) (uN s F i v) := by
  obtain ⟨L, h1, h2, h3, h4, h5, h6⟩ := R
  obtain ⟨n1, n2, n3⟩ := ad_ne F hF
  refine ⟨L, ?_, ?_, ?_, ?_, ?_, ?_⟩
  · intro G j hG hj
    rw [x_hI_sI, N_uN]
    by_cases e : G = F ∧ j = i
    · obtain ⟨rfl, rfl⟩ := e
      rw [if_pos ⟨rfl, rfl⟩, if_pos ⟨rfl, rfl⟩]
    · rw [if_neg e, if_neg, h1 G j hG hj]
      intro c
      apply e
      rcases ad_inj F hF G hG c.1 with ⟨a, b⟩ | ⟨a, b⟩
      · subst b
        have c2 := c.2
        rw [ad_K _ hF a, ad_K _ hF a] at c2
        exact ⟨rfl, c2⟩
      · have f1 := fl_16 F hF a
        have f2 := fl_16 G hG b
        have : i = 0 := by omega
        have : j = 0 := by omega
        subst_vars
        exact ⟨ad_injK F hF G hG a b c.2, rfl⟩
  · intro G k j hG hk hj
    rw [x_hI_sI, W_uN, if_neg, h2 G k j hG hk hj]
    intro c; exact n1 G hG c.1.symm
  · rw [x_hI_sI, P_uN, if_neg, h3]
    intro c
    have := (ad_226 F hF).mpr c.1.symm
    have f1 := fl_16 F hF this
    exact (ad_59 F hF c.1.symm i (by omega)).1 c.2.symm
  · intro k j hk hj
    rw [P_uN] at hk
    rw [x_hI_sI, P_uN, if_neg, h4 k j hk hj]
    intro c; exact n2 c.1.symm
  · rw [x_hI_sI, Q_uN, if_neg, h5]
    intro c
    have := (ad_226 F hF).mpr c.1.symm
    have f1 := fl_16 F hF this
    exact (ad_59 F hF c.1.symm i (by omega)).2 c.2.symm
  · intro k j hk hj
    rw [Q_uN] at hk
    rw [x_hI_sI, Q_uN, if_neg, h6 k j hk hj]
    intro c; exact n3 c.1.symm
theorem RM_W {m : AH} {s : St} (R : RM m s) {F i j : Nat} {v : Int32} (hF : F < 3) (hi : i < 512) (hj : j < 4) : RM (sI m (wO F) (4 * i + j) v) (uW s F i (w4s (Wda s F i) j v)) := by
  obtain ⟨L, h1, h2, h3, h4, h5, h6⟩ := R
  obtain ⟨n1, n2, n3⟩ := wO_ne F hF
  refine ⟨L, ?_, ?_, ?_, ?_, ?_, ?_⟩
  · intro G k hG hk
    rw [x_hI_sI, N_uW, if_neg, h1 G k hG hk]
    intro c; exact (ad_ne G hG).1 F hF c.1
  · intro G k a hG hk ha
    rw [x_hI_sI, W_uW]
    by_cases e : G = F ∧ k = i
    · obtain ⟨rfl, rfl⟩ := e
      rw [if_pos (⟨rfl, rfl⟩ : G = G ∧ k = k), w4_w4s _ _ _ _ ha hj]
      by_cases e2 : a = j
      · rw [if_pos ⟨rfl, by rw [e2]⟩, if_pos e2]
      · rw [if_neg e2, if_neg, h2 G k a hG hk ha]
        intro c; omega
    · rw [if_neg e, if_neg, h2 G k a hG hk ha]
      intro c
      have := wO_inj G hG F hF c.1
      exact e ⟨this, by omega⟩
  · rw [x_hI_sI, P_uW, if_neg, h3]
    intro c; exact n3 c.1.symm
  · intro k a hk ha
    rw [x_hI_sI, P_uW, if_neg, h4 k a hk ha]
    intro c; exact n1 c.1.symm
  · rw [x_hI_sI, Q_uW, if_neg, h5]
    intro c; exact n3 c.1.symm
  · intro k a hk ha
    rw [x_hI_sI, Q_uW, if_neg, h6 k a hk ha]
    intro c; exact n2 c.1.symm
theorem RM_g {m : AH} {s : St} (R : RM m s) {F i v : Nat} (hF : 21 ≤ F) : RM m (uN s F i v) := by
  obtain ⟨L, h1, h2, h3, h4, h5, h6⟩ := R
  refine ⟨L, ?_, h2, h3, h4, h5, h6⟩
  intro G j hG hj
  rw [N_uN, if_neg (by omega)]
  exact h1 G j hG hj
theorem RM_gW {m : AH} {s : St} (R : RM m s) {F i : Nat} {w : W4} (hF : 3 ≤ F) : RM m (uW s F i w) := by
  obtain ⟨L, h1, h2, h3, h4, h5, h6⟩ := R
  refine ⟨L, h1, ?_, h3, h4, h5, h6⟩
  intro G k j hG hk hj
  rw [W_uW, if_neg (by omega)]
  exact h2 G k j hG hk hj
/-- places of the reference that aren't the memory system's -/
def irr (o k : Nat) : Bool := if o = 226 then (k != 47 && k != 79 && k != 63 && k != 64 && k != 65 && k != 59 && k != 57) else (o != 239 && o != 258 && o != 259 && o != 260 && o != 261 && o != 263 && o != 264 && o != 265 && o != 266 && o != 267 && o != 268 && o != 269 && o != 252 && o != 253 && o != 254 && o != 247 && o != 241 && o != 242 && o != 262 && o != 271 && o != 270)
theorem irr_ad : ∀ F, F < 21 → ∀ k, (F < 16 ∨ k < 1) → irr (adO F) (adK F k) = false := by
  intro F hF k hk
  match F, hF with
  | 0, _ => rfl | 1, _ => rfl | 2, _ => rfl | 3, _ => rfl | 4, _ => rfl | 5, _ => rfl | 6, _ => rfl | 7, _ => rfl
  | 8, _ => rfl | 9, _ => rfl | 10, _ => rfl | 11, _ => rfl | 12, _ => rfl | 13, _ => rfl | 14, _ => rfl | 15, _ => rfl
  | 16, _ => rfl | 17, _ => rfl | 18, _ => rfl | 19, _ => rfl | 20, _ => rfl
  | n + 21, h => exact absurd h (by omega)
theorem irr_w : ∀ F, F < 3 → ∀ k, irr (wO F) k = false := by
  intro F hF k
  match F, hF with
  | 0, _ => rfl | 1, _ => rfl | 2, _ => rfl
/-- the memory system's part of two heaps is the same -/
def Sm (m m' : AH) : Prop := m'.2.2 = m.2.2 ∧ ∀ o k, irr o k = false → hI m' o k = hI m o k
theorem RM_sm {m m' : AH} {s : St} (R : RM m s) (S : Sm m m') : RM m' s := by
  obtain ⟨L, h1, h2, h3, h4, h5, h6⟩ := R
  refine ⟨lm_of (by rw [S.1]) (by rw [S.1]) (by rw [S.1]) L, ?_, ?_, ?_, ?_, ?_, ?_⟩
  · intro G k hG hk
    rw [S.2 _ _ (irr_ad G hG k _), h1 G k hG hk]
    rcases Nat.lt_or_ge G 16 with a | a
    · exact Or.inl a
    · have := fl_16 G hG a; exact Or.inr (by omega)
  · intro G k j hG hk hj
    rw [S.2 _ _ (irr_w G hG _), h2 G k j hG hk hj]
  · rw [S.2 _ _ rfl, h3]
  · intro k j hk hj
    rw [S.2 _ _ rfl, h4 k j hk hj]
  · rw [S.2 _ _ rfl, h5]
  · intro k j hk hj
    rw [S.2 _ _ rfl, h6 k j hk hj]
theorem Sm_rfl (m : AH) : Sm m m := ⟨rfl, fun _ _ _ => rfl⟩
theorem Sm_sI {m m' : AH} (S : Sm m m') {o k : Nat} (v : Int32) (h : irr o k = true) : Sm m (sI m' o k v) := by
  refine ⟨S.1, fun p q e => ?_⟩
  rw [x_hI_sI, if_neg, S.2 p q e]
  rintro ⟨rfl, rfl⟩; rw [h] at e; cases e
theorem RM_o {m : AH} {s : St} (R : RM m s) {o k : Nat} (v : Int32) (h : irr o k = true) : RM (sI m o k v) s := RM_sm R (Sm_sI (Sm_rfl m) v h)
/-- what is not the memory system's is the same in two heaps (but for the hand, what came, and the tokens' registers) -/
def Fr (m m' : AH) : Prop := m'.2 = m.2 ∧ ∀ o k, irr o k = true → o ≠ 272 → o ≠ 276 → hI m' o k = hI m o k
theorem Fr_rfl (m : AH) : Fr m m := ⟨rfl, fun _ _ _ _ _ => rfl⟩
theorem Fr_tr {a b c : AH} (h : Fr a b) (h2 : Fr b c) : Fr a c := ⟨h2.1.trans h.1, fun o k e e2 e3 => (h2.2 o k e e2 e3).trans (h.2 o k e e2 e3)⟩
theorem Fr_sI {m m' : AH} (S : Fr m m') {o k : Nat} (v : Int32) (h : irr o k = false) : Fr m (sI m' o k v) := by
  refine ⟨S.1, fun p q e e2 e3 => ?_⟩
  rw [x_hI_sI, if_neg, S.2 p q e e2 e3]
  rintro ⟨rfl, rfl⟩; rw [h] at e; cases e
theorem Fr_N {m m' : AH} (S : Fr m m') {F i : Nat} (v : Int32) (hF : F < 21) (hi : i < fl F) : Fr m (sI m' (adO F) (adK F i) v) := Fr_sI S v (irr_ad F hF i (by
    rcases Nat.lt_or_ge F 16 with a | a
    · exact Or.inl a
    · have := fl_16 F hF a; exact Or.inr (by omega)))
theorem Fr_h {m m' : AH} (S : Fr m m') {k : Nat} (v : Int32) : Fr m (sI m' 272 k v) := by
  refine ⟨S.1, fun p q e e2 e3 => ?_⟩
  rw [x_hI_sI, if_neg, S.2 p q e e2 e3]
  rintro ⟨rfl, rfl⟩; exact e2 rfl
theorem Fr_c {m m' : AH} (S : Fr m m') {k : Nat} (v : Int32) : Fr m (sI m' 276 k v) := by
  refine ⟨S.1, fun p q e e2 e3 => ?_⟩
  rw [x_hI_sI, if_neg, S.2 p q e e2 e3]
  rintro ⟨rfl, rfl⟩; exact e3 rfl
theorem rm_0 {m : AH} {s : St} (R : RM m s) {k : Nat} (h : k < 6) : hI m 239 k = nI (N s 0 k) := R.2.1 0 k (by decide) h
theorem ru_0 {m : AH} {s : St} (R : RM m s) {k v : Nat} (h : k < 6) : RM (sI m 239 k (nI v)) (uN s 0 k v) := RM_N R (F := 0) (by decide) h
theorem rm_1 {m : AH} {s : St} (R : RM m s) {k : Nat} (h : k < 512) : hI m 258 k = nI (N s 1 k) := R.2.1 1 k (by decide) h
theorem ru_1 {m : AH} {s : St} (R : RM m s) {k v : Nat} (h : k < 512) : RM (sI m 258 k (nI v)) (uN s 1 k v) := RM_N R (F := 1) (by decide) h
theorem rm_2 {m : AH} {s : St} (R : RM m s) {k : Nat} (h : k < 512) : hI m 259 k = nI (N s 2 k) := R.2.1 2 k (by decide) h
theorem ru_2 {m : AH} {s : St} (R : RM m s) {k v : Nat} (h : k < 512) : RM (sI m 259 k (nI v)) (uN s 2 k v) := RM_N R (F := 2) (by decide) h
theorem rm_3 {m : AH} {s : St} (R : RM m s) {k : Nat} (h : k < 512) : hI m 260 k = nI (N s 3 k) := R.2.1 3 k (by decide) h
theorem ru_3 {m : AH} {s : St} (R : RM m s) {k v : Nat} (h : k < 512) : RM (sI m 260 k (nI v)) (uN s 3 k v) := RM_N R (F := 3) (by decide) h
theorem rm_4 {m : AH} {s : St} (R : RM m s) {k : Nat} (h : k < 512) : hI m 261 k = pI (N s 4 k) := R.2.1 4 k (by decide) h
theorem ru_4 {m : AH} {s : St} (R : RM m s) {k v : Nat} (h : k < 512) : RM (sI m 261 k (pI v)) (uN s 4 k v) := RM_N R (F := 4) (by decide) h
theorem rm_5 {m : AH} {s : St} (R : RM m s) {k : Nat} (h : k < 512) : hI m 263 k = nI (N s 5 k) := R.2.1 5 k (by decide) h
theorem ru_5 {m : AH} {s : St} (R : RM m s) {k v : Nat} (h : k < 512) : RM (sI m 263 k (nI v)) (uN s 5 k v) := RM_N R (F := 5) (by decide) h
theorem rm_6 {m : AH} {s : St} (R : RM m s) {k : Nat} (h : k < 512) : hI m 264 k = pI (N s 6 k) := R.2.1 6 k (by decide) h
theorem ru_6 {m : AH} {s : St} (R : RM m s) {k v : Nat} (h : k < 512) : RM (sI m 264 k (pI v)) (uN s 6 k v) := RM_N R (F := 6) (by decide) h
theorem rm_7 {m : AH} {s : St} (R : RM m s) {k : Nat} (h : k < 512) : hI m 265 k = nI (N s 7 k) := R.2.1 7 k (by decide) h
theorem ru_7 {m : AH} {s : St} (R : RM m s) {k v : Nat} (h : k < 512) : RM (sI m 265 k (nI v)) (uN s 7 k v) := RM_N R (F := 7) (by decide) h
theorem rm_8 {m : AH} {s : St} (R : RM m s) {k : Nat} (h : k < 512) : hI m 266 k = pI (N s 8 k) := R.2.1 8 k (by decide) h
theorem ru_8 {m : AH} {s : St} (R : RM m s) {k v : Nat} (h : k < 512) : RM (sI m 266 k (pI v)) (uN s 8 k v) := RM_N R (F := 8) (by decide) h
theorem rm_9 {m : AH} {s : St} (R : RM m s) {k : Nat} (h : k < 512) : hI m 267 k = nI (N s 9 k) := R.2.1 9 k (by decide) h
theorem ru_9 {m : AH} {s : St} (R : RM m s) {k v : Nat} (h : k < 512) : RM (sI m 267 k (nI v)) (uN s 9 k v) := RM_N R (F := 9) (by decide) h
theorem rm_10 {m : AH} {s : St} (R : RM m s) {k : Nat} (h : k < 512) : hI m 268 k = nI (N s 10 k) := R.2.1 10 k (by decide) h
theorem ru_10 {m : AH} {s : St} (R : RM m s) {k v : Nat} (h : k < 512) : RM (sI m 268 k (nI v)) (uN s 10 k v) := RM_N R (F := 10) (by decide) h
theorem rm_11 {m : AH} {s : St} (R : RM m s) {k : Nat} (h : k < 512) : hI m 269 k = nI (N s 11 k) := R.2.1 11 k (by decide) h
theorem ru_11 {m : AH} {s : St} (R : RM m s) {k v : Nat} (h : k < 512) : RM (sI m 269 k (nI v)) (uN s 11 k v) := RM_N R (F := 11) (by decide) h
theorem rm_12 {m : AH} {s : St} (R : RM m s) {k : Nat} (h : k < 16) : hI m 252 k = pI (N s 12 k) := R.2.1 12 k (by decide) h
theorem ru_12 {m : AH} {s : St} (R : RM m s) {k v : Nat} (h : k < 16) : RM (sI m 252 k (pI v)) (uN s 12 k v) := RM_N R (F := 12) (by decide) h
theorem rm_13 {m : AH} {s : St} (R : RM m s) {k : Nat} (h : k < 16) : hI m 253 k = pI (N s 13 k) := R.2.1 13 k (by decide) h
theorem ru_13 {m : AH} {s : St} (R : RM m s) {k v : Nat} (h : k < 16) : RM (sI m 253 k (pI v)) (uN s 13 k v) := RM_N R (F := 13) (by decide) h
theorem rm_14 {m : AH} {s : St} (R : RM m s) {k : Nat} (h : k < 16) : hI m 254 k = nI (N s 14 k) := R.2.1 14 k (by decide) h
theorem ru_14 {m : AH} {s : St} (R : RM m s) {k v : Nat} (h : k < 16) : RM (sI m 254 k (nI v)) (uN s 14 k v) := RM_N R (F := 14) (by decide) h
theorem rm_15 {m : AH} {s : St} (R : RM m s) {k : Nat} (h : k < 16) : hI m 247 k = nI (N s 15 k) := R.2.1 15 k (by decide) h
theorem ru_15 {m : AH} {s : St} (R : RM m s) {k v : Nat} (h : k < 16) : RM (sI m 247 k (nI v)) (uN s 15 k v) := RM_N R (F := 15) (by decide) h
theorem rm_16 {m : AH} {s : St} (R : RM m s) : hI m 226 47 = nI (N s 16 0) := R.2.1 16 0 (by decide) (by decide)
theorem ru_16 {m : AH} {s : St} (R : RM m s) {v : Nat} : RM (sI m 226 47 (nI v)) (uN s 16 0 v) := RM_N R (F := 16) (i := 0) (by decide) (by decide)
theorem rm_17 {m : AH} {s : St} (R : RM m s) : hI m 226 79 = nI (N s 17 0) := R.2.1 17 0 (by decide) (by decide)
theorem ru_17 {m : AH} {s : St} (R : RM m s) {v : Nat} : RM (sI m 226 79 (nI v)) (uN s 17 0 v) := RM_N R (F := 17) (i := 0) (by decide) (by decide)
theorem rm_18 {m : AH} {s : St} (R : RM m s) : hI m 226 63 = nI (N s 18 0) := R.2.1 18 0 (by decide) (by decide)
theorem ru_18 {m : AH} {s : St} (R : RM m s) {v : Nat} : RM (sI m 226 63 (nI v)) (uN s 18 0 v) := RM_N R (F := 18) (i := 0) (by decide) (by decide)
theorem rm_19 {m : AH} {s : St} (R : RM m s) : hI m 226 64 = nI (N s 19 0) := R.2.1 19 0 (by decide) (by decide)
theorem ru_19 {m : AH} {s : St} (R : RM m s) {v : Nat} : RM (sI m 226 64 (nI v)) (uN s 19 0 v) := RM_N R (F := 19) (i := 0) (by decide) (by decide)
theorem rm_20 {m : AH} {s : St} (R : RM m s) : hI m 226 65 = nI (N s 20 0) := R.2.1 20 0 (by decide) (by decide)
theorem ru_20 {m : AH} {s : St} (R : RM m s) {v : Nat} : RM (sI m 226 65 (nI v)) (uN s 20 0 v) := RM_N R (F := 20) (i := 0) (by decide) (by decide)
theorem rw_0 {m : AH} {s : St} (R : RM m s) {l j : Nat} (hl : l < 512) (hj : j < 4) : hI m 241 (4 * l + j) = w4 (Wda s 0 l) j := R.2.2.1 0 l j (by decide) hl hj
theorem rv_0 {m : AH} {s : St} (R : RM m s) {l j : Nat} {v : Int32} (hl : l < 512) (hj : j < 4) : RM (sI m 241 (4 * l + j) v) (uW s 0 l (w4s (Wda s 0 l) j v)) := RM_W R (F := 0) (by decide) hl hj
theorem rw_1 {m : AH} {s : St} (R : RM m s) {l j : Nat} (hl : l < 512) (hj : j < 4) : hI m 242 (4 * l + j) = w4 (Wda s 1 l) j := R.2.2.1 1 l j (by decide) hl hj
theorem rv_1 {m : AH} {s : St} (R : RM m s) {l j : Nat} {v : Int32} (hl : l < 512) (hj : j < 4) : RM (sI m 242 (4 * l + j) v) (uW s 1 l (w4s (Wda s 1 l) j v)) := RM_W R (F := 1) (by decide) hl hj
theorem rw_2 {m : AH} {s : St} (R : RM m s) {l j : Nat} (hl : l < 512) (hj : j < 4) : hI m 262 (4 * l + j) = w4 (Wda s 2 l) j := R.2.2.1 2 l j (by decide) hl hj
theorem rv_2 {m : AH} {s : St} (R : RM m s) {l j : Nat} {v : Int32} (hl : l < 512) (hj : j < 4) : RM (sI m 262 (4 * l + j) v) (uW s 2 l (w4s (Wda s 2 l) j v)) := RM_W R (F := 2) (by decide) hl hj
theorem rm_L {m : AH} {s : St} (R : RM m s) : LM m := R.1
theorem rm_p {m : AH} {s : St} (R : RM m s) : hI m 226 59 = nI (Pl s).length := R.2.2.2.1
theorem rm_q {m : AH} {s : St} (R : RM m s) : hI m 226 57 = nI (Ql s).length := R.2.2.2.2.2.1
theorem rm_pi {m : AH} {s : St} (R : RM m s) {i j : Nat} (hi : i < (Pl s).length) (hj : j < 9) : hI m 271 (9 * i + j) = mp ((Pl s).getD i x0) j := R.2.2.2.2.1 i j hi hj
theorem rm_qi {m : AH} {s : St} (R : RM m s) {i j : Nat} (hi : i < (Ql s).length) (hj : j < 7) : hI m 270 (7 * i + j) = qp ((Ql s).getD i x0) j := R.2.2.2.2.2.2 i j hi hj
