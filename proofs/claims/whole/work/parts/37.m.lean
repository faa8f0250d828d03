def f_X11_init_L1529 : Nat → AH → Nat → Int32 → Option (AH)
  | 0, _, _, _ => none
  | n + 1, h, a0, a1 =>
    if (6 : Int32) ≤ a1 then
      gs h a0 10 <|
      bd (f_X11_clear h a0) fun q3 =>
      some q3
    else
      gs h a0 10 <|
      gs h (hR h a0 22) 21 <|
      gb (ib a1 (hN h (hR h a0 22))) <|
      lt (sI h (hR h a0 22) a1.toNatClampNeg (1 : Int32)) fun h7 =>
      lt (a1 + (1 : Int32)) fun x8 =>
      f_X11_init_L1529 n h7 a0 x8
set_option maxRecDepth 100000 in
set_option maxHeartbeats 4000000 in
theorem ok_X11_init_L1529 (l : Launch) (X : Cx) : ∀ (n : Nat) (h : AH) (a0 : Nat) (a1 : Int32) (q : AH), f_X11_init_L1529 n h a0 a1 = some q → Go l X k_X11_init 1529 [(0, rf X a0), (1, .int a1)] [] h (rV q) := by
  intro n
  induction n with
  | zero =>
    intro h a0 a1 q hf
    unfold f_X11_init_L1529 at hf
    cases hf
  | succ n ih =>
    intro h a0 a1 q hf
    unfold f_X11_init_L1529 at hf
    refine g_iload_n (pc := 1529) 1 dX11_init_1529 rfl rfl ?_
    refine g_bipush (pc := 1530) (v := (6 : Int32)) dX11_init_1530 (by decide) ?_
    rcases it_some hf with ⟨c1, hf⟩ | ⟨c1, hf⟩
    · refine g_icge_t (pc := 1532) (tgt := 1548) dX11_init_1532 (by decide) c1 ?_
      refine g_aload_n (pc := 1548) 0 dX11_init_1548 rfl rfl ?_
      obtain ⟨g2, hf⟩ := gs_some hf
      obtain ⟨q3, hcq3, hf⟩ := bd_some hf
      refine g_cVV (pc := 1549) (k2 := k_X11_clear) (av := []) (q := q3) rfl dX11_init_1549 ck_X11_clear m_1390 m_1392 m_56 (ci := 9) rfl (by decide) g2 (by decide) (by decide) rfl (by simp [rf_cat, rq_cat, ca_i, ca_l, ca_r]) (ct_X11_clear l X hcq3) ?_
      obtain rfl := Option.some.inj hf
      exact g_vret (pc := 1552) rfl dX11_init_1552
    · refine g_icge_f (pc := 1532) (tgt := 1548) dX11_init_1532 (by decide) c1 ?_
      refine g_aload_n (pc := 1535) 0 dX11_init_1535 rfl rfl ?_
      obtain ⟨g4, hf⟩ := gs_some hf
      refine g_getR (pc := 1536) fl_X11_50 dX11_init_1536 g4 ?_
      refine g_iload_n (pc := 1539) 1 dX11_init_1539 rfl rfl ?_
      refine g_iconst (pc := 1540) (v := (1 : Int32)) dX11_init_1540 (by decide) ?_
      obtain ⟨g5, hf⟩ := gs_some hf
      obtain ⟨b6, hf⟩ := gb_some hf
      obtain ⟨h7, eh7, hf⟩ := lt_some hf
      refine g_iast (pc := 1541) g5 b6 dX11_init_1541 eh7 ?_
      obtain ⟨x8, ex8, hf⟩ := lt_some hf
      refine g_iinc (pc := 1542) (y := x8) (L' := [(1, .int x8), (0, rf X a0)]) 1 dX11_init_1542 rfl (by decide) (ex8.trans rfl) (by simp [rf_cat, rq_cat]) ?_
      refine g_goto (pc := 1545) (tgt := 1529) dX11_init_1545 (by decide) ?_
      refine g_sub [1, 0] rfl ?_
      exact ih h7 a0 x8 q hf
def f_X11_init (h : AH) (a0 : Nat) : Option (AH) :=
  gs h a0 10 <|
  lt (hNew h 21 (1500 : Int32).toNatClampNeg (1500 : Int32).toNatClampNeg) fun h2 =>
  gs h2 a0 10 <|
  lt (sR h2 a0 1 (hZ h + 1)) fun h4 =>
  lt (hNew h4 21 (1502 : Int32).toNatClampNeg (1502 : Int32).toNatClampNeg) fun h5 =>
  gs h5 a0 10 <|
  lt (sR h5 a0 6 (hZ h4 + 1)) fun h7 =>
  lt (hNew h7 21 (1502 : Int32).toNatClampNeg (1502 : Int32).toNatClampNeg) fun h8 =>
  gs h8 a0 10 <|
  lt (sR h8 a0 7 (hZ h7 + 1)) fun h10 =>
  lt (hNew h10 22 (1502 : Int32).toNatClampNeg (1502 : Int32).toNatClampNeg) fun h11 =>
  gs h11 a0 10 <|
  lt (sR h11 a0 8 (hZ h10 + 1)) fun h13 =>
  lt (hNew h13 22 (760 : Int32).toNatClampNeg (760 : Int32).toNatClampNeg) fun h14 =>
  gs h14 a0 10 <|
  lt (sR h14 a0 11 (hZ h13 + 1)) fun h16 =>
  lt (hNew h16 21 (760 : Int32).toNatClampNeg (760 : Int32).toNatClampNeg) fun h17 =>
  gs h17 a0 10 <|
  lt (sR h17 a0 12 (hZ h16 + 1)) fun h19 =>
  lt (hNew h19 21 (700 : Int32).toNatClampNeg (700 : Int32).toNatClampNeg) fun h20 =>
  gs h20 a0 10 <|
  lt (sR h20 a0 14 (hZ h19 + 1)) fun h22 =>
  lt (hNew h22 21 (700 : Int32).toNatClampNeg (700 : Int32).toNatClampNeg) fun h23 =>
  gs h23 a0 10 <|
  lt (sR h23 a0 15 (hZ h22 + 1)) fun h25 =>
  lt (hNew h25 21 (700 : Int32).toNatClampNeg (700 : Int32).toNatClampNeg) fun h26 =>
  gs h26 a0 10 <|
  lt (sR h26 a0 16 (hZ h25 + 1)) fun h28 =>
  lt (hNew h28 22 (700 : Int32).toNatClampNeg (700 : Int32).toNatClampNeg) fun h29 =>
  gs h29 a0 10 <|
  lt (sR h29 a0 17 (hZ h28 + 1)) fun h31 =>
  lt (hNew h31 21 (700 : Int32).toNatClampNeg (700 : Int32).toNatClampNeg) fun h32 =>
  gs h32 a0 10 <|
  lt (sR h32 a0 18 (hZ h31 + 1)) fun h34 =>
  lt (hNew h34 21 (16 : Int32).toNatClampNeg (16 : Int32).toNatClampNeg) fun h35 =>
  gs h35 a0 10 <|
  lt (sR h35 a0 19 (hZ h34 + 1)) fun h37 =>
  lt (hNew h37 21 (6 : Int32).toNatClampNeg (6 : Int32).toNatClampNeg) fun h38 =>
  gs h38 a0 10 <|
  lt (sR h38 a0 21 (hZ h37 + 1)) fun h40 =>
  lt (hNew h40 21 (6 : Int32).toNatClampNeg (6 : Int32).toNatClampNeg) fun h41 =>
  gs h41 a0 10 <|
  lt (sR h41 a0 22 (hZ h40 + 1)) fun h43 =>
  lt (hNew h43 21 (2048 : Int32).toNatClampNeg (2048 : Int32).toNatClampNeg) fun h44 =>
  gs h44 a0 10 <|
  lt (sR h44 a0 23 (hZ h43 + 1)) fun h46 =>
  lt (hNew h46 21 (2048 : Int32).toNatClampNeg (2048 : Int32).toNatClampNeg) fun h47 =>
  gs h47 a0 10 <|
  lt (sR h47 a0 24 (hZ h46 + 1)) fun h49 =>
  lt (hNew h49 21 (512 : Int32).toNatClampNeg (512 : Int32).toNatClampNeg) fun h50 =>
  gs h50 a0 10 <|
  lt (sR h50 a0 25 (hZ h49 + 1)) fun h52 =>
  lt (hNew h52 21 (16 : Int32).toNatClampNeg (16 : Int32).toNatClampNeg) fun h53 =>
  gs h53 a0 10 <|
  lt (sR h53 a0 26 (hZ h52 + 1)) fun h55 =>
  lt (hNew h55 21 (16 : Int32).toNatClampNeg (16 : Int32).toNatClampNeg) fun h56 =>
  gs h56 a0 10 <|
  lt (sR h56 a0 27 (hZ h55 + 1)) fun h58 =>
  lt (hNew h58 21 (16 : Int32).toNatClampNeg (16 : Int32).toNatClampNeg) fun h59 =>
  gs h59 a0 10 <|
  lt (sR h59 a0 28 (hZ h58 + 1)) fun h61 =>
  lt (hNew h61 21 (16 : Int32).toNatClampNeg (16 : Int32).toNatClampNeg) fun h62 =>
  gs h62 a0 10 <|
  lt (sR h62 a0 29 (hZ h61 + 1)) fun h64 =>
  lt (hNew h64 21 (16 : Int32).toNatClampNeg (16 : Int32).toNatClampNeg) fun h65 =>
  gs h65 a0 10 <|
  lt (sR h65 a0 30 (hZ h64 + 1)) fun h67 =>
  lt (hNew h67 21 (256 : Int32).toNatClampNeg (256 : Int32).toNatClampNeg) fun h68 =>
  gs h68 a0 10 <|
  lt (sR h68 a0 31 (hZ h67 + 1)) fun h70 =>
  lt (hNew h70 21 (256 : Int32).toNatClampNeg (256 : Int32).toNatClampNeg) fun h71 =>
  gs h71 a0 10 <|
  lt (sR h71 a0 32 (hZ h70 + 1)) fun h73 =>
  lt (hNew h73 21 (256 : Int32).toNatClampNeg (256 : Int32).toNatClampNeg) fun h74 =>
  gs h74 a0 10 <|
  lt (sR h74 a0 33 (hZ h73 + 1)) fun h76 =>
  lt (hNew h76 21 (16 : Int32).toNatClampNeg (16 : Int32).toNatClampNeg) fun h77 =>
  gs h77 a0 10 <|
  lt (sR h77 a0 34 (hZ h76 + 1)) fun h79 =>
  lt (hNew h79 21 (16 : Int32).toNatClampNeg (16 : Int32).toNatClampNeg) fun h80 =>
  gs h80 a0 10 <|
  lt (sR h80 a0 35 (hZ h79 + 1)) fun h82 =>
  lt (hNew h82 24 (16 : Int32).toNatClampNeg (16 : Int32).toNatClampNeg) fun h83 =>
  gs h83 a0 10 <|
  lt (sR h83 a0 36 (hZ h82 + 1)) fun h85 =>
  lt (hNew h85 21 (16 : Int32).toNatClampNeg (16 : Int32).toNatClampNeg) fun h86 =>
  gs h86 a0 10 <|
  lt (sR h86 a0 37 (hZ h85 + 1)) fun h88 =>
  lt (hNew h88 21 (16 : Int32).toNatClampNeg (16 : Int32).toNatClampNeg) fun h89 =>
  gs h89 a0 10 <|
  lt (sR h89 a0 38 (hZ h88 + 1)) fun h91 =>
  lt (hNew h91 21 (3584 : Int32).toNatClampNeg (3584 : Int32).toNatClampNeg) fun h92 =>
  gs h92 a0 10 <|
  lt (sR h92 a0 39 (hZ h91 + 1)) fun h94 =>
  lt (hNew h94 21 (512 : Int32).toNatClampNeg (512 : Int32).toNatClampNeg) fun h95 =>
  gs h95 a0 10 <|
  lt (sR h95 a0 44 (hZ h94 + 1)) fun h97 =>
  lt (hNew h97 21 (512 : Int32).toNatClampNeg (512 : Int32).toNatClampNeg) fun h98 =>
  gs h98 a0 10 <|
  lt (sR h98 a0 45 (hZ h97 + 1)) fun h100 =>
  lt (hNew h100 21 (512 : Int32).toNatClampNeg (512 : Int32).toNatClampNeg) fun h101 =>
  gs h101 a0 10 <|
  lt (sR h101 a0 46 (hZ h100 + 1)) fun h103 =>
  lt (hNew h103 21 (512 : Int32).toNatClampNeg (512 : Int32).toNatClampNeg) fun h104 =>
  gs h104 a0 10 <|
  lt (sR h104 a0 48 (hZ h103 + 1)) fun h106 =>
  lt (hNew h106 21 (2048 : Int32).toNatClampNeg (2048 : Int32).toNatClampNeg) fun h107 =>
  gs h107 a0 10 <|
  lt (sR h107 a0 49 (hZ h106 + 1)) fun h109 =>
  lt (hNew h109 24 (512 : Int32).toNatClampNeg (512 : Int32).toNatClampNeg) fun h110 =>
  gs h110 a0 10 <|
  lt (sR h110 a0 50 (hZ h109 + 1)) fun h112 =>
  lt (hNew h112 21 (512 : Int32).toNatClampNeg (512 : Int32).toNatClampNeg) fun h113 =>
  gs h113 a0 10 <|
  lt (sR h113 a0 51 (hZ h112 + 1)) fun h115 =>
  lt (hNew h115 21 (512 : Int32).toNatClampNeg (512 : Int32).toNatClampNeg) fun h116 =>
  gs h116 a0 10 <|
  lt (sR h116 a0 52 (hZ h115 + 1)) fun h118 =>
  lt (hNew h118 21 (512 : Int32).toNatClampNeg (512 : Int32).toNatClampNeg) fun h119 =>
  gs h119 a0 10 <|
  lt (sR h119 a0 53 (hZ h118 + 1)) fun h121 =>
  lt (hNew h121 21 (512 : Int32).toNatClampNeg (512 : Int32).toNatClampNeg) fun h122 =>
  gs h122 a0 10 <|
  lt (sR h122 a0 54 (hZ h121 + 1)) fun h124 =>
  lt (hNew h124 21 (512 : Int32).toNatClampNeg (512 : Int32).toNatClampNeg) fun h125 =>
  gs h125 a0 10 <|
  lt (sR h125 a0 55 (hZ h124 + 1)) fun h127 =>
  lt (hNew h127 21 (512 : Int32).toNatClampNeg (512 : Int32).toNatClampNeg) fun h128 =>
  gs h128 a0 10 <|
  lt (sR h128 a0 56 (hZ h127 + 1)) fun h130 =>
  lt (hNew h130 21 (700 : Int32).toNatClampNeg (700 : Int32).toNatClampNeg) fun h131 =>
  gs h131 a0 10 <|
  lt (sR h131 a0 58 (hZ h130 + 1)) fun h133 =>
  lt (hNew h133 21 (75600 : Int32).toNatClampNeg (75600 : Int32).toNatClampNeg) fun h134 =>
  gs h134 a0 10 <|
  lt (sR h134 a0 60 (hZ h133 + 1)) fun h136 =>
  lt (hNew h136 21 (9 : Int32).toNatClampNeg (9 : Int32).toNatClampNeg) fun h137 =>
  gs h137 a0 10 <|
  lt (sR h137 a0 61 (hZ h136 + 1)) fun h139 =>
  lt (hNew h139 26 (61 : Int32).toNatClampNeg (61 : Int32).toNatClampNeg) fun h140 =>
  gb (ib (0 : Int32) (hN h140 (hZ h139 + 1))) <|
  lt (sR h140 (hZ h139 + 1) (0 : Int32).toNatClampNeg (0 + 1)) fun h143 =>
  gb (ib (1 : Int32) (hN h143 (hZ h139 + 1))) <|
  lt (sR h143 (hZ h139 + 1) (1 : Int32).toNatClampNeg (1 + 1)) fun h146 =>
  gb (ib (2 : Int32) (hN h146 (hZ h139 + 1))) <|
  lt (sR h146 (hZ h139 + 1) (2 : Int32).toNatClampNeg (2 + 1)) fun h149 =>
  gb (ib (3 : Int32) (hN h149 (hZ h139 + 1))) <|
  lt (sR h149 (hZ h139 + 1) (3 : Int32).toNatClampNeg (3 + 1)) fun h152 =>
  gb (ib (4 : Int32) (hN h152 (hZ h139 + 1))) <|
  lt (sR h152 (hZ h139 + 1) (4 : Int32).toNatClampNeg (4 + 1)) fun h155 =>
  gb (ib (5 : Int32) (hN h155 (hZ h139 + 1))) <|
  lt (sR h155 (hZ h139 + 1) (5 : Int32).toNatClampNeg (5 + 1)) fun h158 =>
  gb (ib (6 : Int32) (hN h158 (hZ h139 + 1))) <|
  lt (sR h158 (hZ h139 + 1) (6 : Int32).toNatClampNeg (6 + 1)) fun h161 =>
  gb (ib (7 : Int32) (hN h161 (hZ h139 + 1))) <|
  lt (sR h161 (hZ h139 + 1) (7 : Int32).toNatClampNeg (7 + 1)) fun h164 =>
  gb (ib (8 : Int32) (hN h164 (hZ h139 + 1))) <|
  lt (sR h164 (hZ h139 + 1) (8 : Int32).toNatClampNeg (8 + 1)) fun h167 =>
  gb (ib (9 : Int32) (hN h167 (hZ h139 + 1))) <|
  lt (sR h167 (hZ h139 + 1) (9 : Int32).toNatClampNeg (9 + 1)) fun h170 =>
  gb (ib (10 : Int32) (hN h170 (hZ h139 + 1))) <|
  lt (sR h170 (hZ h139 + 1) (10 : Int32).toNatClampNeg (10 + 1)) fun h173 =>
  gb (ib (11 : Int32) (hN h173 (hZ h139 + 1))) <|
  lt (sR h173 (hZ h139 + 1) (11 : Int32).toNatClampNeg (11 + 1)) fun h176 =>
  gb (ib (12 : Int32) (hN h176 (hZ h139 + 1))) <|
  lt (sR h176 (hZ h139 + 1) (12 : Int32).toNatClampNeg (12 + 1)) fun h179 =>
  gb (ib (13 : Int32) (hN h179 (hZ h139 + 1))) <|
  lt (sR h179 (hZ h139 + 1) (13 : Int32).toNatClampNeg (13 + 1)) fun h182 =>
  gb (ib (14 : Int32) (hN h182 (hZ h139 + 1))) <|
  lt (sR h182 (hZ h139 + 1) (14 : Int32).toNatClampNeg (14 + 1)) fun h185 =>
  gb (ib (15 : Int32) (hN h185 (hZ h139 + 1))) <|
  lt (sR h185 (hZ h139 + 1) (15 : Int32).toNatClampNeg (15 + 1)) fun h188 =>
  gb (ib (16 : Int32) (hN h188 (hZ h139 + 1))) <|
  lt (sR h188 (hZ h139 + 1) (16 : Int32).toNatClampNeg (16 + 1)) fun h191 =>
  gb (ib (17 : Int32) (hN h191 (hZ h139 + 1))) <|
  lt (sR h191 (hZ h139 + 1) (17 : Int32).toNatClampNeg (17 + 1)) fun h194 =>
  gb (ib (18 : Int32) (hN h194 (hZ h139 + 1))) <|
  lt (sR h194 (hZ h139 + 1) (18 : Int32).toNatClampNeg (18 + 1)) fun h197 =>
  gb (ib (19 : Int32) (hN h197 (hZ h139 + 1))) <|
  lt (sR h197 (hZ h139 + 1) (19 : Int32).toNatClampNeg (19 + 1)) fun h200 =>
  gb (ib (20 : Int32) (hN h200 (hZ h139 + 1))) <|
  lt (sR h200 (hZ h139 + 1) (20 : Int32).toNatClampNeg (20 + 1)) fun h203 =>
  gb (ib (21 : Int32) (hN h203 (hZ h139 + 1))) <|
  lt (sR h203 (hZ h139 + 1) (21 : Int32).toNatClampNeg (21 + 1)) fun h206 =>
  gb (ib (22 : Int32) (hN h206 (hZ h139 + 1))) <|
  lt (sR h206 (hZ h139 + 1) (22 : Int32).toNatClampNeg (22 + 1)) fun h209 =>
  gb (ib (23 : Int32) (hN h209 (hZ h139 + 1))) <|
  lt (sR h209 (hZ h139 + 1) (23 : Int32).toNatClampNeg (23 + 1)) fun h212 =>
  gb (ib (24 : Int32) (hN h212 (hZ h139 + 1))) <|
  lt (sR h212 (hZ h139 + 1) (24 : Int32).toNatClampNeg (24 + 1)) fun h215 =>
  gb (ib (25 : Int32) (hN h215 (hZ h139 + 1))) <|
  lt (sR h215 (hZ h139 + 1) (25 : Int32).toNatClampNeg (25 + 1)) fun h218 =>
  gb (ib (26 : Int32) (hN h218 (hZ h139 + 1))) <|
  lt (sR h218 (hZ h139 + 1) (26 : Int32).toNatClampNeg (26 + 1)) fun h221 =>
  gb (ib (27 : Int32) (hN h221 (hZ h139 + 1))) <|
  lt (sR h221 (hZ h139 + 1) (27 : Int32).toNatClampNeg (27 + 1)) fun h224 =>
  gb (ib (28 : Int32) (hN h224 (hZ h139 + 1))) <|
  lt (sR h224 (hZ h139 + 1) (28 : Int32).toNatClampNeg (28 + 1)) fun h227 =>
  gb (ib (29 : Int32) (hN h227 (hZ h139 + 1))) <|
  lt (sR h227 (hZ h139 + 1) (29 : Int32).toNatClampNeg (29 + 1)) fun h230 =>
  gb (ib (30 : Int32) (hN h230 (hZ h139 + 1))) <|
  lt (sR h230 (hZ h139 + 1) (30 : Int32).toNatClampNeg (30 + 1)) fun h233 =>
  gb (ib (31 : Int32) (hN h233 (hZ h139 + 1))) <|
  lt (sR h233 (hZ h139 + 1) (31 : Int32).toNatClampNeg (31 + 1)) fun h236 =>
  gb (ib (32 : Int32) (hN h236 (hZ h139 + 1))) <|
  lt (sR h236 (hZ h139 + 1) (32 : Int32).toNatClampNeg (32 + 1)) fun h239 =>
  gb (ib (33 : Int32) (hN h239 (hZ h139 + 1))) <|
  lt (sR h239 (hZ h139 + 1) (33 : Int32).toNatClampNeg (33 + 1)) fun h242 =>
  gb (ib (34 : Int32) (hN h242 (hZ h139 + 1))) <|
  lt (sR h242 (hZ h139 + 1) (34 : Int32).toNatClampNeg (34 + 1)) fun h245 =>
  gb (ib (35 : Int32) (hN h245 (hZ h139 + 1))) <|
  lt (sR h245 (hZ h139 + 1) (35 : Int32).toNatClampNeg (35 + 1)) fun h248 =>
  gb (ib (36 : Int32) (hN h248 (hZ h139 + 1))) <|
  lt (sR h248 (hZ h139 + 1) (36 : Int32).toNatClampNeg (36 + 1)) fun h251 =>
  gb (ib (37 : Int32) (hN h251 (hZ h139 + 1))) <|
  lt (sR h251 (hZ h139 + 1) (37 : Int32).toNatClampNeg (37 + 1)) fun h254 =>
  gb (ib (38 : Int32) (hN h254 (hZ h139 + 1))) <|
  lt (sR h254 (hZ h139 + 1) (38 : Int32).toNatClampNeg (38 + 1)) fun h257 =>
  gb (ib (39 : Int32) (hN h257 (hZ h139 + 1))) <|
  lt (sR h257 (hZ h139 + 1) (39 : Int32).toNatClampNeg (39 + 1)) fun h260 =>
  gb (ib (40 : Int32) (hN h260 (hZ h139 + 1))) <|
  lt (sR h260 (hZ h139 + 1) (40 : Int32).toNatClampNeg (40 + 1)) fun h263 =>
  gb (ib (41 : Int32) (hN h263 (hZ h139 + 1))) <|
  lt (sR h263 (hZ h139 + 1) (41 : Int32).toNatClampNeg (41 + 1)) fun h266 =>
  gb (ib (42 : Int32) (hN h266 (hZ h139 + 1))) <|
  lt (sR h266 (hZ h139 + 1) (42 : Int32).toNatClampNeg (42 + 1)) fun h269 =>
  gb (ib (43 : Int32) (hN h269 (hZ h139 + 1))) <|
  lt (sR h269 (hZ h139 + 1) (43 : Int32).toNatClampNeg (43 + 1)) fun h272 =>
  gb (ib (44 : Int32) (hN h272 (hZ h139 + 1))) <|
  lt (sR h272 (hZ h139 + 1) (44 : Int32).toNatClampNeg (44 + 1)) fun h275 =>
  gb (ib (45 : Int32) (hN h275 (hZ h139 + 1))) <|
  lt (sR h275 (hZ h139 + 1) (45 : Int32).toNatClampNeg (45 + 1)) fun h278 =>
  gb (ib (46 : Int32) (hN h278 (hZ h139 + 1))) <|
  lt (sR h278 (hZ h139 + 1) (46 : Int32).toNatClampNeg (46 + 1)) fun h281 =>
  gb (ib (47 : Int32) (hN h281 (hZ h139 + 1))) <|
  lt (sR h281 (hZ h139 + 1) (47 : Int32).toNatClampNeg (47 + 1)) fun h284 =>
  gb (ib (48 : Int32) (hN h284 (hZ h139 + 1))) <|
  lt (sR h284 (hZ h139 + 1) (48 : Int32).toNatClampNeg (48 + 1)) fun h287 =>
  gb (ib (49 : Int32) (hN h287 (hZ h139 + 1))) <|
  lt (sR h287 (hZ h139 + 1) (49 : Int32).toNatClampNeg (49 + 1)) fun h290 =>
  gb (ib (50 : Int32) (hN h290 (hZ h139 + 1))) <|
  lt (sR h290 (hZ h139 + 1) (50 : Int32).toNatClampNeg (50 + 1)) fun h293 =>
  gb (ib (51 : Int32) (hN h293 (hZ h139 + 1))) <|
  lt (sR h293 (hZ h139 + 1) (51 : Int32).toNatClampNeg (51 + 1)) fun h296 =>
  gb (ib (52 : Int32) (hN h296 (hZ h139 + 1))) <|
  lt (sR h296 (hZ h139 + 1) (52 : Int32).toNatClampNeg (52 + 1)) fun h299 =>
  gb (ib (53 : Int32) (hN h299 (hZ h139 + 1))) <|
  lt (sR h299 (hZ h139 + 1) (53 : Int32).toNatClampNeg (53 + 1)) fun h302 =>
  gb (ib (54 : Int32) (hN h302 (hZ h139 + 1))) <|
  lt (sR h302 (hZ h139 + 1) (54 : Int32).toNatClampNeg (54 + 1)) fun h305 =>
  gb (ib (55 : Int32) (hN h305 (hZ h139 + 1))) <|
  lt (sR h305 (hZ h139 + 1) (55 : Int32).toNatClampNeg (55 + 1)) fun h308 =>
  gb (ib (56 : Int32) (hN h308 (hZ h139 + 1))) <|
  lt (sR h308 (hZ h139 + 1) (56 : Int32).toNatClampNeg (56 + 1)) fun h311 =>
  gb (ib (57 : Int32) (hN h311 (hZ h139 + 1))) <|
  lt (sR h311 (hZ h139 + 1) (57 : Int32).toNatClampNeg (57 + 1)) fun h314 =>
  gb (ib (58 : Int32) (hN h314 (hZ h139 + 1))) <|
  lt (sR h314 (hZ h139 + 1) (58 : Int32).toNatClampNeg (58 + 1)) fun h317 =>
  gb (ib (59 : Int32) (hN h317 (hZ h139 + 1))) <|
  lt (sR h317 (hZ h139 + 1) (59 : Int32).toNatClampNeg (59 + 1)) fun h320 =>
  gb (ib (60 : Int32) (hN h320 (hZ h139 + 1))) <|
  lt (sR h320 (hZ h139 + 1) (60 : Int32).toNatClampNeg (60 + 1)) fun h323 =>
  gs h323 a0 10 <|
  lt (sR h323 a0 68 (hZ h139 + 1)) fun h325 =>
  lt (hNew h325 21 (61 : Int32).toNatClampNeg (61 : Int32).toNatClampNeg) fun h326 =>
  gb (ib (0 : Int32) (hN h326 (hZ h325 + 1))) <|
  lt (sI h326 (hZ h325 + 1) (0 : Int32).toNatClampNeg (0 : Int32)) fun h329 =>
  gb (ib (1 : Int32) (hN h329 (hZ h325 + 1))) <|
  lt (sI h329 (hZ h325 + 1) (1 : Int32).toNatClampNeg (0 : Int32)) fun h332 =>
  gb (ib (2 : Int32) (hN h332 (hZ h325 + 1))) <|
  lt (sI h332 (hZ h325 + 1) (2 : Int32).toNatClampNeg (0 : Int32)) fun h335 =>
  gb (ib (3 : Int32) (hN h335 (hZ h325 + 1))) <|
  lt (sI h335 (hZ h325 + 1) (3 : Int32).toNatClampNeg (0 : Int32)) fun h338 =>
  gb (ib (4 : Int32) (hN h338 (hZ h325 + 1))) <|
  lt (sI h338 (hZ h325 + 1) (4 : Int32).toNatClampNeg (0 : Int32)) fun h341 =>
  gb (ib (5 : Int32) (hN h341 (hZ h325 + 1))) <|
  lt (sI h341 (hZ h325 + 1) (5 : Int32).toNatClampNeg (0 : Int32)) fun h344 =>
  gb (ib (6 : Int32) (hN h344 (hZ h325 + 1))) <|
  lt (sI h344 (hZ h325 + 1) (6 : Int32).toNatClampNeg (0 : Int32)) fun h347 =>
  gb (ib (7 : Int32) (hN h347 (hZ h325 + 1))) <|
  lt (sI h347 (hZ h325 + 1) (7 : Int32).toNatClampNeg (0 : Int32)) fun h350 =>
  gb (ib (8 : Int32) (hN h350 (hZ h325 + 1))) <|
  lt (sI h350 (hZ h325 + 1) (8 : Int32).toNatClampNeg (0 : Int32)) fun h353 =>
  gb (ib (9 : Int32) (hN h353 (hZ h325 + 1))) <|
  lt (sI h353 (hZ h325 + 1) (9 : Int32).toNatClampNeg (0 : Int32)) fun h356 =>
  gb (ib (10 : Int32) (hN h356 (hZ h325 + 1))) <|
  lt (sI h356 (hZ h325 + 1) (10 : Int32).toNatClampNeg (1 : Int32)) fun h359 =>
  gb (ib (11 : Int32) (hN h359 (hZ h325 + 1))) <|
  lt (sI h359 (hZ h325 + 1) (11 : Int32).toNatClampNeg (1 : Int32)) fun h362 =>
  gb (ib (12 : Int32) (hN h362 (hZ h325 + 1))) <|
  lt (sI h362 (hZ h325 + 1) (12 : Int32).toNatClampNeg (1 : Int32)) fun h365 =>
  gb (ib (13 : Int32) (hN h365 (hZ h325 + 1))) <|
  lt (sI h365 (hZ h325 + 1) (13 : Int32).toNatClampNeg (1 : Int32)) fun h368 =>
  gb (ib (14 : Int32) (hN h368 (hZ h325 + 1))) <|
  lt (sI h368 (hZ h325 + 1) (14 : Int32).toNatClampNeg (1 : Int32)) fun h371 =>
  gb (ib (15 : Int32) (hN h371 (hZ h325 + 1))) <|
  lt (sI h371 (hZ h325 + 1) (15 : Int32).toNatClampNeg (1 : Int32)) fun h374 =>
  gb (ib (16 : Int32) (hN h374 (hZ h325 + 1))) <|
  lt (sI h374 (hZ h325 + 1) (16 : Int32).toNatClampNeg (1 : Int32)) fun h377 =>
  gb (ib (17 : Int32) (hN h377 (hZ h325 + 1))) <|
  lt (sI h377 (hZ h325 + 1) (17 : Int32).toNatClampNeg (1 : Int32)) fun h380 =>
  gb (ib (18 : Int32) (hN h380 (hZ h325 + 1))) <|
  lt (sI h380 (hZ h325 + 1) (18 : Int32).toNatClampNeg (1 : Int32)) fun h383 =>
  gb (ib (19 : Int32) (hN h383 (hZ h325 + 1))) <|
  lt (sI h383 (hZ h325 + 1) (19 : Int32).toNatClampNeg (2 : Int32)) fun h386 =>
  gb (ib (20 : Int32) (hN h386 (hZ h325 + 1))) <|
  lt (sI h386 (hZ h325 + 1) (20 : Int32).toNatClampNeg (2 : Int32)) fun h389 =>
  gb (ib (21 : Int32) (hN h389 (hZ h325 + 1))) <|
  lt (sI h389 (hZ h325 + 1) (21 : Int32).toNatClampNeg (2 : Int32)) fun h392 =>
  gb (ib (22 : Int32) (hN h392 (hZ h325 + 1))) <|
  lt (sI h392 (hZ h325 + 1) (22 : Int32).toNatClampNeg (2 : Int32)) fun h395 =>
  gb (ib (23 : Int32) (hN h395 (hZ h325 + 1))) <|
  lt (sI h395 (hZ h325 + 1) (23 : Int32).toNatClampNeg (2 : Int32)) fun h398 =>
  gb (ib (24 : Int32) (hN h398 (hZ h325 + 1))) <|
  lt (sI h398 (hZ h325 + 1) (24 : Int32).toNatClampNeg (3 : Int32)) fun h401 =>
  gb (ib (25 : Int32) (hN h401 (hZ h325 + 1))) <|
  lt (sI h401 (hZ h325 + 1) (25 : Int32).toNatClampNeg (3 : Int32)) fun h404 =>
  gb (ib (26 : Int32) (hN h404 (hZ h325 + 1))) <|
  lt (sI h404 (hZ h325 + 1) (26 : Int32).toNatClampNeg (3 : Int32)) fun h407 =>
  gb (ib (27 : Int32) (hN h407 (hZ h325 + 1))) <|
  lt (sI h407 (hZ h325 + 1) (27 : Int32).toNatClampNeg (4 : Int32)) fun h410 =>
  gb (ib (28 : Int32) (hN h410 (hZ h325 + 1))) <|
  lt (sI h410 (hZ h325 + 1) (28 : Int32).toNatClampNeg (4 : Int32)) fun h413 =>
  gb (ib (29 : Int32) (hN h413 (hZ h325 + 1))) <|
  lt (sI h413 (hZ h325 + 1) (29 : Int32).toNatClampNeg (4 : Int32)) fun h416 =>
  gb (ib (30 : Int32) (hN h416 (hZ h325 + 1))) <|
  lt (sI h416 (hZ h325 + 1) (30 : Int32).toNatClampNeg (4 : Int32)) fun h419 =>
  gb (ib (31 : Int32) (hN h419 (hZ h325 + 1))) <|
  lt (sI h419 (hZ h325 + 1) (31 : Int32).toNatClampNeg (4 : Int32)) fun h422 =>
  gb (ib (32 : Int32) (hN h422 (hZ h325 + 1))) <|
  lt (sI h422 (hZ h325 + 1) (32 : Int32).toNatClampNeg (4 : Int32)) fun h425 =>
  gb (ib (33 : Int32) (hN h425 (hZ h325 + 1))) <|
  lt (sI h425 (hZ h325 + 1) (33 : Int32).toNatClampNeg (5 : Int32)) fun h428 =>
  gb (ib (34 : Int32) (hN h428 (hZ h325 + 1))) <|
  lt (sI h428 (hZ h325 + 1) (34 : Int32).toNatClampNeg (5 : Int32)) fun h431 =>
  gb (ib (35 : Int32) (hN h431 (hZ h325 + 1))) <|
  lt (sI h431 (hZ h325 + 1) (35 : Int32).toNatClampNeg (6 : Int32)) fun h434 =>
  gb (ib (36 : Int32) (hN h434 (hZ h325 + 1))) <|
  lt (sI h434 (hZ h325 + 1) (36 : Int32).toNatClampNeg (2 : Int32)) fun h437 =>
  gb (ib (37 : Int32) (hN h437 (hZ h325 + 1))) <|
  lt (sI h437 (hZ h325 + 1) (37 : Int32).toNatClampNeg (7 : Int32)) fun h440 =>
  gb (ib (38 : Int32) (hN h440 (hZ h325 + 1))) <|
  lt (sI h440 (hZ h325 + 1) (38 : Int32).toNatClampNeg (7 : Int32)) fun h443 =>
  gb (ib (39 : Int32) (hN h443 (hZ h325 + 1))) <|
  lt (sI h443 (hZ h325 + 1) (39 : Int32).toNatClampNeg (7 : Int32)) fun h446 =>
  gb (ib (40 : Int32) (hN h446 (hZ h325 + 1))) <|
  lt (sI h446 (hZ h325 + 1) (40 : Int32).toNatClampNeg (7 : Int32)) fun h449 =>
  gb (ib (41 : Int32) (hN h449 (hZ h325 + 1))) <|
  lt (sI h449 (hZ h325 + 1) (41 : Int32).toNatClampNeg (7 : Int32)) fun h452 =>
  gb (ib (42 : Int32) (hN h452 (hZ h325 + 1))) <|
  lt (sI h452 (hZ h325 + 1) (42 : Int32).toNatClampNeg (7 : Int32)) fun h455 =>
  gb (ib (43 : Int32) (hN h455 (hZ h325 + 1))) <|
  lt (sI h455 (hZ h325 + 1) (43 : Int32).toNatClampNeg (7 : Int32)) fun h458 =>
  gb (ib (44 : Int32) (hN h458 (hZ h325 + 1))) <|
  lt (sI h458 (hZ h325 + 1) (44 : Int32).toNatClampNeg (7 : Int32)) fun h461 =>
  gb (ib (45 : Int32) (hN h461 (hZ h325 + 1))) <|
  lt (sI h461 (hZ h325 + 1) (45 : Int32).toNatClampNeg (7 : Int32)) fun h464 =>
  gb (ib (46 : Int32) (hN h464 (hZ h325 + 1))) <|
  lt (sI h464 (hZ h325 + 1) (46 : Int32).toNatClampNeg (8 : Int32)) fun h467 =>
  gb (ib (47 : Int32) (hN h467 (hZ h325 + 1))) <|
  lt (sI h467 (hZ h325 + 1) (47 : Int32).toNatClampNeg (8 : Int32)) fun h470 =>
  gb (ib (48 : Int32) (hN h470 (hZ h325 + 1))) <|
  lt (sI h470 (hZ h325 + 1) (48 : Int32).toNatClampNeg (8 : Int32)) fun h473 =>
  gb (ib (49 : Int32) (hN h473 (hZ h325 + 1))) <|
  lt (sI h473 (hZ h325 + 1) (49 : Int32).toNatClampNeg (8 : Int32)) fun h476 =>
  gb (ib (50 : Int32) (hN h476 (hZ h325 + 1))) <|
  lt (sI h476 (hZ h325 + 1) (50 : Int32).toNatClampNeg (9 : Int32)) fun h479 =>
  gb (ib (51 : Int32) (hN h479 (hZ h325 + 1))) <|
  lt (sI h479 (hZ h325 + 1) (51 : Int32).toNatClampNeg (9 : Int32)) fun h482 =>
  gb (ib (52 : Int32) (hN h482 (hZ h325 + 1))) <|
  lt (sI h482 (hZ h325 + 1) (52 : Int32).toNatClampNeg (10 : Int32)) fun h485 =>
  gb (ib (53 : Int32) (hN h485 (hZ h325 + 1))) <|
  lt (sI h485 (hZ h325 + 1) (53 : Int32).toNatClampNeg (11 : Int32)) fun h488 =>
  gb (ib (54 : Int32) (hN h488 (hZ h325 + 1))) <|
  lt (sI h488 (hZ h325 + 1) (54 : Int32).toNatClampNeg (8 : Int32)) fun h491 =>
  gb (ib (55 : Int32) (hN h491 (hZ h325 + 1))) <|
  lt (sI h491 (hZ h325 + 1) (55 : Int32).toNatClampNeg (12 : Int32)) fun h494 =>
  gb (ib (56 : Int32) (hN h494 (hZ h325 + 1))) <|
  lt (sI h494 (hZ h325 + 1) (56 : Int32).toNatClampNeg (12 : Int32)) fun h497 =>
  gb (ib (57 : Int32) (hN h497 (hZ h325 + 1))) <|
  lt (sI h497 (hZ h325 + 1) (57 : Int32).toNatClampNeg (13 : Int32)) fun h500 =>
  gb (ib (58 : Int32) (hN h500 (hZ h325 + 1))) <|
  lt (sI h500 (hZ h325 + 1) (58 : Int32).toNatClampNeg (14 : Int32)) fun h503 =>
  gb (ib (59 : Int32) (hN h503 (hZ h325 + 1))) <|
  lt (sI h503 (hZ h325 + 1) (59 : Int32).toNatClampNeg (15 : Int32)) fun h506 =>
  gb (ib (60 : Int32) (hN h506 (hZ h325 + 1))) <|
  lt (sI h506 (hZ h325 + 1) (60 : Int32).toNatClampNeg (16 : Int32)) fun h509 =>
  gs h509 a0 10 <|
  lt (sR h509 a0 69 (hZ h325 + 1)) fun h511 =>
  lt (hNew h511 21 (61 : Int32).toNatClampNeg (61 : Int32).toNatClampNeg) fun h512 =>
  gb (ib (0 : Int32) (hN h512 (hZ h511 + 1))) <|
  lt (sI h512 (hZ h511 + 1) (0 : Int32).toNatClampNeg (51 : Int32)) fun h515 =>
  gb (ib (1 : Int32) (hN h515 (hZ h511 + 1))) <|
  lt (sI h515 (hZ h511 + 1) (1 : Int32).toNatClampNeg (1073741875 : Int32)) fun h518 =>
  gb (ib (2 : Int32) (hN h518 (hZ h511 + 1))) <|
  lt (sI h518 (hZ h511 + 1) (2 : Int32).toNatClampNeg (4147 : Int32)) fun h521 =>
  gb (ib (3 : Int32) (hN h521 (hZ h511 + 1))) <|
  lt (sI h521 (hZ h511 + 1) (3 : Int32).toNatClampNeg (8243 : Int32)) fun h524 =>
  gb (ib (4 : Int32) (hN h524 (hZ h511 + 1))) <|
  lt (sI h524 (hZ h511 + 1) (4 : Int32).toNatClampNeg (12339 : Int32)) fun h527 =>
  gb (ib (5 : Int32) (hN h527 (hZ h511 + 1))) <|
  lt (sI h527 (hZ h511 + 1) (5 : Int32).toNatClampNeg (16435 : Int32)) fun h530 =>
  gb (ib (6 : Int32) (hN h530 (hZ h511 + 1))) <|
  lt (sI h530 (hZ h511 + 1) (6 : Int32).toNatClampNeg (20531 : Int32)) fun h533 =>
  gb (ib (7 : Int32) (hN h533 (hZ h511 + 1))) <|
  lt (sI h533 (hZ h511 + 1) (7 : Int32).toNatClampNeg (1073762355 : Int32)) fun h536 =>
  gb (ib (8 : Int32) (hN h536 (hZ h511 + 1))) <|
  lt (sI h536 (hZ h511 + 1) (8 : Int32).toNatClampNeg (24627 : Int32)) fun h539 =>
  gb (ib (9 : Int32) (hN h539 (hZ h511 + 1))) <|
  lt (sI h539 (hZ h511 + 1) (9 : Int32).toNatClampNeg (28723 : Int32)) fun h542 =>
  gb (ib (10 : Int32) (hN h542 (hZ h511 + 1))) <|
  lt (sI h542 (hZ h511 + 1) (10 : Int32).toNatClampNeg (19 : Int32)) fun h545 =>
  gb (ib (11 : Int32) (hN h545 (hZ h511 + 1))) <|
  lt (sI h545 (hZ h511 + 1) (11 : Int32).toNatClampNeg (8211 : Int32)) fun h548 =>
  gb (ib (12 : Int32) (hN h548 (hZ h511 + 1))) <|
  lt (sI h548 (hZ h511 + 1) (12 : Int32).toNatClampNeg (12307 : Int32)) fun h551 =>
  gb (ib (13 : Int32) (hN h551 (hZ h511 + 1))) <|
  lt (sI h551 (hZ h511 + 1) (13 : Int32).toNatClampNeg (16403 : Int32)) fun h554 =>
  gb (ib (14 : Int32) (hN h554 (hZ h511 + 1))) <|
  lt (sI h554 (hZ h511 + 1) (14 : Int32).toNatClampNeg (24595 : Int32)) fun h557 =>
  gb (ib (15 : Int32) (hN h557 (hZ h511 + 1))) <|
  lt (sI h557 (hZ h511 + 1) (15 : Int32).toNatClampNeg (28691 : Int32)) fun h560 =>
  gb (ib (16 : Int32) (hN h560 (hZ h511 + 1))) <|
  lt (sI h560 (hZ h511 + 1) (16 : Int32).toNatClampNeg (4115 : Int32)) fun h563 =>
  gb (ib (17 : Int32) (hN h563 (hZ h511 + 1))) <|
  lt (sI h563 (hZ h511 + 1) (17 : Int32).toNatClampNeg (20499 : Int32)) fun h566 =>
  gb (ib (18 : Int32) (hN h566 (hZ h511 + 1))) <|
  lt (sI h566 (hZ h511 + 1) (18 : Int32).toNatClampNeg (1073762323 : Int32)) fun h569 =>
  gb (ib (19 : Int32) (hN h569 (hZ h511 + 1))) <|
  lt (sI h569 (hZ h511 + 1) (19 : Int32).toNatClampNeg (3 : Int32)) fun h572 =>
  gb (ib (20 : Int32) (hN h572 (hZ h511 + 1))) <|
  lt (sI h572 (hZ h511 + 1) (20 : Int32).toNatClampNeg (4099 : Int32)) fun h575 =>
  gb (ib (21 : Int32) (hN h575 (hZ h511 + 1))) <|
  lt (sI h575 (hZ h511 + 1) (21 : Int32).toNatClampNeg (8195 : Int32)) fun h578 =>
  gb (ib (22 : Int32) (hN h578 (hZ h511 + 1))) <|
  lt (sI h578 (hZ h511 + 1) (22 : Int32).toNatClampNeg (16387 : Int32)) fun h581 =>
  gb (ib (23 : Int32) (hN h581 (hZ h511 + 1))) <|
  lt (sI h581 (hZ h511 + 1) (23 : Int32).toNatClampNeg (20483 : Int32)) fun h584 =>
  gb (ib (24 : Int32) (hN h584 (hZ h511 + 1))) <|
  lt (sI h584 (hZ h511 + 1) (24 : Int32).toNatClampNeg (35 : Int32)) fun h587 =>
  gb (ib (25 : Int32) (hN h587 (hZ h511 + 1))) <|
  lt (sI h587 (hZ h511 + 1) (25 : Int32).toNatClampNeg (4131 : Int32)) fun h590 =>
  gb (ib (26 : Int32) (hN h590 (hZ h511 + 1))) <|
  lt (sI h590 (hZ h511 + 1) (26 : Int32).toNatClampNeg (8227 : Int32)) fun h593 =>
  gb (ib (27 : Int32) (hN h593 (hZ h511 + 1))) <|
  lt (sI h593 (hZ h511 + 1) (27 : Int32).toNatClampNeg (99 : Int32)) fun h596 =>
  gb (ib (28 : Int32) (hN h596 (hZ h511 + 1))) <|
  lt (sI h596 (hZ h511 + 1) (28 : Int32).toNatClampNeg (4195 : Int32)) fun h599 =>
  gb (ib (29 : Int32) (hN h599 (hZ h511 + 1))) <|
  lt (sI h599 (hZ h511 + 1) (29 : Int32).toNatClampNeg (16483 : Int32)) fun h602 =>
  gb (ib (30 : Int32) (hN h602 (hZ h511 + 1))) <|
  lt (sI h602 (hZ h511 + 1) (30 : Int32).toNatClampNeg (20579 : Int32)) fun h605 =>
  gb (ib (31 : Int32) (hN h605 (hZ h511 + 1))) <|
  lt (sI h605 (hZ h511 + 1) (31 : Int32).toNatClampNeg (24675 : Int32)) fun h608 =>
  gb (ib (32 : Int32) (hN h608 (hZ h511 + 1))) <|
  lt (sI h608 (hZ h511 + 1) (32 : Int32).toNatClampNeg (28771 : Int32)) fun h611 =>
  gb (ib (33 : Int32) (hN h611 (hZ h511 + 1))) <|
  lt (sI h611 (hZ h511 + 1) (33 : Int32).toNatClampNeg (55 : Int32)) fun h614 =>
  gb (ib (34 : Int32) (hN h614 (hZ h511 + 1))) <|
  lt (sI h614 (hZ h511 + 1) (34 : Int32).toNatClampNeg (23 : Int32)) fun h617 =>
  gb (ib (35 : Int32) (hN h617 (hZ h511 + 1))) <|
  lt (sI h617 (hZ h511 + 1) (35 : Int32).toNatClampNeg (111 : Int32)) fun h620 =>
  gb (ib (36 : Int32) (hN h620 (hZ h511 + 1))) <|
  lt (sI h620 (hZ h511 + 1) (36 : Int32).toNatClampNeg (103 : Int32)) fun h623 =>
  gb (ib (37 : Int32) (hN h623 (hZ h511 + 1))) <|
  lt (sI h623 (hZ h511 + 1) (37 : Int32).toNatClampNeg (134225967 : Int32)) fun h626 =>
  gb (ib (38 : Int32) (hN h626 (hZ h511 + 1))) <|
  lt (sI h626 (hZ h511 + 1) (38 : Int32).toNatClampNeg (8239 : Int32)) fun h629 =>
  gb (ib (39 : Int32) (hN h629 (hZ h511 + 1))) <|
  lt (sI h629 (hZ h511 + 1) (39 : Int32).toNatClampNeg (536879151 : Int32)) fun h632 =>
  gb (ib (40 : Int32) (hN h632 (hZ h511 + 1))) <|
  lt (sI h632 (hZ h511 + 1) (40 : Int32).toNatClampNeg (1610620975 : Int32)) fun h635 =>
  gb (ib (41 : Int32) (hN h635 (hZ h511 + 1))) <|
  lt (sI h635 (hZ h511 + 1) (41 : Int32).toNatClampNeg (1073750063 : Int32)) fun h638 =>
  gb (ib (42 : Int32) (hN h638 (hZ h511 + 1))) <|
  lt (sI h638 (hZ h511 + 1) (42 : Int32).toNatClampNeg (-2147475409 : Int32)) fun h641 =>
  gb (ib (43 : Int32) (hN h641 (hZ h511 + 1))) <|
  lt (sI h641 (hZ h511 + 1) (43 : Int32).toNatClampNeg (-1610604497 : Int32)) fun h644 =>
  gb (ib (44 : Int32) (hN h644 (hZ h511 + 1))) <|
  lt (sI h644 (hZ h511 + 1) (44 : Int32).toNatClampNeg (-1073733585 : Int32)) fun h647 =>
  gb (ib (45 : Int32) (hN h647 (hZ h511 + 1))) <|
  lt (sI h647 (hZ h511 + 1) (45 : Int32).toNatClampNeg (-536862673 : Int32)) fun h650 =>
  gb (ib (46 : Int32) (hN h650 (hZ h511 + 1))) <|
  lt (sI h650 (hZ h511 + 1) (46 : Int32).toNatClampNeg (267386895 : Int32)) fun h653 =>
  gb (ib (47 : Int32) (hN h653 (hZ h511 + 1))) <|
  lt (sI h653 (hZ h511 + 1) (47 : Int32).toNatClampNeg (115 : Int32)) fun h656 =>
  gb (ib (48 : Int32) (hN h656 (hZ h511 + 1))) <|
  lt (sI h656 (hZ h511 + 1) (48 : Int32).toNatClampNeg (1048691 : Int32)) fun h659 =>
  gb (ib (49 : Int32) (hN h659 (hZ h511 + 1))) <|
  lt (sI h659 (hZ h511 + 1) (49 : Int32).toNatClampNeg (19 : Int32)) fun h662 =>
  gb (ib (50 : Int32) (hN h662 (hZ h511 + 1))) <|
  lt (sI h662 (hZ h511 + 1) (50 : Int32).toNatClampNeg (19 : Int32)) fun h665 =>
  gb (ib (51 : Int32) (hN h665 (hZ h511 + 1))) <|
  lt (sI h665 (hZ h511 + 1) (51 : Int32).toNatClampNeg (-1032173 : Int32)) fun h668 =>
  gb (ib (52 : Int32) (hN h668 (hZ h511 + 1))) <|
  lt (sI h668 (hZ h511 + 1) (52 : Int32).toNatClampNeg (1073741875 : Int32)) fun h671 =>
  gb (ib (53 : Int32) (hN h671 (hZ h511 + 1))) <|
  lt (sI h671 (hZ h511 + 1) (53 : Int32).toNatClampNeg (111 : Int32)) fun h674 =>
  gb (ib (54 : Int32) (hN h674 (hZ h511 + 1))) <|
  lt (sI h674 (hZ h511 + 1) (54 : Int32).toNatClampNeg (32871 : Int32)) fun h677 =>
  gb (ib (55 : Int32) (hN h677 (hZ h511 + 1))) <|
  lt (sI h677 (hZ h511 + 1) (55 : Int32).toNatClampNeg (99 : Int32)) fun h680 =>
  gb (ib (56 : Int32) (hN h680 (hZ h511 + 1))) <|
  lt (sI h680 (hZ h511 + 1) (56 : Int32).toNatClampNeg (4195 : Int32)) fun h683 =>
  gb (ib (57 : Int32) (hN h683 (hZ h511 + 1))) <|
  lt (sI h683 (hZ h511 + 1) (57 : Int32).toNatClampNeg (0 : Int32)) fun h686 =>
  gb (ib (58 : Int32) (hN h686 (hZ h511 + 1))) <|
  lt (sI h686 (hZ h511 + 1) (58 : Int32).toNatClampNeg (0 : Int32)) fun h689 =>
  gb (ib (59 : Int32) (hN h689 (hZ h511 + 1))) <|
  lt (sI h689 (hZ h511 + 1) (59 : Int32).toNatClampNeg (0 : Int32)) fun h692 =>
  gb (ib (60 : Int32) (hN h692 (hZ h511 + 1))) <|
  lt (sI h692 (hZ h511 + 1) (60 : Int32).toNatClampNeg (0 : Int32)) fun h695 =>
  gs h695 a0 10 <|
  lt (sR h695 a0 70 (hZ h511 + 1)) fun h697 =>
  lt (hNew h697 21 (9 : Int32).toNatClampNeg (9 : Int32).toNatClampNeg) fun h698 =>
  gs h698 a0 10 <|
  lt (sR h698 a0 80 (hZ h697 + 1)) fun h700 =>
  lt ((0 : Int32)) fun x701 =>
  f_X11_init_L1529 FU h700 a0 x701
set_option maxRecDepth 100000 in
set_option maxHeartbeats 4000000 in
theorem ok_X11_init (l : Launch) (X : Cx) {h : AH} {a0 : Nat} {q : AH} (hf : f_X11_init h a0 = some q) : Go l X k_X11_init 0 [(0, rf X a0)] [] h (rV q) := by
  unfold f_X11_init at hf
  refine g_aload_n (pc := 0) 0 dX11_init_0 rfl rfl ?_
  obtain ⟨g1, hf⟩ := gs_some hf
  refine g_objInit (pc := 1) m_1310 m_154 m_155 g1 (by decide) (by decide) (by decide) (by simp [rf_cat, rq_cat, ca_i, ca_l, ca_r]) dX11_init_1 ?_
  refine g_aload_n (pc := 4) 0 dX11_init_4 rfl rfl ?_
  refine g_sipush (pc := 5) (v := (1500 : Int32)) dX11_init_5 (by decide) ?_
  obtain ⟨h2, eh2, hf⟩ := lt_some hf
  refine g_newI (pc := 8) m_252 dX11_init_8 (by decide) eh2 ?_
  obtain ⟨g3, hf⟩ := gs_some hf
  obtain ⟨h4, eh4, hf⟩ := lt_some hf
  refine g_putRF (pc := 10) fl_X11_7 rfl (cl_own rfl) (Or.inr ⟨_, rfl⟩) dX11_init_10 g3 eh4 ?_
  refine g_aload_n (pc := 13) 0 dX11_init_13 rfl rfl ?_
  refine g_sipush (pc := 14) (v := (1502 : Int32)) dX11_init_14 (by decide) ?_
  obtain ⟨h5, eh5, hf⟩ := lt_some hf
  refine g_newI (pc := 17) m_252 dX11_init_17 (by decide) eh5 ?_
  obtain ⟨g6, hf⟩ := gs_some hf
  obtain ⟨h7, eh7, hf⟩ := lt_some hf
  refine g_putRF (pc := 19) fl_X11_13 rfl (cl_own rfl) (Or.inr ⟨_, rfl⟩) dX11_init_19 g6 eh7 ?_
  refine g_aload_n (pc := 22) 0 dX11_init_22 rfl rfl ?_
  refine g_sipush (pc := 23) (v := (1502 : Int32)) dX11_init_23 (by decide) ?_
  obtain ⟨h8, eh8, hf⟩ := lt_some hf
  refine g_newI (pc := 26) m_252 dX11_init_26 (by decide) eh8 ?_
  obtain ⟨g9, hf⟩ := gs_some hf
  obtain ⟨h10, eh10, hf⟩ := lt_some hf
  refine g_putRF (pc := 28) fl_X11_16 rfl (cl_own rfl) (Or.inr ⟨_, rfl⟩) dX11_init_28 g9 eh10 ?_
  refine g_aload_n (pc := 31) 0 dX11_init_31 rfl rfl ?_
  refine g_sipush (pc := 32) (v := (1502 : Int32)) dX11_init_32 (by decide) ?_
  obtain ⟨h11, eh11, hf⟩ := lt_some hf
  refine g_newJ (pc := 35) m_253 dX11_init_35 (by decide) eh11 ?_
  obtain ⟨g12, hf⟩ := gs_some hf
  obtain ⟨h13, eh13, hf⟩ := lt_some hf
  refine g_putRF (pc := 37) fl_X11_19 rfl (cl_own rfl) (Or.inr ⟨_, rfl⟩) dX11_init_37 g12 eh13 ?_
  refine g_aload_n (pc := 40) 0 dX11_init_40 rfl rfl ?_
  refine g_sipush (pc := 41) (v := (760 : Int32)) dX11_init_41 (by decide) ?_
  obtain ⟨h14, eh14, hf⟩ := lt_some hf
  refine g_newJ (pc := 44) m_253 dX11_init_44 (by decide) eh14 ?_
  obtain ⟨g15, hf⟩ := gs_some hf
  obtain ⟨h16, eh16, hf⟩ := lt_some hf
  refine g_putRF (pc := 46) fl_X11_23 rfl (cl_own rfl) (Or.inr ⟨_, rfl⟩) dX11_init_46 g15 eh16 ?_
  refine g_aload_n (pc := 49) 0 dX11_init_49 rfl rfl ?_
  refine g_sipush (pc := 50) (v := (760 : Int32)) dX11_init_50 (by decide) ?_
  obtain ⟨h17, eh17, hf⟩ := lt_some hf
  refine g_newI (pc := 53) m_252 dX11_init_53 (by decide) eh17 ?_
  obtain ⟨g18, hf⟩ := gs_some hf
  obtain ⟨h19, eh19, hf⟩ := lt_some hf
  refine g_putRF (pc := 55) fl_X11_26 rfl (cl_own rfl) (Or.inr ⟨_, rfl⟩) dX11_init_55 g18 eh19 ?_
  refine g_aload_n (pc := 58) 0 dX11_init_58 rfl rfl ?_
  refine g_sipush (pc := 59) (v := (700 : Int32)) dX11_init_59 (by decide) ?_
  obtain ⟨h20, eh20, hf⟩ := lt_some hf
  refine g_newI (pc := 62) m_252 dX11_init_62 (by decide) eh20 ?_
  obtain ⟨g21, hf⟩ := gs_some hf
  obtain ⟨h22, eh22, hf⟩ := lt_some hf
  refine g_putRF (pc := 64) fl_X11_29 rfl (cl_own rfl) (Or.inr ⟨_, rfl⟩) dX11_init_64 g21 eh22 ?_
  refine g_aload_n (pc := 67) 0 dX11_init_67 rfl rfl ?_
  refine g_sipush (pc := 68) (v := (700 : Int32)) dX11_init_68 (by decide) ?_
  obtain ⟨h23, eh23, hf⟩ := lt_some hf
  refine g_newI (pc := 71) m_252 dX11_init_71 (by decide) eh23 ?_
  obtain ⟨g24, hf⟩ := gs_some hf
  obtain ⟨h25, eh25, hf⟩ := lt_some hf
  refine g_putRF (pc := 73) fl_X11_32 rfl (cl_own rfl) (Or.inr ⟨_, rfl⟩) dX11_init_73 g24 eh25 ?_
  refine g_aload_n (pc := 76) 0 dX11_init_76 rfl rfl ?_
  refine g_sipush (pc := 77) (v := (700 : Int32)) dX11_init_77 (by decide) ?_
  obtain ⟨h26, eh26, hf⟩ := lt_some hf
  refine g_newI (pc := 80) m_252 dX11_init_80 (by decide) eh26 ?_
  obtain ⟨g27, hf⟩ := gs_some hf
  obtain ⟨h28, eh28, hf⟩ := lt_some hf
  refine g_putRF (pc := 82) fl_X11_35 rfl (cl_own rfl) (Or.inr ⟨_, rfl⟩) dX11_init_82 g27 eh28 ?_
  refine g_aload_n (pc := 85) 0 dX11_init_85 rfl rfl ?_
  refine g_sipush (pc := 86) (v := (700 : Int32)) dX11_init_86 (by decide) ?_
  obtain ⟨h29, eh29, hf⟩ := lt_some hf
  refine g_newJ (pc := 89) m_253 dX11_init_89 (by decide) eh29 ?_
  obtain ⟨g30, hf⟩ := gs_some hf
  obtain ⟨h31, eh31, hf⟩ := lt_some hf
  refine g_putRF (pc := 91) fl_X11_38 rfl (cl_own rfl) (Or.inr ⟨_, rfl⟩) dX11_init_91 g30 eh31 ?_
  refine g_aload_n (pc := 94) 0 dX11_init_94 rfl rfl ?_
  refine g_sipush (pc := 95) (v := (700 : Int32)) dX11_init_95 (by decide) ?_
  obtain ⟨h32, eh32, hf⟩ := lt_some hf
  refine g_newI (pc := 98) m_252 dX11_init_98 (by decide) eh32 ?_
  obtain ⟨g33, hf⟩ := gs_some hf
  obtain ⟨h34, eh34, hf⟩ := lt_some hf
  refine g_putRF (pc := 100) fl_X11_41 rfl (cl_own rfl) (Or.inr ⟨_, rfl⟩) dX11_init_100 g33 eh34 ?_
  refine g_aload_n (pc := 103) 0 dX11_init_103 rfl rfl ?_
  refine g_bipush (pc := 104) (v := (16 : Int32)) dX11_init_104 (by decide) ?_
  obtain ⟨h35, eh35, hf⟩ := lt_some hf
  refine g_newI (pc := 106) m_252 dX11_init_106 (by decide) eh35 ?_
  obtain ⟨g36, hf⟩ := gs_some hf
  obtain ⟨h37, eh37, hf⟩ := lt_some hf
  refine g_putRF (pc := 108) fl_X11_44 rfl (cl_own rfl) (Or.inr ⟨_, rfl⟩) dX11_init_108 g36 eh37 ?_
  refine g_aload_n (pc := 111) 0 dX11_init_111 rfl rfl ?_
  refine g_bipush (pc := 112) (v := (6 : Int32)) dX11_init_112 (by decide) ?_
  obtain ⟨h38, eh38, hf⟩ := lt_some hf
  refine g_newI (pc := 114) m_252 dX11_init_114 (by decide) eh38 ?_
  obtain ⟨g39, hf⟩ := gs_some hf
  obtain ⟨h40, eh40, hf⟩ := lt_some hf
  refine g_putRF (pc := 116) fl_X11_47 rfl (cl_own rfl) (Or.inr ⟨_, rfl⟩) dX11_init_116 g39 eh40 ?_
  refine g_aload_n (pc := 119) 0 dX11_init_119 rfl rfl ?_
  refine g_bipush (pc := 120) (v := (6 : Int32)) dX11_init_120 (by decide) ?_
  obtain ⟨h41, eh41, hf⟩ := lt_some hf
  refine g_newI (pc := 122) m_252 dX11_init_122 (by decide) eh41 ?_
  obtain ⟨g42, hf⟩ := gs_some hf
  obtain ⟨h43, eh43, hf⟩ := lt_some hf
  refine g_putRF (pc := 124) fl_X11_50 rfl (cl_own rfl) (Or.inr ⟨_, rfl⟩) dX11_init_124 g42 eh43 ?_
  refine g_aload_n (pc := 127) 0 dX11_init_127 rfl rfl ?_
  refine g_sipush (pc := 128) (v := (2048 : Int32)) dX11_init_128 (by decide) ?_
  obtain ⟨h44, eh44, hf⟩ := lt_some hf
  refine g_newI (pc := 131) m_252 dX11_init_131 (by decide) eh44 ?_
  obtain ⟨g45, hf⟩ := gs_some hf
  obtain ⟨h46, eh46, hf⟩ := lt_some hf
  refine g_putRF (pc := 133) fl_X11_53 rfl (cl_own rfl) (Or.inr ⟨_, rfl⟩) dX11_init_133 g45 eh46 ?_
  refine g_aload_n (pc := 136) 0 dX11_init_136 rfl rfl ?_
  refine g_sipush (pc := 137) (v := (2048 : Int32)) dX11_init_137 (by decide) ?_
  obtain ⟨h47, eh47, hf⟩ := lt_some hf
  refine g_newI (pc := 140) m_252 dX11_init_140 (by decide) eh47 ?_
  obtain ⟨g48, hf⟩ := gs_some hf
  obtain ⟨h49, eh49, hf⟩ := lt_some hf
  refine g_putRF (pc := 142) fl_X11_56 rfl (cl_own rfl) (Or.inr ⟨_, rfl⟩) dX11_init_142 g48 eh49 ?_
  refine g_aload_n (pc := 145) 0 dX11_init_145 rfl rfl ?_
  refine g_sipush (pc := 146) (v := (512 : Int32)) dX11_init_146 (by decide) ?_
  obtain ⟨h50, eh50, hf⟩ := lt_some hf
  refine g_newI (pc := 149) m_252 dX11_init_149 (by decide) eh50 ?_
  obtain ⟨g51, hf⟩ := gs_some hf
  obtain ⟨h52, eh52, hf⟩ := lt_some hf
  refine g_putRF (pc := 151) fl_X11_59 rfl (cl_own rfl) (Or.inr ⟨_, rfl⟩) dX11_init_151 g51 eh52 ?_
  refine g_aload_n (pc := 154) 0 dX11_init_154 rfl rfl ?_
  refine g_bipush (pc := 155) (v := (16 : Int32)) dX11_init_155 (by decide) ?_
  obtain ⟨h53, eh53, hf⟩ := lt_some hf
  refine g_newI (pc := 157) m_252 dX11_init_157 (by decide) eh53 ?_
  obtain ⟨g54, hf⟩ := gs_some hf
  obtain ⟨h55, eh55, hf⟩ := lt_some hf
  refine g_putRF (pc := 159) fl_X11_62 rfl (cl_own rfl) (Or.inr ⟨_, rfl⟩) dX11_init_159 g54 eh55 ?_
  refine g_aload_n (pc := 162) 0 dX11_init_162 rfl rfl ?_
  refine g_bipush (pc := 163) (v := (16 : Int32)) dX11_init_163 (by decide) ?_
  obtain ⟨h56, eh56, hf⟩ := lt_some hf
  refine g_newI (pc := 165) m_252 dX11_init_165 (by decide) eh56 ?_
  obtain ⟨g57, hf⟩ := gs_some hf
  obtain ⟨h58, eh58, hf⟩ := lt_some hf
  refine g_putRF (pc := 167) fl_X11_65 rfl (cl_own rfl) (Or.inr ⟨_, rfl⟩) dX11_init_167 g57 eh58 ?_
  refine g_aload_n (pc := 170) 0 dX11_init_170 rfl rfl ?_
  refine g_bipush (pc := 171) (v := (16 : Int32)) dX11_init_171 (by decide) ?_
  obtain ⟨h59, eh59, hf⟩ := lt_some hf
  refine g_newI (pc := 173) m_252 dX11_init_173 (by decide) eh59 ?_
  obtain ⟨g60, hf⟩ := gs_some hf
  obtain ⟨h61, eh61, hf⟩ := lt_some hf
  refine g_putRF (pc := 175) fl_X11_68 rfl (cl_own rfl) (Or.inr ⟨_, rfl⟩) dX11_init_175 g60 eh61 ?_
  refine g_aload_n (pc := 178) 0 dX11_init_178 rfl rfl ?_
  refine g_bipush (pc := 179) (v := (16 : Int32)) dX11_init_179 (by decide) ?_
  obtain ⟨h62, eh62, hf⟩ := lt_some hf
  refine g_newI (pc := 181) m_252 dX11_init_181 (by decide) eh62 ?_
  obtain ⟨g63, hf⟩ := gs_some hf
  obtain ⟨h64, eh64, hf⟩ := lt_some hf
  refine g_putRF (pc := 183) fl_X11_71 rfl (cl_own rfl) (Or.inr ⟨_, rfl⟩) dX11_init_183 g63 eh64 ?_
  refine g_aload_n (pc := 186) 0 dX11_init_186 rfl rfl ?_
  refine g_bipush (pc := 187) (v := (16 : Int32)) dX11_init_187 (by decide) ?_
  obtain ⟨h65, eh65, hf⟩ := lt_some hf
  refine g_newI (pc := 189) m_252 dX11_init_189 (by decide) eh65 ?_
  obtain ⟨g66, hf⟩ := gs_some hf
  obtain ⟨h67, eh67, hf⟩ := lt_some hf
  refine g_putRF (pc := 191) fl_X11_74 rfl (cl_own rfl) (Or.inr ⟨_, rfl⟩) dX11_init_191 g66 eh67 ?_
  refine g_aload_n (pc := 194) 0 dX11_init_194 rfl rfl ?_
  refine g_sipush (pc := 195) (v := (256 : Int32)) dX11_init_195 (by decide) ?_
  obtain ⟨h68, eh68, hf⟩ := lt_some hf
  refine g_newI (pc := 198) m_252 dX11_init_198 (by decide) eh68 ?_
  obtain ⟨g69, hf⟩ := gs_some hf
  obtain ⟨h70, eh70, hf⟩ := lt_some hf
  refine g_putRF (pc := 200) fl_X11_77 rfl (cl_own rfl) (Or.inr ⟨_, rfl⟩) dX11_init_200 g69 eh70 ?_
  refine g_aload_n (pc := 203) 0 dX11_init_203 rfl rfl ?_
  refine g_sipush (pc := 204) (v := (256 : Int32)) dX11_init_204 (by decide) ?_
  obtain ⟨h71, eh71, hf⟩ := lt_some hf
  refine g_newI (pc := 207) m_252 dX11_init_207 (by decide) eh71 ?_
  obtain ⟨g72, hf⟩ := gs_some hf
  obtain ⟨h73, eh73, hf⟩ := lt_some hf
  refine g_putRF (pc := 209) fl_X11_80 rfl (cl_own rfl) (Or.inr ⟨_, rfl⟩) dX11_init_209 g72 eh73 ?_
  refine g_aload_n (pc := 212) 0 dX11_init_212 rfl rfl ?_
  refine g_sipush (pc := 213) (v := (256 : Int32)) dX11_init_213 (by decide) ?_
  obtain ⟨h74, eh74, hf⟩ := lt_some hf
  refine g_newI (pc := 216) m_252 dX11_init_216 (by decide) eh74 ?_
  obtain ⟨g75, hf⟩ := gs_some hf
  obtain ⟨h76, eh76, hf⟩ := lt_some hf
  refine g_putRF (pc := 218) fl_X11_83 rfl (cl_own rfl) (Or.inr ⟨_, rfl⟩) dX11_init_218 g75 eh76 ?_
  refine g_aload_n (pc := 221) 0 dX11_init_221 rfl rfl ?_
  refine g_bipush (pc := 222) (v := (16 : Int32)) dX11_init_222 (by decide) ?_
  obtain ⟨h77, eh77, hf⟩ := lt_some hf
  refine g_newI (pc := 224) m_252 dX11_init_224 (by decide) eh77 ?_
  obtain ⟨g78, hf⟩ := gs_some hf
  obtain ⟨h79, eh79, hf⟩ := lt_some hf
  refine g_putRF (pc := 226) fl_X11_86 rfl (cl_own rfl) (Or.inr ⟨_, rfl⟩) dX11_init_226 g78 eh79 ?_
  refine g_aload_n (pc := 229) 0 dX11_init_229 rfl rfl ?_
  refine g_bipush (pc := 230) (v := (16 : Int32)) dX11_init_230 (by decide) ?_
  obtain ⟨h80, eh80, hf⟩ := lt_some hf
  refine g_newI (pc := 232) m_252 dX11_init_232 (by decide) eh80 ?_
  obtain ⟨g81, hf⟩ := gs_some hf
  obtain ⟨h82, eh82, hf⟩ := lt_some hf
  refine g_putRF (pc := 234) fl_X11_89 rfl (cl_own rfl) (Or.inr ⟨_, rfl⟩) dX11_init_234 g81 eh82 ?_
  refine g_aload_n (pc := 237) 0 dX11_init_237 rfl rfl ?_
  refine g_bipush (pc := 238) (v := (16 : Int32)) dX11_init_238 (by decide) ?_
  obtain ⟨h83, eh83, hf⟩ := lt_some hf
  refine g_newZ (pc := 240) m_346 dX11_init_240 (by decide) eh83 ?_
  obtain ⟨g84, hf⟩ := gs_some hf
  obtain ⟨h85, eh85, hf⟩ := lt_some hf
  refine g_putRF (pc := 242) fl_X11_92 rfl (cl_own rfl) (Or.inr ⟨_, rfl⟩) dX11_init_242 g84 eh85 ?_
  refine g_aload_n (pc := 245) 0 dX11_init_245 rfl rfl ?_
  refine g_bipush (pc := 246) (v := (16 : Int32)) dX11_init_246 (by decide) ?_
  obtain ⟨h86, eh86, hf⟩ := lt_some hf
  refine g_newI (pc := 248) m_252 dX11_init_248 (by decide) eh86 ?_
  obtain ⟨g87, hf⟩ := gs_some hf
  obtain ⟨h88, eh88, hf⟩ := lt_some hf
  refine g_putRF (pc := 250) fl_X11_96 rfl (cl_own rfl) (Or.inr ⟨_, rfl⟩) dX11_init_250 g87 eh88 ?_
  refine g_aload_n (pc := 253) 0 dX11_init_253 rfl rfl ?_
  refine g_bipush (pc := 254) (v := (16 : Int32)) dX11_init_254 (by decide) ?_
  obtain ⟨h89, eh89, hf⟩ := lt_some hf
  refine g_newI (pc := 256) m_252 dX11_init_256 (by decide) eh89 ?_
  obtain ⟨g90, hf⟩ := gs_some hf
  obtain ⟨h91, eh91, hf⟩ := lt_some hf
  refine g_putRF (pc := 258) fl_X11_99 rfl (cl_own rfl) (Or.inr ⟨_, rfl⟩) dX11_init_258 g90 eh91 ?_
  refine g_aload_n (pc := 261) 0 dX11_init_261 rfl rfl ?_
  refine g_sipush (pc := 262) (v := (3584 : Int32)) dX11_init_262 (by decide) ?_
  obtain ⟨h92, eh92, hf⟩ := lt_some hf
  refine g_newI (pc := 265) m_252 dX11_init_265 (by decide) eh92 ?_
  obtain ⟨g93, hf⟩ := gs_some hf
  obtain ⟨h94, eh94, hf⟩ := lt_some hf
  refine g_putRF (pc := 267) fl_X11_102 rfl (cl_own rfl) (Or.inr ⟨_, rfl⟩) dX11_init_267 g93 eh94 ?_
  refine g_aload_n (pc := 270) 0 dX11_init_270 rfl rfl ?_
  refine g_sipush (pc := 271) (v := (512 : Int32)) dX11_init_271 (by decide) ?_
  obtain ⟨h95, eh95, hf⟩ := lt_some hf
  refine g_newI (pc := 274) m_252 dX11_init_274 (by decide) eh95 ?_
  obtain ⟨g96, hf⟩ := gs_some hf
  obtain ⟨h97, eh97, hf⟩ := lt_some hf
  refine g_putRF (pc := 276) fl_X11_105 rfl (cl_own rfl) (Or.inr ⟨_, rfl⟩) dX11_init_276 g96 eh97 ?_
  refine g_aload_n (pc := 279) 0 dX11_init_279 rfl rfl ?_
  refine g_sipush (pc := 280) (v := (512 : Int32)) dX11_init_280 (by decide) ?_
  obtain ⟨h98, eh98, hf⟩ := lt_some hf
  refine g_newI (pc := 283) m_252 dX11_init_283 (by decide) eh98 ?_
  obtain ⟨g99, hf⟩ := gs_some hf
  obtain ⟨h100, eh100, hf⟩ := lt_some hf
  refine g_putRF (pc := 285) fl_X11_108 rfl (cl_own rfl) (Or.inr ⟨_, rfl⟩) dX11_init_285 g99 eh100 ?_
  refine g_aload_n (pc := 288) 0 dX11_init_288 rfl rfl ?_
  refine g_sipush (pc := 289) (v := (512 : Int32)) dX11_init_289 (by decide) ?_
  obtain ⟨h101, eh101, hf⟩ := lt_some hf
  refine g_newI (pc := 292) m_252 dX11_init_292 (by decide) eh101 ?_
  obtain ⟨g102, hf⟩ := gs_some hf
  obtain ⟨h103, eh103, hf⟩ := lt_some hf
  refine g_putRF (pc := 294) fl_X11_111 rfl (cl_own rfl) (Or.inr ⟨_, rfl⟩) dX11_init_294 g102 eh103 ?_
  refine g_aload_n (pc := 297) 0 dX11_init_297 rfl rfl ?_
  refine g_sipush (pc := 298) (v := (512 : Int32)) dX11_init_298 (by decide) ?_
  obtain ⟨h104, eh104, hf⟩ := lt_some hf
  refine g_newI (pc := 301) m_252 dX11_init_301 (by decide) eh104 ?_
  obtain ⟨g105, hf⟩ := gs_some hf
  obtain ⟨h106, eh106, hf⟩ := lt_some hf
  refine g_putRF (pc := 303) fl_X11_114 rfl (cl_own rfl) (Or.inr ⟨_, rfl⟩) dX11_init_303 g105 eh106 ?_
  refine g_aload_n (pc := 306) 0 dX11_init_306 rfl rfl ?_
  refine g_sipush (pc := 307) (v := (2048 : Int32)) dX11_init_307 (by decide) ?_
  obtain ⟨h107, eh107, hf⟩ := lt_some hf
  refine g_newI (pc := 310) m_252 dX11_init_310 (by decide) eh107 ?_
  obtain ⟨g108, hf⟩ := gs_some hf
  obtain ⟨h109, eh109, hf⟩ := lt_some hf
  refine g_putRF (pc := 312) fl_X11_117 rfl (cl_own rfl) (Or.inr ⟨_, rfl⟩) dX11_init_312 g108 eh109 ?_
  refine g_aload_n (pc := 315) 0 dX11_init_315 rfl rfl ?_
  refine g_sipush (pc := 316) (v := (512 : Int32)) dX11_init_316 (by decide) ?_
  obtain ⟨h110, eh110, hf⟩ := lt_some hf
  refine g_newZ (pc := 319) m_346 dX11_init_319 (by decide) eh110 ?_
  obtain ⟨g111, hf⟩ := gs_some hf
  obtain ⟨h112, eh112, hf⟩ := lt_some hf
  refine g_putRF (pc := 321) fl_X11_120 rfl (cl_own rfl) (Or.inr ⟨_, rfl⟩) dX11_init_321 g111 eh112 ?_
  refine g_aload_n (pc := 324) 0 dX11_init_324 rfl rfl ?_
  refine g_sipush (pc := 325) (v := (512 : Int32)) dX11_init_325 (by decide) ?_
  obtain ⟨h113, eh113, hf⟩ := lt_some hf
  refine g_newI (pc := 328) m_252 dX11_init_328 (by decide) eh113 ?_
  obtain ⟨g114, hf⟩ := gs_some hf
  obtain ⟨h115, eh115, hf⟩ := lt_some hf
  refine g_putRF (pc := 330) fl_X11_123 rfl (cl_own rfl) (Or.inr ⟨_, rfl⟩) dX11_init_330 g114 eh115 ?_
  refine g_aload_n (pc := 333) 0 dX11_init_333 rfl rfl ?_
  refine g_sipush (pc := 334) (v := (512 : Int32)) dX11_init_334 (by decide) ?_
  obtain ⟨h116, eh116, hf⟩ := lt_some hf
  refine g_newI (pc := 337) m_252 dX11_init_337 (by decide) eh116 ?_
  obtain ⟨g117, hf⟩ := gs_some hf
  obtain ⟨h118, eh118, hf⟩ := lt_some hf
  refine g_putRF (pc := 339) fl_X11_126 rfl (cl_own rfl) (Or.inr ⟨_, rfl⟩) dX11_init_339 g117 eh118 ?_
  refine g_aload_n (pc := 342) 0 dX11_init_342 rfl rfl ?_
  refine g_sipush (pc := 343) (v := (512 : Int32)) dX11_init_343 (by decide) ?_
  obtain ⟨h119, eh119, hf⟩ := lt_some hf
  refine g_newI (pc := 346) m_252 dX11_init_346 (by decide) eh119 ?_
  obtain ⟨g120, hf⟩ := gs_some hf
  obtain ⟨h121, eh121, hf⟩ := lt_some hf
  refine g_putRF (pc := 348) fl_X11_129 rfl (cl_own rfl) (Or.inr ⟨_, rfl⟩) dX11_init_348 g120 eh121 ?_
  refine g_aload_n (pc := 351) 0 dX11_init_351 rfl rfl ?_
  refine g_sipush (pc := 352) (v := (512 : Int32)) dX11_init_352 (by decide) ?_
  obtain ⟨h122, eh122, hf⟩ := lt_some hf
  refine g_newI (pc := 355) m_252 dX11_init_355 (by decide) eh122 ?_
  obtain ⟨g123, hf⟩ := gs_some hf
  obtain ⟨h124, eh124, hf⟩ := lt_some hf
  refine g_putRF (pc := 357) fl_X11_132 rfl (cl_own rfl) (Or.inr ⟨_, rfl⟩) dX11_init_357 g123 eh124 ?_
  refine g_aload_n (pc := 360) 0 dX11_init_360 rfl rfl ?_
  refine g_sipush (pc := 361) (v := (512 : Int32)) dX11_init_361 (by decide) ?_
  obtain ⟨h125, eh125, hf⟩ := lt_some hf
  refine g_newI (pc := 364) m_252 dX11_init_364 (by decide) eh125 ?_
  obtain ⟨g126, hf⟩ := gs_some hf
  obtain ⟨h127, eh127, hf⟩ := lt_some hf
  refine g_putRF (pc := 366) fl_X11_135 rfl (cl_own rfl) (Or.inr ⟨_, rfl⟩) dX11_init_366 g126 eh127 ?_
  refine g_aload_n (pc := 369) 0 dX11_init_369 rfl rfl ?_
  refine g_sipush (pc := 370) (v := (512 : Int32)) dX11_init_370 (by decide) ?_
  obtain ⟨h128, eh128, hf⟩ := lt_some hf
  refine g_newI (pc := 373) m_252 dX11_init_373 (by decide) eh128 ?_
  obtain ⟨g129, hf⟩ := gs_some hf
  obtain ⟨h130, eh130, hf⟩ := lt_some hf
  refine g_putRF (pc := 375) fl_X11_138 rfl (cl_own rfl) (Or.inr ⟨_, rfl⟩) dX11_init_375 g129 eh130 ?_
  refine g_aload_n (pc := 378) 0 dX11_init_378 rfl rfl ?_
  refine g_sipush (pc := 379) (v := (700 : Int32)) dX11_init_379 (by decide) ?_
  obtain ⟨h131, eh131, hf⟩ := lt_some hf
  refine g_newI (pc := 382) m_252 dX11_init_382 (by decide) eh131 ?_
  obtain ⟨g132, hf⟩ := gs_some hf
  obtain ⟨h133, eh133, hf⟩ := lt_some hf
  refine g_putRF (pc := 384) fl_X11_141 rfl (cl_own rfl) (Or.inr ⟨_, rfl⟩) dX11_init_384 g132 eh133 ?_
  refine g_aload_n (pc := 387) 0 dX11_init_387 rfl rfl ?_
  refine g_ldc (pc := 388) (v := (75600 : Int32)) m_1311 dX11_init_388 ?_
  obtain ⟨h134, eh134, hf⟩ := lt_some hf
  refine g_newI (pc := 390) m_252 dX11_init_390 (by decide) eh134 ?_
  obtain ⟨g135, hf⟩ := gs_some hf
  obtain ⟨h136, eh136, hf⟩ := lt_some hf
  refine g_putRF (pc := 392) fl_X11_145 rfl (cl_own rfl) (Or.inr ⟨_, rfl⟩) dX11_init_392 g135 eh136 ?_
  refine g_aload_n (pc := 395) 0 dX11_init_395 rfl rfl ?_
  refine g_bipush (pc := 396) (v := (9 : Int32)) dX11_init_396 (by decide) ?_
  obtain ⟨h137, eh137, hf⟩ := lt_some hf
  refine g_newI (pc := 398) m_252 dX11_init_398 (by decide) eh137 ?_
  obtain ⟨g138, hf⟩ := gs_some hf
  obtain ⟨h139, eh139, hf⟩ := lt_some hf
  refine g_putRF (pc := 400) fl_X11_148 rfl (cl_own rfl) (Or.inr ⟨_, rfl⟩) dX11_init_400 g138 eh139 ?_
  refine g_aload_n (pc := 403) 0 dX11_init_403 rfl rfl ?_
  refine g_bipush (pc := 404) (v := (61 : Int32)) dX11_init_404 (by decide) ?_
  obtain ⟨h140, eh140, hf⟩ := lt_some hf
  refine g_newQS (pc := 406) m_1312 dX11_init_406 (by decide) eh140 ?_
  refine g_dup (pc := 409) dX11_init_409 (rf_cat X _) ?_
  refine g_iconst (pc := 410) (v := (0 : Int32)) dX11_init_410 (by decide) ?_
  refine g_ldcS (pc := 411) 0 rfl rfl dX11_init_411 ?_
  have g141 : hS h140 (hZ h139 + 1) = 26 := (hS_nw eh140)
  obtain ⟨b142, hf⟩ := gb_some hf
  obtain ⟨h143, eh143, hf⟩ := lt_some hf
  refine g_astS (pc := 413) g141 b142 (by decide) dX11_init_413 eh143 ?_
  refine g_dup (pc := 414) dX11_init_414 (rf_cat X _) ?_
  refine g_iconst (pc := 415) (v := (1 : Int32)) dX11_init_415 (by decide) ?_
  refine g_ldcS (pc := 416) 1 rfl rfl dX11_init_416 ?_
  have g144 : hS h143 (hZ h139 + 1) = 26 := (hS_tR eh143 g141)
  obtain ⟨b145, hf⟩ := gb_some hf
  obtain ⟨h146, eh146, hf⟩ := lt_some hf
  refine g_astS (pc := 418) g144 b145 (by decide) dX11_init_418 eh146 ?_
  refine g_dup (pc := 419) dX11_init_419 (rf_cat X _) ?_
  refine g_iconst (pc := 420) (v := (2 : Int32)) dX11_init_420 (by decide) ?_
  refine g_ldcS (pc := 421) 2 rfl rfl dX11_init_421 ?_
  have g147 : hS h146 (hZ h139 + 1) = 26 := (hS_tR eh146 g144)
  obtain ⟨b148, hf⟩ := gb_some hf
  obtain ⟨h149, eh149, hf⟩ := lt_some hf
  refine g_astS (pc := 423) g147 b148 (by decide) dX11_init_423 eh149 ?_
  refine g_dup (pc := 424) dX11_init_424 (rf_cat X _) ?_
  refine g_iconst (pc := 425) (v := (3 : Int32)) dX11_init_425 (by decide) ?_
  refine g_ldcS (pc := 426) 3 rfl rfl dX11_init_426 ?_
  have g150 : hS h149 (hZ h139 + 1) = 26 := (hS_tR eh149 g147)
  obtain ⟨b151, hf⟩ := gb_some hf
  obtain ⟨h152, eh152, hf⟩ := lt_some hf
  refine g_astS (pc := 428) g150 b151 (by decide) dX11_init_428 eh152 ?_
  refine g_dup (pc := 429) dX11_init_429 (rf_cat X _) ?_
  refine g_iconst (pc := 430) (v := (4 : Int32)) dX11_init_430 (by decide) ?_
  refine g_ldcS (pc := 431) 4 rfl rfl dX11_init_431 ?_
  have g153 : hS h152 (hZ h139 + 1) = 26 := (hS_tR eh152 g150)
  obtain ⟨b154, hf⟩ := gb_some hf
  obtain ⟨h155, eh155, hf⟩ := lt_some hf
  refine g_astS (pc := 433) g153 b154 (by decide) dX11_init_433 eh155 ?_
  refine g_dup (pc := 434) dX11_init_434 (rf_cat X _) ?_
  refine g_iconst (pc := 435) (v := (5 : Int32)) dX11_init_435 (by decide) ?_
  refine g_ldcS (pc := 436) 5 rfl rfl dX11_init_436 ?_
  have g156 : hS h155 (hZ h139 + 1) = 26 := (hS_tR eh155 g153)
  obtain ⟨b157, hf⟩ := gb_some hf
  obtain ⟨h158, eh158, hf⟩ := lt_some hf
  refine g_astS (pc := 438) g156 b157 (by decide) dX11_init_438 eh158 ?_
  refine g_dup (pc := 439) dX11_init_439 (rf_cat X _) ?_
  refine g_bipush (pc := 440) (v := (6 : Int32)) dX11_init_440 (by decide) ?_
  refine g_ldcS (pc := 442) 6 rfl rfl dX11_init_442 ?_
  have g159 : hS h158 (hZ h139 + 1) = 26 := (hS_tR eh158 g156)
  obtain ⟨b160, hf⟩ := gb_some hf
  obtain ⟨h161, eh161, hf⟩ := lt_some hf
  refine g_astS (pc := 444) g159 b160 (by decide) dX11_init_444 eh161 ?_
  refine g_dup (pc := 445) dX11_init_445 (rf_cat X _) ?_
  refine g_bipush (pc := 446) (v := (7 : Int32)) dX11_init_446 (by decide) ?_
  refine g_ldcS (pc := 448) 7 rfl rfl dX11_init_448 ?_
  have g162 : hS h161 (hZ h139 + 1) = 26 := (hS_tR eh161 g159)
  obtain ⟨b163, hf⟩ := gb_some hf
  obtain ⟨h164, eh164, hf⟩ := lt_some hf
  refine g_astS (pc := 450) g162 b163 (by decide) dX11_init_450 eh164 ?_
  refine g_dup (pc := 451) dX11_init_451 (rf_cat X _) ?_
  refine g_bipush (pc := 452) (v := (8 : Int32)) dX11_init_452 (by decide) ?_
  refine g_ldcS (pc := 454) 8 rfl rfl dX11_init_454 ?_
  have g165 : hS h164 (hZ h139 + 1) = 26 := (hS_tR eh164 g162)
  obtain ⟨b166, hf⟩ := gb_some hf
  obtain ⟨h167, eh167, hf⟩ := lt_some hf
  refine g_astS (pc := 456) g165 b166 (by decide) dX11_init_456 eh167 ?_
  refine g_dup (pc := 457) dX11_init_457 (rf_cat X _) ?_
  refine g_bipush (pc := 458) (v := (9 : Int32)) dX11_init_458 (by decide) ?_
  refine g_ldcS (pc := 460) 9 rfl rfl dX11_init_460 ?_
  have g168 : hS h167 (hZ h139 + 1) = 26 := (hS_tR eh167 g165)
  obtain ⟨b169, hf⟩ := gb_some hf
  obtain ⟨h170, eh170, hf⟩ := lt_some hf
  refine g_astS (pc := 462) g168 b169 (by decide) dX11_init_462 eh170 ?_
  refine g_dup (pc := 463) dX11_init_463 (rf_cat X _) ?_
  refine g_bipush (pc := 464) (v := (10 : Int32)) dX11_init_464 (by decide) ?_
  refine g_ldcS (pc := 466) 10 rfl rfl dX11_init_466 ?_
  have g171 : hS h170 (hZ h139 + 1) = 26 := (hS_tR eh170 g168)
  obtain ⟨b172, hf⟩ := gb_some hf
  obtain ⟨h173, eh173, hf⟩ := lt_some hf
  refine g_astS (pc := 468) g171 b172 (by decide) dX11_init_468 eh173 ?_
  refine g_dup (pc := 469) dX11_init_469 (rf_cat X _) ?_
  refine g_bipush (pc := 470) (v := (11 : Int32)) dX11_init_470 (by decide) ?_
  refine g_ldcS (pc := 472) 11 rfl rfl dX11_init_472 ?_
  have g174 : hS h173 (hZ h139 + 1) = 26 := (hS_tR eh173 g171)
  obtain ⟨b175, hf⟩ := gb_some hf
  obtain ⟨h176, eh176, hf⟩ := lt_some hf
  refine g_astS (pc := 474) g174 b175 (by decide) dX11_init_474 eh176 ?_
  refine g_dup (pc := 475) dX11_init_475 (rf_cat X _) ?_
  refine g_bipush (pc := 476) (v := (12 : Int32)) dX11_init_476 (by decide) ?_
  refine g_ldcS (pc := 478) 12 rfl rfl dX11_init_478 ?_
  have g177 : hS h176 (hZ h139 + 1) = 26 := (hS_tR eh176 g174)
  obtain ⟨b178, hf⟩ := gb_some hf
  obtain ⟨h179, eh179, hf⟩ := lt_some hf
  refine g_astS (pc := 480) g177 b178 (by decide) dX11_init_480 eh179 ?_
  refine g_dup (pc := 481) dX11_init_481 (rf_cat X _) ?_
  refine g_bipush (pc := 482) (v := (13 : Int32)) dX11_init_482 (by decide) ?_
  refine g_ldcS (pc := 484) 13 rfl rfl dX11_init_484 ?_
  have g180 : hS h179 (hZ h139 + 1) = 26 := (hS_tR eh179 g177)
  obtain ⟨b181, hf⟩ := gb_some hf
  obtain ⟨h182, eh182, hf⟩ := lt_some hf
  refine g_astS (pc := 486) g180 b181 (by decide) dX11_init_486 eh182 ?_
  refine g_dup (pc := 487) dX11_init_487 (rf_cat X _) ?_
  refine g_bipush (pc := 488) (v := (14 : Int32)) dX11_init_488 (by decide) ?_
  refine g_ldcS (pc := 490) 14 rfl rfl dX11_init_490 ?_
  have g183 : hS h182 (hZ h139 + 1) = 26 := (hS_tR eh182 g180)
  obtain ⟨b184, hf⟩ := gb_some hf
  obtain ⟨h185, eh185, hf⟩ := lt_some hf
  refine g_astS (pc := 492) g183 b184 (by decide) dX11_init_492 eh185 ?_
  refine g_dup (pc := 493) dX11_init_493 (rf_cat X _) ?_
  refine g_bipush (pc := 494) (v := (15 : Int32)) dX11_init_494 (by decide) ?_
  refine g_ldcS (pc := 496) 15 rfl rfl dX11_init_496 ?_
  have g186 : hS h185 (hZ h139 + 1) = 26 := (hS_tR eh185 g183)
  obtain ⟨b187, hf⟩ := gb_some hf
  obtain ⟨h188, eh188, hf⟩ := lt_some hf
  refine g_astS (pc := 498) g186 b187 (by decide) dX11_init_498 eh188 ?_
  refine g_dup (pc := 499) dX11_init_499 (rf_cat X _) ?_
  refine g_bipush (pc := 500) (v := (16 : Int32)) dX11_init_500 (by decide) ?_
  refine g_ldcS (pc := 502) 16 rfl rfl dX11_init_502 ?_
  have g189 : hS h188 (hZ h139 + 1) = 26 := (hS_tR eh188 g186)
  obtain ⟨b190, hf⟩ := gb_some hf
  obtain ⟨h191, eh191, hf⟩ := lt_some hf
  refine g_astS (pc := 504) g189 b190 (by decide) dX11_init_504 eh191 ?_
  refine g_dup (pc := 505) dX11_init_505 (rf_cat X _) ?_
  refine g_bipush (pc := 506) (v := (17 : Int32)) dX11_init_506 (by decide) ?_
  refine g_ldcS (pc := 508) 17 rfl rfl dX11_init_508 ?_
  have g192 : hS h191 (hZ h139 + 1) = 26 := (hS_tR eh191 g189)
  obtain ⟨b193, hf⟩ := gb_some hf
  obtain ⟨h194, eh194, hf⟩ := lt_some hf
  refine g_astS (pc := 510) g192 b193 (by decide) dX11_init_510 eh194 ?_
  refine g_dup (pc := 511) dX11_init_511 (rf_cat X _) ?_
  refine g_bipush (pc := 512) (v := (18 : Int32)) dX11_init_512 (by decide) ?_
  refine g_ldcS (pc := 514) 18 rfl rfl dX11_init_514 ?_
  have g195 : hS h194 (hZ h139 + 1) = 26 := (hS_tR eh194 g192)
  obtain ⟨b196, hf⟩ := gb_some hf
  obtain ⟨h197, eh197, hf⟩ := lt_some hf
  refine g_astS (pc := 516) g195 b196 (by decide) dX11_init_516 eh197 ?_
  refine g_dup (pc := 517) dX11_init_517 (rf_cat X _) ?_
  refine g_bipush (pc := 518) (v := (19 : Int32)) dX11_init_518 (by decide) ?_
  refine g_ldcS (pc := 520) 19 rfl rfl dX11_init_520 ?_
  have g198 : hS h197 (hZ h139 + 1) = 26 := (hS_tR eh197 g195)
  obtain ⟨b199, hf⟩ := gb_some hf
  obtain ⟨h200, eh200, hf⟩ := lt_some hf
  refine g_astS (pc := 522) g198 b199 (by decide) dX11_init_522 eh200 ?_
  refine g_dup (pc := 523) dX11_init_523 (rf_cat X _) ?_
  refine g_bipush (pc := 524) (v := (20 : Int32)) dX11_init_524 (by decide) ?_
  refine g_ldcS (pc := 526) 20 rfl rfl dX11_init_526 ?_
  have g201 : hS h200 (hZ h139 + 1) = 26 := (hS_tR eh200 g198)
  obtain ⟨b202, hf⟩ := gb_some hf
  obtain ⟨h203, eh203, hf⟩ := lt_some hf
  refine g_astS (pc := 528) g201 b202 (by decide) dX11_init_528 eh203 ?_
  refine g_dup (pc := 529) dX11_init_529 (rf_cat X _) ?_
  refine g_bipush (pc := 530) (v := (21 : Int32)) dX11_init_530 (by decide) ?_
  refine g_ldcS (pc := 532) 21 rfl rfl dX11_init_532 ?_
  have g204 : hS h203 (hZ h139 + 1) = 26 := (hS_tR eh203 g201)
  obtain ⟨b205, hf⟩ := gb_some hf
  obtain ⟨h206, eh206, hf⟩ := lt_some hf
  refine g_astS (pc := 534) g204 b205 (by decide) dX11_init_534 eh206 ?_
  refine g_dup (pc := 535) dX11_init_535 (rf_cat X _) ?_
  refine g_bipush (pc := 536) (v := (22 : Int32)) dX11_init_536 (by decide) ?_
  refine g_ldcS (pc := 538) 22 rfl rfl dX11_init_538 ?_
  have g207 : hS h206 (hZ h139 + 1) = 26 := (hS_tR eh206 g204)
  obtain ⟨b208, hf⟩ := gb_some hf
  obtain ⟨h209, eh209, hf⟩ := lt_some hf
  refine g_astS (pc := 540) g207 b208 (by decide) dX11_init_540 eh209 ?_
  refine g_dup (pc := 541) dX11_init_541 (rf_cat X _) ?_
  refine g_bipush (pc := 542) (v := (23 : Int32)) dX11_init_542 (by decide) ?_
  refine g_ldcS (pc := 544) 23 rfl rfl dX11_init_544 ?_
  have g210 : hS h209 (hZ h139 + 1) = 26 := (hS_tR eh209 g207)
  obtain ⟨b211, hf⟩ := gb_some hf
  obtain ⟨h212, eh212, hf⟩ := lt_some hf
  refine g_astS (pc := 546) g210 b211 (by decide) dX11_init_546 eh212 ?_
  refine g_dup (pc := 547) dX11_init_547 (rf_cat X _) ?_
  refine g_bipush (pc := 548) (v := (24 : Int32)) dX11_init_548 (by decide) ?_
  refine g_ldcS (pc := 550) 24 rfl rfl dX11_init_550 ?_
  have g213 : hS h212 (hZ h139 + 1) = 26 := (hS_tR eh212 g210)
  obtain ⟨b214, hf⟩ := gb_some hf
  obtain ⟨h215, eh215, hf⟩ := lt_some hf
  refine g_astS (pc := 552) g213 b214 (by decide) dX11_init_552 eh215 ?_
  refine g_dup (pc := 553) dX11_init_553 (rf_cat X _) ?_
  refine g_bipush (pc := 554) (v := (25 : Int32)) dX11_init_554 (by decide) ?_
  refine g_ldcS (pc := 556) 25 rfl rfl dX11_init_556 ?_
  have g216 : hS h215 (hZ h139 + 1) = 26 := (hS_tR eh215 g213)
  obtain ⟨b217, hf⟩ := gb_some hf
  obtain ⟨h218, eh218, hf⟩ := lt_some hf
  refine g_astS (pc := 558) g216 b217 (by decide) dX11_init_558 eh218 ?_
  refine g_dup (pc := 559) dX11_init_559 (rf_cat X _) ?_
  refine g_bipush (pc := 560) (v := (26 : Int32)) dX11_init_560 (by decide) ?_
  refine g_ldcS (pc := 562) 26 rfl rfl dX11_init_562 ?_
  have g219 : hS h218 (hZ h139 + 1) = 26 := (hS_tR eh218 g216)
  obtain ⟨b220, hf⟩ := gb_some hf
  obtain ⟨h221, eh221, hf⟩ := lt_some hf
  refine g_astS (pc := 564) g219 b220 (by decide) dX11_init_564 eh221 ?_
  refine g_dup (pc := 565) dX11_init_565 (rf_cat X _) ?_
  refine g_bipush (pc := 566) (v := (27 : Int32)) dX11_init_566 (by decide) ?_
  refine g_ldcS (pc := 568) 27 rfl rfl dX11_init_568 ?_
  have g222 : hS h221 (hZ h139 + 1) = 26 := (hS_tR eh221 g219)
  obtain ⟨b223, hf⟩ := gb_some hf
  obtain ⟨h224, eh224, hf⟩ := lt_some hf
  refine g_astS (pc := 570) g222 b223 (by decide) dX11_init_570 eh224 ?_
  refine g_dup (pc := 571) dX11_init_571 (rf_cat X _) ?_
  refine g_bipush (pc := 572) (v := (28 : Int32)) dX11_init_572 (by decide) ?_
  refine g_ldcS (pc := 574) 28 rfl rfl dX11_init_574 ?_
  have g225 : hS h224 (hZ h139 + 1) = 26 := (hS_tR eh224 g222)
  obtain ⟨b226, hf⟩ := gb_some hf
  obtain ⟨h227, eh227, hf⟩ := lt_some hf
  refine g_astS (pc := 576) g225 b226 (by decide) dX11_init_576 eh227 ?_
  refine g_dup (pc := 577) dX11_init_577 (rf_cat X _) ?_
  refine g_bipush (pc := 578) (v := (29 : Int32)) dX11_init_578 (by decide) ?_
  refine g_ldcS (pc := 580) 29 rfl rfl dX11_init_580 ?_
  have g228 : hS h227 (hZ h139 + 1) = 26 := (hS_tR eh227 g225)
  obtain ⟨b229, hf⟩ := gb_some hf
  obtain ⟨h230, eh230, hf⟩ := lt_some hf
  refine g_astS (pc := 582) g228 b229 (by decide) dX11_init_582 eh230 ?_
  refine g_dup (pc := 583) dX11_init_583 (rf_cat X _) ?_
  refine g_bipush (pc := 584) (v := (30 : Int32)) dX11_init_584 (by decide) ?_
  refine g_ldcS (pc := 586) 30 rfl rfl dX11_init_586 ?_
  have g231 : hS h230 (hZ h139 + 1) = 26 := (hS_tR eh230 g228)
  obtain ⟨b232, hf⟩ := gb_some hf
  obtain ⟨h233, eh233, hf⟩ := lt_some hf
  refine g_astS (pc := 588) g231 b232 (by decide) dX11_init_588 eh233 ?_
  refine g_dup (pc := 589) dX11_init_589 (rf_cat X _) ?_
  refine g_bipush (pc := 590) (v := (31 : Int32)) dX11_init_590 (by decide) ?_
  refine g_ldcS (pc := 592) 31 rfl rfl dX11_init_592 ?_
  have g234 : hS h233 (hZ h139 + 1) = 26 := (hS_tR eh233 g231)
  obtain ⟨b235, hf⟩ := gb_some hf
  obtain ⟨h236, eh236, hf⟩ := lt_some hf
  refine g_astS (pc := 594) g234 b235 (by decide) dX11_init_594 eh236 ?_
  refine g_dup (pc := 595) dX11_init_595 (rf_cat X _) ?_
  refine g_bipush (pc := 596) (v := (32 : Int32)) dX11_init_596 (by decide) ?_
  refine g_ldcS (pc := 598) 32 rfl rfl dX11_init_598 ?_
  have g237 : hS h236 (hZ h139 + 1) = 26 := (hS_tR eh236 g234)
  obtain ⟨b238, hf⟩ := gb_some hf
  obtain ⟨h239, eh239, hf⟩ := lt_some hf
  refine g_astS (pc := 600) g237 b238 (by decide) dX11_init_600 eh239 ?_
  refine g_dup (pc := 601) dX11_init_601 (rf_cat X _) ?_
  refine g_bipush (pc := 602) (v := (33 : Int32)) dX11_init_602 (by decide) ?_
  refine g_ldcS (pc := 604) 33 rfl rfl dX11_init_604 ?_
  have g240 : hS h239 (hZ h139 + 1) = 26 := (hS_tR eh239 g237)
  obtain ⟨b241, hf⟩ := gb_some hf
  obtain ⟨h242, eh242, hf⟩ := lt_some hf
  refine g_astS (pc := 606) g240 b241 (by decide) dX11_init_606 eh242 ?_
  refine g_dup (pc := 607) dX11_init_607 (rf_cat X _) ?_
  refine g_bipush (pc := 608) (v := (34 : Int32)) dX11_init_608 (by decide) ?_
  refine g_ldcS (pc := 610) 34 rfl rfl dX11_init_610 ?_
  have g243 : hS h242 (hZ h139 + 1) = 26 := (hS_tR eh242 g240)
  obtain ⟨b244, hf⟩ := gb_some hf
  obtain ⟨h245, eh245, hf⟩ := lt_some hf
  refine g_astS (pc := 612) g243 b244 (by decide) dX11_init_612 eh245 ?_
  refine g_dup (pc := 613) dX11_init_613 (rf_cat X _) ?_
  refine g_bipush (pc := 614) (v := (35 : Int32)) dX11_init_614 (by decide) ?_
  refine g_ldcS (pc := 616) 35 rfl rfl dX11_init_616 ?_
  have g246 : hS h245 (hZ h139 + 1) = 26 := (hS_tR eh245 g243)
  obtain ⟨b247, hf⟩ := gb_some hf
  obtain ⟨h248, eh248, hf⟩ := lt_some hf
  refine g_astS (pc := 618) g246 b247 (by decide) dX11_init_618 eh248 ?_
  refine g_dup (pc := 619) dX11_init_619 (rf_cat X _) ?_
  refine g_bipush (pc := 620) (v := (36 : Int32)) dX11_init_620 (by decide) ?_
  refine g_ldcS (pc := 622) 36 rfl rfl dX11_init_622 ?_
  have g249 : hS h248 (hZ h139 + 1) = 26 := (hS_tR eh248 g246)
  obtain ⟨b250, hf⟩ := gb_some hf
  obtain ⟨h251, eh251, hf⟩ := lt_some hf
  refine g_astS (pc := 624) g249 b250 (by decide) dX11_init_624 eh251 ?_
  refine g_dup (pc := 625) dX11_init_625 (rf_cat X _) ?_
  refine g_bipush (pc := 626) (v := (37 : Int32)) dX11_init_626 (by decide) ?_
  refine g_ldcS (pc := 628) 37 rfl rfl dX11_init_628 ?_
  have g252 : hS h251 (hZ h139 + 1) = 26 := (hS_tR eh251 g249)
  obtain ⟨b253, hf⟩ := gb_some hf
  obtain ⟨h254, eh254, hf⟩ := lt_some hf
  refine g_astS (pc := 630) g252 b253 (by decide) dX11_init_630 eh254 ?_
  refine g_dup (pc := 631) dX11_init_631 (rf_cat X _) ?_
  refine g_bipush (pc := 632) (v := (38 : Int32)) dX11_init_632 (by decide) ?_
  refine g_ldcS (pc := 634) 38 rfl rfl dX11_init_634 ?_
  have g255 : hS h254 (hZ h139 + 1) = 26 := (hS_tR eh254 g252)
  obtain ⟨b256, hf⟩ := gb_some hf
  obtain ⟨h257, eh257, hf⟩ := lt_some hf
  refine g_astS (pc := 636) g255 b256 (by decide) dX11_init_636 eh257 ?_
  refine g_dup (pc := 637) dX11_init_637 (rf_cat X _) ?_
  refine g_bipush (pc := 638) (v := (39 : Int32)) dX11_init_638 (by decide) ?_
  refine g_ldcS (pc := 640) 39 rfl rfl dX11_init_640 ?_
  have g258 : hS h257 (hZ h139 + 1) = 26 := (hS_tR eh257 g255)
  obtain ⟨b259, hf⟩ := gb_some hf
  obtain ⟨h260, eh260, hf⟩ := lt_some hf
  refine g_astS (pc := 642) g258 b259 (by decide) dX11_init_642 eh260 ?_
  refine g_dup (pc := 643) dX11_init_643 (rf_cat X _) ?_
  refine g_bipush (pc := 644) (v := (40 : Int32)) dX11_init_644 (by decide) ?_
  refine g_ldcS (pc := 646) 40 rfl rfl dX11_init_646 ?_
  have g261 : hS h260 (hZ h139 + 1) = 26 := (hS_tR eh260 g258)
  obtain ⟨b262, hf⟩ := gb_some hf
  obtain ⟨h263, eh263, hf⟩ := lt_some hf
  refine g_astS (pc := 648) g261 b262 (by decide) dX11_init_648 eh263 ?_
  refine g_dup (pc := 649) dX11_init_649 (rf_cat X _) ?_
  refine g_bipush (pc := 650) (v := (41 : Int32)) dX11_init_650 (by decide) ?_
  refine g_ldcS (pc := 652) 41 rfl rfl dX11_init_652 ?_
  have g264 : hS h263 (hZ h139 + 1) = 26 := (hS_tR eh263 g261)
  obtain ⟨b265, hf⟩ := gb_some hf
  obtain ⟨h266, eh266, hf⟩ := lt_some hf
  refine g_astS (pc := 654) g264 b265 (by decide) dX11_init_654 eh266 ?_
  refine g_dup (pc := 655) dX11_init_655 (rf_cat X _) ?_
  refine g_bipush (pc := 656) (v := (42 : Int32)) dX11_init_656 (by decide) ?_
  refine g_ldcS (pc := 658) 42 rfl rfl dX11_init_658 ?_
  have g267 : hS h266 (hZ h139 + 1) = 26 := (hS_tR eh266 g264)
  obtain ⟨b268, hf⟩ := gb_some hf
  obtain ⟨h269, eh269, hf⟩ := lt_some hf
  refine g_astS (pc := 660) g267 b268 (by decide) dX11_init_660 eh269 ?_
  refine g_dup (pc := 661) dX11_init_661 (rf_cat X _) ?_
  refine g_bipush (pc := 662) (v := (43 : Int32)) dX11_init_662 (by decide) ?_
  refine g_ldcS (pc := 664) 43 rfl rfl dX11_init_664 ?_
  have g270 : hS h269 (hZ h139 + 1) = 26 := (hS_tR eh269 g267)
  obtain ⟨b271, hf⟩ := gb_some hf
  obtain ⟨h272, eh272, hf⟩ := lt_some hf
  refine g_astS (pc := 666) g270 b271 (by decide) dX11_init_666 eh272 ?_
  refine g_dup (pc := 667) dX11_init_667 (rf_cat X _) ?_
  refine g_bipush (pc := 668) (v := (44 : Int32)) dX11_init_668 (by decide) ?_
  refine g_ldcS (pc := 670) 44 rfl rfl dX11_init_670 ?_
  have g273 : hS h272 (hZ h139 + 1) = 26 := (hS_tR eh272 g270)
  obtain ⟨b274, hf⟩ := gb_some hf
  obtain ⟨h275, eh275, hf⟩ := lt_some hf
  refine g_astS (pc := 672) g273 b274 (by decide) dX11_init_672 eh275 ?_
  refine g_dup (pc := 673) dX11_init_673 (rf_cat X _) ?_
  refine g_bipush (pc := 674) (v := (45 : Int32)) dX11_init_674 (by decide) ?_
  refine g_ldcS (pc := 676) 45 rfl rfl dX11_init_676 ?_
  have g276 : hS h275 (hZ h139 + 1) = 26 := (hS_tR eh275 g273)
  obtain ⟨b277, hf⟩ := gb_some hf
  obtain ⟨h278, eh278, hf⟩ := lt_some hf
  refine g_astS (pc := 678) g276 b277 (by decide) dX11_init_678 eh278 ?_
  refine g_dup (pc := 679) dX11_init_679 (rf_cat X _) ?_
  refine g_bipush (pc := 680) (v := (46 : Int32)) dX11_init_680 (by decide) ?_
  refine g_ldcS (pc := 682) 46 rfl rfl dX11_init_682 ?_
  have g279 : hS h278 (hZ h139 + 1) = 26 := (hS_tR eh278 g276)
  obtain ⟨b280, hf⟩ := gb_some hf
  obtain ⟨h281, eh281, hf⟩ := lt_some hf
  refine g_astS (pc := 684) g279 b280 (by decide) dX11_init_684 eh281 ?_
  refine g_dup (pc := 685) dX11_init_685 (rf_cat X _) ?_
  refine g_bipush (pc := 686) (v := (47 : Int32)) dX11_init_686 (by decide) ?_
  refine g_ldcS (pc := 688) 47 rfl rfl dX11_init_688 ?_
  have g282 : hS h281 (hZ h139 + 1) = 26 := (hS_tR eh281 g279)
  obtain ⟨b283, hf⟩ := gb_some hf
  obtain ⟨h284, eh284, hf⟩ := lt_some hf
  refine g_astS (pc := 690) g282 b283 (by decide) dX11_init_690 eh284 ?_
  refine g_dup (pc := 691) dX11_init_691 (rf_cat X _) ?_
  refine g_bipush (pc := 692) (v := (48 : Int32)) dX11_init_692 (by decide) ?_
  refine g_ldcS (pc := 694) 48 rfl rfl dX11_init_694 ?_
  have g285 : hS h284 (hZ h139 + 1) = 26 := (hS_tR eh284 g282)
  obtain ⟨b286, hf⟩ := gb_some hf
  obtain ⟨h287, eh287, hf⟩ := lt_some hf
  refine g_astS (pc := 696) g285 b286 (by decide) dX11_init_696 eh287 ?_
  refine g_dup (pc := 697) dX11_init_697 (rf_cat X _) ?_
  refine g_bipush (pc := 698) (v := (49 : Int32)) dX11_init_698 (by decide) ?_
  refine g_ldcS (pc := 700) 49 rfl rfl dX11_init_700 ?_
  have g288 : hS h287 (hZ h139 + 1) = 26 := (hS_tR eh287 g285)
  obtain ⟨b289, hf⟩ := gb_some hf
  obtain ⟨h290, eh290, hf⟩ := lt_some hf
  refine g_astS (pc := 702) g288 b289 (by decide) dX11_init_702 eh290 ?_
  refine g_dup (pc := 703) dX11_init_703 (rf_cat X _) ?_
  refine g_bipush (pc := 704) (v := (50 : Int32)) dX11_init_704 (by decide) ?_
  refine g_ldcS (pc := 706) 50 rfl rfl dX11_init_706 ?_
  have g291 : hS h290 (hZ h139 + 1) = 26 := (hS_tR eh290 g288)
  obtain ⟨b292, hf⟩ := gb_some hf
  obtain ⟨h293, eh293, hf⟩ := lt_some hf
  refine g_astS (pc := 708) g291 b292 (by decide) dX11_init_708 eh293 ?_
  refine g_dup (pc := 709) dX11_init_709 (rf_cat X _) ?_
  refine g_bipush (pc := 710) (v := (51 : Int32)) dX11_init_710 (by decide) ?_
  refine g_ldcS (pc := 712) 51 rfl rfl dX11_init_712 ?_
  have g294 : hS h293 (hZ h139 + 1) = 26 := (hS_tR eh293 g291)
  obtain ⟨b295, hf⟩ := gb_some hf
  obtain ⟨h296, eh296, hf⟩ := lt_some hf
  refine g_astS (pc := 714) g294 b295 (by decide) dX11_init_714 eh296 ?_
  refine g_dup (pc := 715) dX11_init_715 (rf_cat X _) ?_
  refine g_bipush (pc := 716) (v := (52 : Int32)) dX11_init_716 (by decide) ?_
  refine g_ldcSW (pc := 718) 52 rfl rfl dX11_init_718 ?_
  have g297 : hS h296 (hZ h139 + 1) = 26 := (hS_tR eh296 g294)
  obtain ⟨b298, hf⟩ := gb_some hf
  obtain ⟨h299, eh299, hf⟩ := lt_some hf
  refine g_astS (pc := 721) g297 b298 (by decide) dX11_init_721 eh299 ?_
  refine g_dup (pc := 722) dX11_init_722 (rf_cat X _) ?_
  refine g_bipush (pc := 723) (v := (53 : Int32)) dX11_init_723 (by decide) ?_
  refine g_ldcSW (pc := 725) 53 rfl rfl dX11_init_725 ?_
  have g300 : hS h299 (hZ h139 + 1) = 26 := (hS_tR eh299 g297)
  obtain ⟨b301, hf⟩ := gb_some hf
  obtain ⟨h302, eh302, hf⟩ := lt_some hf
  refine g_astS (pc := 728) g300 b301 (by decide) dX11_init_728 eh302 ?_
  refine g_dup (pc := 729) dX11_init_729 (rf_cat X _) ?_
  refine g_bipush (pc := 730) (v := (54 : Int32)) dX11_init_730 (by decide) ?_
  refine g_ldcSW (pc := 732) 54 rfl rfl dX11_init_732 ?_
  have g303 : hS h302 (hZ h139 + 1) = 26 := (hS_tR eh302 g300)
  obtain ⟨b304, hf⟩ := gb_some hf
  obtain ⟨h305, eh305, hf⟩ := lt_some hf
  refine g_astS (pc := 735) g303 b304 (by decide) dX11_init_735 eh305 ?_
  refine g_dup (pc := 736) dX11_init_736 (rf_cat X _) ?_
  refine g_bipush (pc := 737) (v := (55 : Int32)) dX11_init_737 (by decide) ?_
  refine g_ldcSW (pc := 739) 55 rfl rfl dX11_init_739 ?_
  have g306 : hS h305 (hZ h139 + 1) = 26 := (hS_tR eh305 g303)
  obtain ⟨b307, hf⟩ := gb_some hf
  obtain ⟨h308, eh308, hf⟩ := lt_some hf
  refine g_astS (pc := 742) g306 b307 (by decide) dX11_init_742 eh308 ?_
  refine g_dup (pc := 743) dX11_init_743 (rf_cat X _) ?_
  refine g_bipush (pc := 744) (v := (56 : Int32)) dX11_init_744 (by decide) ?_
  refine g_ldcSW (pc := 746) 56 rfl rfl dX11_init_746 ?_
  have g309 : hS h308 (hZ h139 + 1) = 26 := (hS_tR eh308 g306)
  obtain ⟨b310, hf⟩ := gb_some hf
  obtain ⟨h311, eh311, hf⟩ := lt_some hf
  refine g_astS (pc := 749) g309 b310 (by decide) dX11_init_749 eh311 ?_
  refine g_dup (pc := 750) dX11_init_750 (rf_cat X _) ?_
  refine g_bipush (pc := 751) (v := (57 : Int32)) dX11_init_751 (by decide) ?_
  refine g_ldcSW (pc := 753) 57 rfl rfl dX11_init_753 ?_
  have g312 : hS h311 (hZ h139 + 1) = 26 := (hS_tR eh311 g309)
  obtain ⟨b313, hf⟩ := gb_some hf
  obtain ⟨h314, eh314, hf⟩ := lt_some hf
  refine g_astS (pc := 756) g312 b313 (by decide) dX11_init_756 eh314 ?_
  refine g_dup (pc := 757) dX11_init_757 (rf_cat X _) ?_
  refine g_bipush (pc := 758) (v := (58 : Int32)) dX11_init_758 (by decide) ?_
  refine g_ldcSW (pc := 760) 58 rfl rfl dX11_init_760 ?_
  have g315 : hS h314 (hZ h139 + 1) = 26 := (hS_tR eh314 g312)
  obtain ⟨b316, hf⟩ := gb_some hf
  obtain ⟨h317, eh317, hf⟩ := lt_some hf
  refine g_astS (pc := 763) g315 b316 (by decide) dX11_init_763 eh317 ?_
  refine g_dup (pc := 764) dX11_init_764 (rf_cat X _) ?_
  refine g_bipush (pc := 765) (v := (59 : Int32)) dX11_init_765 (by decide) ?_
  refine g_ldcSW (pc := 767) 59 rfl rfl dX11_init_767 ?_
  have g318 : hS h317 (hZ h139 + 1) = 26 := (hS_tR eh317 g315)
  obtain ⟨b319, hf⟩ := gb_some hf
  obtain ⟨h320, eh320, hf⟩ := lt_some hf
  refine g_astS (pc := 770) g318 b319 (by decide) dX11_init_770 eh320 ?_
  refine g_dup (pc := 771) dX11_init_771 (rf_cat X _) ?_
  refine g_bipush (pc := 772) (v := (60 : Int32)) dX11_init_772 (by decide) ?_
  refine g_ldcSW (pc := 774) 60 rfl rfl dX11_init_774 ?_
  have g321 : hS h320 (hZ h139 + 1) = 26 := (hS_tR eh320 g318)
  obtain ⟨b322, hf⟩ := gb_some hf
  obtain ⟨h323, eh323, hf⟩ := lt_some hf
  refine g_astS (pc := 777) g321 b322 (by decide) dX11_init_777 eh323 ?_
  obtain ⟨g324, hf⟩ := gs_some hf
  obtain ⟨h325, eh325, hf⟩ := lt_some hf
  refine g_putRF (pc := 778) fl_X11_275 rfl (cl_own rfl) (Or.inr ⟨_, rfl⟩) dX11_init_778 g324 eh325 ?_
  refine g_aload_n (pc := 781) 0 dX11_init_781 rfl rfl ?_
  refine g_bipush (pc := 782) (v := (61 : Int32)) dX11_init_782 (by decide) ?_
  obtain ⟨h326, eh326, hf⟩ := lt_some hf
  refine g_newI (pc := 784) m_252 dX11_init_784 (by decide) eh326 ?_
  refine g_dup (pc := 786) dX11_init_786 (rf_cat X _) ?_
  refine g_iconst (pc := 787) (v := (0 : Int32)) dX11_init_787 (by decide) ?_
  refine g_iconst (pc := 788) (v := (0 : Int32)) dX11_init_788 (by decide) ?_
  have g327 : hS h326 (hZ h325 + 1) = 21 := (hS_nw eh326)
  obtain ⟨b328, hf⟩ := gb_some hf
  obtain ⟨h329, eh329, hf⟩ := lt_some hf
  refine g_iast (pc := 789) g327 b328 dX11_init_789 eh329 ?_
  refine g_dup (pc := 790) dX11_init_790 (rf_cat X _) ?_
  refine g_iconst (pc := 791) (v := (1 : Int32)) dX11_init_791 (by decide) ?_
  refine g_iconst (pc := 792) (v := (0 : Int32)) dX11_init_792 (by decide) ?_
  have g330 : hS h329 (hZ h325 + 1) = 21 := (hS_tI eh329 g327)
  obtain ⟨b331, hf⟩ := gb_some hf
  obtain ⟨h332, eh332, hf⟩ := lt_some hf
  refine g_iast (pc := 793) g330 b331 dX11_init_793 eh332 ?_
  refine g_dup (pc := 794) dX11_init_794 (rf_cat X _) ?_
  refine g_iconst (pc := 795) (v := (2 : Int32)) dX11_init_795 (by decide) ?_
  refine g_iconst (pc := 796) (v := (0 : Int32)) dX11_init_796 (by decide) ?_
  have g333 : hS h332 (hZ h325 + 1) = 21 := (hS_tI eh332 g330)
  obtain ⟨b334, hf⟩ := gb_some hf
  obtain ⟨h335, eh335, hf⟩ := lt_some hf
  refine g_iast (pc := 797) g333 b334 dX11_init_797 eh335 ?_
  refine g_dup (pc := 798) dX11_init_798 (rf_cat X _) ?_
  refine g_iconst (pc := 799) (v := (3 : Int32)) dX11_init_799 (by decide) ?_
  refine g_iconst (pc := 800) (v := (0 : Int32)) dX11_init_800 (by decide) ?_
  have g336 : hS h335 (hZ h325 + 1) = 21 := (hS_tI eh335 g333)
  obtain ⟨b337, hf⟩ := gb_some hf
  obtain ⟨h338, eh338, hf⟩ := lt_some hf
  refine g_iast (pc := 801) g336 b337 dX11_init_801 eh338 ?_
  refine g_dup (pc := 802) dX11_init_802 (rf_cat X _) ?_
  refine g_iconst (pc := 803) (v := (4 : Int32)) dX11_init_803 (by decide) ?_
  refine g_iconst (pc := 804) (v := (0 : Int32)) dX11_init_804 (by decide) ?_
  have g339 : hS h338 (hZ h325 + 1) = 21 := (hS_tI eh338 g336)
  obtain ⟨b340, hf⟩ := gb_some hf
  obtain ⟨h341, eh341, hf⟩ := lt_some hf
  refine g_iast (pc := 805) g339 b340 dX11_init_805 eh341 ?_
  refine g_dup (pc := 806) dX11_init_806 (rf_cat X _) ?_
  refine g_iconst (pc := 807) (v := (5 : Int32)) dX11_init_807 (by decide) ?_
  refine g_iconst (pc := 808) (v := (0 : Int32)) dX11_init_808 (by decide) ?_
  have g342 : hS h341 (hZ h325 + 1) = 21 := (hS_tI eh341 g339)
  obtain ⟨b343, hf⟩ := gb_some hf
  obtain ⟨h344, eh344, hf⟩ := lt_some hf
  refine g_iast (pc := 809) g342 b343 dX11_init_809 eh344 ?_
  refine g_dup (pc := 810) dX11_init_810 (rf_cat X _) ?_
  refine g_bipush (pc := 811) (v := (6 : Int32)) dX11_init_811 (by decide) ?_
  refine g_iconst (pc := 813) (v := (0 : Int32)) dX11_init_813 (by decide) ?_
  have g345 : hS h344 (hZ h325 + 1) = 21 := (hS_tI eh344 g342)
  obtain ⟨b346, hf⟩ := gb_some hf
  obtain ⟨h347, eh347, hf⟩ := lt_some hf
  refine g_iast (pc := 814) g345 b346 dX11_init_814 eh347 ?_
  refine g_dup (pc := 815) dX11_init_815 (rf_cat X _) ?_
  refine g_bipush (pc := 816) (v := (7 : Int32)) dX11_init_816 (by decide) ?_
  refine g_iconst (pc := 818) (v := (0 : Int32)) dX11_init_818 (by decide) ?_
  have g348 : hS h347 (hZ h325 + 1) = 21 := (hS_tI eh347 g345)
  obtain ⟨b349, hf⟩ := gb_some hf
  obtain ⟨h350, eh350, hf⟩ := lt_some hf
  refine g_iast (pc := 819) g348 b349 dX11_init_819 eh350 ?_
  refine g_dup (pc := 820) dX11_init_820 (rf_cat X _) ?_
  refine g_bipush (pc := 821) (v := (8 : Int32)) dX11_init_821 (by decide) ?_
  refine g_iconst (pc := 823) (v := (0 : Int32)) dX11_init_823 (by decide) ?_
  have g351 : hS h350 (hZ h325 + 1) = 21 := (hS_tI eh350 g348)
  obtain ⟨b352, hf⟩ := gb_some hf
  obtain ⟨h353, eh353, hf⟩ := lt_some hf
  refine g_iast (pc := 824) g351 b352 dX11_init_824 eh353 ?_
  refine g_dup (pc := 825) dX11_init_825 (rf_cat X _) ?_
  refine g_bipush (pc := 826) (v := (9 : Int32)) dX11_init_826 (by decide) ?_
  refine g_iconst (pc := 828) (v := (0 : Int32)) dX11_init_828 (by decide) ?_
  have g354 : hS h353 (hZ h325 + 1) = 21 := (hS_tI eh353 g351)
  obtain ⟨b355, hf⟩ := gb_some hf
  obtain ⟨h356, eh356, hf⟩ := lt_some hf
  refine g_iast (pc := 829) g354 b355 dX11_init_829 eh356 ?_
  refine g_dup (pc := 830) dX11_init_830 (rf_cat X _) ?_
  refine g_bipush (pc := 831) (v := (10 : Int32)) dX11_init_831 (by decide) ?_
  refine g_iconst (pc := 833) (v := (1 : Int32)) dX11_init_833 (by decide) ?_
  have g357 : hS h356 (hZ h325 + 1) = 21 := (hS_tI eh356 g354)
  obtain ⟨b358, hf⟩ := gb_some hf
  obtain ⟨h359, eh359, hf⟩ := lt_some hf
  refine g_iast (pc := 834) g357 b358 dX11_init_834 eh359 ?_
  refine g_dup (pc := 835) dX11_init_835 (rf_cat X _) ?_
  refine g_bipush (pc := 836) (v := (11 : Int32)) dX11_init_836 (by decide) ?_
  refine g_iconst (pc := 838) (v := (1 : Int32)) dX11_init_838 (by decide) ?_
  have g360 : hS h359 (hZ h325 + 1) = 21 := (hS_tI eh359 g357)
  obtain ⟨b361, hf⟩ := gb_some hf
  obtain ⟨h362, eh362, hf⟩ := lt_some hf
  refine g_iast (pc := 839) g360 b361 dX11_init_839 eh362 ?_
  refine g_dup (pc := 840) dX11_init_840 (rf_cat X _) ?_
  refine g_bipush (pc := 841) (v := (12 : Int32)) dX11_init_841 (by decide) ?_
  refine g_iconst (pc := 843) (v := (1 : Int32)) dX11_init_843 (by decide) ?_
  have g363 : hS h362 (hZ h325 + 1) = 21 := (hS_tI eh362 g360)
  obtain ⟨b364, hf⟩ := gb_some hf
  obtain ⟨h365, eh365, hf⟩ := lt_some hf
  refine g_iast (pc := 844) g363 b364 dX11_init_844 eh365 ?_
  refine g_dup (pc := 845) dX11_init_845 (rf_cat X _) ?_
  refine g_bipush (pc := 846) (v := (13 : Int32)) dX11_init_846 (by decide) ?_
  refine g_iconst (pc := 848) (v := (1 : Int32)) dX11_init_848 (by decide) ?_
  have g366 : hS h365 (hZ h325 + 1) = 21 := (hS_tI eh365 g363)
  obtain ⟨b367, hf⟩ := gb_some hf
  obtain ⟨h368, eh368, hf⟩ := lt_some hf
  refine g_iast (pc := 849) g366 b367 dX11_init_849 eh368 ?_
  refine g_dup (pc := 850) dX11_init_850 (rf_cat X _) ?_
  refine g_bipush (pc := 851) (v := (14 : Int32)) dX11_init_851 (by decide) ?_
  refine g_iconst (pc := 853) (v := (1 : Int32)) dX11_init_853 (by decide) ?_
  have g369 : hS h368 (hZ h325 + 1) = 21 := (hS_tI eh368 g366)
  obtain ⟨b370, hf⟩ := gb_some hf
  obtain ⟨h371, eh371, hf⟩ := lt_some hf
  refine g_iast (pc := 854) g369 b370 dX11_init_854 eh371 ?_
  refine g_dup (pc := 855) dX11_init_855 (rf_cat X _) ?_
  refine g_bipush (pc := 856) (v := (15 : Int32)) dX11_init_856 (by decide) ?_
  refine g_iconst (pc := 858) (v := (1 : Int32)) dX11_init_858 (by decide) ?_
  have g372 : hS h371 (hZ h325 + 1) = 21 := (hS_tI eh371 g369)
  obtain ⟨b373, hf⟩ := gb_some hf
  obtain ⟨h374, eh374, hf⟩ := lt_some hf
  refine g_iast (pc := 859) g372 b373 dX11_init_859 eh374 ?_
  refine g_dup (pc := 860) dX11_init_860 (rf_cat X _) ?_
  refine g_bipush (pc := 861) (v := (16 : Int32)) dX11_init_861 (by decide) ?_
  refine g_iconst (pc := 863) (v := (1 : Int32)) dX11_init_863 (by decide) ?_
  have g375 : hS h374 (hZ h325 + 1) = 21 := (hS_tI eh374 g372)
  obtain ⟨b376, hf⟩ := gb_some hf
  obtain ⟨h377, eh377, hf⟩ := lt_some hf
  refine g_iast (pc := 864) g375 b376 dX11_init_864 eh377 ?_
  refine g_dup (pc := 865) dX11_init_865 (rf_cat X _) ?_
  refine g_bipush (pc := 866) (v := (17 : Int32)) dX11_init_866 (by decide) ?_
  refine g_iconst (pc := 868) (v := (1 : Int32)) dX11_init_868 (by decide) ?_
  have g378 : hS h377 (hZ h325 + 1) = 21 := (hS_tI eh377 g375)
  obtain ⟨b379, hf⟩ := gb_some hf
  obtain ⟨h380, eh380, hf⟩ := lt_some hf
  refine g_iast (pc := 869) g378 b379 dX11_init_869 eh380 ?_
  refine g_dup (pc := 870) dX11_init_870 (rf_cat X _) ?_
  refine g_bipush (pc := 871) (v := (18 : Int32)) dX11_init_871 (by decide) ?_
  refine g_iconst (pc := 873) (v := (1 : Int32)) dX11_init_873 (by decide) ?_
  have g381 : hS h380 (hZ h325 + 1) = 21 := (hS_tI eh380 g378)
  obtain ⟨b382, hf⟩ := gb_some hf
  obtain ⟨h383, eh383, hf⟩ := lt_some hf
  refine g_iast (pc := 874) g381 b382 dX11_init_874 eh383 ?_
  refine g_dup (pc := 875) dX11_init_875 (rf_cat X _) ?_
  refine g_bipush (pc := 876) (v := (19 : Int32)) dX11_init_876 (by decide) ?_
  refine g_iconst (pc := 878) (v := (2 : Int32)) dX11_init_878 (by decide) ?_
  have g384 : hS h383 (hZ h325 + 1) = 21 := (hS_tI eh383 g381)
  obtain ⟨b385, hf⟩ := gb_some hf
  obtain ⟨h386, eh386, hf⟩ := lt_some hf
  refine g_iast (pc := 879) g384 b385 dX11_init_879 eh386 ?_
  refine g_dup (pc := 880) dX11_init_880 (rf_cat X _) ?_
  refine g_bipush (pc := 881) (v := (20 : Int32)) dX11_init_881 (by decide) ?_
  refine g_iconst (pc := 883) (v := (2 : Int32)) dX11_init_883 (by decide) ?_
  have g387 : hS h386 (hZ h325 + 1) = 21 := (hS_tI eh386 g384)
  obtain ⟨b388, hf⟩ := gb_some hf
  obtain ⟨h389, eh389, hf⟩ := lt_some hf
  refine g_iast (pc := 884) g387 b388 dX11_init_884 eh389 ?_
  refine g_dup (pc := 885) dX11_init_885 (rf_cat X _) ?_
  refine g_bipush (pc := 886) (v := (21 : Int32)) dX11_init_886 (by decide) ?_
  refine g_iconst (pc := 888) (v := (2 : Int32)) dX11_init_888 (by decide) ?_
  have g390 : hS h389 (hZ h325 + 1) = 21 := (hS_tI eh389 g387)
  obtain ⟨b391, hf⟩ := gb_some hf
  obtain ⟨h392, eh392, hf⟩ := lt_some hf
  refine g_iast (pc := 889) g390 b391 dX11_init_889 eh392 ?_
  refine g_dup (pc := 890) dX11_init_890 (rf_cat X _) ?_
  refine g_bipush (pc := 891) (v := (22 : Int32)) dX11_init_891 (by decide) ?_
  refine g_iconst (pc := 893) (v := (2 : Int32)) dX11_init_893 (by decide) ?_
  have g393 : hS h392 (hZ h325 + 1) = 21 := (hS_tI eh392 g390)
  obtain ⟨b394, hf⟩ := gb_some hf
  obtain ⟨h395, eh395, hf⟩ := lt_some hf
  refine g_iast (pc := 894) g393 b394 dX11_init_894 eh395 ?_
  refine g_dup (pc := 895) dX11_init_895 (rf_cat X _) ?_
  refine g_bipush (pc := 896) (v := (23 : Int32)) dX11_init_896 (by decide) ?_
  refine g_iconst (pc := 898) (v := (2 : Int32)) dX11_init_898 (by decide) ?_
  have g396 : hS h395 (hZ h325 + 1) = 21 := (hS_tI eh395 g393)
  obtain ⟨b397, hf⟩ := gb_some hf
  obtain ⟨h398, eh398, hf⟩ := lt_some hf
  refine g_iast (pc := 899) g396 b397 dX11_init_899 eh398 ?_
  refine g_dup (pc := 900) dX11_init_900 (rf_cat X _) ?_
  refine g_bipush (pc := 901) (v := (24 : Int32)) dX11_init_901 (by decide) ?_
  refine g_iconst (pc := 903) (v := (3 : Int32)) dX11_init_903 (by decide) ?_
  have g399 : hS h398 (hZ h325 + 1) = 21 := (hS_tI eh398 g396)
  obtain ⟨b400, hf⟩ := gb_some hf
  obtain ⟨h401, eh401, hf⟩ := lt_some hf
  refine g_iast (pc := 904) g399 b400 dX11_init_904 eh401 ?_
  refine g_dup (pc := 905) dX11_init_905 (rf_cat X _) ?_
  refine g_bipush (pc := 906) (v := (25 : Int32)) dX11_init_906 (by decide) ?_
  refine g_iconst (pc := 908) (v := (3 : Int32)) dX11_init_908 (by decide) ?_
  have g402 : hS h401 (hZ h325 + 1) = 21 := (hS_tI eh401 g399)
  obtain ⟨b403, hf⟩ := gb_some hf
  obtain ⟨h404, eh404, hf⟩ := lt_some hf
  refine g_iast (pc := 909) g402 b403 dX11_init_909 eh404 ?_
  refine g_dup (pc := 910) dX11_init_910 (rf_cat X _) ?_
  refine g_bipush (pc := 911) (v := (26 : Int32)) dX11_init_911 (by decide) ?_
  refine g_iconst (pc := 913) (v := (3 : Int32)) dX11_init_913 (by decide) ?_
  have g405 : hS h404 (hZ h325 + 1) = 21 := (hS_tI eh404 g402)
  obtain ⟨b406, hf⟩ := gb_some hf
  obtain ⟨h407, eh407, hf⟩ := lt_some hf
  refine g_iast (pc := 914) g405 b406 dX11_init_914 eh407 ?_
  refine g_dup (pc := 915) dX11_init_915 (rf_cat X _) ?_
  refine g_bipush (pc := 916) (v := (27 : Int32)) dX11_init_916 (by decide) ?_
  refine g_iconst (pc := 918) (v := (4 : Int32)) dX11_init_918 (by decide) ?_
  have g408 : hS h407 (hZ h325 + 1) = 21 := (hS_tI eh407 g405)
  obtain ⟨b409, hf⟩ := gb_some hf
  obtain ⟨h410, eh410, hf⟩ := lt_some hf
  refine g_iast (pc := 919) g408 b409 dX11_init_919 eh410 ?_
  refine g_dup (pc := 920) dX11_init_920 (rf_cat X _) ?_
  refine g_bipush (pc := 921) (v := (28 : Int32)) dX11_init_921 (by decide) ?_
  refine g_iconst (pc := 923) (v := (4 : Int32)) dX11_init_923 (by decide) ?_
  have g411 : hS h410 (hZ h325 + 1) = 21 := (hS_tI eh410 g408)
  obtain ⟨b412, hf⟩ := gb_some hf
  obtain ⟨h413, eh413, hf⟩ := lt_some hf
  refine g_iast (pc := 924) g411 b412 dX11_init_924 eh413 ?_
  refine g_dup (pc := 925) dX11_init_925 (rf_cat X _) ?_
  refine g_bipush (pc := 926) (v := (29 : Int32)) dX11_init_926 (by decide) ?_
  refine g_iconst (pc := 928) (v := (4 : Int32)) dX11_init_928 (by decide) ?_
  have g414 : hS h413 (hZ h325 + 1) = 21 := (hS_tI eh413 g411)
  obtain ⟨b415, hf⟩ := gb_some hf
  obtain ⟨h416, eh416, hf⟩ := lt_some hf
  refine g_iast (pc := 929) g414 b415 dX11_init_929 eh416 ?_
  refine g_dup (pc := 930) dX11_init_930 (rf_cat X _) ?_
  refine g_bipush (pc := 931) (v := (30 : Int32)) dX11_init_931 (by decide) ?_
  refine g_iconst (pc := 933) (v := (4 : Int32)) dX11_init_933 (by decide) ?_
  have g417 : hS h416 (hZ h325 + 1) = 21 := (hS_tI eh416 g414)
  obtain ⟨b418, hf⟩ := gb_some hf
  obtain ⟨h419, eh419, hf⟩ := lt_some hf
  refine g_iast (pc := 934) g417 b418 dX11_init_934 eh419 ?_
  refine g_dup (pc := 935) dX11_init_935 (rf_cat X _) ?_
  refine g_bipush (pc := 936) (v := (31 : Int32)) dX11_init_936 (by decide) ?_
  refine g_iconst (pc := 938) (v := (4 : Int32)) dX11_init_938 (by decide) ?_
  have g420 : hS h419 (hZ h325 + 1) = 21 := (hS_tI eh419 g417)
  obtain ⟨b421, hf⟩ := gb_some hf
  obtain ⟨h422, eh422, hf⟩ := lt_some hf
  refine g_iast (pc := 939) g420 b421 dX11_init_939 eh422 ?_
  refine g_dup (pc := 940) dX11_init_940 (rf_cat X _) ?_
  refine g_bipush (pc := 941) (v := (32 : Int32)) dX11_init_941 (by decide) ?_
  refine g_iconst (pc := 943) (v := (4 : Int32)) dX11_init_943 (by decide) ?_
  have g423 : hS h422 (hZ h325 + 1) = 21 := (hS_tI eh422 g420)
  obtain ⟨b424, hf⟩ := gb_some hf
  obtain ⟨h425, eh425, hf⟩ := lt_some hf
  refine g_iast (pc := 944) g423 b424 dX11_init_944 eh425 ?_
  refine g_dup (pc := 945) dX11_init_945 (rf_cat X _) ?_
  refine g_bipush (pc := 946) (v := (33 : Int32)) dX11_init_946 (by decide) ?_
  refine g_iconst (pc := 948) (v := (5 : Int32)) dX11_init_948 (by decide) ?_
  have g426 : hS h425 (hZ h325 + 1) = 21 := (hS_tI eh425 g423)
  obtain ⟨b427, hf⟩ := gb_some hf
  obtain ⟨h428, eh428, hf⟩ := lt_some hf
  refine g_iast (pc := 949) g426 b427 dX11_init_949 eh428 ?_
  refine g_dup (pc := 950) dX11_init_950 (rf_cat X _) ?_
  refine g_bipush (pc := 951) (v := (34 : Int32)) dX11_init_951 (by decide) ?_
  refine g_iconst (pc := 953) (v := (5 : Int32)) dX11_init_953 (by decide) ?_
  have g429 : hS h428 (hZ h325 + 1) = 21 := (hS_tI eh428 g426)
  obtain ⟨b430, hf⟩ := gb_some hf
  obtain ⟨h431, eh431, hf⟩ := lt_some hf
  refine g_iast (pc := 954) g429 b430 dX11_init_954 eh431 ?_
  refine g_dup (pc := 955) dX11_init_955 (rf_cat X _) ?_
  refine g_bipush (pc := 956) (v := (35 : Int32)) dX11_init_956 (by decide) ?_
  refine g_bipush (pc := 958) (v := (6 : Int32)) dX11_init_958 (by decide) ?_
  have g432 : hS h431 (hZ h325 + 1) = 21 := (hS_tI eh431 g429)
  obtain ⟨b433, hf⟩ := gb_some hf
  obtain ⟨h434, eh434, hf⟩ := lt_some hf
  refine g_iast (pc := 960) g432 b433 dX11_init_960 eh434 ?_
  refine g_dup (pc := 961) dX11_init_961 (rf_cat X _) ?_
  refine g_bipush (pc := 962) (v := (36 : Int32)) dX11_init_962 (by decide) ?_
  refine g_iconst (pc := 964) (v := (2 : Int32)) dX11_init_964 (by decide) ?_
  have g435 : hS h434 (hZ h325 + 1) = 21 := (hS_tI eh434 g432)
  obtain ⟨b436, hf⟩ := gb_some hf
  obtain ⟨h437, eh437, hf⟩ := lt_some hf
  refine g_iast (pc := 965) g435 b436 dX11_init_965 eh437 ?_
  refine g_dup (pc := 966) dX11_init_966 (rf_cat X _) ?_
  refine g_bipush (pc := 967) (v := (37 : Int32)) dX11_init_967 (by decide) ?_
  refine g_bipush (pc := 969) (v := (7 : Int32)) dX11_init_969 (by decide) ?_
  have g438 : hS h437 (hZ h325 + 1) = 21 := (hS_tI eh437 g435)
  obtain ⟨b439, hf⟩ := gb_some hf
  obtain ⟨h440, eh440, hf⟩ := lt_some hf
  refine g_iast (pc := 971) g438 b439 dX11_init_971 eh440 ?_
  refine g_dup (pc := 972) dX11_init_972 (rf_cat X _) ?_
  refine g_bipush (pc := 973) (v := (38 : Int32)) dX11_init_973 (by decide) ?_
  refine g_bipush (pc := 975) (v := (7 : Int32)) dX11_init_975 (by decide) ?_
  have g441 : hS h440 (hZ h325 + 1) = 21 := (hS_tI eh440 g438)
  obtain ⟨b442, hf⟩ := gb_some hf
  obtain ⟨h443, eh443, hf⟩ := lt_some hf
  refine g_iast (pc := 977) g441 b442 dX11_init_977 eh443 ?_
  refine g_dup (pc := 978) dX11_init_978 (rf_cat X _) ?_
  refine g_bipush (pc := 979) (v := (39 : Int32)) dX11_init_979 (by decide) ?_
  refine g_bipush (pc := 981) (v := (7 : Int32)) dX11_init_981 (by decide) ?_
  have g444 : hS h443 (hZ h325 + 1) = 21 := (hS_tI eh443 g441)
  obtain ⟨b445, hf⟩ := gb_some hf
  obtain ⟨h446, eh446, hf⟩ := lt_some hf
  refine g_iast (pc := 983) g444 b445 dX11_init_983 eh446 ?_
  refine g_dup (pc := 984) dX11_init_984 (rf_cat X _) ?_
  refine g_bipush (pc := 985) (v := (40 : Int32)) dX11_init_985 (by decide) ?_
  refine g_bipush (pc := 987) (v := (7 : Int32)) dX11_init_987 (by decide) ?_
  have g447 : hS h446 (hZ h325 + 1) = 21 := (hS_tI eh446 g444)
  obtain ⟨b448, hf⟩ := gb_some hf
  obtain ⟨h449, eh449, hf⟩ := lt_some hf
  refine g_iast (pc := 989) g447 b448 dX11_init_989 eh449 ?_
  refine g_dup (pc := 990) dX11_init_990 (rf_cat X _) ?_
  refine g_bipush (pc := 991) (v := (41 : Int32)) dX11_init_991 (by decide) ?_
  refine g_bipush (pc := 993) (v := (7 : Int32)) dX11_init_993 (by decide) ?_
  have g450 : hS h449 (hZ h325 + 1) = 21 := (hS_tI eh449 g447)
  obtain ⟨b451, hf⟩ := gb_some hf
  obtain ⟨h452, eh452, hf⟩ := lt_some hf
  refine g_iast (pc := 995) g450 b451 dX11_init_995 eh452 ?_
  refine g_dup (pc := 996) dX11_init_996 (rf_cat X _) ?_
  refine g_bipush (pc := 997) (v := (42 : Int32)) dX11_init_997 (by decide) ?_
  refine g_bipush (pc := 999) (v := (7 : Int32)) dX11_init_999 (by decide) ?_
  have g453 : hS h452 (hZ h325 + 1) = 21 := (hS_tI eh452 g450)
  obtain ⟨b454, hf⟩ := gb_some hf
  obtain ⟨h455, eh455, hf⟩ := lt_some hf
  refine g_iast (pc := 1001) g453 b454 dX11_init_1001 eh455 ?_
  refine g_dup (pc := 1002) dX11_init_1002 (rf_cat X _) ?_
  refine g_bipush (pc := 1003) (v := (43 : Int32)) dX11_init_1003 (by decide) ?_
  refine g_bipush (pc := 1005) (v := (7 : Int32)) dX11_init_1005 (by decide) ?_
  have g456 : hS h455 (hZ h325 + 1) = 21 := (hS_tI eh455 g453)
  obtain ⟨b457, hf⟩ := gb_some hf
  obtain ⟨h458, eh458, hf⟩ := lt_some hf
  refine g_iast (pc := 1007) g456 b457 dX11_init_1007 eh458 ?_
  refine g_dup (pc := 1008) dX11_init_1008 (rf_cat X _) ?_
  refine g_bipush (pc := 1009) (v := (44 : Int32)) dX11_init_1009 (by decide) ?_
  refine g_bipush (pc := 1011) (v := (7 : Int32)) dX11_init_1011 (by decide) ?_
  have g459 : hS h458 (hZ h325 + 1) = 21 := (hS_tI eh458 g456)
  obtain ⟨b460, hf⟩ := gb_some hf
  obtain ⟨h461, eh461, hf⟩ := lt_some hf
  refine g_iast (pc := 1013) g459 b460 dX11_init_1013 eh461 ?_
  refine g_dup (pc := 1014) dX11_init_1014 (rf_cat X _) ?_
  refine g_bipush (pc := 1015) (v := (45 : Int32)) dX11_init_1015 (by decide) ?_
  refine g_bipush (pc := 1017) (v := (7 : Int32)) dX11_init_1017 (by decide) ?_
  have g462 : hS h461 (hZ h325 + 1) = 21 := (hS_tI eh461 g459)
  obtain ⟨b463, hf⟩ := gb_some hf
  obtain ⟨h464, eh464, hf⟩ := lt_some hf
  refine g_iast (pc := 1019) g462 b463 dX11_init_1019 eh464 ?_
  refine g_dup (pc := 1020) dX11_init_1020 (rf_cat X _) ?_
  refine g_bipush (pc := 1021) (v := (46 : Int32)) dX11_init_1021 (by decide) ?_
  refine g_bipush (pc := 1023) (v := (8 : Int32)) dX11_init_1023 (by decide) ?_
  have g465 : hS h464 (hZ h325 + 1) = 21 := (hS_tI eh464 g462)
  obtain ⟨b466, hf⟩ := gb_some hf
  obtain ⟨h467, eh467, hf⟩ := lt_some hf
  refine g_iast (pc := 1025) g465 b466 dX11_init_1025 eh467 ?_
  refine g_dup (pc := 1026) dX11_init_1026 (rf_cat X _) ?_
  refine g_bipush (pc := 1027) (v := (47 : Int32)) dX11_init_1027 (by decide) ?_
  refine g_bipush (pc := 1029) (v := (8 : Int32)) dX11_init_1029 (by decide) ?_
  have g468 : hS h467 (hZ h325 + 1) = 21 := (hS_tI eh467 g465)
  obtain ⟨b469, hf⟩ := gb_some hf
  obtain ⟨h470, eh470, hf⟩ := lt_some hf
  refine g_iast (pc := 1031) g468 b469 dX11_init_1031 eh470 ?_
  refine g_dup (pc := 1032) dX11_init_1032 (rf_cat X _) ?_
  refine g_bipush (pc := 1033) (v := (48 : Int32)) dX11_init_1033 (by decide) ?_
  refine g_bipush (pc := 1035) (v := (8 : Int32)) dX11_init_1035 (by decide) ?_
  have g471 : hS h470 (hZ h325 + 1) = 21 := (hS_tI eh470 g468)
  obtain ⟨b472, hf⟩ := gb_some hf
  obtain ⟨h473, eh473, hf⟩ := lt_some hf
  refine g_iast (pc := 1037) g471 b472 dX11_init_1037 eh473 ?_
  refine g_dup (pc := 1038) dX11_init_1038 (rf_cat X _) ?_
  refine g_bipush (pc := 1039) (v := (49 : Int32)) dX11_init_1039 (by decide) ?_
  refine g_bipush (pc := 1041) (v := (8 : Int32)) dX11_init_1041 (by decide) ?_
  have g474 : hS h473 (hZ h325 + 1) = 21 := (hS_tI eh473 g471)
  obtain ⟨b475, hf⟩ := gb_some hf
  obtain ⟨h476, eh476, hf⟩ := lt_some hf
  refine g_iast (pc := 1043) g474 b475 dX11_init_1043 eh476 ?_
  refine g_dup (pc := 1044) dX11_init_1044 (rf_cat X _) ?_
  refine g_bipush (pc := 1045) (v := (50 : Int32)) dX11_init_1045 (by decide) ?_
  refine g_bipush (pc := 1047) (v := (9 : Int32)) dX11_init_1047 (by decide) ?_
  have g477 : hS h476 (hZ h325 + 1) = 21 := (hS_tI eh476 g474)
  obtain ⟨b478, hf⟩ := gb_some hf
  obtain ⟨h479, eh479, hf⟩ := lt_some hf
  refine g_iast (pc := 1049) g477 b478 dX11_init_1049 eh479 ?_
  refine g_dup (pc := 1050) dX11_init_1050 (rf_cat X _) ?_
  refine g_bipush (pc := 1051) (v := (51 : Int32)) dX11_init_1051 (by decide) ?_
  refine g_bipush (pc := 1053) (v := (9 : Int32)) dX11_init_1053 (by decide) ?_
  have g480 : hS h479 (hZ h325 + 1) = 21 := (hS_tI eh479 g477)
  obtain ⟨b481, hf⟩ := gb_some hf
  obtain ⟨h482, eh482, hf⟩ := lt_some hf
  refine g_iast (pc := 1055) g480 b481 dX11_init_1055 eh482 ?_
  refine g_dup (pc := 1056) dX11_init_1056 (rf_cat X _) ?_
  refine g_bipush (pc := 1057) (v := (52 : Int32)) dX11_init_1057 (by decide) ?_
  refine g_bipush (pc := 1059) (v := (10 : Int32)) dX11_init_1059 (by decide) ?_
  have g483 : hS h482 (hZ h325 + 1) = 21 := (hS_tI eh482 g480)
  obtain ⟨b484, hf⟩ := gb_some hf
  obtain ⟨h485, eh485, hf⟩ := lt_some hf
  refine g_iast (pc := 1061) g483 b484 dX11_init_1061 eh485 ?_
  refine g_dup (pc := 1062) dX11_init_1062 (rf_cat X _) ?_
  refine g_bipush (pc := 1063) (v := (53 : Int32)) dX11_init_1063 (by decide) ?_
  refine g_bipush (pc := 1065) (v := (11 : Int32)) dX11_init_1065 (by decide) ?_
  have g486 : hS h485 (hZ h325 + 1) = 21 := (hS_tI eh485 g483)
  obtain ⟨b487, hf⟩ := gb_some hf
  obtain ⟨h488, eh488, hf⟩ := lt_some hf
  refine g_iast (pc := 1067) g486 b487 dX11_init_1067 eh488 ?_
  refine g_dup (pc := 1068) dX11_init_1068 (rf_cat X _) ?_
  refine g_bipush (pc := 1069) (v := (54 : Int32)) dX11_init_1069 (by decide) ?_
  refine g_bipush (pc := 1071) (v := (8 : Int32)) dX11_init_1071 (by decide) ?_
  have g489 : hS h488 (hZ h325 + 1) = 21 := (hS_tI eh488 g486)
  obtain ⟨b490, hf⟩ := gb_some hf
  obtain ⟨h491, eh491, hf⟩ := lt_some hf
  refine g_iast (pc := 1073) g489 b490 dX11_init_1073 eh491 ?_
  refine g_dup (pc := 1074) dX11_init_1074 (rf_cat X _) ?_
  refine g_bipush (pc := 1075) (v := (55 : Int32)) dX11_init_1075 (by decide) ?_
  refine g_bipush (pc := 1077) (v := (12 : Int32)) dX11_init_1077 (by decide) ?_
  have g492 : hS h491 (hZ h325 + 1) = 21 := (hS_tI eh491 g489)
  obtain ⟨b493, hf⟩ := gb_some hf
  obtain ⟨h494, eh494, hf⟩ := lt_some hf
  refine g_iast (pc := 1079) g492 b493 dX11_init_1079 eh494 ?_
  refine g_dup (pc := 1080) dX11_init_1080 (rf_cat X _) ?_
  refine g_bipush (pc := 1081) (v := (56 : Int32)) dX11_init_1081 (by decide) ?_
  refine g_bipush (pc := 1083) (v := (12 : Int32)) dX11_init_1083 (by decide) ?_
  have g495 : hS h494 (hZ h325 + 1) = 21 := (hS_tI eh494 g492)
  obtain ⟨b496, hf⟩ := gb_some hf
  obtain ⟨h497, eh497, hf⟩ := lt_some hf
  refine g_iast (pc := 1085) g495 b496 dX11_init_1085 eh497 ?_
  refine g_dup (pc := 1086) dX11_init_1086 (rf_cat X _) ?_
  refine g_bipush (pc := 1087) (v := (57 : Int32)) dX11_init_1087 (by decide) ?_
  refine g_bipush (pc := 1089) (v := (13 : Int32)) dX11_init_1089 (by decide) ?_
  have g498 : hS h497 (hZ h325 + 1) = 21 := (hS_tI eh497 g495)
  obtain ⟨b499, hf⟩ := gb_some hf
  obtain ⟨h500, eh500, hf⟩ := lt_some hf
  refine g_iast (pc := 1091) g498 b499 dX11_init_1091 eh500 ?_
  refine g_dup (pc := 1092) dX11_init_1092 (rf_cat X _) ?_
  refine g_bipush (pc := 1093) (v := (58 : Int32)) dX11_init_1093 (by decide) ?_
  refine g_bipush (pc := 1095) (v := (14 : Int32)) dX11_init_1095 (by decide) ?_
  have g501 : hS h500 (hZ h325 + 1) = 21 := (hS_tI eh500 g498)
  obtain ⟨b502, hf⟩ := gb_some hf
  obtain ⟨h503, eh503, hf⟩ := lt_some hf
  refine g_iast (pc := 1097) g501 b502 dX11_init_1097 eh503 ?_
  refine g_dup (pc := 1098) dX11_init_1098 (rf_cat X _) ?_
  refine g_bipush (pc := 1099) (v := (59 : Int32)) dX11_init_1099 (by decide) ?_
  refine g_bipush (pc := 1101) (v := (15 : Int32)) dX11_init_1101 (by decide) ?_
  have g504 : hS h503 (hZ h325 + 1) = 21 := (hS_tI eh503 g501)
  obtain ⟨b505, hf⟩ := gb_some hf
  obtain ⟨h506, eh506, hf⟩ := lt_some hf
  refine g_iast (pc := 1103) g504 b505 dX11_init_1103 eh506 ?_
  refine g_dup (pc := 1104) dX11_init_1104 (rf_cat X _) ?_
  refine g_bipush (pc := 1105) (v := (60 : Int32)) dX11_init_1105 (by decide) ?_
  refine g_bipush (pc := 1107) (v := (16 : Int32)) dX11_init_1107 (by decide) ?_
  have g507 : hS h506 (hZ h325 + 1) = 21 := (hS_tI eh506 g504)
  obtain ⟨b508, hf⟩ := gb_some hf
  obtain ⟨h509, eh509, hf⟩ := lt_some hf
  refine g_iast (pc := 1109) g507 b508 dX11_init_1109 eh509 ?_
  obtain ⟨g510, hf⟩ := gs_some hf
  obtain ⟨h511, eh511, hf⟩ := lt_some hf
  refine g_putRF (pc := 1110) fl_X11_279 rfl (cl_own rfl) (Or.inr ⟨_, rfl⟩) dX11_init_1110 g510 eh511 ?_
  refine g_aload_n (pc := 1113) 0 dX11_init_1113 rfl rfl ?_
  refine g_bipush (pc := 1114) (v := (61 : Int32)) dX11_init_1114 (by decide) ?_
  obtain ⟨h512, eh512, hf⟩ := lt_some hf
  refine g_newI (pc := 1116) m_252 dX11_init_1116 (by decide) eh512 ?_
  refine g_dup (pc := 1118) dX11_init_1118 (rf_cat X _) ?_
  refine g_iconst (pc := 1119) (v := (0 : Int32)) dX11_init_1119 (by decide) ?_
  refine g_bipush (pc := 1120) (v := (51 : Int32)) dX11_init_1120 (by decide) ?_
  have g513 : hS h512 (hZ h511 + 1) = 21 := (hS_nw eh512)
  obtain ⟨b514, hf⟩ := gb_some hf
  obtain ⟨h515, eh515, hf⟩ := lt_some hf
  refine g_iast (pc := 1122) g513 b514 dX11_init_1122 eh515 ?_
  refine g_dup (pc := 1123) dX11_init_1123 (rf_cat X _) ?_
  refine g_iconst (pc := 1124) (v := (1 : Int32)) dX11_init_1124 (by decide) ?_
  refine g_ldcw (pc := 1125) (v := (1073741875 : Int32)) m_1375 dX11_init_1125 ?_
  have g516 : hS h515 (hZ h511 + 1) = 21 := (hS_tI eh515 g513)
  obtain ⟨b517, hf⟩ := gb_some hf
  obtain ⟨h518, eh518, hf⟩ := lt_some hf
  refine g_iast (pc := 1128) g516 b517 dX11_init_1128 eh518 ?_
  refine g_dup (pc := 1129) dX11_init_1129 (rf_cat X _) ?_
  refine g_iconst (pc := 1130) (v := (2 : Int32)) dX11_init_1130 (by decide) ?_
  refine g_sipush (pc := 1131) (v := (4147 : Int32)) dX11_init_1131 (by decide) ?_
  have g519 : hS h518 (hZ h511 + 1) = 21 := (hS_tI eh518 g516)
  obtain ⟨b520, hf⟩ := gb_some hf
  obtain ⟨h521, eh521, hf⟩ := lt_some hf
  refine g_iast (pc := 1134) g519 b520 dX11_init_1134 eh521 ?_
  refine g_dup (pc := 1135) dX11_init_1135 (rf_cat X _) ?_
  refine g_iconst (pc := 1136) (v := (3 : Int32)) dX11_init_1136 (by decide) ?_
  refine g_sipush (pc := 1137) (v := (8243 : Int32)) dX11_init_1137 (by decide) ?_
  have g522 : hS h521 (hZ h511 + 1) = 21 := (hS_tI eh521 g519)
  obtain ⟨b523, hf⟩ := gb_some hf
  obtain ⟨h524, eh524, hf⟩ := lt_some hf
  refine g_iast (pc := 1140) g522 b523 dX11_init_1140 eh524 ?_
  refine g_dup (pc := 1141) dX11_init_1141 (rf_cat X _) ?_
  refine g_iconst (pc := 1142) (v := (4 : Int32)) dX11_init_1142 (by decide) ?_
  refine g_sipush (pc := 1143) (v := (12339 : Int32)) dX11_init_1143 (by decide) ?_
  have g525 : hS h524 (hZ h511 + 1) = 21 := (hS_tI eh524 g522)
  obtain ⟨b526, hf⟩ := gb_some hf
  obtain ⟨h527, eh527, hf⟩ := lt_some hf
  refine g_iast (pc := 1146) g525 b526 dX11_init_1146 eh527 ?_
  refine g_dup (pc := 1147) dX11_init_1147 (rf_cat X _) ?_
  refine g_iconst (pc := 1148) (v := (5 : Int32)) dX11_init_1148 (by decide) ?_
  refine g_sipush (pc := 1149) (v := (16435 : Int32)) dX11_init_1149 (by decide) ?_
  have g528 : hS h527 (hZ h511 + 1) = 21 := (hS_tI eh527 g525)
  obtain ⟨b529, hf⟩ := gb_some hf
  obtain ⟨h530, eh530, hf⟩ := lt_some hf
  refine g_iast (pc := 1152) g528 b529 dX11_init_1152 eh530 ?_
  refine g_dup (pc := 1153) dX11_init_1153 (rf_cat X _) ?_
  refine g_bipush (pc := 1154) (v := (6 : Int32)) dX11_init_1154 (by decide) ?_
  refine g_sipush (pc := 1156) (v := (20531 : Int32)) dX11_init_1156 (by decide) ?_
  have g531 : hS h530 (hZ h511 + 1) = 21 := (hS_tI eh530 g528)
  obtain ⟨b532, hf⟩ := gb_some hf
  obtain ⟨h533, eh533, hf⟩ := lt_some hf
  refine g_iast (pc := 1159) g531 b532 dX11_init_1159 eh533 ?_
  refine g_dup (pc := 1160) dX11_init_1160 (rf_cat X _) ?_
  refine g_bipush (pc := 1161) (v := (7 : Int32)) dX11_init_1161 (by decide) ?_
  refine g_ldcw (pc := 1163) (v := (1073762355 : Int32)) m_1376 dX11_init_1163 ?_
  have g534 : hS h533 (hZ h511 + 1) = 21 := (hS_tI eh533 g531)
  obtain ⟨b535, hf⟩ := gb_some hf
  obtain ⟨h536, eh536, hf⟩ := lt_some hf
  refine g_iast (pc := 1166) g534 b535 dX11_init_1166 eh536 ?_
  refine g_dup (pc := 1167) dX11_init_1167 (rf_cat X _) ?_
  refine g_bipush (pc := 1168) (v := (8 : Int32)) dX11_init_1168 (by decide) ?_
  refine g_sipush (pc := 1170) (v := (24627 : Int32)) dX11_init_1170 (by decide) ?_
  have g537 : hS h536 (hZ h511 + 1) = 21 := (hS_tI eh536 g534)
  obtain ⟨b538, hf⟩ := gb_some hf
  obtain ⟨h539, eh539, hf⟩ := lt_some hf
  refine g_iast (pc := 1173) g537 b538 dX11_init_1173 eh539 ?_
  refine g_dup (pc := 1174) dX11_init_1174 (rf_cat X _) ?_
  refine g_bipush (pc := 1175) (v := (9 : Int32)) dX11_init_1175 (by decide) ?_
  refine g_sipush (pc := 1177) (v := (28723 : Int32)) dX11_init_1177 (by decide) ?_
  have g540 : hS h539 (hZ h511 + 1) = 21 := (hS_tI eh539 g537)
  obtain ⟨b541, hf⟩ := gb_some hf
  obtain ⟨h542, eh542, hf⟩ := lt_some hf
  refine g_iast (pc := 1180) g540 b541 dX11_init_1180 eh542 ?_
  refine g_dup (pc := 1181) dX11_init_1181 (rf_cat X _) ?_
  refine g_bipush (pc := 1182) (v := (10 : Int32)) dX11_init_1182 (by decide) ?_
  refine g_bipush (pc := 1184) (v := (19 : Int32)) dX11_init_1184 (by decide) ?_
  have g543 : hS h542 (hZ h511 + 1) = 21 := (hS_tI eh542 g540)
  obtain ⟨b544, hf⟩ := gb_some hf
  obtain ⟨h545, eh545, hf⟩ := lt_some hf
  refine g_iast (pc := 1186) g543 b544 dX11_init_1186 eh545 ?_
  refine g_dup (pc := 1187) dX11_init_1187 (rf_cat X _) ?_
  refine g_bipush (pc := 1188) (v := (11 : Int32)) dX11_init_1188 (by decide) ?_
  refine g_sipush (pc := 1190) (v := (8211 : Int32)) dX11_init_1190 (by decide) ?_
  have g546 : hS h545 (hZ h511 + 1) = 21 := (hS_tI eh545 g543)
  obtain ⟨b547, hf⟩ := gb_some hf
  obtain ⟨h548, eh548, hf⟩ := lt_some hf
  refine g_iast (pc := 1193) g546 b547 dX11_init_1193 eh548 ?_
  refine g_dup (pc := 1194) dX11_init_1194 (rf_cat X _) ?_
  refine g_bipush (pc := 1195) (v := (12 : Int32)) dX11_init_1195 (by decide) ?_
  refine g_sipush (pc := 1197) (v := (12307 : Int32)) dX11_init_1197 (by decide) ?_
  have g549 : hS h548 (hZ h511 + 1) = 21 := (hS_tI eh548 g546)
  obtain ⟨b550, hf⟩ := gb_some hf
  obtain ⟨h551, eh551, hf⟩ := lt_some hf
  refine g_iast (pc := 1200) g549 b550 dX11_init_1200 eh551 ?_
  refine g_dup (pc := 1201) dX11_init_1201 (rf_cat X _) ?_
  refine g_bipush (pc := 1202) (v := (13 : Int32)) dX11_init_1202 (by decide) ?_
  refine g_sipush (pc := 1204) (v := (16403 : Int32)) dX11_init_1204 (by decide) ?_
  have g552 : hS h551 (hZ h511 + 1) = 21 := (hS_tI eh551 g549)
  obtain ⟨b553, hf⟩ := gb_some hf
  obtain ⟨h554, eh554, hf⟩ := lt_some hf
  refine g_iast (pc := 1207) g552 b553 dX11_init_1207 eh554 ?_
  refine g_dup (pc := 1208) dX11_init_1208 (rf_cat X _) ?_
  refine g_bipush (pc := 1209) (v := (14 : Int32)) dX11_init_1209 (by decide) ?_
  refine g_sipush (pc := 1211) (v := (24595 : Int32)) dX11_init_1211 (by decide) ?_
  have g555 : hS h554 (hZ h511 + 1) = 21 := (hS_tI eh554 g552)
  obtain ⟨b556, hf⟩ := gb_some hf
  obtain ⟨h557, eh557, hf⟩ := lt_some hf
  refine g_iast (pc := 1214) g555 b556 dX11_init_1214 eh557 ?_
  refine g_dup (pc := 1215) dX11_init_1215 (rf_cat X _) ?_
  refine g_bipush (pc := 1216) (v := (15 : Int32)) dX11_init_1216 (by decide) ?_
  refine g_sipush (pc := 1218) (v := (28691 : Int32)) dX11_init_1218 (by decide) ?_
  have g558 : hS h557 (hZ h511 + 1) = 21 := (hS_tI eh557 g555)
  obtain ⟨b559, hf⟩ := gb_some hf
  obtain ⟨h560, eh560, hf⟩ := lt_some hf
  refine g_iast (pc := 1221) g558 b559 dX11_init_1221 eh560 ?_
  refine g_dup (pc := 1222) dX11_init_1222 (rf_cat X _) ?_
  refine g_bipush (pc := 1223) (v := (16 : Int32)) dX11_init_1223 (by decide) ?_
  refine g_sipush (pc := 1225) (v := (4115 : Int32)) dX11_init_1225 (by decide) ?_
  have g561 : hS h560 (hZ h511 + 1) = 21 := (hS_tI eh560 g558)
  obtain ⟨b562, hf⟩ := gb_some hf
  obtain ⟨h563, eh563, hf⟩ := lt_some hf
  refine g_iast (pc := 1228) g561 b562 dX11_init_1228 eh563 ?_
  refine g_dup (pc := 1229) dX11_init_1229 (rf_cat X _) ?_
  refine g_bipush (pc := 1230) (v := (17 : Int32)) dX11_init_1230 (by decide) ?_
  refine g_sipush (pc := 1232) (v := (20499 : Int32)) dX11_init_1232 (by decide) ?_
  have g564 : hS h563 (hZ h511 + 1) = 21 := (hS_tI eh563 g561)
  obtain ⟨b565, hf⟩ := gb_some hf
  obtain ⟨h566, eh566, hf⟩ := lt_some hf
  refine g_iast (pc := 1235) g564 b565 dX11_init_1235 eh566 ?_
  refine g_dup (pc := 1236) dX11_init_1236 (rf_cat X _) ?_
  refine g_bipush (pc := 1237) (v := (18 : Int32)) dX11_init_1237 (by decide) ?_
  refine g_ldcw (pc := 1239) (v := (1073762323 : Int32)) m_1377 dX11_init_1239 ?_
  have g567 : hS h566 (hZ h511 + 1) = 21 := (hS_tI eh566 g564)
  obtain ⟨b568, hf⟩ := gb_some hf
  obtain ⟨h569, eh569, hf⟩ := lt_some hf
  refine g_iast (pc := 1242) g567 b568 dX11_init_1242 eh569 ?_
  refine g_dup (pc := 1243) dX11_init_1243 (rf_cat X _) ?_
  refine g_bipush (pc := 1244) (v := (19 : Int32)) dX11_init_1244 (by decide) ?_
  refine g_iconst (pc := 1246) (v := (3 : Int32)) dX11_init_1246 (by decide) ?_
  have g570 : hS h569 (hZ h511 + 1) = 21 := (hS_tI eh569 g567)
  obtain ⟨b571, hf⟩ := gb_some hf
  obtain ⟨h572, eh572, hf⟩ := lt_some hf
  refine g_iast (pc := 1247) g570 b571 dX11_init_1247 eh572 ?_
  refine g_dup (pc := 1248) dX11_init_1248 (rf_cat X _) ?_
  refine g_bipush (pc := 1249) (v := (20 : Int32)) dX11_init_1249 (by decide) ?_
  refine g_sipush (pc := 1251) (v := (4099 : Int32)) dX11_init_1251 (by decide) ?_
  have g573 : hS h572 (hZ h511 + 1) = 21 := (hS_tI eh572 g570)
  obtain ⟨b574, hf⟩ := gb_some hf
  obtain ⟨h575, eh575, hf⟩ := lt_some hf
  refine g_iast (pc := 1254) g573 b574 dX11_init_1254 eh575 ?_
  refine g_dup (pc := 1255) dX11_init_1255 (rf_cat X _) ?_
  refine g_bipush (pc := 1256) (v := (21 : Int32)) dX11_init_1256 (by decide) ?_
  refine g_sipush (pc := 1258) (v := (8195 : Int32)) dX11_init_1258 (by decide) ?_
  have g576 : hS h575 (hZ h511 + 1) = 21 := (hS_tI eh575 g573)
  obtain ⟨b577, hf⟩ := gb_some hf
  obtain ⟨h578, eh578, hf⟩ := lt_some hf
  refine g_iast (pc := 1261) g576 b577 dX11_init_1261 eh578 ?_
  refine g_dup (pc := 1262) dX11_init_1262 (rf_cat X _) ?_
  refine g_bipush (pc := 1263) (v := (22 : Int32)) dX11_init_1263 (by decide) ?_
  refine g_sipush (pc := 1265) (v := (16387 : Int32)) dX11_init_1265 (by decide) ?_
  have g579 : hS h578 (hZ h511 + 1) = 21 := (hS_tI eh578 g576)
  obtain ⟨b580, hf⟩ := gb_some hf
  obtain ⟨h581, eh581, hf⟩ := lt_some hf
  refine g_iast (pc := 1268) g579 b580 dX11_init_1268 eh581 ?_
  refine g_dup (pc := 1269) dX11_init_1269 (rf_cat X _) ?_
  refine g_bipush (pc := 1270) (v := (23 : Int32)) dX11_init_1270 (by decide) ?_
  refine g_sipush (pc := 1272) (v := (20483 : Int32)) dX11_init_1272 (by decide) ?_
  have g582 : hS h581 (hZ h511 + 1) = 21 := (hS_tI eh581 g579)
  obtain ⟨b583, hf⟩ := gb_some hf
  obtain ⟨h584, eh584, hf⟩ := lt_some hf
  refine g_iast (pc := 1275) g582 b583 dX11_init_1275 eh584 ?_
  refine g_dup (pc := 1276) dX11_init_1276 (rf_cat X _) ?_
  refine g_bipush (pc := 1277) (v := (24 : Int32)) dX11_init_1277 (by decide) ?_
  refine g_bipush (pc := 1279) (v := (35 : Int32)) dX11_init_1279 (by decide) ?_
  have g585 : hS h584 (hZ h511 + 1) = 21 := (hS_tI eh584 g582)
  obtain ⟨b586, hf⟩ := gb_some hf
  obtain ⟨h587, eh587, hf⟩ := lt_some hf
  refine g_iast (pc := 1281) g585 b586 dX11_init_1281 eh587 ?_
  refine g_dup (pc := 1282) dX11_init_1282 (rf_cat X _) ?_
  refine g_bipush (pc := 1283) (v := (25 : Int32)) dX11_init_1283 (by decide) ?_
  refine g_sipush (pc := 1285) (v := (4131 : Int32)) dX11_init_1285 (by decide) ?_
  have g588 : hS h587 (hZ h511 + 1) = 21 := (hS_tI eh587 g585)
  obtain ⟨b589, hf⟩ := gb_some hf
  obtain ⟨h590, eh590, hf⟩ := lt_some hf
  refine g_iast (pc := 1288) g588 b589 dX11_init_1288 eh590 ?_
  refine g_dup (pc := 1289) dX11_init_1289 (rf_cat X _) ?_
  refine g_bipush (pc := 1290) (v := (26 : Int32)) dX11_init_1290 (by decide) ?_
  refine g_sipush (pc := 1292) (v := (8227 : Int32)) dX11_init_1292 (by decide) ?_
  have g591 : hS h590 (hZ h511 + 1) = 21 := (hS_tI eh590 g588)
  obtain ⟨b592, hf⟩ := gb_some hf
  obtain ⟨h593, eh593, hf⟩ := lt_some hf
  refine g_iast (pc := 1295) g591 b592 dX11_init_1295 eh593 ?_
  refine g_dup (pc := 1296) dX11_init_1296 (rf_cat X _) ?_
  refine g_bipush (pc := 1297) (v := (27 : Int32)) dX11_init_1297 (by decide) ?_
  refine g_bipush (pc := 1299) (v := (99 : Int32)) dX11_init_1299 (by decide) ?_
  have g594 : hS h593 (hZ h511 + 1) = 21 := (hS_tI eh593 g591)
  obtain ⟨b595, hf⟩ := gb_some hf
  obtain ⟨h596, eh596, hf⟩ := lt_some hf
  refine g_iast (pc := 1301) g594 b595 dX11_init_1301 eh596 ?_
  refine g_dup (pc := 1302) dX11_init_1302 (rf_cat X _) ?_
  refine g_bipush (pc := 1303) (v := (28 : Int32)) dX11_init_1303 (by decide) ?_
  refine g_sipush (pc := 1305) (v := (4195 : Int32)) dX11_init_1305 (by decide) ?_
  have g597 : hS h596 (hZ h511 + 1) = 21 := (hS_tI eh596 g594)
  obtain ⟨b598, hf⟩ := gb_some hf
  obtain ⟨h599, eh599, hf⟩ := lt_some hf
  refine g_iast (pc := 1308) g597 b598 dX11_init_1308 eh599 ?_
  refine g_dup (pc := 1309) dX11_init_1309 (rf_cat X _) ?_
  refine g_bipush (pc := 1310) (v := (29 : Int32)) dX11_init_1310 (by decide) ?_
  refine g_sipush (pc := 1312) (v := (16483 : Int32)) dX11_init_1312 (by decide) ?_
  have g600 : hS h599 (hZ h511 + 1) = 21 := (hS_tI eh599 g597)
  obtain ⟨b601, hf⟩ := gb_some hf
  obtain ⟨h602, eh602, hf⟩ := lt_some hf
  refine g_iast (pc := 1315) g600 b601 dX11_init_1315 eh602 ?_
  refine g_dup (pc := 1316) dX11_init_1316 (rf_cat X _) ?_
  refine g_bipush (pc := 1317) (v := (30 : Int32)) dX11_init_1317 (by decide) ?_
  refine g_sipush (pc := 1319) (v := (20579 : Int32)) dX11_init_1319 (by decide) ?_
  have g603 : hS h602 (hZ h511 + 1) = 21 := (hS_tI eh602 g600)
  obtain ⟨b604, hf⟩ := gb_some hf
  obtain ⟨h605, eh605, hf⟩ := lt_some hf
  refine g_iast (pc := 1322) g603 b604 dX11_init_1322 eh605 ?_
  refine g_dup (pc := 1323) dX11_init_1323 (rf_cat X _) ?_
  refine g_bipush (pc := 1324) (v := (31 : Int32)) dX11_init_1324 (by decide) ?_
  refine g_sipush (pc := 1326) (v := (24675 : Int32)) dX11_init_1326 (by decide) ?_
  have g606 : hS h605 (hZ h511 + 1) = 21 := (hS_tI eh605 g603)
  obtain ⟨b607, hf⟩ := gb_some hf
  obtain ⟨h608, eh608, hf⟩ := lt_some hf
  refine g_iast (pc := 1329) g606 b607 dX11_init_1329 eh608 ?_
  refine g_dup (pc := 1330) dX11_init_1330 (rf_cat X _) ?_
  refine g_bipush (pc := 1331) (v := (32 : Int32)) dX11_init_1331 (by decide) ?_
  refine g_sipush (pc := 1333) (v := (28771 : Int32)) dX11_init_1333 (by decide) ?_
  have g609 : hS h608 (hZ h511 + 1) = 21 := (hS_tI eh608 g606)
  obtain ⟨b610, hf⟩ := gb_some hf
  obtain ⟨h611, eh611, hf⟩ := lt_some hf
  refine g_iast (pc := 1336) g609 b610 dX11_init_1336 eh611 ?_
  refine g_dup (pc := 1337) dX11_init_1337 (rf_cat X _) ?_
  refine g_bipush (pc := 1338) (v := (33 : Int32)) dX11_init_1338 (by decide) ?_
  refine g_bipush (pc := 1340) (v := (55 : Int32)) dX11_init_1340 (by decide) ?_
  have g612 : hS h611 (hZ h511 + 1) = 21 := (hS_tI eh611 g609)
  obtain ⟨b613, hf⟩ := gb_some hf
  obtain ⟨h614, eh614, hf⟩ := lt_some hf
  refine g_iast (pc := 1342) g612 b613 dX11_init_1342 eh614 ?_
  refine g_dup (pc := 1343) dX11_init_1343 (rf_cat X _) ?_
  refine g_bipush (pc := 1344) (v := (34 : Int32)) dX11_init_1344 (by decide) ?_
  refine g_bipush (pc := 1346) (v := (23 : Int32)) dX11_init_1346 (by decide) ?_
  have g615 : hS h614 (hZ h511 + 1) = 21 := (hS_tI eh614 g612)
  obtain ⟨b616, hf⟩ := gb_some hf
  obtain ⟨h617, eh617, hf⟩ := lt_some hf
  refine g_iast (pc := 1348) g615 b616 dX11_init_1348 eh617 ?_
  refine g_dup (pc := 1349) dX11_init_1349 (rf_cat X _) ?_
  refine g_bipush (pc := 1350) (v := (35 : Int32)) dX11_init_1350 (by decide) ?_
  refine g_bipush (pc := 1352) (v := (111 : Int32)) dX11_init_1352 (by decide) ?_
  have g618 : hS h617 (hZ h511 + 1) = 21 := (hS_tI eh617 g615)
  obtain ⟨b619, hf⟩ := gb_some hf
  obtain ⟨h620, eh620, hf⟩ := lt_some hf
  refine g_iast (pc := 1354) g618 b619 dX11_init_1354 eh620 ?_
  refine g_dup (pc := 1355) dX11_init_1355 (rf_cat X _) ?_
  refine g_bipush (pc := 1356) (v := (36 : Int32)) dX11_init_1356 (by decide) ?_
  refine g_bipush (pc := 1358) (v := (103 : Int32)) dX11_init_1358 (by decide) ?_
  have g621 : hS h620 (hZ h511 + 1) = 21 := (hS_tI eh620 g618)
  obtain ⟨b622, hf⟩ := gb_some hf
  obtain ⟨h623, eh623, hf⟩ := lt_some hf
  refine g_iast (pc := 1360) g621 b622 dX11_init_1360 eh623 ?_
  refine g_dup (pc := 1361) dX11_init_1361 (rf_cat X _) ?_
  refine g_bipush (pc := 1362) (v := (37 : Int32)) dX11_init_1362 (by decide) ?_
  refine g_ldcw (pc := 1364) (v := (134225967 : Int32)) m_1378 dX11_init_1364 ?_
  have g624 : hS h623 (hZ h511 + 1) = 21 := (hS_tI eh623 g621)
  obtain ⟨b625, hf⟩ := gb_some hf
  obtain ⟨h626, eh626, hf⟩ := lt_some hf
  refine g_iast (pc := 1367) g624 b625 dX11_init_1367 eh626 ?_
  refine g_dup (pc := 1368) dX11_init_1368 (rf_cat X _) ?_
  refine g_bipush (pc := 1369) (v := (38 : Int32)) dX11_init_1369 (by decide) ?_
  refine g_sipush (pc := 1371) (v := (8239 : Int32)) dX11_init_1371 (by decide) ?_
  have g627 : hS h626 (hZ h511 + 1) = 21 := (hS_tI eh626 g624)
  obtain ⟨b628, hf⟩ := gb_some hf
  obtain ⟨h629, eh629, hf⟩ := lt_some hf
  refine g_iast (pc := 1374) g627 b628 dX11_init_1374 eh629 ?_
  refine g_dup (pc := 1375) dX11_init_1375 (rf_cat X _) ?_
  refine g_bipush (pc := 1376) (v := (39 : Int32)) dX11_init_1376 (by decide) ?_
  refine g_ldcw (pc := 1378) (v := (536879151 : Int32)) m_1379 dX11_init_1378 ?_
  have g630 : hS h629 (hZ h511 + 1) = 21 := (hS_tI eh629 g627)
  obtain ⟨b631, hf⟩ := gb_some hf
  obtain ⟨h632, eh632, hf⟩ := lt_some hf
  refine g_iast (pc := 1381) g630 b631 dX11_init_1381 eh632 ?_
  refine g_dup (pc := 1382) dX11_init_1382 (rf_cat X _) ?_
  refine g_bipush (pc := 1383) (v := (40 : Int32)) dX11_init_1383 (by decide) ?_
  refine g_ldcw (pc := 1385) (v := (1610620975 : Int32)) m_1380 dX11_init_1385 ?_
  have g633 : hS h632 (hZ h511 + 1) = 21 := (hS_tI eh632 g630)
  obtain ⟨b634, hf⟩ := gb_some hf
  obtain ⟨h635, eh635, hf⟩ := lt_some hf
  refine g_iast (pc := 1388) g633 b634 dX11_init_1388 eh635 ?_
  refine g_dup (pc := 1389) dX11_init_1389 (rf_cat X _) ?_
  refine g_bipush (pc := 1390) (v := (41 : Int32)) dX11_init_1390 (by decide) ?_
  refine g_ldcw (pc := 1392) (v := (1073750063 : Int32)) m_1381 dX11_init_1392 ?_
  have g636 : hS h635 (hZ h511 + 1) = 21 := (hS_tI eh635 g633)
  obtain ⟨b637, hf⟩ := gb_some hf
  obtain ⟨h638, eh638, hf⟩ := lt_some hf
  refine g_iast (pc := 1395) g636 b637 dX11_init_1395 eh638 ?_
  refine g_dup (pc := 1396) dX11_init_1396 (rf_cat X _) ?_
  refine g_bipush (pc := 1397) (v := (42 : Int32)) dX11_init_1397 (by decide) ?_
  refine g_ldcw (pc := 1399) (v := (-2147475409 : Int32)) m_1382 dX11_init_1399 ?_
  have g639 : hS h638 (hZ h511 + 1) = 21 := (hS_tI eh638 g636)
  obtain ⟨b640, hf⟩ := gb_some hf
  obtain ⟨h641, eh641, hf⟩ := lt_some hf
  refine g_iast (pc := 1402) g639 b640 dX11_init_1402 eh641 ?_
  refine g_dup (pc := 1403) dX11_init_1403 (rf_cat X _) ?_
  refine g_bipush (pc := 1404) (v := (43 : Int32)) dX11_init_1404 (by decide) ?_
  refine g_ldcw (pc := 1406) (v := (-1610604497 : Int32)) m_1383 dX11_init_1406 ?_
  have g642 : hS h641 (hZ h511 + 1) = 21 := (hS_tI eh641 g639)
  obtain ⟨b643, hf⟩ := gb_some hf
  obtain ⟨h644, eh644, hf⟩ := lt_some hf
  refine g_iast (pc := 1409) g642 b643 dX11_init_1409 eh644 ?_
  refine g_dup (pc := 1410) dX11_init_1410 (rf_cat X _) ?_
  refine g_bipush (pc := 1411) (v := (44 : Int32)) dX11_init_1411 (by decide) ?_
  refine g_ldcw (pc := 1413) (v := (-1073733585 : Int32)) m_1384 dX11_init_1413 ?_
  have g645 : hS h644 (hZ h511 + 1) = 21 := (hS_tI eh644 g642)
  obtain ⟨b646, hf⟩ := gb_some hf
  obtain ⟨h647, eh647, hf⟩ := lt_some hf
  refine g_iast (pc := 1416) g645 b646 dX11_init_1416 eh647 ?_
  refine g_dup (pc := 1417) dX11_init_1417 (rf_cat X _) ?_
  refine g_bipush (pc := 1418) (v := (45 : Int32)) dX11_init_1418 (by decide) ?_
  refine g_ldcw (pc := 1420) (v := (-536862673 : Int32)) m_1385 dX11_init_1420 ?_
  have g648 : hS h647 (hZ h511 + 1) = 21 := (hS_tI eh647 g645)
  obtain ⟨b649, hf⟩ := gb_some hf
  obtain ⟨h650, eh650, hf⟩ := lt_some hf
  refine g_iast (pc := 1423) g648 b649 dX11_init_1423 eh650 ?_
  refine g_dup (pc := 1424) dX11_init_1424 (rf_cat X _) ?_
  refine g_bipush (pc := 1425) (v := (46 : Int32)) dX11_init_1425 (by decide) ?_
  refine g_ldcw (pc := 1427) (v := (267386895 : Int32)) m_1386 dX11_init_1427 ?_
  have g651 : hS h650 (hZ h511 + 1) = 21 := (hS_tI eh650 g648)
  obtain ⟨b652, hf⟩ := gb_some hf
  obtain ⟨h653, eh653, hf⟩ := lt_some hf
  refine g_iast (pc := 1430) g651 b652 dX11_init_1430 eh653 ?_
  refine g_dup (pc := 1431) dX11_init_1431 (rf_cat X _) ?_
  refine g_bipush (pc := 1432) (v := (47 : Int32)) dX11_init_1432 (by decide) ?_
  refine g_bipush (pc := 1434) (v := (115 : Int32)) dX11_init_1434 (by decide) ?_
  have g654 : hS h653 (hZ h511 + 1) = 21 := (hS_tI eh653 g651)
  obtain ⟨b655, hf⟩ := gb_some hf
  obtain ⟨h656, eh656, hf⟩ := lt_some hf
  refine g_iast (pc := 1436) g654 b655 dX11_init_1436 eh656 ?_
  refine g_dup (pc := 1437) dX11_init_1437 (rf_cat X _) ?_
  refine g_bipush (pc := 1438) (v := (48 : Int32)) dX11_init_1438 (by decide) ?_
  refine g_ldcw (pc := 1440) (v := (1048691 : Int32)) m_1387 dX11_init_1440 ?_
  have g657 : hS h656 (hZ h511 + 1) = 21 := (hS_tI eh656 g654)
  obtain ⟨b658, hf⟩ := gb_some hf
  obtain ⟨h659, eh659, hf⟩ := lt_some hf
  refine g_iast (pc := 1443) g657 b658 dX11_init_1443 eh659 ?_
  refine g_dup (pc := 1444) dX11_init_1444 (rf_cat X _) ?_
  refine g_bipush (pc := 1445) (v := (49 : Int32)) dX11_init_1445 (by decide) ?_
  refine g_bipush (pc := 1447) (v := (19 : Int32)) dX11_init_1447 (by decide) ?_
  have g660 : hS h659 (hZ h511 + 1) = 21 := (hS_tI eh659 g657)
  obtain ⟨b661, hf⟩ := gb_some hf
  obtain ⟨h662, eh662, hf⟩ := lt_some hf
  refine g_iast (pc := 1449) g660 b661 dX11_init_1449 eh662 ?_
  refine g_dup (pc := 1450) dX11_init_1450 (rf_cat X _) ?_
  refine g_bipush (pc := 1451) (v := (50 : Int32)) dX11_init_1451 (by decide) ?_
  refine g_bipush (pc := 1453) (v := (19 : Int32)) dX11_init_1453 (by decide) ?_
  have g663 : hS h662 (hZ h511 + 1) = 21 := (hS_tI eh662 g660)
  obtain ⟨b664, hf⟩ := gb_some hf
  obtain ⟨h665, eh665, hf⟩ := lt_some hf
  refine g_iast (pc := 1455) g663 b664 dX11_init_1455 eh665 ?_
  refine g_dup (pc := 1456) dX11_init_1456 (rf_cat X _) ?_
  refine g_bipush (pc := 1457) (v := (51 : Int32)) dX11_init_1457 (by decide) ?_
  refine g_ldcw (pc := 1459) (v := (-1032173 : Int32)) m_1388 dX11_init_1459 ?_
  have g666 : hS h665 (hZ h511 + 1) = 21 := (hS_tI eh665 g663)
  obtain ⟨b667, hf⟩ := gb_some hf
  obtain ⟨h668, eh668, hf⟩ := lt_some hf
  refine g_iast (pc := 1462) g666 b667 dX11_init_1462 eh668 ?_
  refine g_dup (pc := 1463) dX11_init_1463 (rf_cat X _) ?_
  refine g_bipush (pc := 1464) (v := (52 : Int32)) dX11_init_1464 (by decide) ?_
  refine g_ldcw (pc := 1466) (v := (1073741875 : Int32)) m_1375 dX11_init_1466 ?_
  have g669 : hS h668 (hZ h511 + 1) = 21 := (hS_tI eh668 g666)
  obtain ⟨b670, hf⟩ := gb_some hf
  obtain ⟨h671, eh671, hf⟩ := lt_some hf
  refine g_iast (pc := 1469) g669 b670 dX11_init_1469 eh671 ?_
  refine g_dup (pc := 1470) dX11_init_1470 (rf_cat X _) ?_
  refine g_bipush (pc := 1471) (v := (53 : Int32)) dX11_init_1471 (by decide) ?_
  refine g_bipush (pc := 1473) (v := (111 : Int32)) dX11_init_1473 (by decide) ?_
  have g672 : hS h671 (hZ h511 + 1) = 21 := (hS_tI eh671 g669)
  obtain ⟨b673, hf⟩ := gb_some hf
  obtain ⟨h674, eh674, hf⟩ := lt_some hf
  refine g_iast (pc := 1475) g672 b673 dX11_init_1475 eh674 ?_
  refine g_dup (pc := 1476) dX11_init_1476 (rf_cat X _) ?_
  refine g_bipush (pc := 1477) (v := (54 : Int32)) dX11_init_1477 (by decide) ?_
  refine g_ldcw (pc := 1479) (v := (32871 : Int32)) m_1389 dX11_init_1479 ?_
  have g675 : hS h674 (hZ h511 + 1) = 21 := (hS_tI eh674 g672)
  obtain ⟨b676, hf⟩ := gb_some hf
  obtain ⟨h677, eh677, hf⟩ := lt_some hf
  refine g_iast (pc := 1482) g675 b676 dX11_init_1482 eh677 ?_
  refine g_dup (pc := 1483) dX11_init_1483 (rf_cat X _) ?_
  refine g_bipush (pc := 1484) (v := (55 : Int32)) dX11_init_1484 (by decide) ?_
  refine g_bipush (pc := 1486) (v := (99 : Int32)) dX11_init_1486 (by decide) ?_
  have g678 : hS h677 (hZ h511 + 1) = 21 := (hS_tI eh677 g675)
  obtain ⟨b679, hf⟩ := gb_some hf
  obtain ⟨h680, eh680, hf⟩ := lt_some hf
  refine g_iast (pc := 1488) g678 b679 dX11_init_1488 eh680 ?_
  refine g_dup (pc := 1489) dX11_init_1489 (rf_cat X _) ?_
  refine g_bipush (pc := 1490) (v := (56 : Int32)) dX11_init_1490 (by decide) ?_
  refine g_sipush (pc := 1492) (v := (4195 : Int32)) dX11_init_1492 (by decide) ?_
  have g681 : hS h680 (hZ h511 + 1) = 21 := (hS_tI eh680 g678)
  obtain ⟨b682, hf⟩ := gb_some hf
  obtain ⟨h683, eh683, hf⟩ := lt_some hf
  refine g_iast (pc := 1495) g681 b682 dX11_init_1495 eh683 ?_
  refine g_dup (pc := 1496) dX11_init_1496 (rf_cat X _) ?_
  refine g_bipush (pc := 1497) (v := (57 : Int32)) dX11_init_1497 (by decide) ?_
  refine g_iconst (pc := 1499) (v := (0 : Int32)) dX11_init_1499 (by decide) ?_
  have g684 : hS h683 (hZ h511 + 1) = 21 := (hS_tI eh683 g681)
  obtain ⟨b685, hf⟩ := gb_some hf
  obtain ⟨h686, eh686, hf⟩ := lt_some hf
  refine g_iast (pc := 1500) g684 b685 dX11_init_1500 eh686 ?_
  refine g_dup (pc := 1501) dX11_init_1501 (rf_cat X _) ?_
  refine g_bipush (pc := 1502) (v := (58 : Int32)) dX11_init_1502 (by decide) ?_
  refine g_iconst (pc := 1504) (v := (0 : Int32)) dX11_init_1504 (by decide) ?_
  have g687 : hS h686 (hZ h511 + 1) = 21 := (hS_tI eh686 g684)
  obtain ⟨b688, hf⟩ := gb_some hf
  obtain ⟨h689, eh689, hf⟩ := lt_some hf
  refine g_iast (pc := 1505) g687 b688 dX11_init_1505 eh689 ?_
  refine g_dup (pc := 1506) dX11_init_1506 (rf_cat X _) ?_
  refine g_bipush (pc := 1507) (v := (59 : Int32)) dX11_init_1507 (by decide) ?_
  refine g_iconst (pc := 1509) (v := (0 : Int32)) dX11_init_1509 (by decide) ?_
  have g690 : hS h689 (hZ h511 + 1) = 21 := (hS_tI eh689 g687)
  obtain ⟨b691, hf⟩ := gb_some hf
  obtain ⟨h692, eh692, hf⟩ := lt_some hf
  refine g_iast (pc := 1510) g690 b691 dX11_init_1510 eh692 ?_
  refine g_dup (pc := 1511) dX11_init_1511 (rf_cat X _) ?_
  refine g_bipush (pc := 1512) (v := (60 : Int32)) dX11_init_1512 (by decide) ?_
  refine g_iconst (pc := 1514) (v := (0 : Int32)) dX11_init_1514 (by decide) ?_
  have g693 : hS h692 (hZ h511 + 1) = 21 := (hS_tI eh692 g690)
  obtain ⟨b694, hf⟩ := gb_some hf
  obtain ⟨h695, eh695, hf⟩ := lt_some hf
  refine g_iast (pc := 1515) g693 b694 dX11_init_1515 eh695 ?_
  obtain ⟨g696, hf⟩ := gs_some hf
  obtain ⟨h697, eh697, hf⟩ := lt_some hf
  refine g_putRF (pc := 1516) fl_X11_297 rfl (cl_own rfl) (Or.inr ⟨_, rfl⟩) dX11_init_1516 g696 eh697 ?_
  refine g_aload_n (pc := 1519) 0 dX11_init_1519 rfl rfl ?_
  refine g_bipush (pc := 1520) (v := (9 : Int32)) dX11_init_1520 (by decide) ?_
  obtain ⟨h698, eh698, hf⟩ := lt_some hf
  refine g_newI (pc := 1522) m_252 dX11_init_1522 (by decide) eh698 ?_
  obtain ⟨g699, hf⟩ := gs_some hf
  obtain ⟨h700, eh700, hf⟩ := lt_some hf
  refine g_putRF (pc := 1524) fl_X11_300 rfl (cl_own rfl) (Or.inr ⟨_, rfl⟩) dX11_init_1524 g699 eh700 ?_
  refine g_iconst (pc := 1527) (v := (0 : Int32)) dX11_init_1527 (by decide) ?_
  obtain ⟨x701, ex701, hf⟩ := lt_some hf
  refine g_istore_n (pc := 1528) (L' := [(1, .int x701), (0, rf X a0)]) dX11_init_1528 rfl (by decide) ex701 (by simp [rf_cat, rq_cat]) ?_
  refine g_sub [1, 0] rfl ?_
  exact ok_X11_init_L1529 l X FU h700 a0 x701 q hf
theorem ct_X11_init (l : Launch) (X : Cx) {h : AH} {a0 : Nat} {q : AH} (hf : f_X11_init h a0 = some q) : Ct l X k_X11_init [rf X a0] h (rV q) := ct_of ck_X11_init (by simp [lg_sl, rf_cat, rq_cat, ca_i, ca_l, ca_r]) (by simp [lv_args, rf_cat, rq_cat, ca_i, ca_l, ca_r]) (ok_X11_init l X hf)
