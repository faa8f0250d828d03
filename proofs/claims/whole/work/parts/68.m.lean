set_option maxRecDepth 100000 in
set_option maxHeartbeats 4000000 in
theorem ok_X11_type_L80 (l : Launch) (X : Cx) : ∀ (n : Nat) (h : AH) (a0 : Nat) (a1 : Int64) (a4 : Int32) (q : Int32 × AH), f_X11_type_L80 n h a0 a1 a4 = some q → Go l X k_X11_type 80 [(0, rf X a0), (1, .long a1), (4, .int a4)] [] h (rI q) := by
  intro n
  induction n with
  | zero =>
    intro h a0 a1 a4 q hf
    unfold f_X11_type_L80 at hf
    cases hf
  | succ n ih =>
    intro h a0 a1 a4 q hf
    unfold f_X11_type_L80 at hf
    refine g_iload (pc := 80) 2 dX11_type_80 rfl ?_
    rcases it_some hf with ⟨c1, hf⟩ | ⟨c1, hf⟩
    · refine g_iflt_t (pc := 82) (tgt := 122) dX11_type_82 (by decide) c1 ?_
      refine g_iconst (pc := 122) (v := (1 : Int32)) dX11_type_122 (by decide) ?_
      obtain rfl := Option.some.inj hf
      exact g_zret (pc := 123) rfl rfl dX11_type_123
    · refine g_iflt_f (pc := 82) (tgt := 122) dX11_type_82 (by decide) c1 ?_
      refine g_aload_n (pc := 85) 0 dX11_type_85 rfl rfl ?_
      obtain ⟨g2, hf⟩ := gs_some hf
      refine g_getR (pc := 86) fl_X11_7 dX11_type_86 g2 ?_
      refine g_aload_n (pc := 89) 0 dX11_type_89 rfl rfl ?_
      refine g_getI (pc := 90) fl_X11_337 dX11_type_90 g2 ?_
      refine g_lload_n (pc := 93) 1 dX11_type_93 rfl rfl ?_
      refine g_bipush (pc := 94) (v := (8 : Int32)) dX11_type_94 (by decide) ?_
      refine g_iload (pc := 96) 2 dX11_type_96 rfl ?_
      refine g_imul (pc := 98) dX11_type_98 ?_
      refine g_lshr (pc := 99) dX11_type_99 ?_
      refine g_ldc2 (pc := 100) (v := (255 : Int64)) m_1646 dX11_type_100 ?_
      refine g_land (pc := 103) dX11_type_103 ?_
      refine g_l2i (pc := 104) dX11_type_104 ?_
      obtain ⟨g3, hf⟩ := gs_some hf
      obtain ⟨b4, hf⟩ := gb_some hf
      obtain ⟨h5, eh5, hf⟩ := lt_some hf
      refine g_iast (pc := 105) g3 b4 dX11_type_105 eh5 ?_
      refine g_aload_n (pc := 106) 0 dX11_type_106 rfl rfl ?_
      refine g_dup (pc := 107) dX11_type_107 (rf_cat X _) ?_
      have g6 : hS h5 a0 = 10 := (hS_tI eh5 g2)
      refine g_getI (pc := 108) fl_X11_337 dX11_type_108 g6 ?_
      refine g_iconst (pc := 111) (v := (1 : Int32)) dX11_type_111 (by decide) ?_
      refine g_iadd (pc := 112) dX11_type_112 ?_
      obtain ⟨h7, eh7, hf⟩ := lt_some hf
      refine g_putI (pc := 113) fl_X11_337 dX11_type_113 g6 eh7 ?_
      obtain ⟨x8, ex8, hf⟩ := lt_some hf
      refine g_iinc (pc := 116) (y := x8) (L' := [(4, .int x8), (0, rf X a0), (1, .long a1)]) 2 dX11_type_116 rfl (by decide) (ex8.trans rfl) rfl ?_
      refine g_goto (pc := 119) (tgt := 80) dX11_type_119 (by decide) ?_
      refine g_sub [1, 2, 0] rfl ?_
      exact ih h7 a0 a1 x8 q hf
set_option maxRecDepth 100000 in
set_option maxHeartbeats 4000000 in
theorem ok_X11_type_L33 (l : Launch) (X : Cx) : ∀ (n : Nat) (h : AH) (a0 : Nat) (a1 : Int64) (a3 : Int32) (a4 : Int32) (q : Int32 × AH), f_X11_type_L33 n h a0 a1 a3 a4 = some q → Go l X k_X11_type 33 [(0, rf X a0), (1, .long a1), (3, .int a3), (4, .int a4)] [] h (rI q) := by
  intro n
  induction n with
  | zero =>
    intro h a0 a1 a3 a4 q hf
    unfold f_X11_type_L33 at hf
    cases hf
  | succ n ih =>
    intro h a0 a1 a3 a4 q hf
    unfold f_X11_type_L33 at hf
    refine g_iload (pc := 33) 3 dX11_type_33 rfl ?_
    refine g_iload_n (pc := 35) 2 dX11_type_35 rfl rfl ?_
    rcases it_some hf with ⟨c1, hf⟩ | ⟨c1, hf⟩
    · refine g_icge_t (pc := 36) (tgt := 75) dX11_type_36 (by decide) c1 ?_
      refine g_iload_n (pc := 75) 2 dX11_type_75 rfl rfl ?_
      refine g_iconst (pc := 76) (v := (1 : Int32)) dX11_type_76 (by decide) ?_
      refine g_isub (pc := 77) dX11_type_77 ?_
      obtain ⟨x2, ex2, hf⟩ := lt_some hf
      refine g_istore (pc := 78) (L' := [(4, .int x2), (0, rf X a0), (1, .long a1), (3, .int a3)]) dX11_type_78 (by decide) ex2 rfl ?_
      refine g_sub [1, 2, 0] rfl ?_
      exact ok_X11_type_L80 l X FU h a0 a1 x2 q hf
    · refine g_icge_f (pc := 36) (tgt := 75) dX11_type_36 (by decide) c1 ?_
      refine g_lload_n (pc := 39) 1 dX11_type_39 rfl rfl ?_
      refine g_bipush (pc := 40) (v := (8 : Int32)) dX11_type_40 (by decide) ?_
      refine g_iload (pc := 42) 3 dX11_type_42 rfl ?_
      refine g_imul (pc := 44) dX11_type_44 ?_
      refine g_lshr (pc := 45) dX11_type_45 ?_
      refine g_ldc2 (pc := 46) (v := (255 : Int64)) m_1646 dX11_type_46 ?_
      refine g_land (pc := 49) dX11_type_49 ?_
      refine g_l2i (pc := 50) dX11_type_50 ?_
      obtain ⟨x3, ex3, hf⟩ := lt_some hf
      refine g_istore (pc := 51) (L' := [(5, .int x3), (0, rf X a0), (1, .long a1), (3, .int a3), (4, .int a4)]) dX11_type_51 (by decide) ex3 rfl ?_
      refine g_iload (pc := 53) 0 dX11_type_53 rfl ?_
      refine g_bipush (pc := 55) (v := (32 : Int32)) dX11_type_55 (by decide) ?_
      rcases it_some hf with ⟨c4, hf⟩ | ⟨c4, hf⟩
      · refine g_iclt_t (pc := 57) (tgt := 67) dX11_type_57 (by decide) c4 ?_
        refine g_iconst (pc := 67) (v := (0 : Int32)) dX11_type_67 (by decide) ?_
        obtain rfl := Option.some.inj hf
        exact g_zret (pc := 68) rfl rfl dX11_type_68
      · refine g_iclt_f (pc := 57) (tgt := 67) dX11_type_57 (by decide) c4 ?_
        refine g_iload (pc := 60) 0 dX11_type_60 rfl ?_
        refine g_bipush (pc := 62) (v := (126 : Int32)) dX11_type_62 (by decide) ?_
        rcases it_some hf with ⟨c5, hf⟩ | ⟨c5, hf⟩
        · refine g_icle_t (pc := 64) (tgt := 69) dX11_type_64 (by decide) c5 ?_
          obtain ⟨x6, ex6, hf⟩ := lt_some hf
          refine g_iinc (pc := 69) (y := x6) (L' := [(4, .int x6), (5, .int x3), (0, rf X a0), (1, .long a1), (3, .int a3)]) 4 dX11_type_69 rfl (by decide) (ex6.trans rfl) rfl ?_
          refine g_goto (pc := 72) (tgt := 33) dX11_type_72 (by decide) ?_
          refine g_sub [2, 3, 4, 0] rfl ?_
          exact ih h a0 a1 a3 x6 q hf
        · refine g_icle_f (pc := 64) (tgt := 69) dX11_type_64 (by decide) c5 ?_
          refine g_iconst (pc := 67) (v := (0 : Int32)) dX11_type_67 (by decide) ?_
          obtain rfl := Option.some.inj hf
          exact g_zret (pc := 68) rfl rfl dX11_type_68
set_option maxRecDepth 100000 in
set_option maxHeartbeats 4000000 in
theorem ok_X11_type (l : Launch) (X : Cx) {h : AH} {a0 : Nat} {a1 : Int64} {a3 : Int32} {q : Int32 × AH} (hf : f_X11_type h a0 a1 a3 = some q) : Go l X k_X11_type 0 [(0, rf X a0), (1, .long a1), (3, .int a3)] [] h (rI q) := by
  unfold f_X11_type at hf
  refine g_aload_n (pc := 0) 0 dX11_type_0 rfl rfl ?_
  refine g_iconst (pc := 1) (v := (0 : Int32)) dX11_type_1 (by decide) ?_
  obtain ⟨g1, hf⟩ := gs_some hf
  obtain ⟨h2, eh2, hf⟩ := lt_some hf
  refine g_putI (pc := 2) fl_X11_306 dX11_type_2 g1 eh2 ?_
  refine g_iload_n (pc := 5) 2 dX11_type_5 rfl rfl ?_
  refine g_iconst (pc := 6) (v := (1 : Int32)) dX11_type_6 (by decide) ?_
  rcases it_some hf with ⟨c3, hf⟩ | ⟨c3, hf⟩
  · refine g_iclt_t (pc := 7) (tgt := 28) dX11_type_7 (by decide) c3 ?_
    refine g_iconst (pc := 28) (v := (0 : Int32)) dX11_type_28 (by decide) ?_
    obtain rfl := Option.some.inj hf
    exact g_zret (pc := 29) rfl rfl dX11_type_29
  · refine g_iclt_f (pc := 7) (tgt := 28) dX11_type_7 (by decide) c3 ?_
    refine g_iload_n (pc := 10) 2 dX11_type_10 rfl rfl ?_
    refine g_bipush (pc := 11) (v := (8 : Int32)) dX11_type_11 (by decide) ?_
    rcases it_some hf with ⟨c4, hf⟩ | ⟨c4, hf⟩
    · refine g_icgt_t (pc := 13) (tgt := 28) dX11_type_13 (by decide) c4 ?_
      refine g_iconst (pc := 28) (v := (0 : Int32)) dX11_type_28 (by decide) ?_
      obtain rfl := Option.some.inj hf
      exact g_zret (pc := 29) rfl rfl dX11_type_29
    · refine g_icgt_f (pc := 13) (tgt := 28) dX11_type_13 (by decide) c4 ?_
      refine g_aload_n (pc := 16) 0 dX11_type_16 rfl rfl ?_
      have g5 : hS h2 a0 = 10 := (hS_tI eh2 g1)
      refine g_getI (pc := 17) fl_X11_337 dX11_type_17 g5 ?_
      refine g_iload_n (pc := 20) 2 dX11_type_20 rfl rfl ?_
      refine g_iadd (pc := 21) dX11_type_21 ?_
      refine g_sipush (pc := 22) (v := (1500 : Int32)) dX11_type_22 (by decide) ?_
      rcases it_some hf with ⟨c6, hf⟩ | ⟨c6, hf⟩
      · refine g_icle_t (pc := 25) (tgt := 30) dX11_type_25 (by decide) c6 ?_
        refine g_iconst (pc := 30) (v := (0 : Int32)) dX11_type_30 (by decide) ?_
        obtain ⟨x7, ex7, hf⟩ := lt_some hf
        refine g_istore (pc := 31) (L' := [(4, .int x7), (0, rf X a0), (1, .long a1), (3, .int a3)]) dX11_type_31 (by decide) ex7 rfl ?_
        refine g_sub [1, 2, 3, 0] rfl ?_
        exact ok_X11_type_L33 l X FU h2 a0 a1 a3 x7 q hf
      · refine g_icle_f (pc := 25) (tgt := 30) dX11_type_25 (by decide) c6 ?_
        refine g_iconst (pc := 28) (v := (0 : Int32)) dX11_type_28 (by decide) ?_
        obtain rfl := Option.some.inj hf
        exact g_zret (pc := 29) rfl rfl dX11_type_29
theorem ct_X11_type (l : Launch) (X : Cx) {h : AH} {a0 : Nat} {a1 : Int64} {a3 : Int32} {q : Int32 × AH} (hf : f_X11_type h a0 a1 a3 = some q) : Ct l X k_X11_type [rf X a0, .long a1, .int a3] h (rI q) := ct_of ck_X11_type (by simp [lg_sl, rf_cat, rq_cat, ca_i, ca_l, ca_r]) (by simp [lv_args, rf_cat, rq_cat, ca_i, ca_l, ca_r]) (ok_X11_type l X hf)
set_option maxRecDepth 100000 in
set_option maxHeartbeats 4000000 in
theorem ok_X11_sizes_L139 (l : Launch) (X : Cx) (h : AH) (a0 : Nat) (a1 : Int32) (a2 : Int32) (a3 : Int32) (a4 : Int32) (a5 : Int32) (a6 : Int32) (s0 : Int32) (q : Int32 × AH) (hf : f_X11_sizes_L139 h a0 a1 a2 a3 a4 a5 a6 s0 = some q) : Go l X k_X11_sizes 139 [(0, rf X a0), (1, .int a1), (2, .int a2), (3, .int a3), (4, .int a4), (5, .int a5), (6, .int a6)] [.int s0] h (rI q) := by
  unfold f_X11_sizes_L139 at hf
  refine g_istore (pc := 139) (L' := [(7, .int s0), (0, rf X a0), (1, .int a1), (2, .int a2), (3, .int a3), (4, .int a4), (5, .int a5), (6, .int a6)]) dX11_sizes_139 (by decide) rfl rfl ?_
  refine g_iload (pc := 141) 0 dX11_sizes_141 rfl ?_
  rcases it_some hf with ⟨c1, hf⟩ | ⟨c1, hf⟩
  · refine g_ifeq_t (pc := 143) (tgt := 160) dX11_sizes_143 (by decide) c1 ?_
    refine g_iconst (pc := 160) (v := (0 : Int32)) dX11_sizes_160 (by decide) ?_
    obtain rfl := Option.some.inj hf
    exact g_zret (pc := 161) rfl rfl dX11_sizes_161
  · refine g_ifeq_f (pc := 143) (tgt := 160) dX11_sizes_143 (by decide) c1 ?_
    refine g_iload (pc := 146) 6 dX11_sizes_146 rfl ?_
    refine g_iload (pc := 148) 7 dX11_sizes_148 rfl ?_
    refine g_imul (pc := 150) dX11_sizes_150 ?_
    refine g_iload_n (pc := 151) 2 dX11_sizes_151 rfl rfl ?_
    refine g_iload_n (pc := 152) 4 dX11_sizes_152 rfl rfl ?_
    refine g_imul (pc := 153) dX11_sizes_153 ?_
    refine g_iload (pc := 154) 5 dX11_sizes_154 rfl ?_
    refine g_imul (pc := 156) dX11_sizes_156 ?_
    rcases it_some hf with ⟨c2, hf⟩ | ⟨c2, hf⟩
    · refine g_icge_t (pc := 157) (tgt := 162) dX11_sizes_157 (by decide) c2 ?_
      refine g_aload_n (pc := 162) 1 dX11_sizes_162 rfl rfl ?_
      obtain ⟨g3, hf⟩ := gs_some hf
      refine g_getR (pc := 163) fl_X11_50 dX11_sizes_163 g3 ?_
      refine g_iconst (pc := 166) (v := (0 : Int32)) dX11_sizes_166 (by decide) ?_
      refine g_iload_n (pc := 167) 2 dX11_sizes_167 rfl rfl ?_
      obtain ⟨g4, hf⟩ := gs_some hf
      obtain ⟨b5, hf⟩ := gb_some hf
      obtain ⟨h6, eh6, hf⟩ := lt_some hf
      refine g_iast (pc := 168) g4 b5 dX11_sizes_168 eh6 ?_
      refine g_aload_n (pc := 169) 1 dX11_sizes_169 rfl rfl ?_
      have g7 : hS h6 a0 = 10 := (hS_tI eh6 g3)
      refine g_getR (pc := 170) fl_X11_50 dX11_sizes_170 g7 ?_
      refine g_iconst (pc := 173) (v := (1 : Int32)) dX11_sizes_173 (by decide) ?_
      refine g_iload_n (pc := 174) 3 dX11_sizes_174 rfl rfl ?_
      obtain ⟨g8, hf⟩ := gs_some hf
      obtain ⟨b9, hf⟩ := gb_some hf
      obtain ⟨h10, eh10, hf⟩ := lt_some hf
      refine g_iast (pc := 175) g8 b9 dX11_sizes_175 eh10 ?_
      refine g_aload_n (pc := 176) 1 dX11_sizes_176 rfl rfl ?_
      have g11 : hS h10 a0 = 10 := (hS_tI eh10 g7)
      refine g_getR (pc := 177) fl_X11_50 dX11_sizes_177 g11 ?_
      refine g_iconst (pc := 180) (v := (2 : Int32)) dX11_sizes_180 (by decide) ?_
      refine g_iload_n (pc := 181) 4 dX11_sizes_181 rfl rfl ?_
      obtain ⟨g12, hf⟩ := gs_some hf
      obtain ⟨b13, hf⟩ := gb_some hf
      obtain ⟨h14, eh14, hf⟩ := lt_some hf
      refine g_iast (pc := 182) g12 b13 dX11_sizes_182 eh14 ?_
      refine g_aload_n (pc := 183) 1 dX11_sizes_183 rfl rfl ?_
      have g15 : hS h14 a0 = 10 := (hS_tI eh14 g11)
      refine g_getR (pc := 184) fl_X11_50 dX11_sizes_184 g15 ?_
      refine g_iconst (pc := 187) (v := (3 : Int32)) dX11_sizes_187 (by decide) ?_
      refine g_iload (pc := 188) 5 dX11_sizes_188 rfl ?_
      obtain ⟨g16, hf⟩ := gs_some hf
      obtain ⟨b17, hf⟩ := gb_some hf
      obtain ⟨h18, eh18, hf⟩ := lt_some hf
      refine g_iast (pc := 190) g16 b17 dX11_sizes_190 eh18 ?_
      refine g_aload_n (pc := 191) 1 dX11_sizes_191 rfl rfl ?_
      have g19 : hS h18 a0 = 10 := (hS_tI eh18 g15)
      refine g_getR (pc := 192) fl_X11_50 dX11_sizes_192 g19 ?_
      refine g_iconst (pc := 195) (v := (4 : Int32)) dX11_sizes_195 (by decide) ?_
      refine g_iload (pc := 196) 6 dX11_sizes_196 rfl ?_
      obtain ⟨g20, hf⟩ := gs_some hf
      obtain ⟨b21, hf⟩ := gb_some hf
      obtain ⟨h22, eh22, hf⟩ := lt_some hf
      refine g_iast (pc := 198) g20 b21 dX11_sizes_198 eh22 ?_
      refine g_aload_n (pc := 199) 1 dX11_sizes_199 rfl rfl ?_
      have g23 : hS h22 a0 = 10 := (hS_tI eh22 g19)
      refine g_getR (pc := 200) fl_X11_50 dX11_sizes_200 g23 ?_
      refine g_iconst (pc := 203) (v := (5 : Int32)) dX11_sizes_203 (by decide) ?_
      refine g_iload (pc := 204) 7 dX11_sizes_204 rfl ?_
      obtain ⟨g24, hf⟩ := gs_some hf
      obtain ⟨b25, hf⟩ := gb_some hf
      obtain ⟨h26, eh26, hf⟩ := lt_some hf
      refine g_iast (pc := 206) g24 b25 dX11_sizes_206 eh26 ?_
      refine g_iconst (pc := 207) (v := (1 : Int32)) dX11_sizes_207 (by decide) ?_
      obtain rfl := Option.some.inj hf
      exact g_zret (pc := 208) rfl rfl dX11_sizes_208
    · refine g_icge_f (pc := 157) (tgt := 162) dX11_sizes_157 (by decide) c2 ?_
      refine g_iconst (pc := 160) (v := (0 : Int32)) dX11_sizes_160 (by decide) ?_
      obtain rfl := Option.some.inj hf
      exact g_zret (pc := 161) rfl rfl dX11_sizes_161
set_option maxRecDepth 100000 in
set_option maxHeartbeats 4000000 in
theorem ok_X11_sizes_L138 (l : Launch) (X : Cx) (h : AH) (a0 : Nat) (a1 : Int32) (a2 : Int32) (a3 : Int32) (a4 : Int32) (a5 : Int32) (a6 : Int32) (q : Int32 × AH) (hf : f_X11_sizes_L138 h a0 a1 a2 a3 a4 a5 a6 = some q) : Go l X k_X11_sizes 138 [(0, rf X a0), (1, .int a1), (2, .int a2), (3, .int a3), (4, .int a4), (5, .int a5), (6, .int a6)] [] h (rI q) := by
  unfold f_X11_sizes_L138 at hf
  refine g_iconst (pc := 138) (v := (0 : Int32)) dX11_sizes_138 (by decide) ?_
  exact ok_X11_sizes_L139 l X h a0 a1 a2 a3 a4 a5 a6 (0 : Int32) q hf
set_option maxRecDepth 100000 in
set_option maxHeartbeats 4000000 in
theorem ok_X11_sizes_L122 (l : Launch) (X : Cx) (h : AH) (a0 : Nat) (a1 : Int32) (a2 : Int32) (a3 : Int32) (a4 : Int32) (a5 : Int32) (a6 : Int32) (q : Int32 × AH) (hf : f_X11_sizes_L122 h a0 a1 a2 a3 a4 a5 a6 = some q) : Go l X k_X11_sizes 122 [(0, rf X a0), (1, .int a1), (2, .int a2), (3, .int a3), (4, .int a4), (5, .int a5), (6, .int a6)] [] h (rI q) := by
  unfold f_X11_sizes_L122 at hf
  refine g_iload (pc := 122) 6 dX11_sizes_122 rfl ?_
  rcases it_some hf with ⟨c1, hf⟩ | ⟨c1, hf⟩
  · refine g_ifle_t (pc := 124) (tgt := 138) dX11_sizes_124 (by decide) c1 ?_
    exact ok_X11_sizes_L138 l X h a0 a1 a2 a3 a4 a5 a6 q hf
  · refine g_ifle_f (pc := 124) (tgt := 138) dX11_sizes_124 (by decide) c1 ?_
    refine g_iload (pc := 127) 6 dX11_sizes_127 rfl ?_
    refine g_bipush (pc := 129) (v := (9 : Int32)) dX11_sizes_129 (by decide) ?_
    rcases it_some hf with ⟨c2, hf⟩ | ⟨c2, hf⟩
    · refine g_icge_t (pc := 131) (tgt := 138) dX11_sizes_131 (by decide) c2 ?_
      exact ok_X11_sizes_L138 l X h a0 a1 a2 a3 a4 a5 a6 q hf
    · refine g_icge_f (pc := 131) (tgt := 138) dX11_sizes_131 (by decide) c2 ?_
      refine g_iconst (pc := 134) (v := (1 : Int32)) dX11_sizes_134 (by decide) ?_
      refine g_goto (pc := 135) (tgt := 139) dX11_sizes_135 (by decide) ?_
      exact ok_X11_sizes_L139 l X h a0 a1 a2 a3 a4 a5 a6 (1 : Int32) q hf
set_option maxRecDepth 100000 in
set_option maxHeartbeats 4000000 in
theorem ok_X11_sizes_L69 (l : Launch) (X : Cx) (h : AH) (a0 : Nat) (a1 : Int32) (a2 : Int32) (a3 : Int32) (a4 : Int32) (a5 : Int32) (a6 : Int32) (s0 : Int32) (q : Int32 × AH) (hf : f_X11_sizes_L69 h a0 a1 a2 a3 a4 a5 a6 s0 = some q) : Go l X k_X11_sizes 69 [(0, rf X a0), (1, .int a1), (2, .int a2), (3, .int a3), (4, .int a4), (5, .int a5), (6, .int a6)] [.int s0] h (rI q) := by
  unfold f_X11_sizes_L69 at hf
  refine g_istore (pc := 69) (L' := [(7, .int s0), (0, rf X a0), (1, .int a1), (2, .int a2), (3, .int a3), (4, .int a4), (5, .int a5), (6, .int a6)]) dX11_sizes_69 (by decide) rfl rfl ?_
  refine g_iload (pc := 71) 0 dX11_sizes_71 rfl ?_
  rcases it_some hf with ⟨c1, hf⟩ | ⟨c1, hf⟩
  · refine g_ifeq_t (pc := 73) (tgt := 138) dX11_sizes_73 (by decide) c1 ?_
    refine g_sub [1, 2, 3, 4, 5, 6, 7] rfl ?_
    exact ok_X11_sizes_L138 l X h a0 a1 a2 a3 a4 a5 a6 q hf
  · refine g_ifeq_f (pc := 73) (tgt := 138) dX11_sizes_73 (by decide) c1 ?_
    refine g_iload (pc := 76) 6 dX11_sizes_76 rfl ?_
    refine g_iconst (pc := 78) (v := (1 : Int32)) dX11_sizes_78 (by decide) ?_
    rcases it_some hf with ⟨c2, hf⟩ | ⟨c2, hf⟩
    · refine g_iceq_t (pc := 79) (tgt := 122) dX11_sizes_79 (by decide) c2 ?_
      refine g_sub [1, 2, 3, 4, 5, 6, 7] rfl ?_
      exact ok_X11_sizes_L122 l X h a0 a1 a2 a3 a4 a5 a6 q hf
    · refine g_iceq_f (pc := 79) (tgt := 122) dX11_sizes_79 (by decide) c2 ?_
      refine g_iload (pc := 82) 6 dX11_sizes_82 rfl ?_
      refine g_iconst (pc := 84) (v := (2 : Int32)) dX11_sizes_84 (by decide) ?_
      rcases it_some hf with ⟨c3, hf⟩ | ⟨c3, hf⟩
      · refine g_iceq_t (pc := 85) (tgt := 122) dX11_sizes_85 (by decide) c3 ?_
        refine g_sub [1, 2, 3, 4, 5, 6, 7] rfl ?_
        exact ok_X11_sizes_L122 l X h a0 a1 a2 a3 a4 a5 a6 q hf
      · refine g_iceq_f (pc := 85) (tgt := 122) dX11_sizes_85 (by decide) c3 ?_
        refine g_iload (pc := 88) 6 dX11_sizes_88 rfl ?_
        refine g_iconst (pc := 90) (v := (4 : Int32)) dX11_sizes_90 (by decide) ?_
        rcases it_some hf with ⟨c4, hf⟩ | ⟨c4, hf⟩
        · refine g_iceq_t (pc := 91) (tgt := 122) dX11_sizes_91 (by decide) c4 ?_
          refine g_sub [1, 2, 3, 4, 5, 6, 7] rfl ?_
          exact ok_X11_sizes_L122 l X h a0 a1 a2 a3 a4 a5 a6 q hf
        · refine g_iceq_f (pc := 91) (tgt := 122) dX11_sizes_91 (by decide) c4 ?_
          refine g_iload (pc := 94) 6 dX11_sizes_94 rfl ?_
          refine g_bipush (pc := 96) (v := (8 : Int32)) dX11_sizes_96 (by decide) ?_
          rcases it_some hf with ⟨c5, hf⟩ | ⟨c5, hf⟩
          · refine g_iceq_t (pc := 98) (tgt := 122) dX11_sizes_98 (by decide) c5 ?_
            refine g_sub [1, 2, 3, 4, 5, 6, 7] rfl ?_
            exact ok_X11_sizes_L122 l X h a0 a1 a2 a3 a4 a5 a6 q hf
          · refine g_iceq_f (pc := 98) (tgt := 122) dX11_sizes_98 (by decide) c5 ?_
            refine g_iload (pc := 101) 6 dX11_sizes_101 rfl ?_
            refine g_bipush (pc := 103) (v := (16 : Int32)) dX11_sizes_103 (by decide) ?_
            rcases it_some hf with ⟨c6, hf⟩ | ⟨c6, hf⟩
            · refine g_iceq_t (pc := 105) (tgt := 122) dX11_sizes_105 (by decide) c6 ?_
              refine g_sub [1, 2, 3, 4, 5, 6, 7] rfl ?_
              exact ok_X11_sizes_L122 l X h a0 a1 a2 a3 a4 a5 a6 q hf
            · refine g_iceq_f (pc := 105) (tgt := 122) dX11_sizes_105 (by decide) c6 ?_
              refine g_iload (pc := 108) 6 dX11_sizes_108 rfl ?_
              refine g_bipush (pc := 110) (v := (32 : Int32)) dX11_sizes_110 (by decide) ?_
              rcases it_some hf with ⟨c7, hf⟩ | ⟨c7, hf⟩
              · refine g_iceq_t (pc := 112) (tgt := 122) dX11_sizes_112 (by decide) c7 ?_
                refine g_sub [1, 2, 3, 4, 5, 6, 7] rfl ?_
                exact ok_X11_sizes_L122 l X h a0 a1 a2 a3 a4 a5 a6 q hf
              · refine g_iceq_f (pc := 112) (tgt := 122) dX11_sizes_112 (by decide) c7 ?_
                refine g_iload (pc := 115) 6 dX11_sizes_115 rfl ?_
                refine g_bipush (pc := 117) (v := (64 : Int32)) dX11_sizes_117 (by decide) ?_
                rcases it_some hf with ⟨c8, hf⟩ | ⟨c8, hf⟩
                · refine g_icne_t (pc := 119) (tgt := 138) dX11_sizes_119 (by decide) c8 ?_
                  refine g_sub [1, 2, 3, 4, 5, 6, 7] rfl ?_
                  exact ok_X11_sizes_L138 l X h a0 a1 a2 a3 a4 a5 a6 q hf
                · refine g_icne_f (pc := 119) (tgt := 138) dX11_sizes_119 (by decide) (Decidable.of_not_not c8) ?_
                  refine g_sub [1, 2, 3, 4, 5, 6, 7] rfl ?_
                  exact ok_X11_sizes_L122 l X h a0 a1 a2 a3 a4 a5 a6 q hf
set_option maxRecDepth 100000 in
set_option maxHeartbeats 4000000 in
theorem ok_X11_sizes_L68 (l : Launch) (X : Cx) (h : AH) (a0 : Nat) (a1 : Int32) (a2 : Int32) (a3 : Int32) (a4 : Int32) (a5 : Int32) (a6 : Int32) (q : Int32 × AH) (hf : f_X11_sizes_L68 h a0 a1 a2 a3 a4 a5 a6 = some q) : Go l X k_X11_sizes 68 [(0, rf X a0), (1, .int a1), (2, .int a2), (3, .int a3), (4, .int a4), (5, .int a5), (6, .int a6)] [] h (rI q) := by
  unfold f_X11_sizes_L68 at hf
  refine g_iconst (pc := 68) (v := (0 : Int32)) dX11_sizes_68 (by decide) ?_
  exact ok_X11_sizes_L69 l X h a0 a1 a2 a3 a4 a5 a6 (0 : Int32) q hf
set_option maxRecDepth 100000 in
set_option maxHeartbeats 4000000 in
theorem ok_X11_sizes_L64 (l : Launch) (X : Cx) (h : AH) (a0 : Nat) (a1 : Int32) (a2 : Int32) (a3 : Int32) (a4 : Int32) (a5 : Int32) (a6 : Int32) (q : Int32 × AH) (hf : f_X11_sizes_L64 h a0 a1 a2 a3 a4 a5 a6 = some q) : Go l X k_X11_sizes 64 [(0, rf X a0), (1, .int a1), (2, .int a2), (3, .int a3), (4, .int a4), (5, .int a5), (6, .int a6)] [] h (rI q) := by
  unfold f_X11_sizes_L64 at hf
  refine g_iconst (pc := 64) (v := (1 : Int32)) dX11_sizes_64 (by decide) ?_
  refine g_goto (pc := 65) (tgt := 69) dX11_sizes_65 (by decide) ?_
  exact ok_X11_sizes_L69 l X h a0 a1 a2 a3 a4 a5 a6 (1 : Int32) q hf
set_option maxRecDepth 100000 in
set_option maxHeartbeats 4000000 in
theorem ok_X11_sizes_L46 (l : Launch) (X : Cx) (h : AH) (a0 : Nat) (a1 : Int32) (a2 : Int32) (a3 : Int32) (a4 : Int32) (a5 : Int32) (a6 : Int32) (q : Int32 × AH) (hf : f_X11_sizes_L46 h a0 a1 a2 a3 a4 a5 a6 = some q) : Go l X k_X11_sizes 46 [(0, rf X a0), (1, .int a1), (2, .int a2), (3, .int a3), (4, .int a4), (5, .int a5), (6, .int a6)] [] h (rI q) := by
  unfold f_X11_sizes_L46 at hf
  refine g_iload (pc := 46) 4 dX11_sizes_46 rfl ?_
  refine g_iconst (pc := 48) (v := (1 : Int32)) dX11_sizes_48 (by decide) ?_
  rcases it_some hf with ⟨c1, hf⟩ | ⟨c1, hf⟩
  · refine g_iceq_t (pc := 49) (tgt := 64) dX11_sizes_49 (by decide) c1 ?_
    exact ok_X11_sizes_L64 l X h a0 a1 a2 a3 a4 a5 a6 q hf
  · refine g_iceq_f (pc := 49) (tgt := 64) dX11_sizes_49 (by decide) c1 ?_
    refine g_iload (pc := 52) 4 dX11_sizes_52 rfl ?_
    refine g_iconst (pc := 54) (v := (2 : Int32)) dX11_sizes_54 (by decide) ?_
    rcases it_some hf with ⟨c2, hf⟩ | ⟨c2, hf⟩
    · refine g_iceq_t (pc := 55) (tgt := 64) dX11_sizes_55 (by decide) c2 ?_
      exact ok_X11_sizes_L64 l X h a0 a1 a2 a3 a4 a5 a6 q hf
    · refine g_iceq_f (pc := 55) (tgt := 64) dX11_sizes_55 (by decide) c2 ?_
      refine g_iload (pc := 58) 4 dX11_sizes_58 rfl ?_
      refine g_iconst (pc := 60) (v := (4 : Int32)) dX11_sizes_60 (by decide) ?_
      rcases it_some hf with ⟨c3, hf⟩ | ⟨c3, hf⟩
      · refine g_icne_t (pc := 61) (tgt := 68) dX11_sizes_61 (by decide) c3 ?_
        exact ok_X11_sizes_L68 l X h a0 a1 a2 a3 a4 a5 a6 q hf
      · refine g_icne_f (pc := 61) (tgt := 68) dX11_sizes_61 (by decide) (Decidable.of_not_not c3) ?_
        exact ok_X11_sizes_L64 l X h a0 a1 a2 a3 a4 a5 a6 q hf
set_option maxRecDepth 100000 in
set_option maxHeartbeats 4000000 in
theorem ok_X11_sizes (l : Launch) (X : Cx) {h : AH} {a0 : Nat} {a1 : Int32} {a2 : Int32} {a3 : Int32} {a4 : Int32} {a5 : Int32} {a6 : Int32} {q : Int32 × AH} (hf : f_X11_sizes h a0 a1 a2 a3 a4 a5 a6 = some q) : Go l X k_X11_sizes 0 [(0, rf X a0), (1, .int a1), (2, .int a2), (3, .int a3), (4, .int a4), (5, .int a5), (6, .int a6)] [] h (rI q) := by
  unfold f_X11_sizes at hf
  refine g_aload_n (pc := 0) 0 dX11_sizes_0 rfl rfl ?_
  refine g_iconst (pc := 1) (v := (0 : Int32)) dX11_sizes_1 (by decide) ?_
  obtain ⟨g1, hf⟩ := gs_some hf
  obtain ⟨h2, eh2, hf⟩ := lt_some hf
  refine g_putI (pc := 2) fl_X11_306 dX11_sizes_2 g1 eh2 ?_
  refine g_iload_n (pc := 5) 1 dX11_sizes_5 rfl rfl ?_
  rcases it_some hf with ⟨c3, hf⟩ | ⟨c3, hf⟩
  · refine g_ifle_t (pc := 6) (tgt := 68) dX11_sizes_6 (by decide) c3 ?_
    exact ok_X11_sizes_L68 l X h2 a0 a1 a2 a3 a4 a5 a6 q hf
  · refine g_ifle_f (pc := 6) (tgt := 68) dX11_sizes_6 (by decide) c3 ?_
    refine g_iload_n (pc := 9) 1 dX11_sizes_9 rfl rfl ?_
    refine g_bipush (pc := 10) (v := (16 : Int32)) dX11_sizes_10 (by decide) ?_
    rcases it_some hf with ⟨c4, hf⟩ | ⟨c4, hf⟩
    · refine g_icgt_t (pc := 12) (tgt := 68) dX11_sizes_12 (by decide) c4 ?_
      exact ok_X11_sizes_L68 l X h2 a0 a1 a2 a3 a4 a5 a6 q hf
    · refine g_icgt_f (pc := 12) (tgt := 68) dX11_sizes_12 (by decide) c4 ?_
      refine g_iload_n (pc := 15) 2 dX11_sizes_15 rfl rfl ?_
      rcases it_some hf with ⟨c5, hf⟩ | ⟨c5, hf⟩
      · refine g_ifle_t (pc := 16) (tgt := 68) dX11_sizes_16 (by decide) c5 ?_
        exact ok_X11_sizes_L68 l X h2 a0 a1 a2 a3 a4 a5 a6 q hf
      · refine g_ifle_f (pc := 16) (tgt := 68) dX11_sizes_16 (by decide) c5 ?_
        refine g_iload_n (pc := 19) 2 dX11_sizes_19 rfl rfl ?_
        refine g_bipush (pc := 20) (v := (17 : Int32)) dX11_sizes_20 (by decide) ?_
        rcases it_some hf with ⟨c6, hf⟩ | ⟨c6, hf⟩
        · refine g_icge_t (pc := 22) (tgt := 68) dX11_sizes_22 (by decide) c6 ?_
          exact ok_X11_sizes_L68 l X h2 a0 a1 a2 a3 a4 a5 a6 q hf
        · refine g_icge_f (pc := 22) (tgt := 68) dX11_sizes_22 (by decide) c6 ?_
          refine g_iload_n (pc := 25) 3 dX11_sizes_25 rfl rfl ?_
          refine g_iconst (pc := 26) (v := (1 : Int32)) dX11_sizes_26 (by decide) ?_
          rcases it_some hf with ⟨c7, hf⟩ | ⟨c7, hf⟩
          · refine g_iceq_t (pc := 27) (tgt := 46) dX11_sizes_27 (by decide) c7 ?_
            exact ok_X11_sizes_L46 l X h2 a0 a1 a2 a3 a4 a5 a6 q hf
          · refine g_iceq_f (pc := 27) (tgt := 46) dX11_sizes_27 (by decide) c7 ?_
            refine g_iload_n (pc := 30) 3 dX11_sizes_30 rfl rfl ?_
            refine g_iconst (pc := 31) (v := (2 : Int32)) dX11_sizes_31 (by decide) ?_
            rcases it_some hf with ⟨c8, hf⟩ | ⟨c8, hf⟩
            · refine g_iceq_t (pc := 32) (tgt := 46) dX11_sizes_32 (by decide) c8 ?_
              exact ok_X11_sizes_L46 l X h2 a0 a1 a2 a3 a4 a5 a6 q hf
            · refine g_iceq_f (pc := 32) (tgt := 46) dX11_sizes_32 (by decide) c8 ?_
              refine g_iload_n (pc := 35) 3 dX11_sizes_35 rfl rfl ?_
              refine g_iconst (pc := 36) (v := (4 : Int32)) dX11_sizes_36 (by decide) ?_
              rcases it_some hf with ⟨c9, hf⟩ | ⟨c9, hf⟩
              · refine g_iceq_t (pc := 37) (tgt := 46) dX11_sizes_37 (by decide) c9 ?_
                exact ok_X11_sizes_L46 l X h2 a0 a1 a2 a3 a4 a5 a6 q hf
              · refine g_iceq_f (pc := 37) (tgt := 46) dX11_sizes_37 (by decide) c9 ?_
                refine g_iload_n (pc := 40) 3 dX11_sizes_40 rfl rfl ?_
                refine g_bipush (pc := 41) (v := (8 : Int32)) dX11_sizes_41 (by decide) ?_
                rcases it_some hf with ⟨c10, hf⟩ | ⟨c10, hf⟩
                · refine g_icne_t (pc := 43) (tgt := 68) dX11_sizes_43 (by decide) c10 ?_
                  exact ok_X11_sizes_L68 l X h2 a0 a1 a2 a3 a4 a5 a6 q hf
                · refine g_icne_f (pc := 43) (tgt := 68) dX11_sizes_43 (by decide) (Decidable.of_not_not c10) ?_
                  exact ok_X11_sizes_L46 l X h2 a0 a1 a2 a3 a4 a5 a6 q hf
theorem ct_X11_sizes (l : Launch) (X : Cx) {h : AH} {a0 : Nat} {a1 : Int32} {a2 : Int32} {a3 : Int32} {a4 : Int32} {a5 : Int32} {a6 : Int32} {q : Int32 × AH} (hf : f_X11_sizes h a0 a1 a2 a3 a4 a5 a6 = some q) : Ct l X k_X11_sizes [rf X a0, .int a1, .int a2, .int a3, .int a4, .int a5, .int a6] h (rI q) := ct_of ck_X11_sizes (by simp [lg_sl, rf_cat, rq_cat, ca_i, ca_l, ca_r]) (by simp [lv_args, rf_cat, rq_cat, ca_i, ca_l, ca_r]) (ok_X11_sizes l X hf)
set_option maxRecDepth 100000 in
set_option maxHeartbeats 4000000 in
theorem ok_X11_see (l : Launch) (X : Cx) {h : AH} {a0 : Nat} {a1 : Int32} {q : Int32} (hf : f_X11_see h a0 a1 = some q) : Go l X k_X11_see 0 [(0, rf X a0), (1, .int a1)] [] h (rI (q, h)) := by
  unfold f_X11_see at hf
  refine g_iload_n (pc := 0) 1 dX11_see_0 rfl rfl ?_
  refine g_aload_n (pc := 1) 0 dX11_see_1 rfl rfl ?_
  obtain ⟨g1, hf⟩ := gs_some hf
  refine g_getI (pc := 2) fl_X11_337 dX11_see_2 g1 ?_
  rcases it_some hf with ⟨c2, hf⟩ | ⟨c2, hf⟩
  · refine g_icge_t (pc := 5) (tgt := 17) dX11_see_5 (by decide) c2 ?_
    refine g_iconst (pc := 17) (v := (0 : Int32)) dX11_see_17 (by decide) ?_
    obtain rfl := Option.some.inj hf
    exact g_iret (pc := 18) rfl dX11_see_18
  · refine g_icge_f (pc := 5) (tgt := 17) dX11_see_5 (by decide) c2 ?_
    refine g_aload_n (pc := 8) 0 dX11_see_8 rfl rfl ?_
    refine g_getR (pc := 9) fl_X11_7 dX11_see_9 g1 ?_
    refine g_iload_n (pc := 12) 1 dX11_see_12 rfl rfl ?_
    obtain ⟨g3, hf⟩ := gs_some hf
    obtain ⟨b4, hf⟩ := gb_some hf
    refine g_iald (pc := 13) g3 b4 dX11_see_13 ?_
    refine g_goto (pc := 14) (tgt := 18) dX11_see_14 (by decide) ?_
    obtain rfl := Option.some.inj hf
    exact g_iret (pc := 18) rfl dX11_see_18
theorem ct_X11_see (l : Launch) (X : Cx) {h : AH} {a0 : Nat} {a1 : Int32} {q : Int32} (hf : f_X11_see h a0 a1 = some q) : Ct l X k_X11_see [rf X a0, .int a1] h (rI (q, h)) := ct_of ck_X11_see (by simp [lg_sl, rf_cat, rq_cat, ca_i, ca_l, ca_r]) (by simp [lv_args, rf_cat, rq_cat, ca_i, ca_l, ca_r]) (ok_X11_see l X hf)
set_option maxRecDepth 100000 in
set_option maxHeartbeats 4000000 in
theorem ok_X11_isDigit (l : Launch) (X : Cx) {h : AH} {a0 : Int32} {q : Int32} (hf : f_X11_isDigit h a0 = some q) : Go l X k_X11_isDigit 0 [(0, .int a0)] [] h (rI (q, h)) := by
  unfold f_X11_isDigit at hf
  refine g_iload_n (pc := 0) 0 dX11_isDigit_0 rfl rfl ?_
  refine g_bipush (pc := 1) (v := (48 : Int32)) dX11_isDigit_1 (by decide) ?_
  rcases it_some hf with ⟨c1, hf⟩ | ⟨c1, hf⟩
  · refine g_iclt_t (pc := 3) (tgt := 16) dX11_isDigit_3 (by decide) c1 ?_
    refine g_iconst (pc := 16) (v := (0 : Int32)) dX11_isDigit_16 (by decide) ?_
    obtain rfl := Option.some.inj hf
    exact g_zret (pc := 17) rfl rfl dX11_isDigit_17
  · refine g_iclt_f (pc := 3) (tgt := 16) dX11_isDigit_3 (by decide) c1 ?_
    refine g_iload_n (pc := 6) 0 dX11_isDigit_6 rfl rfl ?_
    refine g_bipush (pc := 7) (v := (57 : Int32)) dX11_isDigit_7 (by decide) ?_
    rcases it_some hf with ⟨c2, hf⟩ | ⟨c2, hf⟩
    · refine g_icgt_t (pc := 9) (tgt := 16) dX11_isDigit_9 (by decide) c2 ?_
      refine g_iconst (pc := 16) (v := (0 : Int32)) dX11_isDigit_16 (by decide) ?_
      obtain rfl := Option.some.inj hf
      exact g_zret (pc := 17) rfl rfl dX11_isDigit_17
    · refine g_icgt_f (pc := 9) (tgt := 16) dX11_isDigit_9 (by decide) c2 ?_
      refine g_iconst (pc := 12) (v := (1 : Int32)) dX11_isDigit_12 (by decide) ?_
      refine g_goto (pc := 13) (tgt := 17) dX11_isDigit_13 (by decide) ?_
      obtain rfl := Option.some.inj hf
      exact g_zret (pc := 17) rfl rfl dX11_isDigit_17
theorem ct_X11_isDigit (l : Launch) (X : Cx) {h : AH} {a0 : Int32} {q : Int32} (hf : f_X11_isDigit h a0 = some q) : Ct l X k_X11_isDigit [.int a0] h (rI (q, h)) := ct_of ck_X11_isDigit (by simp [lg_sl, rf_cat, rq_cat, ca_i, ca_l, ca_r]) (by simp [lv_args, rf_cat, rq_cat, ca_i, ca_l, ca_r]) (ok_X11_isDigit l X hf)
set_option maxRecDepth 100000 in
set_option maxHeartbeats 4000000 in
theorem ok_X11_isHex_L19 (l : Launch) (X : Cx) (h : AH)  (q : Int32) (hf : f_X11_isHex_L19 h  = some q) : Go l X k_X11_isHex 19 [] [] h (rI (q, h)) := by
  unfold f_X11_isHex_L19 at hf
  refine g_iconst (pc := 19) (v := (1 : Int32)) dX11_isHex_19 (by decide) ?_
  refine g_goto (pc := 20) (tgt := 24) dX11_isHex_20 (by decide) ?_
  obtain rfl := Option.some.inj hf
  exact g_zret (pc := 24) rfl rfl dX11_isHex_24
set_option maxRecDepth 100000 in
set_option maxHeartbeats 4000000 in
theorem ok_X11_isHex (l : Launch) (X : Cx) {h : AH} {a0 : Int32} {q : Int32} (hf : f_X11_isHex h a0 = some q) : Go l X k_X11_isHex 0 [(0, .int a0)] [] h (rI (q, h)) := by
  unfold f_X11_isHex at hf
  refine g_iload_n (pc := 0) 0 dX11_isHex_0 rfl rfl ?_
  obtain ⟨v1, hcv1, hf⟩ := bd_some hf
  refine g_cSI (pc := 1) (k2 := k_X11_isDigit) (av := [.int a0]) (q := (v1, h)) rfl dX11_isHex_1 ck_X11_isDigit m_1674 m_1675 (by decide) (by decide) rfl (by simp [rf_cat, rq_cat, ca_i, ca_l, ca_r]) (ct_X11_isDigit l X hcv1) ?_
  rcases it_some hf with ⟨c2, hf⟩ | ⟨c2, hf⟩
  · refine g_ifne_t (pc := 4) (tgt := 19) dX11_isHex_4 (by decide) c2 ?_
    refine g_sub [] rfl ?_
    exact ok_X11_isHex_L19 l X h  q hf
  · refine g_ifne_f (pc := 4) (tgt := 19) dX11_isHex_4 (by decide) (Decidable.of_not_not c2) ?_
    refine g_iload_n (pc := 7) 0 dX11_isHex_7 rfl rfl ?_
    refine g_bipush (pc := 8) (v := (97 : Int32)) dX11_isHex_8 (by decide) ?_
    rcases it_some hf with ⟨c3, hf⟩ | ⟨c3, hf⟩
    · refine g_iclt_t (pc := 10) (tgt := 23) dX11_isHex_10 (by decide) c3 ?_
      refine g_iconst (pc := 23) (v := (0 : Int32)) dX11_isHex_23 (by decide) ?_
      obtain rfl := Option.some.inj hf
      exact g_zret (pc := 24) rfl rfl dX11_isHex_24
    · refine g_iclt_f (pc := 10) (tgt := 23) dX11_isHex_10 (by decide) c3 ?_
      refine g_iload_n (pc := 13) 0 dX11_isHex_13 rfl rfl ?_
      refine g_bipush (pc := 14) (v := (102 : Int32)) dX11_isHex_14 (by decide) ?_
      rcases it_some hf with ⟨c4, hf⟩ | ⟨c4, hf⟩
      · refine g_icgt_t (pc := 16) (tgt := 23) dX11_isHex_16 (by decide) c4 ?_
        refine g_iconst (pc := 23) (v := (0 : Int32)) dX11_isHex_23 (by decide) ?_
        obtain rfl := Option.some.inj hf
        exact g_zret (pc := 24) rfl rfl dX11_isHex_24
      · refine g_icgt_f (pc := 16) (tgt := 23) dX11_isHex_16 (by decide) c4 ?_
        refine g_sub [] rfl ?_
        exact ok_X11_isHex_L19 l X h  q hf
theorem ct_X11_isHex (l : Launch) (X : Cx) {h : AH} {a0 : Int32} {q : Int32} (hf : f_X11_isHex h a0 = some q) : Ct l X k_X11_isHex [.int a0] h (rI (q, h)) := ct_of ck_X11_isHex (by simp [lg_sl, rf_cat, rq_cat, ca_i, ca_l, ca_r]) (by simp [lv_args, rf_cat, rq_cat, ca_i, ca_l, ca_r]) (ok_X11_isHex l X hf)
set_option maxRecDepth 100000 in
set_option maxHeartbeats 4000000 in
theorem ok_X11_isSmall (l : Launch) (X : Cx) {h : AH} {a0 : Int32} {q : Int32} (hf : f_X11_isSmall h a0 = some q) : Go l X k_X11_isSmall 0 [(0, .int a0)] [] h (rI (q, h)) := by
  unfold f_X11_isSmall at hf
  refine g_iload_n (pc := 0) 0 dX11_isSmall_0 rfl rfl ?_
  refine g_bipush (pc := 1) (v := (97 : Int32)) dX11_isSmall_1 (by decide) ?_
  rcases it_some hf with ⟨c1, hf⟩ | ⟨c1, hf⟩
  · refine g_iclt_t (pc := 3) (tgt := 16) dX11_isSmall_3 (by decide) c1 ?_
    refine g_iconst (pc := 16) (v := (0 : Int32)) dX11_isSmall_16 (by decide) ?_
    obtain rfl := Option.some.inj hf
    exact g_zret (pc := 17) rfl rfl dX11_isSmall_17
  · refine g_iclt_f (pc := 3) (tgt := 16) dX11_isSmall_3 (by decide) c1 ?_
    refine g_iload_n (pc := 6) 0 dX11_isSmall_6 rfl rfl ?_
    refine g_bipush (pc := 7) (v := (122 : Int32)) dX11_isSmall_7 (by decide) ?_
    rcases it_some hf with ⟨c2, hf⟩ | ⟨c2, hf⟩
    · refine g_icgt_t (pc := 9) (tgt := 16) dX11_isSmall_9 (by decide) c2 ?_
      refine g_iconst (pc := 16) (v := (0 : Int32)) dX11_isSmall_16 (by decide) ?_
      obtain rfl := Option.some.inj hf
      exact g_zret (pc := 17) rfl rfl dX11_isSmall_17
    · refine g_icgt_f (pc := 9) (tgt := 16) dX11_isSmall_9 (by decide) c2 ?_
      refine g_iconst (pc := 12) (v := (1 : Int32)) dX11_isSmall_12 (by decide) ?_
      refine g_goto (pc := 13) (tgt := 17) dX11_isSmall_13 (by decide) ?_
      obtain rfl := Option.some.inj hf
      exact g_zret (pc := 17) rfl rfl dX11_isSmall_17
theorem ct_X11_isSmall (l : Launch) (X : Cx) {h : AH} {a0 : Int32} {q : Int32} (hf : f_X11_isSmall h a0 = some q) : Ct l X k_X11_isSmall [.int a0] h (rI (q, h)) := ct_of ck_X11_isSmall (by simp [lg_sl, rf_cat, rq_cat, ca_i, ca_l, ca_r]) (by simp [lv_args, rf_cat, rq_cat, ca_i, ca_l, ca_r]) (ok_X11_isSmall l X hf)
set_option maxRecDepth 100000 in
set_option maxHeartbeats 4000000 in
theorem ok_X11_token (l : Launch) (X : Cx) {h : AH} {a0 : Nat} {a1 : Int32} {a2 : Int32} {a3 : Int64} {q : AH} (hf : f_X11_token h a0 a1 a2 a3 = some q) : Go l X k_X11_token 0 [(0, rf X a0), (1, .int a1), (2, .int a2), (3, .long a3)] [] h (rV q) := by
  unfold f_X11_token at hf
  refine g_aload_n (pc := 0) 0 dX11_token_0 rfl rfl ?_
  obtain ⟨g1, hf⟩ := gs_some hf
  refine g_getR (pc := 1) fl_X11_13 dX11_token_1 g1 ?_
  refine g_aload_n (pc := 4) 0 dX11_token_4 rfl rfl ?_
  refine g_getI (pc := 5) fl_X11_346 dX11_token_5 g1 ?_
  refine g_iload_n (pc := 8) 1 dX11_token_8 rfl rfl ?_
  obtain ⟨g2, hf⟩ := gs_some hf
  obtain ⟨b3, hf⟩ := gb_some hf
  obtain ⟨h4, eh4, hf⟩ := lt_some hf
  refine g_iast (pc := 9) g2 b3 dX11_token_9 eh4 ?_
  refine g_aload_n (pc := 10) 0 dX11_token_10 rfl rfl ?_
  have g5 : hS h4 a0 = 10 := (hS_tI eh4 g1)
  refine g_getR (pc := 11) fl_X11_16 dX11_token_11 g5 ?_
  refine g_aload_n (pc := 14) 0 dX11_token_14 rfl rfl ?_
  refine g_getI (pc := 15) fl_X11_346 dX11_token_15 g5 ?_
  refine g_iload_n (pc := 18) 2 dX11_token_18 rfl rfl ?_
  obtain ⟨g6, hf⟩ := gs_some hf
  obtain ⟨b7, hf⟩ := gb_some hf
  obtain ⟨h8, eh8, hf⟩ := lt_some hf
  refine g_iast (pc := 19) g6 b7 dX11_token_19 eh8 ?_
  refine g_aload_n (pc := 20) 0 dX11_token_20 rfl rfl ?_
  have g9 : hS h8 a0 = 10 := (hS_tI eh8 g5)
  refine g_getR (pc := 21) fl_X11_19 dX11_token_21 g9 ?_
  refine g_aload_n (pc := 24) 0 dX11_token_24 rfl rfl ?_
  refine g_getI (pc := 25) fl_X11_346 dX11_token_25 g9 ?_
  refine g_lload_n (pc := 28) 3 dX11_token_28 rfl rfl ?_
  obtain ⟨g10, hf⟩ := gs_some hf
  obtain ⟨b11, hf⟩ := gb_some hf
  obtain ⟨h12, eh12, hf⟩ := lt_some hf
  refine g_last (pc := 29) g10 b11 dX11_token_29 eh12 ?_
  refine g_aload_n (pc := 30) 0 dX11_token_30 rfl rfl ?_
  refine g_dup (pc := 31) dX11_token_31 (rf_cat X _) ?_
  have g13 : hS h12 a0 = 10 := (hS_tL eh12 g9)
  refine g_getI (pc := 32) fl_X11_346 dX11_token_32 g13 ?_
  refine g_iconst (pc := 35) (v := (1 : Int32)) dX11_token_35 (by decide) ?_
  refine g_iadd (pc := 36) dX11_token_36 ?_
  obtain ⟨h14, eh14, hf⟩ := lt_some hf
  refine g_putI (pc := 37) fl_X11_346 dX11_token_37 g13 eh14 ?_
  obtain rfl := Option.some.inj hf
  exact g_vret (pc := 40) rfl dX11_token_40
theorem ct_X11_token (l : Launch) (X : Cx) {h : AH} {a0 : Nat} {a1 : Int32} {a2 : Int32} {a3 : Int64} {q : AH} (hf : f_X11_token h a0 a1 a2 a3 = some q) : Ct l X k_X11_token [rf X a0, .int a1, .int a2, .long a3] h (rV q) := ct_of ck_X11_token (by simp [lg_sl, rf_cat, rq_cat, ca_i, ca_l, ca_r]) (by simp [lv_args, rf_cat, rq_cat, ca_i, ca_l, ca_r]) (ok_X11_token l X hf)
set_option maxRecDepth 100000 in
set_option maxHeartbeats 4000000 in
theorem ok_X11_oneToken_L359 (l : Launch) (X : Cx) (h : AH) (a3 : Int32) (q : Int32 × AH) (hf : f_X11_oneToken_L359 h a3 = some q) : Go l X k_X11_oneToken 359 [(3, .int a3)] [] h (rI q) := by
  unfold f_X11_oneToken_L359 at hf
  refine g_iload_n (pc := 359) 0 dX11_oneToken_359 rfl rfl ?_
  obtain rfl := Option.some.inj hf
  exact g_iret (pc := 360) rfl dX11_oneToken_360
set_option maxRecDepth 100000 in
set_option maxHeartbeats 4000000 in
theorem ok_X11_oneToken_L353 (l : Launch) (X : Cx) (h : AH) (a1 : Int32) (a3 : Int32) (a4 : Int64) (s0 : Nat) (s1 : Int32) (q : Int32 × AH) (hf : f_X11_oneToken_L353 h a1 a3 a4 s0 s1 = some q) : Go l X k_X11_oneToken 353 [(1, .int a1), (3, .int a3), (4, .long a4)] [.int s1, rf X s0] h (rI q) := by
  unfold f_X11_oneToken_L353 at hf
  refine g_iload_n (pc := 353) 0 dX11_oneToken_353 rfl rfl ?_
  refine g_lload (pc := 354) 2 dX11_oneToken_354 rfl ?_
  obtain ⟨g1, hf⟩ := gs_some hf
  obtain ⟨q2, hcq2, hf⟩ := bd_some hf
  refine g_cVV (pc := 356) (k2 := k_X11_token) (av := [.int s1, .int a1, .long a4]) (q := q2) rfl dX11_oneToken_356 ck_X11_token m_1678 m_1680 m_61 (ci := 9) rfl (by decide) g1 (by decide) (by decide) rfl (by simp [rf_cat, rq_cat, ca_i, ca_l, ca_r]) (ct_X11_token l X hcq2) ?_
  refine g_sub [1] rfl ?_
  exact ok_X11_oneToken_L359 l X q2 a3 q hf
set_option maxRecDepth 100000 in
set_option maxHeartbeats 4000000 in
theorem ok_X11_oneToken_L348 (l : Launch) (X : Cx) (h : AH) (a1 : Int32) (a3 : Int32) (a4 : Int64) (s0 : Nat) (q : Int32 × AH) (hf : f_X11_oneToken_L348 h a1 a3 a4 s0 = some q) : Go l X k_X11_oneToken 348 [(1, .int a1), (3, .int a3), (4, .long a4)] [rf X s0] h (rI q) := by
  unfold f_X11_oneToken_L348 at hf
  refine g_iconst (pc := 348) (v := (3 : Int32)) dX11_oneToken_348 (by decide) ?_
  refine g_goto (pc := 349) (tgt := 353) dX11_oneToken_349 (by decide) ?_
  exact ok_X11_oneToken_L353 l X h a1 a3 a4 s0 (3 : Int32) q hf
set_option maxRecDepth 100000 in
set_option maxHeartbeats 4000000 in
theorem ok_X11_oneToken_L280 (l : Launch) (X : Cx) (k233 : AH → Nat → Int32 → Int32 → Int64 → Option (Int32 × AH)) (hk233 : ∀ (h : AH) (a0 : Nat) (a1 : Int32) (a3 : Int32) (a4 : Int64) (q : Int32 × AH), k233 h a0 a1 a3 a4 = some q → Go l X k_X11_oneToken 233 [(0, rf X a0), (1, .int a1), (3, .int a3), (4, .long a4)] [] h (rI q)) (h : AH) (a0 : Nat) (a1 : Int32) (a3 : Int32) (s0 : Int64) (q : Int32 × AH) (hf : f_X11_oneToken_L280 k233 h a0 a1 a3 s0 = some q) : Go l X k_X11_oneToken 280 [(0, rf X a0), (1, .int a1), (3, .int a3)] [.long s0] h (rI q) := by
  unfold f_X11_oneToken_L280 at hf
  refine g_lstore (pc := 280) (L' := [(4, .long s0), (0, rf X a0), (1, .int a1), (3, .int a3)]) dX11_oneToken_280 (by decide) rfl rfl ?_
  obtain ⟨x1, ex1, hf⟩ := lt_some hf
  refine g_iinc (pc := 282) (y := x1) (L' := [(3, .int x1), (4, .long s0), (0, rf X a0), (1, .int a1)]) 3 dX11_oneToken_282 rfl (by decide) (ex1.trans rfl) rfl ?_
  refine g_goto (pc := 285) (tgt := 233) dX11_oneToken_285 (by decide) ?_
  refine g_sub [2, 3, 0, 1] rfl ?_
  exact hk233 h a0 a1 x1 s0 q hf
set_option maxRecDepth 100000 in
set_option maxHeartbeats 4000000 in
theorem ok_X11_oneToken_L255 (l : Launch) (X : Cx) (k233 : AH → Nat → Int32 → Int32 → Int64 → Option (Int32 × AH)) (hk233 : ∀ (h : AH) (a0 : Nat) (a1 : Int32) (a3 : Int32) (a4 : Int64) (q : Int32 × AH), k233 h a0 a1 a3 a4 = some q → Go l X k_X11_oneToken 233 [(0, rf X a0), (1, .int a1), (3, .int a3), (4, .long a4)] [] h (rI q)) (h : AH) (a0 : Nat) (a1 : Int32) (a3 : Int32) (a4 : Int64) (q : Int32 × AH) (hf : f_X11_oneToken_L255 k233 h a0 a1 a3 a4 = some q) : Go l X k_X11_oneToken 255 [(0, rf X a0), (1, .int a1), (3, .int a3), (4, .long a4)] [] h (rI q) := by
  unfold f_X11_oneToken_L255 at hf
  refine g_iload_n (pc := 255) 2 dX11_oneToken_255 rfl rfl ?_
  refine g_iload_n (pc := 256) 1 dX11_oneToken_256 rfl rfl ?_
  refine g_isub (pc := 257) dX11_oneToken_257 ?_
  refine g_bipush (pc := 258) (v := (8 : Int32)) dX11_oneToken_258 (by decide) ?_
  rcases it_some hf with ⟨c1, hf⟩ | ⟨c1, hf⟩
  · refine g_icge_t (pc := 260) (tgt := 278) dX11_oneToken_260 (by decide) c1 ?_
    refine g_lload (pc := 278) 3 dX11_oneToken_278 rfl ?_
    refine g_sub [0, 1, 2] rfl ?_
    exact ok_X11_oneToken_L280 l X k233 hk233 h a0 a1 a3 a4 q hf
  · refine g_icge_f (pc := 260) (tgt := 278) dX11_oneToken_260 (by decide) c1 ?_
    refine g_lload (pc := 263) 3 dX11_oneToken_263 rfl ?_
    refine g_bipush (pc := 265) (v := (8 : Int32)) dX11_oneToken_265 (by decide) ?_
    refine g_lshl (pc := 267) dX11_oneToken_267 ?_
    refine g_aload_n (pc := 268) 0 dX11_oneToken_268 rfl rfl ?_
    refine g_iload_n (pc := 269) 2 dX11_oneToken_269 rfl rfl ?_
    obtain ⟨g2, hf⟩ := gs_some hf
    obtain ⟨v3, hcv3, hf⟩ := bd_some hf
    refine g_cVI (pc := 270) (k2 := k_X11_see) (av := [.int a3]) (q := (v3, h)) rfl dX11_oneToken_270 ck_X11_see m_1667 m_1669 m_60 (ci := 9) rfl (by decide) g2 (by decide) (by decide) rfl (by simp [rf_cat, rq_cat, ca_i, ca_l, ca_r]) (ct_X11_see l X hcv3) ?_
    refine g_i2l (pc := 273) dX11_oneToken_273 ?_
    refine g_lor (pc := 274) dX11_oneToken_274 ?_
    refine g_goto (pc := 275) (tgt := 280) dX11_oneToken_275 (by decide) ?_
    refine g_sub [0, 1, 2] rfl ?_
    exact ok_X11_oneToken_L280 l X k233 hk233 h a0 a1 a3 ((a4 <<< ((8 : Int32).toInt64 &&& 63)) ||| (v3.toInt64)) q hf
set_option maxRecDepth 100000 in
set_option maxHeartbeats 4000000 in
theorem ok_X11_oneToken_L302 (l : Launch) (X : Cx) (h : AH) (a1 : Int32) (a3 : Int32) (a4 : Int64) (s0 : Nat) (s1 : Int32) (q : Int32 × AH) (hf : f_X11_oneToken_L302 h a1 a3 a4 s0 s1 = some q) : Go l X k_X11_oneToken 302 [(1, .int a1), (3, .int a3), (4, .long a4)] [.int s1, rf X s0] h (rI q) := by
  unfold f_X11_oneToken_L302 at hf
  refine g_iload_n (pc := 302) 0 dX11_oneToken_302 rfl rfl ?_
  refine g_lload (pc := 303) 2 dX11_oneToken_303 rfl ?_
  obtain ⟨g1, hf⟩ := gs_some hf
  obtain ⟨q2, hcq2, hf⟩ := bd_some hf
  refine g_cVV (pc := 305) (k2 := k_X11_token) (av := [.int s1, .int a1, .long a4]) (q := q2) rfl dX11_oneToken_305 ck_X11_token m_1678 m_1680 m_61 (ci := 9) rfl (by decide) g1 (by decide) (by decide) rfl (by simp [rf_cat, rq_cat, ca_i, ca_l, ca_r]) (ct_X11_token l X hcq2) ?_
  refine g_goto (pc := 308) (tgt := 359) dX11_oneToken_308 (by decide) ?_
  refine g_sub [1] rfl ?_
  exact ok_X11_oneToken_L359 l X q2 a3 q hf
set_option maxRecDepth 100000 in
set_option maxHeartbeats 4000000 in
theorem ok_X11_oneToken_L233 (l : Launch) (X : Cx) : ∀ (n : Nat) (h : AH) (a0 : Nat) (a1 : Int32) (a3 : Int32) (a4 : Int64) (q : Int32 × AH), f_X11_oneToken_L233 n h a0 a1 a3 a4 = some q → Go l X k_X11_oneToken 233 [(0, rf X a0), (1, .int a1), (3, .int a3), (4, .long a4)] [] h (rI q) := by
  intro n
  induction n with
  | zero =>
    intro h a0 a1 a3 a4 q hf
    unfold f_X11_oneToken_L233 at hf
    cases hf
  | succ n ih =>
    intro h a0 a1 a3 a4 q hf
    unfold f_X11_oneToken_L233 at hf
    refine g_aload_n (pc := 233) 0 dX11_oneToken_233 rfl rfl ?_
    refine g_iload_n (pc := 234) 2 dX11_oneToken_234 rfl rfl ?_
    obtain ⟨g1, hf⟩ := gs_some hf
    obtain ⟨v2, hcv2, hf⟩ := bd_some hf
    refine g_cVI (pc := 235) (k2 := k_X11_see) (av := [.int a3]) (q := (v2, h)) rfl dX11_oneToken_235 ck_X11_see m_1667 m_1669 m_60 (ci := 9) rfl (by decide) g1 (by decide) (by decide) rfl (by simp [rf_cat, rq_cat, ca_i, ca_l, ca_r]) (ct_X11_see l X hcv2) ?_
    obtain ⟨v3, hcv3, hf⟩ := bd_some hf
    refine g_cSI (pc := 238) (k2 := k_X11_isSmall) (av := [.int v2]) (q := (v3, h)) rfl dX11_oneToken_238 ck_X11_isSmall m_1684 m_1685 (by decide) (by decide) rfl (by simp [rf_cat, rq_cat, ca_i, ca_l, ca_r]) (ct_X11_isSmall l X hcv3) ?_
    rcases it_some hf with ⟨c4, hf⟩ | ⟨c4, hf⟩
    · refine g_ifne_t (pc := 241) (tgt := 255) dX11_oneToken_241 (by decide) c4 ?_
      exact ok_X11_oneToken_L255 l X (f_X11_oneToken_L233 n) ih h a0 a1 a3 a4 q hf
    · refine g_ifne_f (pc := 241) (tgt := 255) dX11_oneToken_241 (by decide) (Decidable.of_not_not c4) ?_
      refine g_aload_n (pc := 244) 0 dX11_oneToken_244 rfl rfl ?_
      refine g_iload_n (pc := 245) 2 dX11_oneToken_245 rfl rfl ?_
      obtain ⟨v5, hcv5, hf⟩ := bd_some hf
      refine g_cVI (pc := 246) (k2 := k_X11_see) (av := [.int a3]) (q := (v5, h)) rfl dX11_oneToken_246 ck_X11_see m_1667 m_1669 m_60 (ci := 9) rfl (by decide) g1 (by decide) (by decide) rfl (by simp [rf_cat, rq_cat, ca_i, ca_l, ca_r]) (ct_X11_see l X hcv5) ?_
      obtain ⟨v6, hcv6, hf⟩ := bd_some hf
      refine g_cSI (pc := 249) (k2 := k_X11_isDigit) (av := [.int v5]) (q := (v6, h)) rfl dX11_oneToken_249 ck_X11_isDigit m_1674 m_1675 (by decide) (by decide) rfl (by simp [rf_cat, rq_cat, ca_i, ca_l, ca_r]) (ct_X11_isDigit l X hcv6) ?_
      rcases it_some hf with ⟨c7, hf⟩ | ⟨c7, hf⟩
      · refine g_ifeq_t (pc := 252) (tgt := 288) dX11_oneToken_252 (by decide) c7 ?_
        refine g_aload_n (pc := 288) 0 dX11_oneToken_288 rfl rfl ?_
        refine g_iload_n (pc := 289) 2 dX11_oneToken_289 rfl rfl ?_
        refine g_iload_n (pc := 290) 1 dX11_oneToken_290 rfl rfl ?_
        refine g_isub (pc := 291) dX11_oneToken_291 ?_
        refine g_bipush (pc := 292) (v := (8 : Int32)) dX11_oneToken_292 (by decide) ?_
        rcases it_some hf with ⟨c8, hf⟩ | ⟨c8, hf⟩
        · refine g_icle_t (pc := 294) (tgt := 301) dX11_oneToken_294 (by decide) c8 ?_
          refine g_iconst (pc := 301) (v := (1 : Int32)) dX11_oneToken_301 (by decide) ?_
          refine g_sub [1, 2, 3] rfl ?_
          exact ok_X11_oneToken_L302 l X h a1 a3 a4 a0 (1 : Int32) q hf
        · refine g_icle_f (pc := 294) (tgt := 301) dX11_oneToken_294 (by decide) c8 ?_
          refine g_iconst (pc := 297) (v := (4 : Int32)) dX11_oneToken_297 (by decide) ?_
          refine g_goto (pc := 298) (tgt := 302) dX11_oneToken_298 (by decide) ?_
          refine g_sub [1, 2, 3] rfl ?_
          exact ok_X11_oneToken_L302 l X h a1 a3 a4 a0 (4 : Int32) q hf
      · refine g_ifeq_f (pc := 252) (tgt := 288) dX11_oneToken_252 (by decide) c7 ?_
        exact ok_X11_oneToken_L255 l X (f_X11_oneToken_L233 n) ih h a0 a1 a3 a4 q hf
set_option maxRecDepth 100000 in
set_option maxHeartbeats 4000000 in
theorem ok_X11_oneToken_L217 (l : Launch) (X : Cx) (h : AH) (a1 : Int32) (a3 : Int32) (a4 : Int64) (s0 : Nat) (s1 : Int32) (q : Int32 × AH) (hf : f_X11_oneToken_L217 h a1 a3 a4 s0 s1 = some q) : Go l X k_X11_oneToken 217 [(1, .int a1), (3, .int a3), (4, .long a4)] [.int s1, rf X s0] h (rI q) := by
  unfold f_X11_oneToken_L217 at hf
  refine g_iload_n (pc := 217) 0 dX11_oneToken_217 rfl rfl ?_
  refine g_lload (pc := 218) 2 dX11_oneToken_218 rfl ?_
  obtain ⟨g1, hf⟩ := gs_some hf
  obtain ⟨q2, hcq2, hf⟩ := bd_some hf
  refine g_cVV (pc := 220) (k2 := k_X11_token) (av := [.int s1, .int a1, .long a4]) (q := q2) rfl dX11_oneToken_220 ck_X11_token m_1678 m_1680 m_61 (ci := 9) rfl (by decide) g1 (by decide) (by decide) rfl (by simp [rf_cat, rq_cat, ca_i, ca_l, ca_r]) (ct_X11_token l X hcq2) ?_
  refine g_goto (pc := 223) (tgt := 359) dX11_oneToken_223 (by decide) ?_
  refine g_sub [1] rfl ?_
  exact ok_X11_oneToken_L359 l X q2 a3 q hf
set_option maxRecDepth 100000 in
set_option maxHeartbeats 4000000 in
theorem ok_X11_oneToken_L195 (l : Launch) (X : Cx) (k154 : AH → Nat → Int32 → Int32 → Int64 → Option (Int32 × AH)) (hk154 : ∀ (h : AH) (a0 : Nat) (a1 : Int32) (a3 : Int32) (a4 : Int64) (q : Int32 × AH), k154 h a0 a1 a3 a4 = some q → Go l X k_X11_oneToken 154 [(0, rf X a0), (1, .int a1), (3, .int a3), (4, .long a4)] [] h (rI q)) (h : AH) (a0 : Nat) (a1 : Int32) (a3 : Int32) (s0 : Int64) (q : Int32 × AH) (hf : f_X11_oneToken_L195 k154 h a0 a1 a3 s0 = some q) : Go l X k_X11_oneToken 195 [(0, rf X a0), (1, .int a1), (3, .int a3)] [.long s0] h (rI q) := by
  unfold f_X11_oneToken_L195 at hf
  refine g_lstore (pc := 195) (L' := [(4, .long s0), (0, rf X a0), (1, .int a1), (3, .int a3)]) dX11_oneToken_195 (by decide) rfl rfl ?_
  obtain ⟨x1, ex1, hf⟩ := lt_some hf
  refine g_iinc (pc := 197) (y := x1) (L' := [(3, .int x1), (4, .long s0), (0, rf X a0), (1, .int a1)]) 3 dX11_oneToken_197 rfl (by decide) (ex1.trans rfl) rfl ?_
  refine g_goto (pc := 200) (tgt := 154) dX11_oneToken_200 (by decide) ?_
  refine g_sub [2, 3, 0, 1] rfl ?_
  exact hk154 h a0 a1 x1 s0 q hf
set_option maxRecDepth 100000 in
set_option maxHeartbeats 4000000 in
theorem ok_X11_oneToken_L154 (l : Launch) (X : Cx) : ∀ (n : Nat) (h : AH) (a0 : Nat) (a1 : Int32) (a3 : Int32) (a4 : Int64) (q : Int32 × AH), f_X11_oneToken_L154 n h a0 a1 a3 a4 = some q → Go l X k_X11_oneToken 154 [(0, rf X a0), (1, .int a1), (3, .int a3), (4, .long a4)] [] h (rI q) := by
  intro n
  induction n with
  | zero =>
    intro h a0 a1 a3 a4 q hf
    unfold f_X11_oneToken_L154 at hf
    cases hf
  | succ n ih =>
    intro h a0 a1 a3 a4 q hf
    unfold f_X11_oneToken_L154 at hf
    refine g_aload_n (pc := 154) 0 dX11_oneToken_154 rfl rfl ?_
    refine g_iload_n (pc := 155) 2 dX11_oneToken_155 rfl rfl ?_
    obtain ⟨g1, hf⟩ := gs_some hf
    obtain ⟨v2, hcv2, hf⟩ := bd_some hf
    refine g_cVI (pc := 156) (k2 := k_X11_see) (av := [.int a3]) (q := (v2, h)) rfl dX11_oneToken_156 ck_X11_see m_1667 m_1669 m_60 (ci := 9) rfl (by decide) g1 (by decide) (by decide) rfl (by simp [rf_cat, rq_cat, ca_i, ca_l, ca_r]) (ct_X11_see l X hcv2) ?_
    obtain ⟨v3, hcv3, hf⟩ := bd_some hf
    refine g_cSI (pc := 159) (k2 := k_X11_isDigit) (av := [.int v2]) (q := (v3, h)) rfl dX11_oneToken_159 ck_X11_isDigit m_1674 m_1675 (by decide) (by decide) rfl (by simp [rf_cat, rq_cat, ca_i, ca_l, ca_r]) (ct_X11_isDigit l X hcv3) ?_
    rcases it_some hf with ⟨c4, hf⟩ | ⟨c4, hf⟩
    · refine g_ifeq_t (pc := 162) (tgt := 203) dX11_oneToken_162 (by decide) c4 ?_
      refine g_aload_n (pc := 203) 0 dX11_oneToken_203 rfl rfl ?_
      refine g_iload_n (pc := 204) 2 dX11_oneToken_204 rfl rfl ?_
      refine g_iload_n (pc := 205) 1 dX11_oneToken_205 rfl rfl ?_
      refine g_isub (pc := 206) dX11_oneToken_206 ?_
      refine g_bipush (pc := 207) (v := (10 : Int32)) dX11_oneToken_207 (by decide) ?_
      rcases it_some hf with ⟨c5, hf⟩ | ⟨c5, hf⟩
      · refine g_icle_t (pc := 209) (tgt := 216) dX11_oneToken_209 (by decide) c5 ?_
        refine g_iconst (pc := 216) (v := (2 : Int32)) dX11_oneToken_216 (by decide) ?_
        refine g_sub [1, 2, 3] rfl ?_
        exact ok_X11_oneToken_L217 l X h a1 a3 a4 a0 (2 : Int32) q hf
      · refine g_icle_f (pc := 209) (tgt := 216) dX11_oneToken_209 (by decide) c5 ?_
        refine g_iconst (pc := 212) (v := (4 : Int32)) dX11_oneToken_212 (by decide) ?_
        refine g_goto (pc := 213) (tgt := 217) dX11_oneToken_213 (by decide) ?_
        refine g_sub [1, 2, 3] rfl ?_
        exact ok_X11_oneToken_L217 l X h a1 a3 a4 a0 (4 : Int32) q hf
    · refine g_ifeq_f (pc := 162) (tgt := 203) dX11_oneToken_162 (by decide) c4 ?_
      refine g_iload_n (pc := 165) 2 dX11_oneToken_165 rfl rfl ?_
      refine g_iload_n (pc := 166) 1 dX11_oneToken_166 rfl rfl ?_
      refine g_isub (pc := 167) dX11_oneToken_167 ?_
      refine g_bipush (pc := 168) (v := (10 : Int32)) dX11_oneToken_168 (by decide) ?_
      rcases it_some hf with ⟨c6, hf⟩ | ⟨c6, hf⟩
      · refine g_icge_t (pc := 170) (tgt := 193) dX11_oneToken_170 (by decide) c6 ?_
        refine g_lload (pc := 193) 3 dX11_oneToken_193 rfl ?_
        refine g_sub [0, 1, 2] rfl ?_
        exact ok_X11_oneToken_L195 l X (f_X11_oneToken_L154 n) ih h a0 a1 a3 a4 q hf
      · refine g_icge_f (pc := 170) (tgt := 193) dX11_oneToken_170 (by decide) c6 ?_
        refine g_ldc2 (pc := 173) (v := (10 : Int64)) m_1682 dX11_oneToken_173 ?_
        refine g_lload (pc := 176) 3 dX11_oneToken_176 rfl ?_
        refine g_lmul (pc := 178) dX11_oneToken_178 ?_
        refine g_aload_n (pc := 179) 0 dX11_oneToken_179 rfl rfl ?_
        refine g_iload_n (pc := 180) 2 dX11_oneToken_180 rfl rfl ?_
        obtain ⟨v7, hcv7, hf⟩ := bd_some hf
        refine g_cVI (pc := 181) (k2 := k_X11_see) (av := [.int a3]) (q := (v7, h)) rfl dX11_oneToken_181 ck_X11_see m_1667 m_1669 m_60 (ci := 9) rfl (by decide) g1 (by decide) (by decide) rfl (by simp [rf_cat, rq_cat, ca_i, ca_l, ca_r]) (ct_X11_see l X hcv7) ?_
        refine g_i2l (pc := 184) dX11_oneToken_184 ?_
        refine g_ladd (pc := 185) dX11_oneToken_185 ?_
        refine g_ldc2 (pc := 186) (v := (48 : Int64)) m_1683 dX11_oneToken_186 ?_
        refine g_lsub (pc := 189) dX11_oneToken_189 ?_
        refine g_goto (pc := 190) (tgt := 195) dX11_oneToken_190 (by decide) ?_
        refine g_sub [0, 1, 2] rfl ?_
        exact ok_X11_oneToken_L195 l X (f_X11_oneToken_L154 n) ih h a0 a1 a3 ((((10 : Int64) * a4) + (v7.toInt64)) - (48 : Int64)) q hf
set_option maxRecDepth 100000 in
set_option maxHeartbeats 4000000 in
theorem ok_X11_oneToken_L140 (l : Launch) (X : Cx) (h : AH) (a0 : Nat) (a1 : Int32) (a2 : Int32) (a3 : Int32) (a4 : Int64) (q : Int32 × AH) (hf : f_X11_oneToken_L140 h a0 a1 a2 a3 a4 = some q) : Go l X k_X11_oneToken 140 [(0, rf X a0), (1, .int a1), (2, .int a2), (3, .int a3), (4, .long a4)] [] h (rI q) := by
  unfold f_X11_oneToken_L140 at hf
  refine g_iload_n (pc := 140) 2 dX11_oneToken_140 rfl rfl ?_
  obtain ⟨v1, hcv1, hf⟩ := bd_some hf
  refine g_cSI (pc := 141) (k2 := k_X11_isDigit) (av := [.int a2]) (q := (v1, h)) rfl dX11_oneToken_141 ck_X11_isDigit m_1674 m_1675 (by decide) (by decide) rfl (by simp [rf_cat, rq_cat, ca_i, ca_l, ca_r]) (ct_X11_isDigit l X hcv1) ?_
  rcases it_some hf with ⟨c2, hf⟩ | ⟨c2, hf⟩
  · refine g_ifeq_t (pc := 144) (tgt := 226) dX11_oneToken_144 (by decide) c2 ?_
    refine g_iload_n (pc := 226) 2 dX11_oneToken_226 rfl rfl ?_
    obtain ⟨v3, hcv3, hf⟩ := bd_some hf
    refine g_cSI (pc := 227) (k2 := k_X11_isSmall) (av := [.int a2]) (q := (v3, h)) rfl dX11_oneToken_227 ck_X11_isSmall m_1684 m_1685 (by decide) (by decide) rfl (by simp [rf_cat, rq_cat, ca_i, ca_l, ca_r]) (ct_X11_isSmall l X hcv3) ?_
    rcases it_some hf with ⟨c4, hf⟩ | ⟨c4, hf⟩
    · refine g_ifeq_t (pc := 230) (tgt := 311) dX11_oneToken_230 (by decide) c4 ?_
      refine g_aload_n (pc := 311) 0 dX11_oneToken_311 rfl rfl ?_
      refine g_iload_n (pc := 312) 2 dX11_oneToken_312 rfl rfl ?_
      refine g_bipush (pc := 313) (v := (58 : Int32)) dX11_oneToken_313 (by decide) ?_
      rcases it_some hf with ⟨c5, hf⟩ | ⟨c5, hf⟩
      · refine g_iceq_t (pc := 315) (tgt := 348) dX11_oneToken_315 (by decide) c5 ?_
        refine g_sub [1, 3, 4] rfl ?_
        exact ok_X11_oneToken_L348 l X h a1 a3 a4 a0 q hf
      · refine g_iceq_f (pc := 315) (tgt := 348) dX11_oneToken_315 (by decide) c5 ?_
        refine g_iload_n (pc := 318) 2 dX11_oneToken_318 rfl rfl ?_
        refine g_bipush (pc := 319) (v := (59 : Int32)) dX11_oneToken_319 (by decide) ?_
        rcases it_some hf with ⟨c6, hf⟩ | ⟨c6, hf⟩
        · refine g_iceq_t (pc := 321) (tgt := 348) dX11_oneToken_321 (by decide) c6 ?_
          refine g_sub [1, 3, 4] rfl ?_
          exact ok_X11_oneToken_L348 l X h a1 a3 a4 a0 q hf
        · refine g_iceq_f (pc := 321) (tgt := 348) dX11_oneToken_321 (by decide) c6 ?_
          refine g_iload_n (pc := 324) 2 dX11_oneToken_324 rfl rfl ?_
          refine g_bipush (pc := 325) (v := (44 : Int32)) dX11_oneToken_325 (by decide) ?_
          rcases it_some hf with ⟨c7, hf⟩ | ⟨c7, hf⟩
          · refine g_iceq_t (pc := 327) (tgt := 348) dX11_oneToken_327 (by decide) c7 ?_
            refine g_sub [1, 3, 4] rfl ?_
            exact ok_X11_oneToken_L348 l X h a1 a3 a4 a0 q hf
          · refine g_iceq_f (pc := 327) (tgt := 348) dX11_oneToken_327 (by decide) c7 ?_
            refine g_iload_n (pc := 330) 2 dX11_oneToken_330 rfl rfl ?_
            refine g_bipush (pc := 331) (v := (40 : Int32)) dX11_oneToken_331 (by decide) ?_
            rcases it_some hf with ⟨c8, hf⟩ | ⟨c8, hf⟩
            · refine g_iceq_t (pc := 333) (tgt := 348) dX11_oneToken_333 (by decide) c8 ?_
              refine g_sub [1, 3, 4] rfl ?_
              exact ok_X11_oneToken_L348 l X h a1 a3 a4 a0 q hf
            · refine g_iceq_f (pc := 333) (tgt := 348) dX11_oneToken_333 (by decide) c8 ?_
              refine g_iload_n (pc := 336) 2 dX11_oneToken_336 rfl rfl ?_
              refine g_bipush (pc := 337) (v := (41 : Int32)) dX11_oneToken_337 (by decide) ?_
              rcases it_some hf with ⟨c9, hf⟩ | ⟨c9, hf⟩
              · refine g_iceq_t (pc := 339) (tgt := 348) dX11_oneToken_339 (by decide) c9 ?_
                refine g_sub [1, 3, 4] rfl ?_
                exact ok_X11_oneToken_L348 l X h a1 a3 a4 a0 q hf
              · refine g_iceq_f (pc := 339) (tgt := 348) dX11_oneToken_339 (by decide) c9 ?_
                refine g_iload_n (pc := 342) 2 dX11_oneToken_342 rfl rfl ?_
                refine g_bipush (pc := 343) (v := (45 : Int32)) dX11_oneToken_343 (by decide) ?_
                rcases it_some hf with ⟨c10, hf⟩ | ⟨c10, hf⟩
                · refine g_icne_t (pc := 345) (tgt := 352) dX11_oneToken_345 (by decide) c10 ?_
                  refine g_iconst (pc := 352) (v := (4 : Int32)) dX11_oneToken_352 (by decide) ?_
                  refine g_sub [1, 3, 4] rfl ?_
                  exact ok_X11_oneToken_L353 l X h a1 a3 a4 a0 (4 : Int32) q hf
                · refine g_icne_f (pc := 345) (tgt := 352) dX11_oneToken_345 (by decide) (Decidable.of_not_not c10) ?_
                  refine g_sub [1, 3, 4] rfl ?_
                  exact ok_X11_oneToken_L348 l X h a1 a3 a4 a0 q hf
    · refine g_ifeq_f (pc := 230) (tgt := 311) dX11_oneToken_230 (by decide) c4 ?_
      refine g_sub [0, 1, 3, 4] rfl ?_
      exact ok_X11_oneToken_L233 l X FU h a0 a1 a3 a4 q hf
  · refine g_ifeq_f (pc := 144) (tgt := 226) dX11_oneToken_144 (by decide) c2 ?_
    refine g_iload_n (pc := 147) 2 dX11_oneToken_147 rfl rfl ?_
    refine g_bipush (pc := 148) (v := (48 : Int32)) dX11_oneToken_148 (by decide) ?_
    refine g_isub (pc := 150) dX11_oneToken_150 ?_
    refine g_i2l (pc := 151) dX11_oneToken_151 ?_
    obtain ⟨x11, ex11, hf⟩ := lt_some hf
    refine g_lstore (pc := 152) (L' := [(4, .long x11), (0, rf X a0), (1, .int a1), (2, .int a2), (3, .int a3)]) dX11_oneToken_152 (by decide) ex11 rfl ?_
    refine g_sub [1, 2, 4, 0] rfl ?_
    exact ok_X11_oneToken_L154 l X FU h a0 a1 a3 x11 q hf
set_option maxRecDepth 100000 in
set_option maxHeartbeats 4000000 in
theorem ok_X11_oneToken_L131 (l : Launch) (X : Cx) (h : AH) (a1 : Int32) (a3 : Int32) (a4 : Int64) (s0 : Nat) (s1 : Int32) (q : Int32 × AH) (hf : f_X11_oneToken_L131 h a1 a3 a4 s0 s1 = some q) : Go l X k_X11_oneToken 131 [(1, .int a1), (3, .int a3), (4, .long a4)] [.int s1, rf X s0] h (rI q) := by
  unfold f_X11_oneToken_L131 at hf
  refine g_iload_n (pc := 131) 0 dX11_oneToken_131 rfl rfl ?_
  refine g_lload (pc := 132) 2 dX11_oneToken_132 rfl ?_
  obtain ⟨g1, hf⟩ := gs_some hf
  obtain ⟨q2, hcq2, hf⟩ := bd_some hf
  refine g_cVV (pc := 134) (k2 := k_X11_token) (av := [.int s1, .int a1, .long a4]) (q := q2) rfl dX11_oneToken_134 ck_X11_token m_1678 m_1680 m_61 (ci := 9) rfl (by decide) g1 (by decide) (by decide) rfl (by simp [rf_cat, rq_cat, ca_i, ca_l, ca_r]) (ct_X11_token l X hcq2) ?_
  refine g_goto (pc := 137) (tgt := 359) dX11_oneToken_137 (by decide) ?_
  refine g_sub [1] rfl ?_
  exact ok_X11_oneToken_L359 l X q2 a3 q hf
set_option maxRecDepth 100000 in
set_option maxHeartbeats 4000000 in
theorem ok_X11_oneToken_L126 (l : Launch) (X : Cx) (h : AH) (a1 : Int32) (a3 : Int32) (a4 : Int64) (s0 : Nat) (q : Int32 × AH) (hf : f_X11_oneToken_L126 h a1 a3 a4 s0 = some q) : Go l X k_X11_oneToken 126 [(1, .int a1), (3, .int a3), (4, .long a4)] [rf X s0] h (rI q) := by
  unfold f_X11_oneToken_L126 at hf
  refine g_iconst (pc := 126) (v := (4 : Int32)) dX11_oneToken_126 (by decide) ?_
  refine g_goto (pc := 127) (tgt := 131) dX11_oneToken_127 (by decide) ?_
  exact ok_X11_oneToken_L131 l X h a1 a3 a4 s0 (4 : Int32) q hf
set_option maxRecDepth 100000 in
set_option maxHeartbeats 4000000 in
theorem ok_X11_oneToken_L102 (l : Launch) (X : Cx) (k37 : AH → Nat → Int32 → Int32 → Int64 → Option (Int32 × AH)) (hk37 : ∀ (h : AH) (a0 : Nat) (a1 : Int32) (a3 : Int32) (a4 : Int64) (q : Int32 × AH), k37 h a0 a1 a3 a4 = some q → Go l X k_X11_oneToken 37 [(0, rf X a0), (1, .int a1), (3, .int a3), (4, .long a4)] [] h (rI q)) (h : AH) (a0 : Nat) (a1 : Int32) (a3 : Int32) (s0 : Int64) (q : Int32 × AH) (hf : f_X11_oneToken_L102 k37 h a0 a1 a3 s0 = some q) : Go l X k_X11_oneToken 102 [(0, rf X a0), (1, .int a1), (3, .int a3)] [.long s0] h (rI q) := by
  unfold f_X11_oneToken_L102 at hf
  refine g_lstore (pc := 102) (L' := [(4, .long s0), (0, rf X a0), (1, .int a1), (3, .int a3)]) dX11_oneToken_102 (by decide) rfl rfl ?_
  obtain ⟨x1, ex1, hf⟩ := lt_some hf
  refine g_iinc (pc := 104) (y := x1) (L' := [(3, .int x1), (4, .long s0), (0, rf X a0), (1, .int a1)]) 3 dX11_oneToken_104 rfl (by decide) (ex1.trans rfl) rfl ?_
  refine g_goto (pc := 107) (tgt := 37) dX11_oneToken_107 (by decide) ?_
  refine g_sub [2, 3, 0, 1] rfl ?_
  exact hk37 h a0 a1 x1 s0 q hf
set_option maxRecDepth 100000 in
set_option maxHeartbeats 4000000 in
theorem ok_X11_oneToken_L95 (l : Launch) (X : Cx) (k37 : AH → Nat → Int32 → Int32 → Int64 → Option (Int32 × AH)) (hk37 : ∀ (h : AH) (a0 : Nat) (a1 : Int32) (a3 : Int32) (a4 : Int64) (q : Int32 × AH), k37 h a0 a1 a3 a4 = some q → Go l X k_X11_oneToken 37 [(0, rf X a0), (1, .int a1), (3, .int a3), (4, .long a4)] [] h (rI q)) (h : AH) (a0 : Nat) (a1 : Int32) (a3 : Int32) (s0 : Int64) (s1 : Int32) (q : Int32 × AH) (hf : f_X11_oneToken_L95 k37 h a0 a1 a3 s0 s1 = some q) : Go l X k_X11_oneToken 95 [(0, rf X a0), (1, .int a1), (3, .int a3)] [.int s1, .long s0] h (rI q) := by
  unfold f_X11_oneToken_L95 at hf
  refine g_i2l (pc := 95) dX11_oneToken_95 ?_
  refine g_ladd (pc := 96) dX11_oneToken_96 ?_
  refine g_goto (pc := 97) (tgt := 102) dX11_oneToken_97 (by decide) ?_
  exact ok_X11_oneToken_L102 l X k37 hk37 h a0 a1 a3 (s0 + (s1.toInt64)) q hf
set_option maxRecDepth 100000 in
set_option maxHeartbeats 4000000 in
theorem ok_X11_oneToken_L37 (l : Launch) (X : Cx) : ∀ (n : Nat) (h : AH) (a0 : Nat) (a1 : Int32) (a3 : Int32) (a4 : Int64) (q : Int32 × AH), f_X11_oneToken_L37 n h a0 a1 a3 a4 = some q → Go l X k_X11_oneToken 37 [(0, rf X a0), (1, .int a1), (3, .int a3), (4, .long a4)] [] h (rI q) := by
  intro n
  induction n with
  | zero =>
    intro h a0 a1 a3 a4 q hf
    unfold f_X11_oneToken_L37 at hf
    cases hf
  | succ n ih =>
    intro h a0 a1 a3 a4 q hf
    unfold f_X11_oneToken_L37 at hf
    refine g_aload_n (pc := 37) 0 dX11_oneToken_37 rfl rfl ?_
    refine g_iload_n (pc := 38) 2 dX11_oneToken_38 rfl rfl ?_
    obtain ⟨g1, hf⟩ := gs_some hf
    obtain ⟨v2, hcv2, hf⟩ := bd_some hf
    refine g_cVI (pc := 39) (k2 := k_X11_see) (av := [.int a3]) (q := (v2, h)) rfl dX11_oneToken_39 ck_X11_see m_1667 m_1669 m_60 (ci := 9) rfl (by decide) g1 (by decide) (by decide) rfl (by simp [rf_cat, rq_cat, ca_i, ca_l, ca_r]) (ct_X11_see l X hcv2) ?_
    obtain ⟨v3, hcv3, hf⟩ := bd_some hf
    refine g_cSI (pc := 42) (k2 := k_X11_isHex) (av := [.int v2]) (q := (v3, h)) rfl dX11_oneToken_42 ck_X11_isHex m_1671 m_1672 (by decide) (by decide) rfl (by simp [rf_cat, rq_cat, ca_i, ca_l, ca_r]) (ct_X11_isHex l X hcv3) ?_
    rcases it_some hf with ⟨c4, hf⟩ | ⟨c4, hf⟩
    · refine g_ifeq_t (pc := 45) (tgt := 110) dX11_oneToken_45 (by decide) c4 ?_
      refine g_aload_n (pc := 110) 0 dX11_oneToken_110 rfl rfl ?_
      refine g_iload_n (pc := 111) 2 dX11_oneToken_111 rfl rfl ?_
      refine g_iload_n (pc := 112) 1 dX11_oneToken_112 rfl rfl ?_
      refine g_isub (pc := 113) dX11_oneToken_113 ?_
      refine g_iconst (pc := 114) (v := (3 : Int32)) dX11_oneToken_114 (by decide) ?_
      rcases it_some hf with ⟨c5, hf⟩ | ⟨c5, hf⟩
      · refine g_iclt_t (pc := 115) (tgt := 126) dX11_oneToken_115 (by decide) c5 ?_
        refine g_sub [1, 2, 3] rfl ?_
        exact ok_X11_oneToken_L126 l X h a1 a3 a4 a0 q hf
      · refine g_iclt_f (pc := 115) (tgt := 126) dX11_oneToken_115 (by decide) c5 ?_
        refine g_iload_n (pc := 118) 2 dX11_oneToken_118 rfl rfl ?_
        refine g_iload_n (pc := 119) 1 dX11_oneToken_119 rfl rfl ?_
        refine g_isub (pc := 120) dX11_oneToken_120 ?_
        refine g_bipush (pc := 121) (v := (10 : Int32)) dX11_oneToken_121 (by decide) ?_
        rcases it_some hf with ⟨c6, hf⟩ | ⟨c6, hf⟩
        · refine g_icle_t (pc := 123) (tgt := 130) dX11_oneToken_123 (by decide) c6 ?_
          refine g_iconst (pc := 130) (v := (2 : Int32)) dX11_oneToken_130 (by decide) ?_
          refine g_sub [1, 2, 3] rfl ?_
          exact ok_X11_oneToken_L131 l X h a1 a3 a4 a0 (2 : Int32) q hf
        · refine g_icle_f (pc := 123) (tgt := 130) dX11_oneToken_123 (by decide) c6 ?_
          refine g_sub [1, 2, 3] rfl ?_
          exact ok_X11_oneToken_L126 l X h a1 a3 a4 a0 q hf
    · refine g_ifeq_f (pc := 45) (tgt := 110) dX11_oneToken_45 (by decide) c4 ?_
      refine g_iload_n (pc := 48) 2 dX11_oneToken_48 rfl rfl ?_
      refine g_iload_n (pc := 49) 1 dX11_oneToken_49 rfl rfl ?_
      refine g_isub (pc := 50) dX11_oneToken_50 ?_
      refine g_bipush (pc := 51) (v := (10 : Int32)) dX11_oneToken_51 (by decide) ?_
      rcases it_some hf with ⟨c7, hf⟩ | ⟨c7, hf⟩
      · refine g_icge_t (pc := 53) (tgt := 100) dX11_oneToken_53 (by decide) c7 ?_
        refine g_lload (pc := 100) 3 dX11_oneToken_100 rfl ?_
        refine g_sub [0, 1, 2] rfl ?_
        exact ok_X11_oneToken_L102 l X (f_X11_oneToken_L37 n) ih h a0 a1 a3 a4 q hf
      · refine g_icge_f (pc := 53) (tgt := 100) dX11_oneToken_53 (by decide) c7 ?_
        refine g_ldc2 (pc := 56) (v := (16 : Int64)) m_1677 dX11_oneToken_56 ?_
        refine g_lload (pc := 59) 3 dX11_oneToken_59 rfl ?_
        refine g_lmul (pc := 61) dX11_oneToken_61 ?_
        refine g_aload_n (pc := 62) 0 dX11_oneToken_62 rfl rfl ?_
        refine g_iload_n (pc := 63) 2 dX11_oneToken_63 rfl rfl ?_
        obtain ⟨v8, hcv8, hf⟩ := bd_some hf
        refine g_cVI (pc := 64) (k2 := k_X11_see) (av := [.int a3]) (q := (v8, h)) rfl dX11_oneToken_64 ck_X11_see m_1667 m_1669 m_60 (ci := 9) rfl (by decide) g1 (by decide) (by decide) rfl (by simp [rf_cat, rq_cat, ca_i, ca_l, ca_r]) (ct_X11_see l X hcv8) ?_
        obtain ⟨v9, hcv9, hf⟩ := bd_some hf
        refine g_cSI (pc := 67) (k2 := k_X11_isDigit) (av := [.int v8]) (q := (v9, h)) rfl dX11_oneToken_67 ck_X11_isDigit m_1674 m_1675 (by decide) (by decide) rfl (by simp [rf_cat, rq_cat, ca_i, ca_l, ca_r]) (ct_X11_isDigit l X hcv9) ?_
        rcases it_some hf with ⟨c10, hf⟩ | ⟨c10, hf⟩
        · refine g_ifeq_t (pc := 70) (tgt := 84) dX11_oneToken_70 (by decide) c10 ?_
          refine g_aload_n (pc := 84) 0 dX11_oneToken_84 rfl rfl ?_
          refine g_iload_n (pc := 85) 2 dX11_oneToken_85 rfl rfl ?_
          obtain ⟨v11, hcv11, hf⟩ := bd_some hf
          refine g_cVI (pc := 86) (k2 := k_X11_see) (av := [.int a3]) (q := (v11, h)) rfl dX11_oneToken_86 ck_X11_see m_1667 m_1669 m_60 (ci := 9) rfl (by decide) g1 (by decide) (by decide) rfl (by simp [rf_cat, rq_cat, ca_i, ca_l, ca_r]) (ct_X11_see l X hcv11) ?_
          refine g_bipush (pc := 89) (v := (97 : Int32)) dX11_oneToken_89 (by decide) ?_
          refine g_isub (pc := 91) dX11_oneToken_91 ?_
          refine g_bipush (pc := 92) (v := (10 : Int32)) dX11_oneToken_92 (by decide) ?_
          refine g_iadd (pc := 94) dX11_oneToken_94 ?_
          refine g_sub [0, 1, 2] rfl ?_
          exact ok_X11_oneToken_L95 l X (f_X11_oneToken_L37 n) ih h a0 a1 a3 ((16 : Int64) * a4) ((v11 - (97 : Int32)) + (10 : Int32)) q hf
        · refine g_ifeq_f (pc := 70) (tgt := 84) dX11_oneToken_70 (by decide) c10 ?_
          refine g_aload_n (pc := 73) 0 dX11_oneToken_73 rfl rfl ?_
          refine g_iload_n (pc := 74) 2 dX11_oneToken_74 rfl rfl ?_
          obtain ⟨v12, hcv12, hf⟩ := bd_some hf
          refine g_cVI (pc := 75) (k2 := k_X11_see) (av := [.int a3]) (q := (v12, h)) rfl dX11_oneToken_75 ck_X11_see m_1667 m_1669 m_60 (ci := 9) rfl (by decide) g1 (by decide) (by decide) rfl (by simp [rf_cat, rq_cat, ca_i, ca_l, ca_r]) (ct_X11_see l X hcv12) ?_
          refine g_bipush (pc := 78) (v := (48 : Int32)) dX11_oneToken_78 (by decide) ?_
          refine g_isub (pc := 80) dX11_oneToken_80 ?_
          refine g_goto (pc := 81) (tgt := 95) dX11_oneToken_81 (by decide) ?_
          refine g_sub [0, 1, 2] rfl ?_
          exact ok_X11_oneToken_L95 l X (f_X11_oneToken_L37 n) ih h a0 a1 a3 ((16 : Int64) * a4) (v12 - (48 : Int32)) q hf
set_option maxRecDepth 100000 in
set_option maxHeartbeats 4000000 in
theorem ok_X11_oneToken (l : Launch) (X : Cx) {h : AH} {a0 : Nat} {a1 : Int32} {q : Int32 × AH} (hf : f_X11_oneToken h a0 a1 = some q) : Go l X k_X11_oneToken 0 [(0, rf X a0), (1, .int a1)] [] h (rI q) := by
  unfold f_X11_oneToken at hf
  refine g_aload_n (pc := 0) 0 dX11_oneToken_0 rfl rfl ?_
  obtain ⟨g1, hf⟩ := gs_some hf
  refine g_getR (pc := 1) fl_X11_7 dX11_oneToken_1 g1 ?_
  refine g_iload_n (pc := 4) 1 dX11_oneToken_4 rfl rfl ?_
  obtain ⟨g2, hf⟩ := gs_some hf
  obtain ⟨b3, hf⟩ := gb_some hf
  refine g_iald (pc := 5) g2 b3 dX11_oneToken_5 ?_
  obtain ⟨x4, ex4, hf⟩ := lt_some hf
  refine g_istore_n (pc := 6) (L' := [(2, .int x4), (0, rf X a0), (1, .int a1)]) dX11_oneToken_6 rfl (by decide) ex4 rfl ?_
  refine g_iload_n (pc := 7) 2 dX11_oneToken_7 rfl rfl ?_
  refine g_iconst (pc := 8) (v := (1 : Int32)) dX11_oneToken_8 (by decide) ?_
  refine g_iadd (pc := 9) dX11_oneToken_9 ?_
  obtain ⟨x5, ex5, hf⟩ := lt_some hf
  refine g_istore_n (pc := 10) (L' := [(3, .int x5), (2, .int x4), (0, rf X a0), (1, .int a1)]) dX11_oneToken_10 rfl (by decide) ex5 rfl ?_
  refine g_iload_n (pc := 11) 1 dX11_oneToken_11 rfl rfl ?_
  refine g_i2l (pc := 12) dX11_oneToken_12 ?_
  obtain ⟨x6, ex6, hf⟩ := lt_some hf
  refine g_lstore (pc := 13) (L' := [(4, .long x6), (3, .int x5), (2, .int x4), (0, rf X a0), (1, .int a1)]) dX11_oneToken_13 (by decide) ex6 rfl ?_
  refine g_iload_n (pc := 15) 2 dX11_oneToken_15 rfl rfl ?_
  refine g_bipush (pc := 16) (v := (48 : Int32)) dX11_oneToken_16 (by decide) ?_
  rcases it_some hf with ⟨c7, hf⟩ | ⟨c7, hf⟩
  · refine g_icne_t (pc := 18) (tgt := 140) dX11_oneToken_18 (by decide) c7 ?_
    refine g_sub [3, 4, 2, 1, 0] rfl ?_
    exact ok_X11_oneToken_L140 l X h a0 a1 x4 x5 x6 q hf
  · refine g_icne_f (pc := 18) (tgt := 140) dX11_oneToken_18 (by decide) (Decidable.of_not_not c7) ?_
    refine g_aload_n (pc := 21) 3 dX11_oneToken_21 rfl rfl ?_
    refine g_iload_n (pc := 22) 1 dX11_oneToken_22 rfl rfl ?_
    obtain ⟨v8, hcv8, hf⟩ := bd_some hf
    refine g_cVI (pc := 23) (k2 := k_X11_see) (av := [.int x5]) (q := (v8, h)) rfl dX11_oneToken_23 ck_X11_see m_1667 m_1669 m_60 (ci := 9) rfl (by decide) g1 (by decide) (by decide) rfl (by simp [rf_cat, rq_cat, ca_i, ca_l, ca_r]) (ct_X11_see l X hcv8) ?_
    refine g_bipush (pc := 26) (v := (120 : Int32)) dX11_oneToken_26 (by decide) ?_
    rcases it_some hf with ⟨c9, hf⟩ | ⟨c9, hf⟩
    · refine g_icne_t (pc := 28) (tgt := 140) dX11_oneToken_28 (by decide) c9 ?_
      refine g_sub [3, 4, 2, 1, 0] rfl ?_
      exact ok_X11_oneToken_L140 l X h a0 a1 x4 x5 x6 q hf
    · refine g_icne_f (pc := 28) (tgt := 140) dX11_oneToken_28 (by decide) (Decidable.of_not_not c9) ?_
      obtain ⟨x10, ex10, hf⟩ := lt_some hf
      refine g_iinc (pc := 31) (y := x10) (L' := [(3, .int x10), (4, .long x6), (2, .int x4), (0, rf X a0), (1, .int a1)]) 1 dX11_oneToken_31 rfl (by decide) (ex10.trans rfl) rfl ?_
      refine g_lconst (pc := 34) (v := (0 : Int64)) dX11_oneToken_34 (by decide) ?_
      obtain ⟨x11, ex11, hf⟩ := lt_some hf
      refine g_lstore (pc := 35) (L' := [(4, .long x11), (3, .int x10), (2, .int x4), (0, rf X a0), (1, .int a1)]) dX11_oneToken_35 (by decide) ex11 rfl ?_
      refine g_sub [3, 4, 1, 0] rfl ?_
      exact ok_X11_oneToken_L37 l X FU h a0 a1 x10 x11 q hf
theorem ct_X11_oneToken (l : Launch) (X : Cx) {h : AH} {a0 : Nat} {a1 : Int32} {q : Int32 × AH} (hf : f_X11_oneToken h a0 a1 = some q) : Ct l X k_X11_oneToken [rf X a0, .int a1] h (rI q) := ct_of ck_X11_oneToken (by simp [lg_sl, rf_cat, rq_cat, ca_i, ca_l, ca_r]) (by simp [lv_args, rf_cat, rq_cat, ca_i, ca_l, ca_r]) (ok_X11_oneToken l X hf)
set_option maxRecDepth 100000 in
set_option maxHeartbeats 4000000 in
theorem ok_X11_tokenize_L68 (l : Launch) (X : Cx) (h : AH) (a0 : Nat) (q : AH) (hf : f_X11_tokenize_L68 h a0 = some q) : Go l X k_X11_tokenize 68 [(0, rf X a0)] [] h (rV q) := by
  unfold f_X11_tokenize_L68 at hf
  refine g_aload_n (pc := 68) 0 dX11_tokenize_68 rfl rfl ?_
  refine g_iconst (pc := 69) (v := (0 : Int32)) dX11_tokenize_69 (by decide) ?_
  refine g_aload_n (pc := 70) 0 dX11_tokenize_70 rfl rfl ?_
  obtain ⟨g1, hf⟩ := gs_some hf
  refine g_getI (pc := 71) fl_X11_337 dX11_tokenize_71 g1 ?_
  refine g_lconst (pc := 74) (v := (0 : Int64)) dX11_tokenize_74 (by decide) ?_
  obtain ⟨q2, hcq2, hf⟩ := bd_some hf
  refine g_cVV (pc := 75) (k2 := k_X11_token) (av := [.int (0 : Int32), .int (hI h a0 2), .long (0 : Int64)]) (q := q2) rfl dX11_tokenize_75 ck_X11_token m_1678 m_1680 m_61 (ci := 9) rfl (by decide) g1 (by decide) (by decide) rfl (by simp [rf_cat, rq_cat, ca_i, ca_l, ca_r]) (ct_X11_token l X hcq2) ?_
  obtain rfl := Option.some.inj hf
  exact g_vret (pc := 78) rfl dX11_tokenize_78
set_option maxRecDepth 100000 in
set_option maxHeartbeats 4000000 in
theorem ok_X11_tokenize_L64 (l : Launch) (X : Cx) (k9 : AH → Nat → Int32 → Int32 → Option (AH)) (hk9 : ∀ (h : AH) (a0 : Nat) (a1 : Int32) (a2 : Int32) (q : AH), k9 h a0 a1 a2 = some q → Go l X k_X11_tokenize 9 [(0, rf X a0), (1, .int a1), (2, .int a2)] [] h (rV q)) (h : AH) (a0 : Nat) (a1 : Int32) (s0 : Int32) (q : AH) (hf : f_X11_tokenize_L64 k9 h a0 a1 s0 = some q) : Go l X k_X11_tokenize 64 [(0, rf X a0), (1, .int a1)] [.int s0] h (rV q) := by
  unfold f_X11_tokenize_L64 at hf
  refine g_istore_n (pc := 64) (L' := [(2, .int s0), (0, rf X a0), (1, .int a1)]) dX11_tokenize_64 rfl (by decide) rfl rfl ?_
  refine g_goto (pc := 65) (tgt := 9) dX11_tokenize_65 (by decide) ?_
  refine g_sub [1, 2, 0] rfl ?_
  exact hk9 h a0 a1 s0 q hf
set_option maxRecDepth 100000 in
set_option maxHeartbeats 4000000 in
theorem ok_X11_tokenize_L9 (l : Launch) (X : Cx) : ∀ (n : Nat) (h : AH) (a0 : Nat) (a1 : Int32) (a2 : Int32) (q : AH), f_X11_tokenize_L9 n h a0 a1 a2 = some q → Go l X k_X11_tokenize 9 [(0, rf X a0), (1, .int a1), (2, .int a2)] [] h (rV q) := by
  intro n
  induction n with
  | zero =>
    intro h a0 a1 a2 q hf
    unfold f_X11_tokenize_L9 at hf
    cases hf
  | succ n ih =>
    intro h a0 a1 a2 q hf
    unfold f_X11_tokenize_L9 at hf
    refine g_iload_n (pc := 9) 2 dX11_tokenize_9 rfl rfl ?_
    rcases it_some hf with ⟨c1, hf⟩ | ⟨c1, hf⟩
    · refine g_ifeq_t (pc := 10) (tgt := 68) dX11_tokenize_10 (by decide) c1 ?_
      refine g_sub [0] rfl ?_
      exact ok_X11_tokenize_L68 l X h a0 q hf
    · refine g_ifeq_f (pc := 10) (tgt := 68) dX11_tokenize_10 (by decide) c1 ?_
      refine g_iload_n (pc := 13) 1 dX11_tokenize_13 rfl rfl ?_
      refine g_aload_n (pc := 14) 0 dX11_tokenize_14 rfl rfl ?_
      obtain ⟨g2, hf⟩ := gs_some hf
      refine g_getI (pc := 15) fl_X11_337 dX11_tokenize_15 g2 ?_
      rcases it_some hf with ⟨c3, hf⟩ | ⟨c3, hf⟩
      · refine g_icge_t (pc := 18) (tgt := 68) dX11_tokenize_18 (by decide) c3 ?_
        refine g_sub [0] rfl ?_
        exact ok_X11_tokenize_L68 l X h a0 q hf
      · refine g_icge_f (pc := 18) (tgt := 68) dX11_tokenize_18 (by decide) c3 ?_
        refine g_aload_n (pc := 21) 0 dX11_tokenize_21 rfl rfl ?_
        refine g_getR (pc := 22) fl_X11_7 dX11_tokenize_22 g2 ?_
        refine g_iload_n (pc := 25) 1 dX11_tokenize_25 rfl rfl ?_
        obtain ⟨g4, hf⟩ := gs_some hf
        obtain ⟨b5, hf⟩ := gb_some hf
        refine g_iald (pc := 26) g4 b5 dX11_tokenize_26 ?_
        refine g_bipush (pc := 27) (v := (32 : Int32)) dX11_tokenize_27 (by decide) ?_
        rcases it_some hf with ⟨c6, hf⟩ | ⟨c6, hf⟩
        · refine g_icne_t (pc := 29) (tgt := 38) dX11_tokenize_29 (by decide) c6 ?_
          refine g_aload_n (pc := 38) 0 dX11_tokenize_38 rfl rfl ?_
          refine g_iload_n (pc := 39) 1 dX11_tokenize_39 rfl rfl ?_
          obtain ⟨q7, hcq7, hf⟩ := bd_some hf
          refine g_cVI (pc := 40) (k2 := k_X11_oneToken) (av := [.int a1]) (q := q7) rfl dX11_tokenize_40 ck_X11_oneToken m_1663 m_1665 m_59 (ci := 9) rfl (by decide) g2 (by decide) (by decide) rfl (by simp [rf_cat, rq_cat, ca_i, ca_l, ca_r]) (ct_X11_oneToken l X hcq7) ?_
          obtain ⟨x8, ex8, hf⟩ := lt_some hf
          refine g_istore_n (pc := 43) (L' := [(1, .int x8), (0, rf X a0), (2, .int a2)]) dX11_tokenize_43 rfl (by decide) ex8 (by simp [rf_cat, rq_cat]) ?_
          refine g_aload_n (pc := 44) 1 dX11_tokenize_44 rfl rfl ?_
          obtain ⟨g9, hf⟩ := gs_some hf
          refine g_getR (pc := 45) fl_X11_13 dX11_tokenize_45 g9 ?_
          refine g_aload_n (pc := 48) 1 dX11_tokenize_48 rfl rfl ?_
          refine g_getI (pc := 49) fl_X11_346 dX11_tokenize_49 g9 ?_
          refine g_iconst (pc := 52) (v := (1 : Int32)) dX11_tokenize_52 (by decide) ?_
          refine g_isub (pc := 53) dX11_tokenize_53 ?_
          obtain ⟨g10, hf⟩ := gs_some hf
          obtain ⟨b11, hf⟩ := gb_some hf
          refine g_iald (pc := 54) g10 b11 dX11_tokenize_54 ?_
          refine g_iconst (pc := 55) (v := (4 : Int32)) dX11_tokenize_55 (by decide) ?_
          rcases it_some hf with ⟨c12, hf⟩ | ⟨c12, hf⟩
          · refine g_iceq_t (pc := 56) (tgt := 63) dX11_tokenize_56 (by decide) c12 ?_
            refine g_iconst (pc := 63) (v := (0 : Int32)) dX11_tokenize_63 (by decide) ?_
            refine g_sub [1, 0] rfl ?_
            exact ok_X11_tokenize_L64 l X (f_X11_tokenize_L9 n) ih q7.2 a0 x8 (0 : Int32) q hf
          · refine g_iceq_f (pc := 56) (tgt := 63) dX11_tokenize_56 (by decide) c12 ?_
            refine g_iconst (pc := 59) (v := (1 : Int32)) dX11_tokenize_59 (by decide) ?_
            refine g_goto (pc := 60) (tgt := 64) dX11_tokenize_60 (by decide) ?_
            refine g_sub [1, 0] rfl ?_
            exact ok_X11_tokenize_L64 l X (f_X11_tokenize_L9 n) ih q7.2 a0 x8 (1 : Int32) q hf
        · refine g_icne_f (pc := 29) (tgt := 38) dX11_tokenize_29 (by decide) (Decidable.of_not_not c6) ?_
          obtain ⟨x13, ex13, hf⟩ := lt_some hf
          refine g_iinc (pc := 32) (y := x13) (L' := [(1, .int x13), (0, rf X a0), (2, .int a2)]) 1 dX11_tokenize_32 rfl (by decide) (ex13.trans rfl) (by simp [rf_cat, rq_cat]) ?_
          refine g_goto (pc := 35) (tgt := 9) dX11_tokenize_35 (by decide) ?_
          refine g_sub [1, 0, 2] rfl ?_
          exact ih h a0 x13 a2 q hf
set_option maxRecDepth 100000 in
set_option maxHeartbeats 4000000 in
theorem ok_X11_tokenize (l : Launch) (X : Cx) {h : AH} {a0 : Nat} {q : AH} (hf : f_X11_tokenize h a0 = some q) : Go l X k_X11_tokenize 0 [(0, rf X a0)] [] h (rV q) := by
  unfold f_X11_tokenize at hf
  refine g_aload_n (pc := 0) 0 dX11_tokenize_0 rfl rfl ?_
  refine g_iconst (pc := 1) (v := (0 : Int32)) dX11_tokenize_1 (by decide) ?_
  obtain ⟨g1, hf⟩ := gs_some hf
  obtain ⟨h2, eh2, hf⟩ := lt_some hf
  refine g_putI (pc := 2) fl_X11_346 dX11_tokenize_2 g1 eh2 ?_
  refine g_iconst (pc := 5) (v := (0 : Int32)) dX11_tokenize_5 (by decide) ?_
  obtain ⟨x3, ex3, hf⟩ := lt_some hf
  refine g_istore_n (pc := 6) (L' := [(1, .int x3), (0, rf X a0)]) dX11_tokenize_6 rfl (by decide) ex3 (by simp [rf_cat, rq_cat]) ?_
  refine g_iconst (pc := 7) (v := (1 : Int32)) dX11_tokenize_7 (by decide) ?_
  obtain ⟨x4, ex4, hf⟩ := lt_some hf
  refine g_istore_n (pc := 8) (L' := [(2, .int x4), (1, .int x3), (0, rf X a0)]) dX11_tokenize_8 rfl (by decide) ex4 rfl ?_
  refine g_sub [2, 1, 0] rfl ?_
  exact ok_X11_tokenize_L9 l X FU h2 a0 x3 x4 q hf
theorem ct_X11_tokenize (l : Launch) (X : Cx) {h : AH} {a0 : Nat} {q : AH} (hf : f_X11_tokenize h a0 = some q) : Ct l X k_X11_tokenize [rf X a0] h (rV q) := ct_of ck_X11_tokenize (by simp [lg_sl, rf_cat, rq_cat, ca_i, ca_l, ca_r]) (by simp [lv_args, rf_cat, rq_cat, ca_i, ca_l, ca_r]) (ok_X11_tokenize l X hf)
set_option maxRecDepth 100000 in
set_option maxHeartbeats 4000000 in
theorem ok_X11_note_L79 (l : Launch) (X : Cx) (h : AH) (s0 : Nat) (s1 : Int32) (q : AH) (hf : f_X11_note_L79 h s0 s1 = some q) : Go l X k_X11_note 79 [] [.int s1, rf X s0] h (rV q) := by
  unfold f_X11_note_L79 at hf
  obtain ⟨g1, hf⟩ := gs_some hf
  obtain ⟨h2, eh2, hf⟩ := lt_some hf
  refine g_putI (pc := 79) fl_X11_375 dX11_note_79 g1 eh2 ?_
  obtain rfl := Option.some.inj hf
  exact g_vret (pc := 82) rfl dX11_note_82
set_option maxRecDepth 100000 in
set_option maxHeartbeats 4000000 in
theorem ok_X11_note_L63 (l : Launch) (X : Cx) (h : AH) (a0 : Nat) (a2 : Int32) (a3 : Int32) (s0 : Nat) (s1 : Int32) (q : AH) (hf : f_X11_note_L63 h a0 a2 a3 s0 s1 = some q) : Go l X k_X11_note 63 [(0, rf X a0), (2, .int a2), (3, .int a3)] [.int s1, rf X s0] h (rV q) := by
  unfold f_X11_note_L63 at hf
  obtain ⟨g1, hf⟩ := gs_some hf
  obtain ⟨h2, eh2, hf⟩ := lt_some hf
  refine g_putI (pc := 63) fl_X11_372 dX11_note_63 g1 eh2 ?_
  refine g_aload_n (pc := 66) 0 dX11_note_66 rfl rfl ?_
  refine g_iload_n (pc := 67) 2 dX11_note_67 rfl rfl ?_
  rcases it_some hf with ⟨c3, hf⟩ | ⟨c3, hf⟩
  · refine g_ifeq_t (pc := 68) (tgt := 75) dX11_note_68 (by decide) c3 ?_
    refine g_aload_n (pc := 75) 0 dX11_note_75 rfl rfl ?_
    obtain ⟨g4, hf⟩ := gs_some hf
    refine g_getI (pc := 76) fl_X11_375 dX11_note_76 g4 ?_
    refine g_sub [] rfl ?_
    exact ok_X11_note_L79 l X h2 a0 (hI h2 a0 4) q hf
  · refine g_ifeq_f (pc := 68) (tgt := 75) dX11_note_68 (by decide) c3 ?_
    refine g_iload_n (pc := 71) 1 dX11_note_71 rfl rfl ?_
    refine g_goto (pc := 72) (tgt := 79) dX11_note_72 (by decide) ?_
    refine g_sub [] rfl ?_
    exact ok_X11_note_L79 l X h2 a0 a2 q hf
set_option maxRecDepth 100000 in
set_option maxHeartbeats 4000000 in
theorem ok_X11_note_L49 (l : Launch) (X : Cx) (h : AH) (a0 : Nat) (a1 : Int32) (a2 : Int32) (s0 : Int32) (q : AH) (hf : f_X11_note_L49 h a0 a1 a2 s0 = some q) : Go l X k_X11_note 49 [(0, rf X a0), (1, .int a1), (2, .int a2)] [.int s0] h (rV q) := by
  unfold f_X11_note_L49 at hf
  refine g_istore_n (pc := 49) (L' := [(3, .int s0), (0, rf X a0), (1, .int a1), (2, .int a2)]) dX11_note_49 rfl (by decide) rfl rfl ?_
  refine g_aload_n (pc := 50) 1 dX11_note_50 rfl rfl ?_
  refine g_iload_n (pc := 51) 0 dX11_note_51 rfl rfl ?_
  rcases it_some hf with ⟨c1, hf⟩ | ⟨c1, hf⟩
  · refine g_ifeq_t (pc := 52) (tgt := 59) dX11_note_52 (by decide) c1 ?_
    refine g_aload_n (pc := 59) 1 dX11_note_59 rfl rfl ?_
    obtain ⟨g2, hf⟩ := gs_some hf
    refine g_getI (pc := 60) fl_X11_372 dX11_note_60 g2 ?_
    refine g_sub [1, 3, 0] rfl ?_
    exact ok_X11_note_L63 l X h a0 a2 s0 a0 (hI h a0 3) q hf
  · refine g_ifeq_f (pc := 52) (tgt := 59) dX11_note_52 (by decide) c1 ?_
    refine g_iload_n (pc := 55) 2 dX11_note_55 rfl rfl ?_
    refine g_goto (pc := 56) (tgt := 63) dX11_note_56 (by decide) ?_
    refine g_sub [1, 3, 0] rfl ?_
    exact ok_X11_note_L63 l X h a0 a2 s0 a0 a1 q hf
set_option maxRecDepth 100000 in
set_option maxHeartbeats 4000000 in
theorem ok_X11_note_L44 (l : Launch) (X : Cx) (h : AH) (a0 : Nat) (a1 : Int32) (a2 : Int32) (q : AH) (hf : f_X11_note_L44 h a0 a1 a2 = some q) : Go l X k_X11_note 44 [(0, rf X a0), (1, .int a1), (2, .int a2)] [] h (rV q) := by
  unfold f_X11_note_L44 at hf
  refine g_iconst (pc := 44) (v := (1 : Int32)) dX11_note_44 (by decide) ?_
  refine g_goto (pc := 45) (tgt := 49) dX11_note_45 (by decide) ?_
  exact ok_X11_note_L49 l X h a0 a1 a2 (1 : Int32) q hf
set_option maxRecDepth 100000 in
set_option maxHeartbeats 4000000 in
theorem ok_X11_note_L48 (l : Launch) (X : Cx) (h : AH) (a0 : Nat) (a1 : Int32) (a2 : Int32) (q : AH) (hf : f_X11_note_L48 h a0 a1 a2 = some q) : Go l X k_X11_note 48 [(0, rf X a0), (1, .int a1), (2, .int a2)] [] h (rV q) := by
  unfold f_X11_note_L48 at hf
  refine g_iconst (pc := 48) (v := (0 : Int32)) dX11_note_48 (by decide) ?_
  exact ok_X11_note_L49 l X h a0 a1 a2 (0 : Int32) q hf
set_option maxRecDepth 100000 in
set_option maxHeartbeats 4000000 in
theorem ok_X11_note (l : Launch) (X : Cx) {h : AH} {a0 : Nat} {a1 : Int32} {a2 : Int32} {q : AH} (hf : f_X11_note h a0 a1 a2 = some q) : Go l X k_X11_note 0 [(0, rf X a0), (1, .int a1), (2, .int a2)] [] h (rV q) := by
  unfold f_X11_note at hf
  refine g_aload_n (pc := 0) 0 dX11_note_0 rfl rfl ?_
  obtain ⟨g1, hf⟩ := gs_some hf
  refine g_getI (pc := 1) fl_X11_372 dX11_note_1 g1 ?_
  rcases it_some hf with ⟨c2, hf⟩ | ⟨c2, hf⟩
  · refine g_ifeq_t (pc := 4) (tgt := 44) dX11_note_4 (by decide) c2 ?_
    exact ok_X11_note_L44 l X h a0 a1 a2 q hf
  · refine g_ifeq_f (pc := 4) (tgt := 44) dX11_note_4 (by decide) c2 ?_
    refine g_iload_n (pc := 7) 1 dX11_note_7 rfl rfl ?_
    refine g_iconst (pc := 8) (v := (1 : Int32)) dX11_note_8 (by decide) ?_
    rcases it_some hf with ⟨c3, hf⟩ | ⟨c3, hf⟩
    · refine g_iceq_t (pc := 9) (tgt := 44) dX11_note_9 (by decide) c3 ?_
      exact ok_X11_note_L44 l X h a0 a1 a2 q hf
    · refine g_iceq_f (pc := 9) (tgt := 44) dX11_note_9 (by decide) c3 ?_
      refine g_aload_n (pc := 12) 0 dX11_note_12 rfl rfl ?_
      refine g_getI (pc := 13) fl_X11_372 dX11_note_13 g1 ?_
      refine g_iconst (pc := 16) (v := (1 : Int32)) dX11_note_16 (by decide) ?_
      rcases it_some hf with ⟨c4, hf⟩ | ⟨c4, hf⟩
      · refine g_iceq_t (pc := 17) (tgt := 48) dX11_note_17 (by decide) c4 ?_
        exact ok_X11_note_L48 l X h a0 a1 a2 q hf
      · refine g_iceq_f (pc := 17) (tgt := 48) dX11_note_17 (by decide) c4 ?_
        refine g_iload_n (pc := 20) 2 dX11_note_20 rfl rfl ?_
        refine g_aload_n (pc := 21) 0 dX11_note_21 rfl rfl ?_
        refine g_getI (pc := 22) fl_X11_375 dX11_note_22 g1 ?_
        rcases it_some hf with ⟨c5, hf⟩ | ⟨c5, hf⟩
        · refine g_iclt_t (pc := 25) (tgt := 44) dX11_note_25 (by decide) c5 ?_
          exact ok_X11_note_L44 l X h a0 a1 a2 q hf
        · refine g_iclt_f (pc := 25) (tgt := 44) dX11_note_25 (by decide) c5 ?_
          refine g_iload_n (pc := 28) 2 dX11_note_28 rfl rfl ?_
          refine g_aload_n (pc := 29) 0 dX11_note_29 rfl rfl ?_
          refine g_getI (pc := 30) fl_X11_375 dX11_note_30 g1 ?_
          rcases it_some hf with ⟨c6, hf⟩ | ⟨c6, hf⟩
          · refine g_icne_t (pc := 33) (tgt := 48) dX11_note_33 (by decide) c6 ?_
            exact ok_X11_note_L48 l X h a0 a1 a2 q hf
          · refine g_icne_f (pc := 33) (tgt := 48) dX11_note_33 (by decide) (Decidable.of_not_not c6) ?_
            refine g_iload_n (pc := 36) 1 dX11_note_36 rfl rfl ?_
            refine g_aload_n (pc := 37) 0 dX11_note_37 rfl rfl ?_
            refine g_getI (pc := 38) fl_X11_372 dX11_note_38 g1 ?_
            rcases it_some hf with ⟨c7, hf⟩ | ⟨c7, hf⟩
            · refine g_icge_t (pc := 41) (tgt := 48) dX11_note_41 (by decide) c7 ?_
              exact ok_X11_note_L48 l X h a0 a1 a2 q hf
            · refine g_icge_f (pc := 41) (tgt := 48) dX11_note_41 (by decide) c7 ?_
              exact ok_X11_note_L44 l X h a0 a1 a2 q hf
theorem ct_X11_note (l : Launch) (X : Cx) {h : AH} {a0 : Nat} {a1 : Int32} {a2 : Int32} {q : AH} (hf : f_X11_note h a0 a1 a2 = some q) : Ct l X k_X11_note [rf X a0, .int a1, .int a2] h (rV q) := ct_of ck_X11_note (by simp [lg_sl, rf_cat, rq_cat, ca_i, ca_l, ca_r]) (by simp [lv_args, rf_cat, rq_cat, ca_i, ca_l, ca_r]) (ok_X11_note l X hf)
set_option maxRecDepth 100000 in
set_option maxHeartbeats 4000000 in
theorem ok_X11_refuse (l : Launch) (X : Cx) {h : AH} {a0 : Nat} {q : Int32 × AH} (hf : f_X11_refuse h a0 = some q) : Go l X k_X11_refuse 0 [(0, rf X a0)] [] h (rI q) := by
  unfold f_X11_refuse at hf
  refine g_aload_n (pc := 0) 0 dX11_refuse_0 rfl rfl ?_
  refine g_iconst (pc := 1) (v := (1 : Int32)) dX11_refuse_1 (by decide) ?_
  refine g_aload_n (pc := 2) 0 dX11_refuse_2 rfl rfl ?_
  obtain ⟨g1, hf⟩ := gs_some hf
  refine g_getR (pc := 3) fl_X11_16 dX11_refuse_3 g1 ?_
  refine g_aload_n (pc := 6) 0 dX11_refuse_6 rfl rfl ?_
  refine g_getI (pc := 7) fl_X11_378 dX11_refuse_7 g1 ?_
  obtain ⟨g2, hf⟩ := gs_some hf
  obtain ⟨b3, hf⟩ := gb_some hf
  refine g_iald (pc := 10) g2 b3 dX11_refuse_10 ?_
  obtain ⟨q4, hcq4, hf⟩ := bd_some hf
  refine g_cVV (pc := 11) (k2 := k_X11_note) (av := [.int (1 : Int32), .int (hI h (hR h a0 7) (hI h a0 9).toNatClampNeg)]) (q := q4) rfl dX11_refuse_11 ck_X11_note m_1692 m_1694 m_63 (ci := 9) rfl (by decide) g1 (by decide) (by decide) rfl (by simp [rf_cat, rq_cat, ca_i, ca_l, ca_r]) (ct_X11_note l X hcq4) ?_
  refine g_iconst (pc := 14) (v := (0 : Int32)) dX11_refuse_14 (by decide) ?_
  obtain rfl := Option.some.inj hf
  exact g_zret (pc := 15) rfl rfl dX11_refuse_15
theorem ct_X11_refuse (l : Launch) (X : Cx) {h : AH} {a0 : Nat} {q : Int32 × AH} (hf : f_X11_refuse h a0 = some q) : Ct l X k_X11_refuse [rf X a0] h (rI q) := ct_of ck_X11_refuse (by simp [lg_sl, rf_cat, rq_cat, ca_i, ca_l, ca_r]) (by simp [lv_args, rf_cat, rq_cat, ca_i, ca_l, ca_r]) (ok_X11_refuse l X hf)
set_option maxRecDepth 100000 in
set_option maxHeartbeats 4000000 in
theorem ok_X11_isSign (l : Launch) (X : Cx) {h : AH} {a0 : Nat} {a1 : Int32} {q : Int32} (hf : f_X11_isSign h a0 a1 = some q) : Go l X k_X11_isSign 0 [(0, rf X a0), (1, .int a1)] [] h (rI (q, h)) := by
  unfold f_X11_isSign at hf
  refine g_aload_n (pc := 0) 0 dX11_isSign_0 rfl rfl ?_
  obtain ⟨g1, hf⟩ := gs_some hf
  refine g_getR (pc := 1) fl_X11_13 dX11_isSign_1 g1 ?_
  refine g_aload_n (pc := 4) 0 dX11_isSign_4 rfl rfl ?_
  refine g_getI (pc := 5) fl_X11_378 dX11_isSign_5 g1 ?_
  obtain ⟨g2, hf⟩ := gs_some hf
  obtain ⟨b3, hf⟩ := gb_some hf
  refine g_iald (pc := 8) g2 b3 dX11_isSign_8 ?_
  refine g_iconst (pc := 9) (v := (3 : Int32)) dX11_isSign_9 (by decide) ?_
  rcases it_some hf with ⟨c4, hf⟩ | ⟨c4, hf⟩
  · refine g_icne_t (pc := 10) (tgt := 32) dX11_isSign_10 (by decide) c4 ?_
    refine g_iconst (pc := 32) (v := (0 : Int32)) dX11_isSign_32 (by decide) ?_
    obtain rfl := Option.some.inj hf
    exact g_zret (pc := 33) rfl rfl dX11_isSign_33
  · refine g_icne_f (pc := 10) (tgt := 32) dX11_isSign_10 (by decide) (Decidable.of_not_not c4) ?_
    refine g_aload_n (pc := 13) 0 dX11_isSign_13 rfl rfl ?_
    refine g_getR (pc := 14) fl_X11_19 dX11_isSign_14 g1 ?_
    refine g_aload_n (pc := 17) 0 dX11_isSign_17 rfl rfl ?_
    refine g_getI (pc := 18) fl_X11_378 dX11_isSign_18 g1 ?_
    obtain ⟨g5, hf⟩ := gs_some hf
    obtain ⟨b6, hf⟩ := gb_some hf
    refine g_lald (pc := 21) g5 b6 dX11_isSign_21 ?_
    refine g_iload_n (pc := 22) 1 dX11_isSign_22 rfl rfl ?_
    refine g_i2l (pc := 23) dX11_isSign_23 ?_
    refine g_lcmp (pc := 24) dX11_isSign_24 ?_
    rcases it_some hf with ⟨c7, hf⟩ | ⟨c7, hf⟩
    · refine g_ifne_t (pc := 25) (tgt := 32) dX11_isSign_25 (by decide) c7 ?_
      refine g_iconst (pc := 32) (v := (0 : Int32)) dX11_isSign_32 (by decide) ?_
      obtain rfl := Option.some.inj hf
      exact g_zret (pc := 33) rfl rfl dX11_isSign_33
    · refine g_ifne_f (pc := 25) (tgt := 32) dX11_isSign_25 (by decide) (Decidable.of_not_not c7) ?_
      refine g_iconst (pc := 28) (v := (1 : Int32)) dX11_isSign_28 (by decide) ?_
      refine g_goto (pc := 29) (tgt := 33) dX11_isSign_29 (by decide) ?_
      obtain rfl := Option.some.inj hf
      exact g_zret (pc := 33) rfl rfl dX11_isSign_33
theorem ct_X11_isSign (l : Launch) (X : Cx) {h : AH} {a0 : Nat} {a1 : Int32} {q : Int32} (hf : f_X11_isSign h a0 a1 = some q) : Ct l X k_X11_isSign [rf X a0, .int a1] h (rI (q, h)) := ct_of ck_X11_isSign (by simp [lg_sl, rf_cat, rq_cat, ca_i, ca_l, ca_r]) (by simp [lv_args, rf_cat, rq_cat, ca_i, ca_l, ca_r]) (ok_X11_isSign l X hf)
set_option maxRecDepth 100000 in
set_option maxHeartbeats 4000000 in
theorem ok_X11_wantSign (l : Launch) (X : Cx) {h : AH} {a0 : Nat} {a1 : Int32} {q : Int32 × AH} (hf : f_X11_wantSign h a0 a1 = some q) : Go l X k_X11_wantSign 0 [(0, rf X a0), (1, .int a1)] [] h (rI q) := by
  unfold f_X11_wantSign at hf
  refine g_aload_n (pc := 0) 0 dX11_wantSign_0 rfl rfl ?_
  refine g_iload_n (pc := 1) 1 dX11_wantSign_1 rfl rfl ?_
  obtain ⟨g1, hf⟩ := gs_some hf
  obtain ⟨v2, hcv2, hf⟩ := bd_some hf
  refine g_cVI (pc := 2) (k2 := k_X11_isSign) (av := [.int a1]) (q := (v2, h)) rfl dX11_wantSign_2 ck_X11_isSign m_1728 m_1730 m_70 (ci := 9) rfl (by decide) g1 (by decide) (by decide) rfl (by simp [rf_cat, rq_cat, ca_i, ca_l, ca_r]) (ct_X11_isSign l X hcv2) ?_
  rcases it_some hf with ⟨c3, hf⟩ | ⟨c3, hf⟩
  · refine g_ifne_t (pc := 5) (tgt := 13) dX11_wantSign_5 (by decide) c3 ?_
    refine g_aload_n (pc := 13) 0 dX11_wantSign_13 rfl rfl ?_
    refine g_dup (pc := 14) dX11_wantSign_14 (rf_cat X _) ?_
    refine g_getI (pc := 15) fl_X11_378 dX11_wantSign_15 g1 ?_
    refine g_iconst (pc := 18) (v := (1 : Int32)) dX11_wantSign_18 (by decide) ?_
    refine g_iadd (pc := 19) dX11_wantSign_19 ?_
    obtain ⟨h4, eh4, hf⟩ := lt_some hf
    refine g_putI (pc := 20) fl_X11_378 dX11_wantSign_20 g1 eh4 ?_
    refine g_iconst (pc := 23) (v := (1 : Int32)) dX11_wantSign_23 (by decide) ?_
    obtain rfl := Option.some.inj hf
    exact g_zret (pc := 24) rfl rfl dX11_wantSign_24
  · refine g_ifne_f (pc := 5) (tgt := 13) dX11_wantSign_5 (by decide) (Decidable.of_not_not c3) ?_
    refine g_aload_n (pc := 8) 0 dX11_wantSign_8 rfl rfl ?_
    obtain ⟨q5, hcq5, hf⟩ := bd_some hf
    refine g_cVI (pc := 9) (k2 := k_X11_refuse) (av := []) (q := q5) rfl dX11_wantSign_9 ck_X11_refuse m_1705 m_1707 m_65 (ci := 9) rfl (by decide) g1 (by decide) (by decide) rfl (by simp [rf_cat, rq_cat, ca_i, ca_l, ca_r]) (ct_X11_refuse l X hcq5) ?_
    obtain ⟨b6, hf⟩ := gb_some hf
    obtain rfl := Option.some.inj hf
    exact g_zret (pc := 12) rfl b6 dX11_wantSign_12
theorem ct_X11_wantSign (l : Launch) (X : Cx) {h : AH} {a0 : Nat} {a1 : Int32} {q : Int32 × AH} (hf : f_X11_wantSign h a0 a1 = some q) : Ct l X k_X11_wantSign [rf X a0, .int a1] h (rI q) := ct_of ck_X11_wantSign (by simp [lg_sl, rf_cat, rq_cat, ca_i, ca_l, ca_r]) (by simp [lv_args, rf_cat, rq_cat, ca_i, ca_l, ca_r]) (ok_X11_wantSign l X hf)
set_option maxRecDepth 100000 in
set_option maxHeartbeats 4000000 in
theorem ok_X11_isNamed_L5 (l : Launch) (X : Cx) : ∀ (n : Nat) (h : AH) (a0 : Int64) (a2 : Nat) (a3 : Int64) (a5 : Int32) (q : Int32 × AH), f_X11_isNamed_L5 n h a0 a2 a3 a5 = some q → Go l X k_X11_isNamed 5 [(0, .long a0), (2, .ref (xA X (1000 + a2))), (3, .long a3), (5, .int a5)] [] h (rI q) := by
  intro n
  induction n with
  | zero =>
    intro h a0 a2 a3 a5 q hf
    unfold f_X11_isNamed_L5 at hf
    cases hf
  | succ n ih =>
    intro h a0 a2 a3 a5 q hf
    unfold f_X11_isNamed_L5 at hf
    refine g_iload (pc := 5) 3 dX11_isNamed_5 rfl ?_
    refine g_aload_nC (pc := 7) 1 dX11_isNamed_7 rfl rfl ?_
    obtain ⟨b1, hf⟩ := gb_some hf
    obtain ⟨v2, hcv2, hf⟩ := bd_some hf
    refine g_sVI (pc := 8) (k2 := k_J0_length_8abf5) (av := []) (q := (v2, h)) rfl dX11_isNamed_8 ck_J0_length_8abf5 m_1703 m_775 m_776 rfl b1 (by decide) (by decide) rfl (by simp [rf_cat, rq_cat, ca_i, ca_l, ca_r]) (ct_J0_length_8abf5 l X hcv2) ?_
    rcases it_some hf with ⟨c3, hf⟩ | ⟨c3, hf⟩
    · refine g_icge_t (pc := 11) (tgt := 33) dX11_isNamed_11 (by decide) c3 ?_
      refine g_lload_n (pc := 33) 0 dX11_isNamed_33 rfl rfl ?_
      refine g_lload_n (pc := 34) 2 dX11_isNamed_34 rfl rfl ?_
      refine g_lcmp (pc := 35) dX11_isNamed_35 ?_
      rcases it_some hf with ⟨c4, hf⟩ | ⟨c4, hf⟩
      · refine g_ifne_t (pc := 36) (tgt := 43) dX11_isNamed_36 (by decide) c4 ?_
        refine g_iconst (pc := 43) (v := (0 : Int32)) dX11_isNamed_43 (by decide) ?_
        obtain rfl := Option.some.inj hf
        exact g_zret (pc := 44) rfl rfl dX11_isNamed_44
      · refine g_ifne_f (pc := 36) (tgt := 43) dX11_isNamed_36 (by decide) (Decidable.of_not_not c4) ?_
        refine g_iconst (pc := 39) (v := (1 : Int32)) dX11_isNamed_39 (by decide) ?_
        refine g_goto (pc := 40) (tgt := 44) dX11_isNamed_40 (by decide) ?_
        obtain rfl := Option.some.inj hf
        exact g_zret (pc := 44) rfl rfl dX11_isNamed_44
    · refine g_icge_f (pc := 11) (tgt := 33) dX11_isNamed_11 (by decide) c3 ?_
      refine g_lload_n (pc := 14) 2 dX11_isNamed_14 rfl rfl ?_
      refine g_bipush (pc := 15) (v := (8 : Int32)) dX11_isNamed_15 (by decide) ?_
      refine g_lshl (pc := 17) dX11_isNamed_17 ?_
      refine g_aload_nC (pc := 18) 1 dX11_isNamed_18 rfl rfl ?_
      refine g_iload (pc := 19) 3 dX11_isNamed_19 rfl ?_
      obtain ⟨b5, hf⟩ := gb_some hf
      obtain ⟨q6, hcq6, hf⟩ := bd_some hf
      refine g_sVI (pc := 21) (k2 := k_J0_charAt_5068e) (av := [.int a5]) (q := q6) rfl dX11_isNamed_21 ck_J0_charAt_5068e m_1704 m_785 m_786 rfl b5 (by decide) (by decide) rfl (by simp [rf_cat, rq_cat, ca_i, ca_l, ca_r]) (ct_J0_charAt_5068e l X hcq6) ?_
      refine g_i2l (pc := 24) dX11_isNamed_24 ?_
      refine g_lor (pc := 25) dX11_isNamed_25 ?_
      obtain ⟨x7, ex7, hf⟩ := lt_some hf
      refine g_lstore_n (pc := 26) (L' := [(3, .long x7), (0, .long a0), (2, .ref (xA X (1000 + a2))), (5, .int a5)]) dX11_isNamed_26 rfl (by decide) ex7 rfl ?_
      obtain ⟨x8, ex8, hf⟩ := lt_some hf
      refine g_iinc (pc := 27) (y := x8) (L' := [(5, .int x8), (3, .long x7), (0, .long a0), (2, .ref (xA X (1000 + a2)))]) 3 dX11_isNamed_27 rfl (by decide) (ex8.trans rfl) rfl ?_
      refine g_goto (pc := 30) (tgt := 5) dX11_isNamed_30 (by decide) ?_
      refine g_sub [2, 3, 1, 0] rfl ?_
      exact ih q6.2 a0 a2 x7 x8 q hf
set_option maxRecDepth 100000 in
set_option maxHeartbeats 4000000 in
theorem ok_X11_isNamed (l : Launch) (X : Cx) {h : AH} {a0 : Int64} {a2 : Nat} {q : Int32 × AH} (hf : f_X11_isNamed h a0 a2 = some q) : Go l X k_X11_isNamed 0 [(0, .long a0), (2, .ref (xA X (1000 + a2)))] [] h (rI q) := by
  unfold f_X11_isNamed at hf
  refine g_lconst (pc := 0) (v := (0 : Int64)) dX11_isNamed_0 (by decide) ?_
  obtain ⟨x1, ex1, hf⟩ := lt_some hf
  refine g_lstore_n (pc := 1) (L' := [(3, .long x1), (0, .long a0), (2, .ref (xA X (1000 + a2)))]) dX11_isNamed_1 rfl (by decide) ex1 rfl ?_
  refine g_iconst (pc := 2) (v := (0 : Int32)) dX11_isNamed_2 (by decide) ?_
  obtain ⟨x2, ex2, hf⟩ := lt_some hf
  refine g_istore (pc := 3) (L' := [(5, .int x2), (3, .long x1), (0, .long a0), (2, .ref (xA X (1000 + a2)))]) dX11_isNamed_3 (by decide) ex2 rfl ?_
  refine g_sub [2, 3, 1, 0] rfl ?_
  exact ok_X11_isNamed_L5 l X FU h a0 a2 x1 x2 q hf
theorem ct_X11_isNamed (l : Launch) (X : Cx) {h : AH} {a0 : Int64} {a2 : Nat} {q : Int32 × AH} (hf : f_X11_isNamed h a0 a2 = some q) : Ct l X k_X11_isNamed [.long a0, .ref (xA X (1000 + a2))] h (rI q) := ct_of ck_X11_isNamed (by simp [lg_sl, rf_cat, rq_cat, ca_i, ca_l, ca_r]) (by simp [lv_args, rf_cat, rq_cat, ca_i, ca_l, ca_r]) (ok_X11_isNamed l X hf)
set_option maxRecDepth 100000 in
set_option maxHeartbeats 4000000 in
theorem ok_X11_opOf_L2 (l : Launch) (X : Cx) : ∀ (n : Nat) (h : AH) (a0 : Nat) (a1 : Int64) (a3 : Int32) (q : Int32 × AH), f_X11_opOf_L2 n h a0 a1 a3 = some q → Go l X k_X11_opOf 2 [(0, rf X a0), (1, .long a1), (3, .int a3)] [] h (rI q) := by
  intro n
  induction n with
  | zero =>
    intro h a0 a1 a3 q hf
    unfold f_X11_opOf_L2 at hf
    cases hf
  | succ n ih =>
    intro h a0 a1 a3 q hf
    unfold f_X11_opOf_L2 at hf
    refine g_iload_n (pc := 2) 2 dX11_opOf_2 rfl rfl ?_
    refine g_bipush (pc := 3) (v := (61 : Int32)) dX11_opOf_3 (by decide) ?_
    rcases it_some hf with ⟨c1, hf⟩ | ⟨c1, hf⟩
    · refine g_icge_t (pc := 5) (tgt := 29) dX11_opOf_5 (by decide) c1 ?_
      refine g_iconst (pc := 29) (v := (-1 : Int32)) dX11_opOf_29 (by decide) ?_
      obtain rfl := Option.some.inj hf
      exact g_iret (pc := 30) rfl dX11_opOf_30
    · refine g_icge_f (pc := 5) (tgt := 29) dX11_opOf_5 (by decide) c1 ?_
      refine g_lload_n (pc := 8) 1 dX11_opOf_8 rfl rfl ?_
      refine g_aload_n (pc := 9) 0 dX11_opOf_9 rfl rfl ?_
      obtain ⟨g2, hf⟩ := gs_some hf
      refine g_getR (pc := 10) fl_X11_275 dX11_opOf_10 g2 ?_
      refine g_iload_n (pc := 13) 2 dX11_opOf_13 rfl rfl ?_
      obtain ⟨g3, hf⟩ := gs_some hf
      obtain ⟨b4, hf⟩ := gb_some hf
      obtain ⟨b5, hf⟩ := gb_some hf
      refine g_aldS (pc := 14) g3 b4 b5 dX11_opOf_14 ?_
      obtain ⟨q6, hcq6, hf⟩ := bd_some hf
      refine g_cSI (pc := 15) (k2 := k_X11_isNamed) (av := [.long a1, .ref (xA X (1000 + (hR h (hR h a0 68) a3.toNatClampNeg)))]) (q := q6) rfl dX11_opOf_15 ck_X11_isNamed m_1700 m_1701 (by decide) (by decide) rfl (by simp [rf_cat, rq_cat, ca_i, ca_l, ca_r]) (ct_X11_isNamed l X hcq6) ?_
      rcases it_some hf with ⟨c7, hf⟩ | ⟨c7, hf⟩
      · refine g_ifeq_t (pc := 18) (tgt := 23) dX11_opOf_18 (by decide) c7 ?_
        obtain ⟨x8, ex8, hf⟩ := lt_some hf
        refine g_iinc (pc := 23) (y := x8) (L' := [(3, .int x8), (0, rf X a0), (1, .long a1)]) 2 dX11_opOf_23 rfl (by decide) (ex8.trans rfl) rfl ?_
        refine g_goto (pc := 26) (tgt := 2) dX11_opOf_26 (by decide) ?_
        refine g_sub [1, 2, 0] rfl ?_
        exact ih q6.2 a0 a1 x8 q hf
      · refine g_ifeq_f (pc := 18) (tgt := 23) dX11_opOf_18 (by decide) c7 ?_
        refine g_iload_n (pc := 21) 2 dX11_opOf_21 rfl rfl ?_
        obtain rfl := Option.some.inj hf
        exact g_iret (pc := 22) rfl dX11_opOf_22
set_option maxRecDepth 100000 in
set_option maxHeartbeats 4000000 in
theorem ok_X11_opOf (l : Launch) (X : Cx) {h : AH} {a0 : Nat} {a1 : Int64} {q : Int32 × AH} (hf : f_X11_opOf h a0 a1 = some q) : Go l X k_X11_opOf 0 [(0, rf X a0), (1, .long a1)] [] h (rI q) := by
  unfold f_X11_opOf at hf
  refine g_iconst (pc := 0) (v := (0 : Int32)) dX11_opOf_0 (by decide) ?_
  obtain ⟨x1, ex1, hf⟩ := lt_some hf
  refine g_istore_n (pc := 1) (L' := [(3, .int x1), (0, rf X a0), (1, .long a1)]) dX11_opOf_1 rfl (by decide) ex1 rfl ?_
  refine g_sub [1, 2, 0] rfl ?_
  exact ok_X11_opOf_L2 l X FU h a0 a1 x1 q hf
theorem ct_X11_opOf (l : Launch) (X : Cx) {h : AH} {a0 : Nat} {a1 : Int64} {q : Int32 × AH} (hf : f_X11_opOf h a0 a1 = some q) : Ct l X k_X11_opOf [rf X a0, .long a1] h (rI q) := ct_of ck_X11_opOf (by simp [lg_sl, rf_cat, rq_cat, ca_i, ca_l, ca_r]) (by simp [lv_args, rf_cat, rq_cat, ca_i, ca_l, ca_r]) (ok_X11_opOf l X hf)
set_option maxRecDepth 100000 in
set_option maxHeartbeats 4000000 in
theorem ok_X11_wantRegister_L181 (l : Launch) (X : Cx) (h : AH) (a0 : Nat) (q : Int32 × AH) (hf : f_X11_wantRegister_L181 h a0 = some q) : Go l X k_X11_wantRegister 181 [(0, rf X a0)] [] h (rI q) := by
  unfold f_X11_wantRegister_L181 at hf
  refine g_aload_n (pc := 181) 0 dX11_wantRegister_181 rfl rfl ?_
  obtain ⟨g1, hf⟩ := gs_some hf
  obtain ⟨q2, hcq2, hf⟩ := bd_some hf
  refine g_cVI (pc := 182) (k2 := k_X11_refuse) (av := []) (q := q2) rfl dX11_wantRegister_182 ck_X11_refuse m_1705 m_1707 m_65 (ci := 9) rfl (by decide) g1 (by decide) (by decide) rfl (by simp [rf_cat, rq_cat, ca_i, ca_l, ca_r]) (ct_X11_refuse l X hcq2) ?_
  obtain ⟨b3, hf⟩ := gb_some hf
  obtain rfl := Option.some.inj hf
  exact g_zret (pc := 185) rfl b3 dX11_wantRegister_185
set_option maxRecDepth 100000 in
set_option maxHeartbeats 4000000 in
theorem ok_X11_wantRegister_L169 (l : Launch) (X : Cx) (h : AH) (a0 : Nat) (a1 : Int32) (a4 : Int32) (q : Int32 × AH) (hf : f_X11_wantRegister_L169 h a0 a1 a4 = some q) : Go l X k_X11_wantRegister 169 [(0, rf X a0), (1, .int a1), (4, .int a4)] [] h (rI q) := by
  unfold f_X11_wantRegister_L169 at hf
  refine g_iload (pc := 169) 2 dX11_wantRegister_169 rfl ?_
  rcases it_some hf with ⟨c1, hf⟩ | ⟨c1, hf⟩
  · refine g_iflt_t (pc := 171) (tgt := 181) dX11_wantRegister_171 (by decide) c1 ?_
    refine g_sub [0] rfl ?_
    exact ok_X11_wantRegister_L181 l X h a0 q hf
  · refine g_iflt_f (pc := 171) (tgt := 181) dX11_wantRegister_171 (by decide) c1 ?_
    refine g_iload (pc := 174) 2 dX11_wantRegister_174 rfl ?_
    refine g_bipush (pc := 176) (v := (31 : Int32)) dX11_wantRegister_176 (by decide) ?_
    rcases it_some hf with ⟨c2, hf⟩ | ⟨c2, hf⟩
    · refine g_icle_t (pc := 178) (tgt := 186) dX11_wantRegister_178 (by decide) c2 ?_
      refine g_aload_n (pc := 186) 0 dX11_wantRegister_186 rfl rfl ?_
      refine g_dup (pc := 187) dX11_wantRegister_187 (rf_cat X _) ?_
      obtain ⟨g3, hf⟩ := gs_some hf
      refine g_getI (pc := 188) fl_X11_410 dX11_wantRegister_188 g3 ?_
      refine g_iload (pc := 191) 2 dX11_wantRegister_191 rfl ?_
      refine g_iload_n (pc := 193) 1 dX11_wantRegister_193 rfl rfl ?_
      refine g_ishl (pc := 194) dX11_wantRegister_194 ?_
      refine g_ior (pc := 195) dX11_wantRegister_195 ?_
      obtain ⟨h4, eh4, hf⟩ := lt_some hf
      refine g_putI (pc := 196) fl_X11_410 dX11_wantRegister_196 g3 eh4 ?_
      refine g_aload_n (pc := 199) 0 dX11_wantRegister_199 rfl rfl ?_
      refine g_dup (pc := 200) dX11_wantRegister_200 (rf_cat X _) ?_
      have g5 : hS h4 a0 = 10 := (hS_tI eh4 g3)
      refine g_getI (pc := 201) fl_X11_378 dX11_wantRegister_201 g5 ?_
      refine g_iconst (pc := 204) (v := (1 : Int32)) dX11_wantRegister_204 (by decide) ?_
      refine g_iadd (pc := 205) dX11_wantRegister_205 ?_
      obtain ⟨h6, eh6, hf⟩ := lt_some hf
      refine g_putI (pc := 206) fl_X11_378 dX11_wantRegister_206 g5 eh6 ?_
      refine g_iconst (pc := 209) (v := (1 : Int32)) dX11_wantRegister_209 (by decide) ?_
      obtain rfl := Option.some.inj hf
      exact g_zret (pc := 210) rfl rfl dX11_wantRegister_210
    · refine g_icle_f (pc := 178) (tgt := 186) dX11_wantRegister_178 (by decide) c2 ?_
      refine g_sub [0] rfl ?_
      exact ok_X11_wantRegister_L181 l X h a0 q hf
set_option maxRecDepth 100000 in
set_option maxHeartbeats 4000000 in
theorem ok_X11_wantRegister_L72 (l : Launch) (X : Cx) (h : AH) (a0 : Nat) (a1 : Int32) (a2 : Int64) (a4 : Int32) (q : Int32 × AH) (hf : f_X11_wantRegister_L72 h a0 a1 a2 a4 = some q) : Go l X k_X11_wantRegister 72 [(0, rf X a0), (1, .int a1), (2, .long a2), (4, .int a4)] [] h (rI q) := by
  unfold f_X11_wantRegister_L72 at hf
  refine g_lload_n (pc := 72) 2 dX11_wantRegister_72 rfl rfl ?_
  refine g_bipush (pc := 73) (v := (8 : Int32)) dX11_wantRegister_73 (by decide) ?_
  refine g_lshr (pc := 75) dX11_wantRegister_75 ?_
  refine g_ldc2 (pc := 76) (v := (255 : Int64)) m_1646 dX11_wantRegister_76 ?_
  refine g_land (pc := 79) dX11_wantRegister_79 ?_
  refine g_ldc2 (pc := 80) (v := (48 : Int64)) m_1683 dX11_wantRegister_80 ?_
  refine g_lsub (pc := 83) dX11_wantRegister_83 ?_
  obtain ⟨x1, ex1, hf⟩ := lt_some hf
  refine g_lstore (pc := 84) (L' := [(5, .long x1), (0, rf X a0), (1, .int a1), (2, .long a2), (4, .int a4)]) dX11_wantRegister_84 (by decide) ex1 rfl ?_
  refine g_aload_n (pc := 86) 1 dX11_wantRegister_86 rfl rfl ?_
  obtain ⟨g2, hf⟩ := gs_some hf
  refine g_getR (pc := 87) fl_X11_13 dX11_wantRegister_87 g2 ?_
  refine g_aload_n (pc := 90) 1 dX11_wantRegister_90 rfl rfl ?_
  refine g_getI (pc := 91) fl_X11_378 dX11_wantRegister_91 g2 ?_
  obtain ⟨g3, hf⟩ := gs_some hf
  obtain ⟨b4, hf⟩ := gb_some hf
  refine g_iald (pc := 94) g3 b4 dX11_wantRegister_94 ?_
  refine g_iconst (pc := 95) (v := (1 : Int32)) dX11_wantRegister_95 (by decide) ?_
  rcases it_some hf with ⟨c5, hf⟩ | ⟨c5, hf⟩
  · refine g_icne_t (pc := 96) (tgt := 169) dX11_wantRegister_96 (by decide) c5 ?_
    refine g_sub [1, 2, 4] rfl ?_
    exact ok_X11_wantRegister_L169 l X h a0 a1 a4 q hf
  · refine g_icne_f (pc := 96) (tgt := 169) dX11_wantRegister_96 (by decide) (Decidable.of_not_not c5) ?_
    refine g_lload_n (pc := 99) 3 dX11_wantRegister_99 rfl rfl ?_
    refine g_bipush (pc := 100) (v := (16 : Int32)) dX11_wantRegister_100 (by decide) ?_
    refine g_lshr (pc := 102) dX11_wantRegister_102 ?_
    refine g_ldc2 (pc := 103) (v := (120 : Int64)) m_1717 dX11_wantRegister_103 ?_
    refine g_lcmp (pc := 106) dX11_wantRegister_106 ?_
    rcases it_some hf with ⟨c6, hf⟩ | ⟨c6, hf⟩
    · refine g_ifne_t (pc := 107) (tgt := 169) dX11_wantRegister_107 (by decide) c6 ?_
      refine g_sub [1, 2, 4] rfl ?_
      exact ok_X11_wantRegister_L169 l X h a0 a1 a4 q hf
    · refine g_ifne_f (pc := 107) (tgt := 169) dX11_wantRegister_107 (by decide) (Decidable.of_not_not c6) ?_
      refine g_lload (pc := 110) 0 dX11_wantRegister_110 rfl ?_
      refine g_lconst (pc := 112) (v := (0 : Int64)) dX11_wantRegister_112 (by decide) ?_
      refine g_lcmp (pc := 113) dX11_wantRegister_113 ?_
      rcases it_some hf with ⟨c7, hf⟩ | ⟨c7, hf⟩
      · refine g_ifle_t (pc := 114) (tgt := 169) dX11_wantRegister_114 (by decide) c7 ?_
        refine g_sub [1, 2, 4] rfl ?_
        exact ok_X11_wantRegister_L169 l X h a0 a1 a4 q hf
      · refine g_ifle_f (pc := 114) (tgt := 169) dX11_wantRegister_114 (by decide) c7 ?_
        refine g_lload (pc := 117) 0 dX11_wantRegister_117 rfl ?_
        refine g_ldc2 (pc := 119) (v := (4 : Int64)) m_1719 dX11_wantRegister_119 ?_
        refine g_lcmp (pc := 122) dX11_wantRegister_122 ?_
        rcases it_some hf with ⟨c8, hf⟩ | ⟨c8, hf⟩
        · refine g_ifge_t (pc := 123) (tgt := 169) dX11_wantRegister_123 (by decide) c8 ?_
          refine g_sub [1, 2, 4] rfl ?_
          exact ok_X11_wantRegister_L169 l X h a0 a1 a4 q hf
        · refine g_ifge_f (pc := 123) (tgt := 169) dX11_wantRegister_123 (by decide) c8 ?_
          refine g_lload_n (pc := 126) 3 dX11_wantRegister_126 rfl rfl ?_
          refine g_ldc2 (pc := 127) (v := (255 : Int64)) m_1646 dX11_wantRegister_127 ?_
          refine g_land (pc := 130) dX11_wantRegister_130 ?_
          refine g_ldc2 (pc := 131) (v := (48 : Int64)) m_1683 dX11_wantRegister_131 ?_
          refine g_lcmp (pc := 134) dX11_wantRegister_134 ?_
          rcases it_some hf with ⟨c9, hf⟩ | ⟨c9, hf⟩
          · refine g_iflt_t (pc := 135) (tgt := 169) dX11_wantRegister_135 (by decide) c9 ?_
            refine g_sub [1, 2, 4] rfl ?_
            exact ok_X11_wantRegister_L169 l X h a0 a1 a4 q hf
          · refine g_iflt_f (pc := 135) (tgt := 169) dX11_wantRegister_135 (by decide) c9 ?_
            refine g_lload_n (pc := 138) 3 dX11_wantRegister_138 rfl rfl ?_
            refine g_ldc2 (pc := 139) (v := (255 : Int64)) m_1646 dX11_wantRegister_139 ?_
            refine g_land (pc := 142) dX11_wantRegister_142 ?_
            refine g_ldc2 (pc := 143) (v := (57 : Int64)) m_1718 dX11_wantRegister_143 ?_
            refine g_lcmp (pc := 146) dX11_wantRegister_146 ?_
            rcases it_some hf with ⟨c10, hf⟩ | ⟨c10, hf⟩
            · refine g_ifgt_t (pc := 147) (tgt := 169) dX11_wantRegister_147 (by decide) c10 ?_
              refine g_sub [1, 2, 4] rfl ?_
              exact ok_X11_wantRegister_L169 l X h a0 a1 a4 q hf
            · refine g_ifgt_f (pc := 147) (tgt := 169) dX11_wantRegister_147 (by decide) c10 ?_
              refine g_ldc2 (pc := 150) (v := (10 : Int64)) m_1682 dX11_wantRegister_150 ?_
              refine g_lload (pc := 153) 0 dX11_wantRegister_153 rfl ?_
              refine g_lmul (pc := 155) dX11_wantRegister_155 ?_
              refine g_lload_n (pc := 156) 3 dX11_wantRegister_156 rfl rfl ?_
              refine g_ldc2 (pc := 157) (v := (255 : Int64)) m_1646 dX11_wantRegister_157 ?_
              refine g_land (pc := 160) dX11_wantRegister_160 ?_
              refine g_ladd (pc := 161) dX11_wantRegister_161 ?_
              refine g_ldc2 (pc := 162) (v := (48 : Int64)) m_1683 dX11_wantRegister_162 ?_
              refine g_lsub (pc := 165) dX11_wantRegister_165 ?_
              refine g_l2i (pc := 166) dX11_wantRegister_166 ?_
              obtain ⟨x11, ex11, hf⟩ := lt_some hf
              refine g_istore (pc := 167) (L' := [(4, .int x11), (5, .long x1), (0, rf X a0), (1, .int a1), (2, .long a2)]) dX11_wantRegister_167 (by decide) ex11 rfl ?_
              refine g_sub [2, 3, 0] rfl ?_
              exact ok_X11_wantRegister_L169 l X h a0 a1 x11 q hf
set_option maxRecDepth 100000 in
set_option maxHeartbeats 4000000 in
theorem ok_X11_wantRegister (l : Launch) (X : Cx) {h : AH} {a0 : Nat} {a1 : Int32} {q : Int32 × AH} (hf : f_X11_wantRegister h a0 a1 = some q) : Go l X k_X11_wantRegister 0 [(0, rf X a0), (1, .int a1)] [] h (rI q) := by
  unfold f_X11_wantRegister at hf
  refine g_aload_n (pc := 0) 0 dX11_wantRegister_0 rfl rfl ?_
  obtain ⟨g1, hf⟩ := gs_some hf
  refine g_getR (pc := 1) fl_X11_19 dX11_wantRegister_1 g1 ?_
  refine g_aload_n (pc := 4) 0 dX11_wantRegister_4 rfl rfl ?_
  refine g_getI (pc := 5) fl_X11_378 dX11_wantRegister_5 g1 ?_
  obtain ⟨g2, hf⟩ := gs_some hf
  obtain ⟨b3, hf⟩ := gb_some hf
  refine g_lald (pc := 8) g2 b3 dX11_wantRegister_8 ?_
  obtain ⟨x4, ex4, hf⟩ := lt_some hf
  refine g_lstore_n (pc := 9) (L' := [(2, .long x4), (0, rf X a0), (1, .int a1)]) dX11_wantRegister_9 rfl (by decide) ex4 rfl ?_
  refine g_iconst (pc := 10) (v := (-1 : Int32)) dX11_wantRegister_10 (by decide) ?_
  obtain ⟨x5, ex5, hf⟩ := lt_some hf
  refine g_istore (pc := 11) (L' := [(4, .int x5), (2, .long x4), (0, rf X a0), (1, .int a1)]) dX11_wantRegister_11 (by decide) ex5 rfl ?_
  refine g_aload_n (pc := 13) 2 dX11_wantRegister_13 rfl rfl ?_
  refine g_getR (pc := 14) fl_X11_13 dX11_wantRegister_14 g1 ?_
  refine g_aload_n (pc := 17) 2 dX11_wantRegister_17 rfl rfl ?_
  refine g_getI (pc := 18) fl_X11_378 dX11_wantRegister_18 g1 ?_
  obtain ⟨g6, hf⟩ := gs_some hf
  obtain ⟨b7, hf⟩ := gb_some hf
  refine g_iald (pc := 21) g6 b7 dX11_wantRegister_21 ?_
  refine g_iconst (pc := 22) (v := (1 : Int32)) dX11_wantRegister_22 (by decide) ?_
  rcases it_some hf with ⟨c8, hf⟩ | ⟨c8, hf⟩
  · refine g_icne_t (pc := 23) (tgt := 72) dX11_wantRegister_23 (by decide) c8 ?_
    refine g_sub [2, 3, 1, 0] rfl ?_
    exact ok_X11_wantRegister_L72 l X h a0 a1 x4 x5 q hf
  · refine g_icne_f (pc := 23) (tgt := 72) dX11_wantRegister_23 (by decide) (Decidable.of_not_not c8) ?_
    refine g_lload_n (pc := 26) 1 dX11_wantRegister_26 rfl rfl ?_
    refine g_bipush (pc := 27) (v := (8 : Int32)) dX11_wantRegister_27 (by decide) ?_
    refine g_lshr (pc := 29) dX11_wantRegister_29 ?_
    refine g_ldc2 (pc := 30) (v := (120 : Int64)) m_1717 dX11_wantRegister_30 ?_
    refine g_lcmp (pc := 33) dX11_wantRegister_33 ?_
    rcases it_some hf with ⟨c9, hf⟩ | ⟨c9, hf⟩
    · refine g_ifne_t (pc := 34) (tgt := 72) dX11_wantRegister_34 (by decide) c9 ?_
      refine g_sub [2, 3, 1, 0] rfl ?_
      exact ok_X11_wantRegister_L72 l X h a0 a1 x4 x5 q hf
    · refine g_ifne_f (pc := 34) (tgt := 72) dX11_wantRegister_34 (by decide) (Decidable.of_not_not c9) ?_
      refine g_lload_n (pc := 37) 1 dX11_wantRegister_37 rfl rfl ?_
      refine g_ldc2 (pc := 38) (v := (255 : Int64)) m_1646 dX11_wantRegister_38 ?_
      refine g_land (pc := 41) dX11_wantRegister_41 ?_
      refine g_ldc2 (pc := 42) (v := (48 : Int64)) m_1683 dX11_wantRegister_42 ?_
      refine g_lcmp (pc := 45) dX11_wantRegister_45 ?_
      rcases it_some hf with ⟨c10, hf⟩ | ⟨c10, hf⟩
      · refine g_iflt_t (pc := 46) (tgt := 72) dX11_wantRegister_46 (by decide) c10 ?_
        refine g_sub [2, 3, 1, 0] rfl ?_
        exact ok_X11_wantRegister_L72 l X h a0 a1 x4 x5 q hf
      · refine g_iflt_f (pc := 46) (tgt := 72) dX11_wantRegister_46 (by decide) c10 ?_
        refine g_lload_n (pc := 49) 1 dX11_wantRegister_49 rfl rfl ?_
        refine g_ldc2 (pc := 50) (v := (255 : Int64)) m_1646 dX11_wantRegister_50 ?_
        refine g_land (pc := 53) dX11_wantRegister_53 ?_
        refine g_ldc2 (pc := 54) (v := (57 : Int64)) m_1718 dX11_wantRegister_54 ?_
        refine g_lcmp (pc := 57) dX11_wantRegister_57 ?_
        rcases it_some hf with ⟨c11, hf⟩ | ⟨c11, hf⟩
        · refine g_ifgt_t (pc := 58) (tgt := 72) dX11_wantRegister_58 (by decide) c11 ?_
          refine g_sub [2, 3, 1, 0] rfl ?_
          exact ok_X11_wantRegister_L72 l X h a0 a1 x4 x5 q hf
        · refine g_ifgt_f (pc := 58) (tgt := 72) dX11_wantRegister_58 (by decide) c11 ?_
          refine g_lload_n (pc := 61) 1 dX11_wantRegister_61 rfl rfl ?_
          refine g_ldc2 (pc := 62) (v := (255 : Int64)) m_1646 dX11_wantRegister_62 ?_
          refine g_land (pc := 65) dX11_wantRegister_65 ?_
          refine g_l2i (pc := 66) dX11_wantRegister_66 ?_
          refine g_bipush (pc := 67) (v := (48 : Int32)) dX11_wantRegister_67 (by decide) ?_
          refine g_isub (pc := 69) dX11_wantRegister_69 ?_
          obtain ⟨x12, ex12, hf⟩ := lt_some hf
          refine g_istore (pc := 70) (L' := [(4, .int x12), (2, .long x4), (0, rf X a0), (1, .int a1)]) dX11_wantRegister_70 (by decide) ex12 rfl ?_
          refine g_sub [2, 3, 1, 0] rfl ?_
          exact ok_X11_wantRegister_L72 l X h a0 a1 x4 x12 q hf
theorem ct_X11_wantRegister (l : Launch) (X : Cx) {h : AH} {a0 : Nat} {a1 : Int32} {q : Int32 × AH} (hf : f_X11_wantRegister h a0 a1 = some q) : Ct l X k_X11_wantRegister [rf X a0, .int a1] h (rI q) := ct_of ck_X11_wantRegister (by simp [lg_sl, rf_cat, rq_cat, ca_i, ca_l, ca_r]) (by simp [lv_args, rf_cat, rq_cat, ca_i, ca_l, ca_r]) (ok_X11_wantRegister l X hf)
set_option maxRecDepth 100000 in
set_option maxHeartbeats 4000000 in
theorem ok_X11_wantNumber_L205 (l : Launch) (X : Cx) (h : AH) (a0 : Nat) (q : Int32 × AH) (hf : f_X11_wantNumber_L205 h a0 = some q) : Go l X k_X11_wantNumber 205 [(0, rf X a0)] [] h (rI q) := by
  unfold f_X11_wantNumber_L205 at hf
  refine g_aload_n (pc := 205) 0 dX11_wantNumber_205 rfl rfl ?_
  refine g_dup (pc := 206) dX11_wantNumber_206 (rf_cat X _) ?_
  obtain ⟨g1, hf⟩ := gs_some hf
  refine g_getI (pc := 207) fl_X11_378 dX11_wantNumber_207 g1 ?_
  refine g_iconst (pc := 210) (v := (1 : Int32)) dX11_wantNumber_210 (by decide) ?_
  refine g_iadd (pc := 211) dX11_wantNumber_211 ?_
  obtain ⟨h2, eh2, hf⟩ := lt_some hf
  refine g_putI (pc := 212) fl_X11_378 dX11_wantNumber_212 g1 eh2 ?_
  refine g_iconst (pc := 215) (v := (1 : Int32)) dX11_wantNumber_215 (by decide) ?_
  obtain rfl := Option.some.inj hf
  exact g_zret (pc := 216) rfl rfl dX11_wantNumber_216
set_option maxRecDepth 100000 in
set_option maxHeartbeats 4000000 in
theorem ok_X11_wantNumber_L193 (l : Launch) (X : Cx) (h : AH) (a0 : Nat) (a7 : Int32) (q : Int32 × AH) (hf : f_X11_wantNumber_L193 h a0 a7 = some q) : Go l X k_X11_wantNumber 193 [(0, rf X a0), (7, .int a7)] [] h (rI q) := by
  unfold f_X11_wantNumber_L193 at hf
  refine g_aload_n (pc := 193) 0 dX11_wantNumber_193 rfl rfl ?_
  refine g_iconst (pc := 194) (v := (3 : Int32)) dX11_wantNumber_194 (by decide) ?_
  refine g_aload_n (pc := 195) 0 dX11_wantNumber_195 rfl rfl ?_
  obtain ⟨g1, hf⟩ := gs_some hf
  refine g_getR (pc := 196) fl_X11_16 dX11_wantNumber_196 g1 ?_
  refine g_iload (pc := 199) 1 dX11_wantNumber_199 rfl ?_
  obtain ⟨g2, hf⟩ := gs_some hf
  obtain ⟨b3, hf⟩ := gb_some hf
  refine g_iald (pc := 201) g2 b3 dX11_wantNumber_201 ?_
  obtain ⟨q4, hcq4, hf⟩ := bd_some hf
  refine g_cVV (pc := 202) (k2 := k_X11_note) (av := [.int (3 : Int32), .int (hI h (hR h a0 7) a7.toNatClampNeg)]) (q := q4) rfl dX11_wantNumber_202 ck_X11_note m_1692 m_1694 m_63 (ci := 9) rfl (by decide) g1 (by decide) (by decide) rfl (by simp [rf_cat, rq_cat, ca_i, ca_l, ca_r]) (ct_X11_note l X hcq4) ?_
  refine g_sub [0] rfl ?_
  exact ok_X11_wantNumber_L205 l X q4 a0 q hf
set_option maxRecDepth 100000 in
set_option maxHeartbeats 4000000 in
theorem ok_X11_wantNumber_L158 (l : Launch) (X : Cx) (h : AH) (a0 : Nat) (a2 : Int64) (a4 : Int64) (a6 : Int32) (a7 : Int32) (s0 : Nat) (s1 : Int64) (q : Int32 × AH) (hf : f_X11_wantNumber_L158 h a0 a2 a4 a6 a7 s0 s1 = some q) : Go l X k_X11_wantNumber 158 [(0, rf X a0), (2, .long a2), (4, .long a4), (6, .int a6), (7, .int a7)] [.long s1, rf X s0] h (rI q) := by
  unfold f_X11_wantNumber_L158 at hf
  obtain ⟨g1, hf⟩ := gs_some hf
  obtain ⟨h2, eh2, hf⟩ := lt_some hf
  refine g_putL (pc := 158) fl_X11_424 dX11_wantNumber_158 g1 eh2 ?_
  refine g_aload_n (pc := 161) 0 dX11_wantNumber_161 rfl rfl ?_
  obtain ⟨g3, hf⟩ := gs_some hf
  refine g_getL (pc := 162) fl_X11_424 dX11_wantNumber_162 g3 ?_
  refine g_lload_n (pc := 165) 1 dX11_wantNumber_165 rfl rfl ?_
  refine g_lcmp (pc := 166) dX11_wantNumber_166 ?_
  rcases it_some hf with ⟨c4, hf⟩ | ⟨c4, hf⟩
  · refine g_iflt_t (pc := 167) (tgt := 193) dX11_wantNumber_167 (by decide) c4 ?_
    refine g_sub [0, 4] rfl ?_
    exact ok_X11_wantNumber_L193 l X h2 a0 a7 q hf
  · refine g_iflt_f (pc := 167) (tgt := 193) dX11_wantNumber_167 (by decide) c4 ?_
    refine g_aload_n (pc := 170) 0 dX11_wantNumber_170 rfl rfl ?_
    refine g_getL (pc := 171) fl_X11_424 dX11_wantNumber_171 g3 ?_
    refine g_lload (pc := 174) 2 dX11_wantNumber_174 rfl ?_
    refine g_lcmp (pc := 176) dX11_wantNumber_176 ?_
    rcases it_some hf with ⟨c5, hf⟩ | ⟨c5, hf⟩
    · refine g_ifgt_t (pc := 177) (tgt := 193) dX11_wantNumber_177 (by decide) c5 ?_
      refine g_sub [0, 4] rfl ?_
      exact ok_X11_wantNumber_L193 l X h2 a0 a7 q hf
    · refine g_ifgt_f (pc := 177) (tgt := 193) dX11_wantNumber_177 (by decide) c5 ?_
      refine g_aload_n (pc := 180) 0 dX11_wantNumber_180 rfl rfl ?_
      refine g_getL (pc := 181) fl_X11_424 dX11_wantNumber_181 g3 ?_
      refine g_iload (pc := 184) 3 dX11_wantNumber_184 rfl ?_
      refine g_i2l (pc := 186) dX11_wantNumber_186 ?_
      obtain ⟨b6, hf⟩ := gb_some hf
      refine g_lrem (pc := 187) (of_decide_eq_true b6) dX11_wantNumber_187 ?_
      refine g_lconst (pc := 188) (v := (0 : Int64)) dX11_wantNumber_188 (by decide) ?_
      refine g_lcmp (pc := 189) dX11_wantNumber_189 ?_
      rcases it_some hf with ⟨c7, hf⟩ | ⟨c7, hf⟩
      · refine g_ifeq_t (pc := 190) (tgt := 205) dX11_wantNumber_190 (by decide) c7 ?_
        refine g_sub [0] rfl ?_
        exact ok_X11_wantNumber_L205 l X h2 a0 q hf
      · refine g_ifeq_f (pc := 190) (tgt := 205) dX11_wantNumber_190 (by decide) c7 ?_
        refine g_sub [0, 4] rfl ?_
        exact ok_X11_wantNumber_L193 l X h2 a0 a7 q hf
set_option maxRecDepth 100000 in
set_option maxHeartbeats 4000000 in
theorem ok_X11_wantNumber_L112 (l : Launch) (X : Cx) (h : AH) (a0 : Nat) (a2 : Int64) (a4 : Int64) (a6 : Int32) (a7 : Int32) (a8 : Int32) (q : Int32 × AH) (hf : f_X11_wantNumber_L112 h a0 a2 a4 a6 a7 a8 = some q) : Go l X k_X11_wantNumber 112 [(0, rf X a0), (2, .long a2), (4, .long a4), (6, .int a6), (7, .int a7), (8, .int a8)] [] h (rI q) := by
  unfold f_X11_wantNumber_L112 at hf
  refine g_aload_n (pc := 112) 0 dX11_wantNumber_112 rfl rfl ?_
  obtain ⟨g1, hf⟩ := gs_some hf
  refine g_getR (pc := 113) fl_X11_13 dX11_wantNumber_113 g1 ?_
  refine g_aload_n (pc := 116) 0 dX11_wantNumber_116 rfl rfl ?_
  refine g_getI (pc := 117) fl_X11_378 dX11_wantNumber_117 g1 ?_
  obtain ⟨g2, hf⟩ := gs_some hf
  obtain ⟨b3, hf⟩ := gb_some hf
  refine g_iald (pc := 120) g2 b3 dX11_wantNumber_120 ?_
  refine g_iconst (pc := 121) (v := (2 : Int32)) dX11_wantNumber_121 (by decide) ?_
  rcases it_some hf with ⟨c4, hf⟩ | ⟨c4, hf⟩
  · refine g_iceq_t (pc := 122) (tgt := 130) dX11_wantNumber_122 (by decide) c4 ?_
    refine g_aload_n (pc := 130) 0 dX11_wantNumber_130 rfl rfl ?_
    refine g_iload (pc := 131) 5 dX11_wantNumber_131 rfl ?_
    rcases it_some hf with ⟨c5, hf⟩ | ⟨c5, hf⟩
    · refine g_ifeq_t (pc := 133) (tgt := 149) dX11_wantNumber_133 (by decide) c5 ?_
      refine g_aload_n (pc := 149) 0 dX11_wantNumber_149 rfl rfl ?_
      refine g_getR (pc := 150) fl_X11_19 dX11_wantNumber_150 g1 ?_
      refine g_aload_n (pc := 153) 0 dX11_wantNumber_153 rfl rfl ?_
      refine g_getI (pc := 154) fl_X11_378 dX11_wantNumber_154 g1 ?_
      obtain ⟨g6, hf⟩ := gs_some hf
      obtain ⟨b7, hf⟩ := gb_some hf
      refine g_lald (pc := 157) g6 b7 dX11_wantNumber_157 ?_
      refine g_sub [0, 1, 2, 3, 4] rfl ?_
      exact ok_X11_wantNumber_L158 l X h a0 a2 a4 a6 a7 a0 (hL h (hR h a0 8) (hI h a0 9).toNatClampNeg) q hf
    · refine g_ifeq_f (pc := 133) (tgt := 149) dX11_wantNumber_133 (by decide) c5 ?_
      refine g_aload_n (pc := 136) 0 dX11_wantNumber_136 rfl rfl ?_
      refine g_getR (pc := 137) fl_X11_19 dX11_wantNumber_137 g1 ?_
      refine g_aload_n (pc := 140) 0 dX11_wantNumber_140 rfl rfl ?_
      refine g_getI (pc := 141) fl_X11_378 dX11_wantNumber_141 g1 ?_
      obtain ⟨g8, hf⟩ := gs_some hf
      obtain ⟨b9, hf⟩ := gb_some hf
      refine g_lald (pc := 144) g8 b9 dX11_wantNumber_144 ?_
      refine g_lneg (pc := 145) dX11_wantNumber_145 ?_
      refine g_goto (pc := 146) (tgt := 158) dX11_wantNumber_146 (by decide) ?_
      refine g_sub [0, 1, 2, 3, 4] rfl ?_
      exact ok_X11_wantNumber_L158 l X h a0 a2 a4 a6 a7 a0 (-(hL h (hR h a0 8) (hI h a0 9).toNatClampNeg)) q hf
  · refine g_iceq_f (pc := 122) (tgt := 130) dX11_wantNumber_122 (by decide) c4 ?_
    refine g_aload_n (pc := 125) 0 dX11_wantNumber_125 rfl rfl ?_
    obtain ⟨q10, hcq10, hf⟩ := bd_some hf
    refine g_cVI (pc := 126) (k2 := k_X11_refuse) (av := []) (q := q10) rfl dX11_wantNumber_126 ck_X11_refuse m_1705 m_1707 m_65 (ci := 9) rfl (by decide) g1 (by decide) (by decide) rfl (by simp [rf_cat, rq_cat, ca_i, ca_l, ca_r]) (ct_X11_refuse l X hcq10) ?_
    obtain ⟨b11, hf⟩ := gb_some hf
    obtain rfl := Option.some.inj hf
    exact g_zret (pc := 129) rfl b11 dX11_wantNumber_129
set_option maxRecDepth 100000 in
set_option maxHeartbeats 4000000 in
theorem ok_X11_wantNumber_L95 (l : Launch) (X : Cx) (h : AH) (a0 : Nat) (a2 : Int64) (a4 : Int64) (a6 : Int32) (a7 : Int32) (s0 : Int32) (q : Int32 × AH) (hf : f_X11_wantNumber_L95 h a0 a2 a4 a6 a7 s0 = some q) : Go l X k_X11_wantNumber 95 [(0, rf X a0), (2, .long a2), (4, .long a4), (6, .int a6), (7, .int a7)] [.int s0] h (rI q) := by
  unfold f_X11_wantNumber_L95 at hf
  refine g_istore (pc := 95) (L' := [(8, .int s0), (0, rf X a0), (2, .long a2), (4, .long a4), (6, .int a6), (7, .int a7)]) dX11_wantNumber_95 (by decide) rfl rfl ?_
  refine g_iload (pc := 97) 0 dX11_wantNumber_97 rfl ?_
  rcases it_some hf with ⟨c1, hf⟩ | ⟨c1, hf⟩
  · refine g_ifeq_t (pc := 99) (tgt := 112) dX11_wantNumber_99 (by decide) c1 ?_
    refine g_sub [1, 2, 3, 4, 5, 0] rfl ?_
    exact ok_X11_wantNumber_L112 l X h a0 a2 a4 a6 a7 s0 q hf
  · refine g_ifeq_f (pc := 99) (tgt := 112) dX11_wantNumber_99 (by decide) c1 ?_
    refine g_aload_n (pc := 102) 1 dX11_wantNumber_102 rfl rfl ?_
    refine g_dup (pc := 103) dX11_wantNumber_103 (rf_cat X _) ?_
    obtain ⟨g2, hf⟩ := gs_some hf
    refine g_getI (pc := 104) fl_X11_378 dX11_wantNumber_104 g2 ?_
    refine g_iconst (pc := 107) (v := (1 : Int32)) dX11_wantNumber_107 (by decide) ?_
    refine g_iadd (pc := 108) dX11_wantNumber_108 ?_
    obtain ⟨h3, eh3, hf⟩ := lt_some hf
    refine g_putI (pc := 109) fl_X11_378 dX11_wantNumber_109 g2 eh3 ?_
    refine g_sub [1, 2, 3, 4, 5, 0] rfl ?_
    exact ok_X11_wantNumber_L112 l X h3 a0 a2 a4 a6 a7 s0 q hf
set_option maxRecDepth 100000 in
set_option maxHeartbeats 4000000 in
theorem ok_X11_wantNumber_L94 (l : Launch) (X : Cx) (h : AH) (a0 : Nat) (a2 : Int64) (a4 : Int64) (a6 : Int32) (a7 : Int32) (q : Int32 × AH) (hf : f_X11_wantNumber_L94 h a0 a2 a4 a6 a7 = some q) : Go l X k_X11_wantNumber 94 [(0, rf X a0), (2, .long a2), (4, .long a4), (6, .int a6), (7, .int a7)] [] h (rI q) := by
  unfold f_X11_wantNumber_L94 at hf
  refine g_iconst (pc := 94) (v := (0 : Int32)) dX11_wantNumber_94 (by decide) ?_
  exact ok_X11_wantNumber_L95 l X h a0 a2 a4 a6 a7 (0 : Int32) q hf
set_option maxRecDepth 100000 in
set_option maxHeartbeats 4000000 in
theorem ok_X11_wantNumber_L29 (l : Launch) (X : Cx) (h : AH) (a0 : Nat) (a1 : Int32) (a2 : Int64) (a4 : Int64) (a6 : Int32) (a7 : Int32) (s0 : Nat) (s1 : Int32) (q : Int32 × AH) (hf : f_X11_wantNumber_L29 h a0 a1 a2 a4 a6 a7 s0 s1 = some q) : Go l X k_X11_wantNumber 29 [(0, rf X a0), (1, .int a1), (2, .long a2), (4, .long a4), (6, .int a6), (7, .int a7)] [.int s1, rf X s0] h (rI q) := by
  unfold f_X11_wantNumber_L29 at hf
  obtain ⟨g1, hf⟩ := gs_some hf
  obtain ⟨b2, hf⟩ := gb_some hf
  obtain ⟨h3, eh3, hf⟩ := lt_some hf
  refine g_putZ (pc := 29) fl_X11_413 dX11_wantNumber_29 g1 b2 eh3 ?_
  refine g_aload_n (pc := 32) 0 dX11_wantNumber_32 rfl rfl ?_
  obtain ⟨g4, hf⟩ := gs_some hf
  refine g_getI (pc := 33) fl_X11_413 dX11_wantNumber_33 g4 ?_
  rcases it_some hf with ⟨c5, hf⟩ | ⟨c5, hf⟩
  · refine g_ifeq_t (pc := 36) (tgt := 77) dX11_wantNumber_36 (by decide) c5 ?_
    refine g_iload_n (pc := 77) 1 dX11_wantNumber_77 rfl rfl ?_
    rcases it_some hf with ⟨c6, hf⟩ | ⟨c6, hf⟩
    · refine g_ifne_t (pc := 78) (tgt := 94) dX11_wantNumber_78 (by decide) c6 ?_
      refine g_sub [0, 2, 3, 4, 5] rfl ?_
      exact ok_X11_wantNumber_L94 l X h3 a0 a2 a4 a6 a7 q hf
    · refine g_ifne_f (pc := 78) (tgt := 94) dX11_wantNumber_78 (by decide) (Decidable.of_not_not c6) ?_
      refine g_aload_n (pc := 81) 0 dX11_wantNumber_81 rfl rfl ?_
      refine g_bipush (pc := 82) (v := (45 : Int32)) dX11_wantNumber_82 (by decide) ?_
      obtain ⟨v7, hcv7, hf⟩ := bd_some hf
      refine g_cVI (pc := 84) (k2 := k_X11_isSign) (av := [.int (45 : Int32)]) (q := (v7, h3)) rfl dX11_wantNumber_84 ck_X11_isSign m_1728 m_1730 m_70 (ci := 9) rfl (by decide) g4 (by decide) (by decide) rfl (by simp [rf_cat, rq_cat, ca_i, ca_l, ca_r]) (ct_X11_isSign l X hcv7) ?_
      rcases it_some hf with ⟨c8, hf⟩ | ⟨c8, hf⟩
      · refine g_ifeq_t (pc := 87) (tgt := 94) dX11_wantNumber_87 (by decide) c8 ?_
        refine g_sub [0, 2, 3, 4, 5] rfl ?_
        exact ok_X11_wantNumber_L94 l X h3 a0 a2 a4 a6 a7 q hf
      · refine g_ifeq_f (pc := 87) (tgt := 94) dX11_wantNumber_87 (by decide) c8 ?_
        refine g_iconst (pc := 90) (v := (1 : Int32)) dX11_wantNumber_90 (by decide) ?_
        refine g_goto (pc := 91) (tgt := 95) dX11_wantNumber_91 (by decide) ?_
        refine g_sub [0, 2, 3, 4, 5] rfl ?_
        exact ok_X11_wantNumber_L95 l X h3 a0 a2 a4 a6 a7 (1 : Int32) q hf
  · refine g_ifeq_f (pc := 36) (tgt := 77) dX11_wantNumber_36 (by decide) c5 ?_
    refine g_aload_n (pc := 39) 0 dX11_wantNumber_39 rfl rfl ?_
    refine g_aload_n (pc := 40) 0 dX11_wantNumber_40 rfl rfl ?_
    refine g_getR (pc := 41) fl_X11_19 dX11_wantNumber_41 g4 ?_
    refine g_aload_n (pc := 44) 0 dX11_wantNumber_44 rfl rfl ?_
    refine g_getI (pc := 45) fl_X11_378 dX11_wantNumber_45 g4 ?_
    obtain ⟨g9, hf⟩ := gs_some hf
    obtain ⟨b10, hf⟩ := gb_some hf
    refine g_lald (pc := 48) g9 b10 dX11_wantNumber_48 ?_
    obtain ⟨h11, eh11, hf⟩ := lt_some hf
    refine g_putL (pc := 49) fl_X11_417 dX11_wantNumber_49 g4 eh11 ?_
    refine g_aload_n (pc := 52) 0 dX11_wantNumber_52 rfl rfl ?_
    refine g_aload_n (pc := 53) 0 dX11_wantNumber_53 rfl rfl ?_
    have g12 : hS h11 a0 = 10 := (hS_tL eh11 g4)
    refine g_getR (pc := 54) fl_X11_16 dX11_wantNumber_54 g12 ?_
    refine g_aload_n (pc := 57) 0 dX11_wantNumber_57 rfl rfl ?_
    refine g_getI (pc := 58) fl_X11_378 dX11_wantNumber_58 g12 ?_
    obtain ⟨g13, hf⟩ := gs_some hf
    obtain ⟨b14, hf⟩ := gb_some hf
    refine g_iald (pc := 61) g13 b14 dX11_wantNumber_61 ?_
    obtain ⟨h15, eh15, hf⟩ := lt_some hf
    refine g_putI (pc := 62) fl_X11_421 dX11_wantNumber_62 g12 eh15 ?_
    refine g_aload_n (pc := 65) 0 dX11_wantNumber_65 rfl rfl ?_
    refine g_dup (pc := 66) dX11_wantNumber_66 (rf_cat X _) ?_
    have g16 : hS h15 a0 = 10 := (hS_tI eh15 g12)
    refine g_getI (pc := 67) fl_X11_378 dX11_wantNumber_67 g16 ?_
    refine g_iconst (pc := 70) (v := (1 : Int32)) dX11_wantNumber_70 (by decide) ?_
    refine g_iadd (pc := 71) dX11_wantNumber_71 ?_
    obtain ⟨h17, eh17, hf⟩ := lt_some hf
    refine g_putI (pc := 72) fl_X11_378 dX11_wantNumber_72 g16 eh17 ?_
    refine g_iconst (pc := 75) (v := (1 : Int32)) dX11_wantNumber_75 (by decide) ?_
    obtain rfl := Option.some.inj hf
    exact g_zret (pc := 76) rfl rfl dX11_wantNumber_76
set_option maxRecDepth 100000 in
set_option maxHeartbeats 4000000 in
theorem ok_X11_wantNumber_L28 (l : Launch) (X : Cx) (h : AH) (a0 : Nat) (a1 : Int32) (a2 : Int64) (a4 : Int64) (a6 : Int32) (a7 : Int32) (s0 : Nat) (q : Int32 × AH) (hf : f_X11_wantNumber_L28 h a0 a1 a2 a4 a6 a7 s0 = some q) : Go l X k_X11_wantNumber 28 [(0, rf X a0), (1, .int a1), (2, .long a2), (4, .long a4), (6, .int a6), (7, .int a7)] [rf X s0] h (rI q) := by
  unfold f_X11_wantNumber_L28 at hf
  refine g_iconst (pc := 28) (v := (0 : Int32)) dX11_wantNumber_28 (by decide) ?_
  exact ok_X11_wantNumber_L29 l X h a0 a1 a2 a4 a6 a7 s0 (0 : Int32) q hf
set_option maxRecDepth 100000 in
set_option maxHeartbeats 4000000 in
theorem ok_X11_wantNumber (l : Launch) (X : Cx) {h : AH} {a0 : Nat} {a1 : Int32} {a2 : Int64} {a4 : Int64} {a6 : Int32} {q : Int32 × AH} (hf : f_X11_wantNumber h a0 a1 a2 a4 a6 = some q) : Go l X k_X11_wantNumber 0 [(0, rf X a0), (1, .int a1), (2, .long a2), (4, .long a4), (6, .int a6)] [] h (rI q) := by
  unfold f_X11_wantNumber at hf
  refine g_aload_n (pc := 0) 0 dX11_wantNumber_0 rfl rfl ?_
  obtain ⟨g1, hf⟩ := gs_some hf
  refine g_getI (pc := 1) fl_X11_378 dX11_wantNumber_1 g1 ?_
  obtain ⟨x2, ex2, hf⟩ := lt_some hf
  refine g_istore (pc := 4) (L' := [(7, .int x2), (0, rf X a0), (1, .int a1), (2, .long a2), (4, .long a4), (6, .int a6)]) dX11_wantNumber_4 (by decide) ex2 rfl ?_
  refine g_aload_n (pc := 6) 1 dX11_wantNumber_6 rfl rfl ?_
  refine g_iload_n (pc := 7) 2 dX11_wantNumber_7 rfl rfl ?_
  rcases it_some hf with ⟨c3, hf⟩ | ⟨c3, hf⟩
  · refine g_ifne_t (pc := 8) (tgt := 28) dX11_wantNumber_8 (by decide) c3 ?_
    refine g_sub [1, 2, 3, 4, 5, 0] rfl ?_
    exact ok_X11_wantNumber_L28 l X h a0 a1 a2 a4 a6 x2 a0 q hf
  · refine g_ifne_f (pc := 8) (tgt := 28) dX11_wantNumber_8 (by decide) (Decidable.of_not_not c3) ?_
    refine g_aload_n (pc := 11) 1 dX11_wantNumber_11 rfl rfl ?_
    refine g_getR (pc := 12) fl_X11_13 dX11_wantNumber_12 g1 ?_
    refine g_aload_n (pc := 15) 1 dX11_wantNumber_15 rfl rfl ?_
    refine g_getI (pc := 16) fl_X11_378 dX11_wantNumber_16 g1 ?_
    obtain ⟨g4, hf⟩ := gs_some hf
    obtain ⟨b5, hf⟩ := gb_some hf
    refine g_iald (pc := 19) g4 b5 dX11_wantNumber_19 ?_
    refine g_iconst (pc := 20) (v := (1 : Int32)) dX11_wantNumber_20 (by decide) ?_
    rcases it_some hf with ⟨c6, hf⟩ | ⟨c6, hf⟩
    · refine g_icne_t (pc := 21) (tgt := 28) dX11_wantNumber_21 (by decide) c6 ?_
      refine g_sub [1, 2, 3, 4, 5, 0] rfl ?_
      exact ok_X11_wantNumber_L28 l X h a0 a1 a2 a4 a6 x2 a0 q hf
    · refine g_icne_f (pc := 21) (tgt := 28) dX11_wantNumber_21 (by decide) (Decidable.of_not_not c6) ?_
      refine g_iconst (pc := 24) (v := (1 : Int32)) dX11_wantNumber_24 (by decide) ?_
      refine g_goto (pc := 25) (tgt := 29) dX11_wantNumber_25 (by decide) ?_
      refine g_sub [1, 2, 3, 4, 5, 0] rfl ?_
      exact ok_X11_wantNumber_L29 l X h a0 a1 a2 a4 a6 x2 a0 (1 : Int32) q hf
theorem ct_X11_wantNumber (l : Launch) (X : Cx) {h : AH} {a0 : Nat} {a1 : Int32} {a2 : Int64} {a4 : Int64} {a6 : Int32} {q : Int32 × AH} (hf : f_X11_wantNumber h a0 a1 a2 a4 a6 = some q) : Ct l X k_X11_wantNumber [rf X a0, .int a1, .long a2, .long a4, .int a6] h (rI q) := ct_of ck_X11_wantNumber (by simp [lg_sl, rf_cat, rq_cat, ca_i, ca_l, ca_r]) (by simp [lv_args, rf_cat, rq_cat, ca_i, ca_l, ca_r]) (ok_X11_wantNumber l X hf)
