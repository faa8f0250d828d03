set_option maxRecDepth 100000 in
set_option maxHeartbeats 4000000 in
theorem ok_X11_clear_L212 (l : Launch) (X : Cx) (h : AH) (a0 : Nat) (q : AH) (hf : f_X11_clear_L212 h a0 = some q) : Go l X k_X11_clear 212 [(0, rf X a0)] [] h (rV q) := by
  unfold f_X11_clear_L212 at hf
  refine g_aload_n (pc := 212) 0 dX11_clear_212 rfl rfl ?_
  refine g_iconst (pc := 213) (v := (0 : Int32)) dX11_clear_213 (by decide) ?_
  obtain ⟨g1, hf⟩ := gs_some hf
  obtain ⟨h2, eh2, hf⟩ := lt_some hf
  refine g_putI (pc := 214) fl_X11_316 dX11_clear_214 g1 eh2 ?_
  refine g_aload_n (pc := 217) 0 dX11_clear_217 rfl rfl ?_
  refine g_iconst (pc := 218) (v := (0 : Int32)) dX11_clear_218 (by decide) ?_
  have g3 : hS h2 a0 = 10 := (hS_tI eh2 g1)
  obtain ⟨h4, eh4, hf⟩ := lt_some hf
  refine g_putI (pc := 219) fl_X11_319 dX11_clear_219 g3 eh4 ?_
  refine g_aload_n (pc := 222) 0 dX11_clear_222 rfl rfl ?_
  refine g_iconst (pc := 223) (v := (0 : Int32)) dX11_clear_223 (by decide) ?_
  have g5 : hS h4 a0 = 10 := (hS_tI eh4 g3)
  obtain ⟨h6, eh6, hf⟩ := lt_some hf
  refine g_putI (pc := 224) fl_X11_322 dX11_clear_224 g5 eh6 ?_
  refine g_aload_n (pc := 227) 0 dX11_clear_227 rfl rfl ?_
  refine g_iconst (pc := 228) (v := (0 : Int32)) dX11_clear_228 (by decide) ?_
  have g7 : hS h6 a0 = 10 := (hS_tI eh6 g5)
  obtain ⟨h8, eh8, hf⟩ := lt_some hf
  refine g_putI (pc := 229) fl_X11_325 dX11_clear_229 g7 eh8 ?_
  refine g_aload_n (pc := 232) 0 dX11_clear_232 rfl rfl ?_
  refine g_iconst (pc := 233) (v := (0 : Int32)) dX11_clear_233 (by decide) ?_
  have g9 : hS h8 a0 = 10 := (hS_tI eh8 g7)
  obtain ⟨h10, eh10, hf⟩ := lt_some hf
  refine g_putI (pc := 234) fl_X11_328 dX11_clear_234 g9 eh10 ?_
  refine g_aload_n (pc := 237) 0 dX11_clear_237 rfl rfl ?_
  refine g_iconst (pc := 238) (v := (0 : Int32)) dX11_clear_238 (by decide) ?_
  have g11 : hS h10 a0 = 10 := (hS_tI eh10 g9)
  obtain ⟨h12, eh12, hf⟩ := lt_some hf
  refine g_putI (pc := 239) fl_X11_331 dX11_clear_239 g11 eh12 ?_
  refine g_aload_n (pc := 242) 0 dX11_clear_242 rfl rfl ?_
  refine g_iconst (pc := 243) (v := (0 : Int32)) dX11_clear_243 (by decide) ?_
  have g13 : hS h12 a0 = 10 := (hS_tI eh12 g11)
  obtain ⟨h14, eh14, hf⟩ := lt_some hf
  refine g_putI (pc := 244) fl_X11_334 dX11_clear_244 g13 eh14 ?_
  obtain rfl := Option.some.inj hf
  exact g_vret (pc := 247) rfl dX11_clear_247
set_option maxRecDepth 100000 in
set_option maxHeartbeats 4000000 in
theorem ok_X11_clear_L120 (l : Launch) (X : Cx) : ∀ (n : Nat) (h : AH) (a0 : Nat) (a1 : Int32) (q : AH), f_X11_clear_L120 n h a0 a1 = some q → Go l X k_X11_clear 120 [(0, rf X a0), (1, .int a1)] [] h (rV q) := by
  intro n
  induction n with
  | zero =>
    intro h a0 a1 q hf
    unfold f_X11_clear_L120 at hf
    cases hf
  | succ n ih =>
    intro h a0 a1 q hf
    unfold f_X11_clear_L120 at hf
    refine g_iload_n (pc := 120) 1 dX11_clear_120 rfl rfl ?_
    refine g_bipush (pc := 121) (v := (16 : Int32)) dX11_clear_121 (by decide) ?_
    rcases it_some hf with ⟨c1, hf⟩ | ⟨c1, hf⟩
    · refine g_icge_t (pc := 123) (tgt := 202) dX11_clear_123 (by decide) c1 ?_
      refine g_aload_n (pc := 202) 0 dX11_clear_202 rfl rfl ?_
      refine g_iconst (pc := 203) (v := (0 : Int32)) dX11_clear_203 (by decide) ?_
      obtain ⟨g2, hf⟩ := gs_some hf
      obtain ⟨h3, eh3, hf⟩ := lt_some hf
      refine g_putI (pc := 204) fl_X11_310 dX11_clear_204 g2 eh3 ?_
      refine g_aload_n (pc := 207) 0 dX11_clear_207 rfl rfl ?_
      refine g_iconst (pc := 208) (v := (0 : Int32)) dX11_clear_208 (by decide) ?_
      have g4 : hS h3 a0 = 10 := (hS_tI eh3 g2)
      obtain ⟨h5, eh5, hf⟩ := lt_some hf
      refine g_putI (pc := 209) fl_X11_313 dX11_clear_209 g4 eh5 ?_
      refine g_sub [0] rfl ?_
      exact ok_X11_clear_L212 l X h5 a0 q hf
    · refine g_icge_f (pc := 123) (tgt := 202) dX11_clear_123 (by decide) c1 ?_
      refine g_aload_n (pc := 126) 0 dX11_clear_126 rfl rfl ?_
      obtain ⟨g6, hf⟩ := gs_some hf
      refine g_getR (pc := 127) fl_X11_62 dX11_clear_127 g6 ?_
      refine g_iload_n (pc := 130) 1 dX11_clear_130 rfl rfl ?_
      refine g_iconst (pc := 131) (v := (0 : Int32)) dX11_clear_131 (by decide) ?_
      obtain ⟨g7, hf⟩ := gs_some hf
      obtain ⟨b8, hf⟩ := gb_some hf
      obtain ⟨h9, eh9, hf⟩ := lt_some hf
      refine g_iast (pc := 132) g7 b8 dX11_clear_132 eh9 ?_
      refine g_aload_n (pc := 133) 0 dX11_clear_133 rfl rfl ?_
      have g10 : hS h9 a0 = 10 := (hS_tI eh9 g6)
      refine g_getR (pc := 134) fl_X11_65 dX11_clear_134 g10 ?_
      refine g_iload_n (pc := 137) 1 dX11_clear_137 rfl rfl ?_
      refine g_iconst (pc := 138) (v := (0 : Int32)) dX11_clear_138 (by decide) ?_
      obtain ⟨g11, hf⟩ := gs_some hf
      obtain ⟨b12, hf⟩ := gb_some hf
      obtain ⟨h13, eh13, hf⟩ := lt_some hf
      refine g_iast (pc := 139) g11 b12 dX11_clear_139 eh13 ?_
      refine g_aload_n (pc := 140) 0 dX11_clear_140 rfl rfl ?_
      have g14 : hS h13 a0 = 10 := (hS_tI eh13 g10)
      refine g_getR (pc := 141) fl_X11_96 dX11_clear_141 g14 ?_
      refine g_iload_n (pc := 144) 1 dX11_clear_144 rfl rfl ?_
      refine g_iconst (pc := 145) (v := (0 : Int32)) dX11_clear_145 (by decide) ?_
      obtain ⟨g15, hf⟩ := gs_some hf
      obtain ⟨b16, hf⟩ := gb_some hf
      obtain ⟨h17, eh17, hf⟩ := lt_some hf
      refine g_iast (pc := 146) g15 b16 dX11_clear_146 eh17 ?_
      refine g_aload_n (pc := 147) 0 dX11_clear_147 rfl rfl ?_
      have g18 : hS h17 a0 = 10 := (hS_tI eh17 g14)
      refine g_getR (pc := 148) fl_X11_99 dX11_clear_148 g18 ?_
      refine g_iload_n (pc := 151) 1 dX11_clear_151 rfl rfl ?_
      refine g_iconst (pc := 152) (v := (0 : Int32)) dX11_clear_152 (by decide) ?_
      obtain ⟨g19, hf⟩ := gs_some hf
      obtain ⟨b20, hf⟩ := gb_some hf
      obtain ⟨h21, eh21, hf⟩ := lt_some hf
      refine g_iast (pc := 153) g19 b20 dX11_clear_153 eh21 ?_
      refine g_aload_n (pc := 154) 0 dX11_clear_154 rfl rfl ?_
      have g22 : hS h21 a0 = 10 := (hS_tI eh21 g18)
      refine g_getR (pc := 155) fl_X11_68 dX11_clear_155 g22 ?_
      refine g_iload_n (pc := 158) 1 dX11_clear_158 rfl rfl ?_
      refine g_iconst (pc := 159) (v := (0 : Int32)) dX11_clear_159 (by decide) ?_
      obtain ⟨g23, hf⟩ := gs_some hf
      obtain ⟨b24, hf⟩ := gb_some hf
      obtain ⟨h25, eh25, hf⟩ := lt_some hf
      refine g_iast (pc := 160) g23 b24 dX11_clear_160 eh25 ?_
      refine g_aload_n (pc := 161) 0 dX11_clear_161 rfl rfl ?_
      have g26 : hS h25 a0 = 10 := (hS_tI eh25 g22)
      refine g_getR (pc := 162) fl_X11_71 dX11_clear_162 g26 ?_
      refine g_iload_n (pc := 165) 1 dX11_clear_165 rfl rfl ?_
      refine g_iconst (pc := 166) (v := (0 : Int32)) dX11_clear_166 (by decide) ?_
      obtain ⟨g27, hf⟩ := gs_some hf
      obtain ⟨b28, hf⟩ := gb_some hf
      obtain ⟨h29, eh29, hf⟩ := lt_some hf
      refine g_iast (pc := 167) g27 b28 dX11_clear_167 eh29 ?_
      refine g_aload_n (pc := 168) 0 dX11_clear_168 rfl rfl ?_
      have g30 : hS h29 a0 = 10 := (hS_tI eh29 g26)
      refine g_getR (pc := 169) fl_X11_74 dX11_clear_169 g30 ?_
      refine g_iload_n (pc := 172) 1 dX11_clear_172 rfl rfl ?_
      refine g_iconst (pc := 173) (v := (0 : Int32)) dX11_clear_173 (by decide) ?_
      obtain ⟨g31, hf⟩ := gs_some hf
      obtain ⟨b32, hf⟩ := gb_some hf
      obtain ⟨h33, eh33, hf⟩ := lt_some hf
      refine g_iast (pc := 174) g31 b32 dX11_clear_174 eh33 ?_
      refine g_aload_n (pc := 175) 0 dX11_clear_175 rfl rfl ?_
      have g34 : hS h33 a0 = 10 := (hS_tI eh33 g30)
      refine g_getR (pc := 176) fl_X11_86 dX11_clear_176 g34 ?_
      refine g_iload_n (pc := 179) 1 dX11_clear_179 rfl rfl ?_
      refine g_iconst (pc := 180) (v := (-1 : Int32)) dX11_clear_180 (by decide) ?_
      obtain ⟨g35, hf⟩ := gs_some hf
      obtain ⟨b36, hf⟩ := gb_some hf
      obtain ⟨h37, eh37, hf⟩ := lt_some hf
      refine g_iast (pc := 181) g35 b36 dX11_clear_181 eh37 ?_
      refine g_aload_n (pc := 182) 0 dX11_clear_182 rfl rfl ?_
      have g38 : hS h37 a0 = 10 := (hS_tI eh37 g34)
      refine g_getR (pc := 183) fl_X11_89 dX11_clear_183 g38 ?_
      refine g_iload_n (pc := 186) 1 dX11_clear_186 rfl rfl ?_
      refine g_iconst (pc := 187) (v := (-1 : Int32)) dX11_clear_187 (by decide) ?_
      obtain ⟨g39, hf⟩ := gs_some hf
      obtain ⟨b40, hf⟩ := gb_some hf
      obtain ⟨h41, eh41, hf⟩ := lt_some hf
      refine g_iast (pc := 188) g39 b40 dX11_clear_188 eh41 ?_
      refine g_aload_n (pc := 189) 0 dX11_clear_189 rfl rfl ?_
      have g42 : hS h41 a0 = 10 := (hS_tI eh41 g38)
      refine g_getR (pc := 190) fl_X11_92 dX11_clear_190 g42 ?_
      refine g_iload_n (pc := 193) 1 dX11_clear_193 rfl rfl ?_
      refine g_iconst (pc := 194) (v := (0 : Int32)) dX11_clear_194 (by decide) ?_
      obtain ⟨g43, hf⟩ := gs_some hf
      obtain ⟨b44, hf⟩ := gb_some hf
      obtain ⟨h45, eh45, hf⟩ := lt_some hf
      refine g_zast (pc := 195) g43 b44 dX11_clear_195 eh45 ?_
      obtain ⟨x46, ex46, hf⟩ := lt_some hf
      refine g_iinc (pc := 196) (y := x46) (L' := [(1, .int x46), (0, rf X a0)]) 1 dX11_clear_196 rfl (by decide) (ex46.trans rfl) (by simp [rf_cat, rq_cat]) ?_
      refine g_goto (pc := 199) (tgt := 120) dX11_clear_199 (by decide) ?_
      refine g_sub [1, 0] rfl ?_
      exact ih h45 a0 x46 q hf
set_option maxRecDepth 100000 in
set_option maxHeartbeats 4000000 in
theorem ok_X11_clear_L28 (l : Launch) (X : Cx) : ∀ (n : Nat) (h : AH) (a0 : Nat) (a1 : Int32) (q : AH), f_X11_clear_L28 n h a0 a1 = some q → Go l X k_X11_clear 28 [(0, rf X a0), (1, .int a1)] [] h (rV q) := by
  intro n
  induction n with
  | zero =>
    intro h a0 a1 q hf
    unfold f_X11_clear_L28 at hf
    cases hf
  | succ n ih =>
    intro h a0 a1 q hf
    unfold f_X11_clear_L28 at hf
    refine g_iload_n (pc := 28) 1 dX11_clear_28 rfl rfl ?_
    refine g_sipush (pc := 29) (v := (512 : Int32)) dX11_clear_29 (by decide) ?_
    rcases it_some hf with ⟨c1, hf⟩ | ⟨c1, hf⟩
    · refine g_icge_t (pc := 32) (tgt := 118) dX11_clear_32 (by decide) c1 ?_
      refine g_iconst (pc := 118) (v := (0 : Int32)) dX11_clear_118 (by decide) ?_
      obtain ⟨x2, ex2, hf⟩ := lt_some hf
      refine g_istore_n (pc := 119) (L' := [(1, .int x2), (0, rf X a0)]) dX11_clear_119 rfl (by decide) ex2 (by simp [rf_cat, rq_cat]) ?_
      refine g_sub [1, 0] rfl ?_
      exact ok_X11_clear_L120 l X FU h a0 x2 q hf
    · refine g_icge_f (pc := 32) (tgt := 118) dX11_clear_32 (by decide) c1 ?_
      refine g_aload_n (pc := 35) 0 dX11_clear_35 rfl rfl ?_
      obtain ⟨g3, hf⟩ := gs_some hf
      refine g_getR (pc := 36) fl_X11_59 dX11_clear_36 g3 ?_
      refine g_iload_n (pc := 39) 1 dX11_clear_39 rfl rfl ?_
      refine g_iconst (pc := 40) (v := (0 : Int32)) dX11_clear_40 (by decide) ?_
      obtain ⟨g4, hf⟩ := gs_some hf
      obtain ⟨b5, hf⟩ := gb_some hf
      obtain ⟨h6, eh6, hf⟩ := lt_some hf
      refine g_iast (pc := 41) g4 b5 dX11_clear_41 eh6 ?_
      refine g_aload_n (pc := 42) 0 dX11_clear_42 rfl rfl ?_
      have g7 : hS h6 a0 = 10 := (hS_tI eh6 g3)
      refine g_getR (pc := 43) fl_X11_108 dX11_clear_43 g7 ?_
      refine g_iload_n (pc := 46) 1 dX11_clear_46 rfl rfl ?_
      refine g_iconst (pc := 47) (v := (0 : Int32)) dX11_clear_47 (by decide) ?_
      obtain ⟨g8, hf⟩ := gs_some hf
      obtain ⟨b9, hf⟩ := gb_some hf
      obtain ⟨h10, eh10, hf⟩ := lt_some hf
      refine g_iast (pc := 48) g8 b9 dX11_clear_48 eh10 ?_
      refine g_aload_n (pc := 49) 0 dX11_clear_49 rfl rfl ?_
      have g11 : hS h10 a0 = 10 := (hS_tI eh10 g7)
      refine g_getR (pc := 50) fl_X11_105 dX11_clear_50 g11 ?_
      refine g_iload_n (pc := 53) 1 dX11_clear_53 rfl rfl ?_
      refine g_iconst (pc := 54) (v := (0 : Int32)) dX11_clear_54 (by decide) ?_
      obtain ⟨g12, hf⟩ := gs_some hf
      obtain ⟨b13, hf⟩ := gb_some hf
      obtain ⟨h14, eh14, hf⟩ := lt_some hf
      refine g_iast (pc := 55) g12 b13 dX11_clear_55 eh14 ?_
      refine g_aload_n (pc := 56) 0 dX11_clear_56 rfl rfl ?_
      have g15 : hS h14 a0 = 10 := (hS_tI eh14 g11)
      refine g_getR (pc := 57) fl_X11_111 dX11_clear_57 g15 ?_
      refine g_iload_n (pc := 60) 1 dX11_clear_60 rfl rfl ?_
      refine g_iconst (pc := 61) (v := (0 : Int32)) dX11_clear_61 (by decide) ?_
      obtain ⟨g16, hf⟩ := gs_some hf
      obtain ⟨b17, hf⟩ := gb_some hf
      obtain ⟨h18, eh18, hf⟩ := lt_some hf
      refine g_iast (pc := 62) g16 b17 dX11_clear_62 eh18 ?_
      refine g_aload_n (pc := 63) 0 dX11_clear_63 rfl rfl ?_
      have g19 : hS h18 a0 = 10 := (hS_tI eh18 g15)
      refine g_getR (pc := 64) fl_X11_114 dX11_clear_64 g19 ?_
      refine g_iload_n (pc := 67) 1 dX11_clear_67 rfl rfl ?_
      refine g_iconst (pc := 68) (v := (-1 : Int32)) dX11_clear_68 (by decide) ?_
      obtain ⟨g20, hf⟩ := gs_some hf
      obtain ⟨b21, hf⟩ := gb_some hf
      obtain ⟨h22, eh22, hf⟩ := lt_some hf
      refine g_iast (pc := 69) g20 b21 dX11_clear_69 eh22 ?_
      refine g_aload_n (pc := 70) 0 dX11_clear_70 rfl rfl ?_
      have g23 : hS h22 a0 = 10 := (hS_tI eh22 g19)
      refine g_getR (pc := 71) fl_X11_129 dX11_clear_71 g23 ?_
      refine g_iload_n (pc := 74) 1 dX11_clear_74 rfl rfl ?_
      refine g_iconst (pc := 75) (v := (-1 : Int32)) dX11_clear_75 (by decide) ?_
      obtain ⟨g24, hf⟩ := gs_some hf
      obtain ⟨b25, hf⟩ := gb_some hf
      obtain ⟨h26, eh26, hf⟩ := lt_some hf
      refine g_iast (pc := 76) g24 b25 dX11_clear_76 eh26 ?_
      refine g_aload_n (pc := 77) 0 dX11_clear_77 rfl rfl ?_
      have g27 : hS h26 a0 = 10 := (hS_tI eh26 g23)
      refine g_getR (pc := 78) fl_X11_123 dX11_clear_78 g27 ?_
      refine g_iload_n (pc := 81) 1 dX11_clear_81 rfl rfl ?_
      refine g_iconst (pc := 82) (v := (-1 : Int32)) dX11_clear_82 (by decide) ?_
      obtain ⟨g28, hf⟩ := gs_some hf
      obtain ⟨b29, hf⟩ := gb_some hf
      obtain ⟨h30, eh30, hf⟩ := lt_some hf
      refine g_iast (pc := 83) g28 b29 dX11_clear_83 eh30 ?_
      refine g_aload_n (pc := 84) 0 dX11_clear_84 rfl rfl ?_
      have g31 : hS h30 a0 = 10 := (hS_tI eh30 g27)
      refine g_getR (pc := 85) fl_X11_126 dX11_clear_85 g31 ?_
      refine g_iload_n (pc := 88) 1 dX11_clear_88 rfl rfl ?_
      refine g_iconst (pc := 89) (v := (0 : Int32)) dX11_clear_89 (by decide) ?_
      obtain ⟨g32, hf⟩ := gs_some hf
      obtain ⟨b33, hf⟩ := gb_some hf
      obtain ⟨h34, eh34, hf⟩ := lt_some hf
      refine g_iast (pc := 90) g32 b33 dX11_clear_90 eh34 ?_
      refine g_aload_n (pc := 91) 0 dX11_clear_91 rfl rfl ?_
      have g35 : hS h34 a0 = 10 := (hS_tI eh34 g31)
      refine g_getR (pc := 92) fl_X11_135 dX11_clear_92 g35 ?_
      refine g_iload_n (pc := 95) 1 dX11_clear_95 rfl rfl ?_
      refine g_iconst (pc := 96) (v := (0 : Int32)) dX11_clear_96 (by decide) ?_
      obtain ⟨g36, hf⟩ := gs_some hf
      obtain ⟨b37, hf⟩ := gb_some hf
      obtain ⟨h38, eh38, hf⟩ := lt_some hf
      refine g_iast (pc := 97) g36 b37 dX11_clear_97 eh38 ?_
      refine g_aload_n (pc := 98) 0 dX11_clear_98 rfl rfl ?_
      have g39 : hS h38 a0 = 10 := (hS_tI eh38 g35)
      refine g_getR (pc := 99) fl_X11_138 dX11_clear_99 g39 ?_
      refine g_iload_n (pc := 102) 1 dX11_clear_102 rfl rfl ?_
      refine g_iconst (pc := 103) (v := (0 : Int32)) dX11_clear_103 (by decide) ?_
      obtain ⟨g40, hf⟩ := gs_some hf
      obtain ⟨b41, hf⟩ := gb_some hf
      obtain ⟨h42, eh42, hf⟩ := lt_some hf
      refine g_iast (pc := 104) g40 b41 dX11_clear_104 eh42 ?_
      refine g_aload_n (pc := 105) 0 dX11_clear_105 rfl rfl ?_
      have g43 : hS h42 a0 = 10 := (hS_tI eh42 g39)
      refine g_getR (pc := 106) fl_X11_120 dX11_clear_106 g43 ?_
      refine g_iload_n (pc := 109) 1 dX11_clear_109 rfl rfl ?_
      refine g_iconst (pc := 110) (v := (0 : Int32)) dX11_clear_110 (by decide) ?_
      obtain ⟨g44, hf⟩ := gs_some hf
      obtain ⟨b45, hf⟩ := gb_some hf
      obtain ⟨h46, eh46, hf⟩ := lt_some hf
      refine g_zast (pc := 111) g44 b45 dX11_clear_111 eh46 ?_
      obtain ⟨x47, ex47, hf⟩ := lt_some hf
      refine g_iinc (pc := 112) (y := x47) (L' := [(1, .int x47), (0, rf X a0)]) 1 dX11_clear_112 rfl (by decide) (ex47.trans rfl) (by simp [rf_cat, rq_cat]) ?_
      refine g_goto (pc := 115) (tgt := 28) dX11_clear_115 (by decide) ?_
      refine g_sub [1, 0] rfl ?_
      exact ih h46 a0 x47 q hf
set_option maxRecDepth 100000 in
set_option maxHeartbeats 4000000 in
theorem ok_X11_clear_L2 (l : Launch) (X : Cx) : ∀ (n : Nat) (h : AH) (a0 : Nat) (a1 : Int32) (q : AH), f_X11_clear_L2 n h a0 a1 = some q → Go l X k_X11_clear 2 [(0, rf X a0), (1, .int a1)] [] h (rV q) := by
  intro n
  induction n with
  | zero =>
    intro h a0 a1 q hf
    unfold f_X11_clear_L2 at hf
    cases hf
  | succ n ih =>
    intro h a0 a1 q hf
    unfold f_X11_clear_L2 at hf
    refine g_iload_n (pc := 2) 1 dX11_clear_2 rfl rfl ?_
    refine g_bipush (pc := 3) (v := (6 : Int32)) dX11_clear_3 (by decide) ?_
    rcases it_some hf with ⟨c1, hf⟩ | ⟨c1, hf⟩
    · refine g_icge_t (pc := 5) (tgt := 26) dX11_clear_5 (by decide) c1 ?_
      refine g_iconst (pc := 26) (v := (0 : Int32)) dX11_clear_26 (by decide) ?_
      obtain ⟨x2, ex2, hf⟩ := lt_some hf
      refine g_istore_n (pc := 27) (L' := [(1, .int x2), (0, rf X a0)]) dX11_clear_27 rfl (by decide) ex2 (by simp [rf_cat, rq_cat]) ?_
      refine g_sub [1, 0] rfl ?_
      exact ok_X11_clear_L28 l X FU h a0 x2 q hf
    · refine g_icge_f (pc := 5) (tgt := 26) dX11_clear_5 (by decide) c1 ?_
      refine g_aload_n (pc := 8) 0 dX11_clear_8 rfl rfl ?_
      obtain ⟨g3, hf⟩ := gs_some hf
      refine g_getR (pc := 9) fl_X11_47 dX11_clear_9 g3 ?_
      refine g_iload_n (pc := 12) 1 dX11_clear_12 rfl rfl ?_
      refine g_aload_n (pc := 13) 0 dX11_clear_13 rfl rfl ?_
      refine g_getR (pc := 14) fl_X11_50 dX11_clear_14 g3 ?_
      refine g_iload_n (pc := 17) 1 dX11_clear_17 rfl rfl ?_
      obtain ⟨g4, hf⟩ := gs_some hf
      obtain ⟨b5, hf⟩ := gb_some hf
      refine g_iald (pc := 18) g4 b5 dX11_clear_18 ?_
      obtain ⟨g6, hf⟩ := gs_some hf
      obtain ⟨b7, hf⟩ := gb_some hf
      obtain ⟨h8, eh8, hf⟩ := lt_some hf
      refine g_iast (pc := 19) g6 b7 dX11_clear_19 eh8 ?_
      obtain ⟨x9, ex9, hf⟩ := lt_some hf
      refine g_iinc (pc := 20) (y := x9) (L' := [(1, .int x9), (0, rf X a0)]) 1 dX11_clear_20 rfl (by decide) (ex9.trans rfl) (by simp [rf_cat, rq_cat]) ?_
      refine g_goto (pc := 23) (tgt := 2) dX11_clear_23 (by decide) ?_
      refine g_sub [1, 0] rfl ?_
      exact ih h8 a0 x9 q hf
set_option maxRecDepth 100000 in
set_option maxHeartbeats 4000000 in
theorem ok_X11_clear (l : Launch) (X : Cx) {h : AH} {a0 : Nat} {q : AH} (hf : f_X11_clear h a0 = some q) : Go l X k_X11_clear 0 [(0, rf X a0)] [] h (rV q) := by
  unfold f_X11_clear at hf
  refine g_iconst (pc := 0) (v := (0 : Int32)) dX11_clear_0 (by decide) ?_
  obtain ⟨x1, ex1, hf⟩ := lt_some hf
  refine g_istore_n (pc := 1) (L' := [(1, .int x1), (0, rf X a0)]) dX11_clear_1 rfl (by decide) ex1 (by simp [rf_cat, rq_cat]) ?_
  refine g_sub [1, 0] rfl ?_
  exact ok_X11_clear_L2 l X FU h a0 x1 q hf
theorem ct_X11_clear (l : Launch) (X : Cx) {h : AH} {a0 : Nat} {q : AH} (hf : f_X11_clear h a0 = some q) : Ct l X k_X11_clear [rf X a0] h (rV q) := ct_of ck_X11_clear (by simp [lg_sl, rf_cat, rq_cat, ca_i, ca_l, ca_r]) (by simp [lv_args, rf_cat, rq_cat, ca_i, ca_l, ca_r]) (ok_X11_clear l X hf)
