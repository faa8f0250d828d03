set_option maxRecDepth 100000 in
set_option maxHeartbeats 4000000 in
theorem ok_X1_encode (l : Launch) (X : Cx) {h : AH} {a0 : Nat} {a1 : Int32} {q : Int32} (hf : f_X1_encode h a0 a1 = some q) : Go l X k_X1_encode 0 [(0, rf X a0), (1, .int a1)] [] h (rI (q, h)) := by
  unfold f_X1_encode at hf
  refine g_aload_n (pc := 0) 0 dX1_encode_0 rfl rfl ?_
  obtain ⟨g1, hf⟩ := gs_some hf
  refine g_getR (pc := 1) fl_X1_30 dX1_encode_1 g1 ?_
  refine g_iload_n (pc := 4) 1 dX1_encode_4 rfl rfl ?_
  obtain ⟨g2, hf⟩ := gs_some hf
  obtain ⟨b3, hf⟩ := gb_some hf
  refine g_lald (pc := 5) g2 b3 dX1_encode_5 ?_
  refine g_l2i (pc := 6) dX1_encode_6 ?_
  obtain ⟨x4, ex4, hf⟩ := lt_some hf
  refine g_istore_n (pc := 7) (L' := [(2, .int x4), (0, rf X a0), (1, .int a1)]) dX1_encode_7 rfl (by decide) ex4 rfl ?_
  refine g_sMNN (pc := 8) 1 rfl dX1_encode_8 ?_
  refine g_aload_n (pc := 11) 1 dX1_encode_11 rfl rfl ?_
  refine g_getR (pc := 12) fl_X1_9 dX1_encode_12 g1 ?_
  refine g_iload_n (pc := 15) 2 dX1_encode_15 rfl rfl ?_
  obtain ⟨g5, hf⟩ := gs_some hf
  obtain ⟨b6, hf⟩ := gb_some hf
  refine g_iald (pc := 16) g5 b6 dX1_encode_16 ?_
  obtain ⟨b7, hf⟩ := gb_some hf
  refine g_tMN (pc := 17) b7 dX1_encode_17 ?_
  obtain ⟨b8, hf⟩ := gb_some hf
  refine g_mForm (pc := 18) m_2052 b8 dX1_encode_18 ?_
  rcases it_some hf with ⟨c9, hf⟩ | ⟨c9, hf⟩
  · refine g_tsw (pc := 21) (tgt := 68) (1 : Int32) dX1_encode_21 c9 (by decide +kernel) (by decide +kernel) (off := 47) (by decide +kernel) (by decide) ?_
    refine g_aload_n (pc := 68) 1 dX1_encode_68 rfl rfl ?_
    refine g_getR (pc := 69) fl_X1_21 dX1_encode_69 g1 ?_
    refine g_iload_n (pc := 72) 2 dX1_encode_72 rfl rfl ?_
    obtain ⟨g10, hf⟩ := gs_some hf
    obtain ⟨b11, hf⟩ := gb_some hf
    refine g_iald (pc := 73) g10 b11 dX1_encode_73 ?_
    refine g_iload_n (pc := 74) 0 dX1_encode_74 rfl rfl ?_
    refine g_bipush (pc := 75) (v := (20 : Int32)) dX1_encode_75 (by decide) ?_
    refine g_ishl (pc := 77) dX1_encode_77 ?_
    refine g_ior (pc := 78) dX1_encode_78 ?_
    obtain rfl := Option.some.inj hf
    exact g_iret (pc := 79) rfl dX1_encode_79
  ·
    rcases it_some hf with ⟨c12, hf⟩ | ⟨c12, hf⟩
    · refine g_tsw (pc := 21) (tgt := 68) (2 : Int32) dX1_encode_21 c12 (by decide +kernel) (by decide +kernel) (off := 47) (by decide +kernel) (by decide) ?_
      refine g_aload_n (pc := 68) 1 dX1_encode_68 rfl rfl ?_
      refine g_getR (pc := 69) fl_X1_21 dX1_encode_69 g1 ?_
      refine g_iload_n (pc := 72) 2 dX1_encode_72 rfl rfl ?_
      obtain ⟨g13, hf⟩ := gs_some hf
      obtain ⟨b14, hf⟩ := gb_some hf
      refine g_iald (pc := 73) g13 b14 dX1_encode_73 ?_
      refine g_iload_n (pc := 74) 0 dX1_encode_74 rfl rfl ?_
      refine g_bipush (pc := 75) (v := (20 : Int32)) dX1_encode_75 (by decide) ?_
      refine g_ishl (pc := 77) dX1_encode_77 ?_
      refine g_ior (pc := 78) dX1_encode_78 ?_
      obtain rfl := Option.some.inj hf
      exact g_iret (pc := 79) rfl dX1_encode_79
    ·
      rcases it_some hf with ⟨c15, hf⟩ | ⟨c15, hf⟩
      · refine g_tsw (pc := 21) (tgt := 80) (3 : Int32) dX1_encode_21 c15 (by decide +kernel) (by decide +kernel) (off := 59) (by decide +kernel) (by decide) ?_
        refine g_aload_n (pc := 80) 1 dX1_encode_80 rfl rfl ?_
        refine g_getR (pc := 81) fl_X1_21 dX1_encode_81 g1 ?_
        refine g_iload_n (pc := 84) 2 dX1_encode_84 rfl rfl ?_
        obtain ⟨g16, hf⟩ := gs_some hf
        obtain ⟨b17, hf⟩ := gb_some hf
        refine g_iald (pc := 85) g16 b17 dX1_encode_85 ?_
        refine g_iload_n (pc := 86) 0 dX1_encode_86 rfl rfl ?_
        refine g_iconst (pc := 87) (v := (5 : Int32)) dX1_encode_87 (by decide) ?_
        refine g_ishr (pc := 88) dX1_encode_88 ?_
        refine g_bipush (pc := 89) (v := (25 : Int32)) dX1_encode_89 (by decide) ?_
        refine g_ishl (pc := 91) dX1_encode_91 ?_
        refine g_ior (pc := 92) dX1_encode_92 ?_
        refine g_iload_n (pc := 93) 0 dX1_encode_93 rfl rfl ?_
        refine g_bipush (pc := 94) (v := (31 : Int32)) dX1_encode_94 (by decide) ?_
        refine g_iand (pc := 96) dX1_encode_96 ?_
        refine g_bipush (pc := 97) (v := (7 : Int32)) dX1_encode_97 (by decide) ?_
        refine g_ishl (pc := 99) dX1_encode_99 ?_
        refine g_ior (pc := 100) dX1_encode_100 ?_
        obtain rfl := Option.some.inj hf
        exact g_iret (pc := 101) rfl dX1_encode_101
      ·
        rcases it_some hf with ⟨c18, hf⟩ | ⟨c18, hf⟩
        · refine g_tsw (pc := 21) (tgt := 102) (4 : Int32) dX1_encode_21 c18 (by decide +kernel) (by decide +kernel) (off := 81) (by decide +kernel) (by decide) ?_
          refine g_aload_n (pc := 102) 1 dX1_encode_102 rfl rfl ?_
          refine g_getR (pc := 103) fl_X1_21 dX1_encode_103 g1 ?_
          refine g_iload_n (pc := 106) 2 dX1_encode_106 rfl rfl ?_
          obtain ⟨g19, hf⟩ := gs_some hf
          obtain ⟨b20, hf⟩ := gb_some hf
          refine g_iald (pc := 107) g19 b20 dX1_encode_107 ?_
          refine g_iload_n (pc := 108) 0 dX1_encode_108 rfl rfl ?_
          refine g_bipush (pc := 109) (v := (12 : Int32)) dX1_encode_109 (by decide) ?_
          refine g_ishr (pc := 111) dX1_encode_111 ?_
          refine g_bipush (pc := 112) (v := (31 : Int32)) dX1_encode_112 (by decide) ?_
          refine g_ishl (pc := 114) dX1_encode_114 ?_
          refine g_ior (pc := 115) dX1_encode_115 ?_
          refine g_iload_n (pc := 116) 0 dX1_encode_116 rfl rfl ?_
          refine g_iconst (pc := 117) (v := (5 : Int32)) dX1_encode_117 (by decide) ?_
          refine g_ishr (pc := 118) dX1_encode_118 ?_
          refine g_bipush (pc := 119) (v := (63 : Int32)) dX1_encode_119 (by decide) ?_
          refine g_iand (pc := 121) dX1_encode_121 ?_
          refine g_bipush (pc := 122) (v := (25 : Int32)) dX1_encode_122 (by decide) ?_
          refine g_ishl (pc := 124) dX1_encode_124 ?_
          refine g_ior (pc := 125) dX1_encode_125 ?_
          refine g_iload_n (pc := 126) 0 dX1_encode_126 rfl rfl ?_
          refine g_iconst (pc := 127) (v := (1 : Int32)) dX1_encode_127 (by decide) ?_
          refine g_ishr (pc := 128) dX1_encode_128 ?_
          refine g_bipush (pc := 129) (v := (15 : Int32)) dX1_encode_129 (by decide) ?_
          refine g_iand (pc := 131) dX1_encode_131 ?_
          refine g_bipush (pc := 132) (v := (8 : Int32)) dX1_encode_132 (by decide) ?_
          refine g_ishl (pc := 134) dX1_encode_134 ?_
          refine g_ior (pc := 135) dX1_encode_135 ?_
          refine g_iload_n (pc := 136) 0 dX1_encode_136 rfl rfl ?_
          refine g_bipush (pc := 137) (v := (11 : Int32)) dX1_encode_137 (by decide) ?_
          refine g_ishr (pc := 139) dX1_encode_139 ?_
          refine g_iconst (pc := 140) (v := (1 : Int32)) dX1_encode_140 (by decide) ?_
          refine g_iand (pc := 141) dX1_encode_141 ?_
          refine g_bipush (pc := 142) (v := (7 : Int32)) dX1_encode_142 (by decide) ?_
          refine g_ishl (pc := 144) dX1_encode_144 ?_
          refine g_ior (pc := 145) dX1_encode_145 ?_
          obtain rfl := Option.some.inj hf
          exact g_iret (pc := 146) rfl dX1_encode_146
        ·
          rcases it_some hf with ⟨c21, hf⟩ | ⟨c21, hf⟩
          · refine g_tsw (pc := 21) (tgt := 147) (5 : Int32) dX1_encode_21 c21 (by decide +kernel) (by decide +kernel) (off := 126) (by decide +kernel) (by decide) ?_
            refine g_aload_n (pc := 147) 1 dX1_encode_147 rfl rfl ?_
            refine g_getR (pc := 148) fl_X1_21 dX1_encode_148 g1 ?_
            refine g_iload_n (pc := 151) 2 dX1_encode_151 rfl rfl ?_
            obtain ⟨g22, hf⟩ := gs_some hf
            obtain ⟨b23, hf⟩ := gb_some hf
            refine g_iald (pc := 152) g22 b23 dX1_encode_152 ?_
            refine g_iload_n (pc := 153) 0 dX1_encode_153 rfl rfl ?_
            refine g_bipush (pc := 154) (v := (12 : Int32)) dX1_encode_154 (by decide) ?_
            refine g_ishl (pc := 156) dX1_encode_156 ?_
            refine g_ior (pc := 157) dX1_encode_157 ?_
            obtain rfl := Option.some.inj hf
            exact g_iret (pc := 158) rfl dX1_encode_158
          ·
            rcases it_some hf with ⟨c24, hf⟩ | ⟨c24, hf⟩
            · refine g_tsw (pc := 21) (tgt := 159) (6 : Int32) dX1_encode_21 c24 (by decide +kernel) (by decide +kernel) (off := 138) (by decide +kernel) (by decide) ?_
              refine g_aload_n (pc := 159) 1 dX1_encode_159 rfl rfl ?_
              refine g_getR (pc := 160) fl_X1_21 dX1_encode_160 g1 ?_
              refine g_iload_n (pc := 163) 2 dX1_encode_163 rfl rfl ?_
              obtain ⟨g25, hf⟩ := gs_some hf
              obtain ⟨b26, hf⟩ := gb_some hf
              refine g_iald (pc := 164) g25 b26 dX1_encode_164 ?_
              refine g_iload_n (pc := 165) 0 dX1_encode_165 rfl rfl ?_
              refine g_bipush (pc := 166) (v := (20 : Int32)) dX1_encode_166 (by decide) ?_
              refine g_ishr (pc := 168) dX1_encode_168 ?_
              refine g_bipush (pc := 169) (v := (31 : Int32)) dX1_encode_169 (by decide) ?_
              refine g_ishl (pc := 171) dX1_encode_171 ?_
              refine g_ior (pc := 172) dX1_encode_172 ?_
              refine g_iload_n (pc := 173) 0 dX1_encode_173 rfl rfl ?_
              refine g_iconst (pc := 174) (v := (1 : Int32)) dX1_encode_174 (by decide) ?_
              refine g_ishr (pc := 175) dX1_encode_175 ?_
              refine g_sipush (pc := 176) (v := (1023 : Int32)) dX1_encode_176 (by decide) ?_
              refine g_iand (pc := 179) dX1_encode_179 ?_
              refine g_bipush (pc := 180) (v := (21 : Int32)) dX1_encode_180 (by decide) ?_
              refine g_ishl (pc := 182) dX1_encode_182 ?_
              refine g_ior (pc := 183) dX1_encode_183 ?_
              refine g_iload_n (pc := 184) 0 dX1_encode_184 rfl rfl ?_
              refine g_bipush (pc := 185) (v := (11 : Int32)) dX1_encode_185 (by decide) ?_
              refine g_ishr (pc := 187) dX1_encode_187 ?_
              refine g_iconst (pc := 188) (v := (1 : Int32)) dX1_encode_188 (by decide) ?_
              refine g_iand (pc := 189) dX1_encode_189 ?_
              refine g_bipush (pc := 190) (v := (20 : Int32)) dX1_encode_190 (by decide) ?_
              refine g_ishl (pc := 192) dX1_encode_192 ?_
              refine g_ior (pc := 193) dX1_encode_193 ?_
              refine g_iload_n (pc := 194) 0 dX1_encode_194 rfl rfl ?_
              refine g_ldc (pc := 195) (v := (1044480 : Int32)) m_977 dX1_encode_195 ?_
              refine g_iand (pc := 197) dX1_encode_197 ?_
              refine g_ior (pc := 198) dX1_encode_198 ?_
              obtain rfl := Option.some.inj hf
              exact g_iret (pc := 199) rfl dX1_encode_199
            ·
              rcases it_some hf with ⟨c27, hf⟩ | ⟨c27, hf⟩
              · refine g_tsw (pc := 21) (tgt := 68) (7 : Int32) dX1_encode_21 c27 (by decide +kernel) (by decide +kernel) (off := 47) (by decide +kernel) (by decide) ?_
                refine g_aload_n (pc := 68) 1 dX1_encode_68 rfl rfl ?_
                refine g_getR (pc := 69) fl_X1_21 dX1_encode_69 g1 ?_
                refine g_iload_n (pc := 72) 2 dX1_encode_72 rfl rfl ?_
                obtain ⟨g28, hf⟩ := gs_some hf
                obtain ⟨b29, hf⟩ := gb_some hf
                refine g_iald (pc := 73) g28 b29 dX1_encode_73 ?_
                refine g_iload_n (pc := 74) 0 dX1_encode_74 rfl rfl ?_
                refine g_bipush (pc := 75) (v := (20 : Int32)) dX1_encode_75 (by decide) ?_
                refine g_ishl (pc := 77) dX1_encode_77 ?_
                refine g_ior (pc := 78) dX1_encode_78 ?_
                obtain rfl := Option.some.inj hf
                exact g_iret (pc := 79) rfl dX1_encode_79
              ·
                rcases it_some hf with ⟨c30, hf⟩ | ⟨c30, hf⟩
                · refine g_tsw (pc := 21) (tgt := 200) (8 : Int32) dX1_encode_21 c30 (by decide +kernel) (by decide +kernel) (off := 179) (by decide +kernel) (by decide) ?_
                  refine g_iload_n (pc := 200) 0 dX1_encode_200 rfl rfl ?_
                  obtain rfl := Option.some.inj hf
                  exact g_iret (pc := 201) rfl dX1_encode_201
                ·
                  refine g_tswD (pc := 21) (tgt := 202) [(1 : Int32), (2 : Int32), (3 : Int32), (4 : Int32), (5 : Int32), (6 : Int32), (7 : Int32), (8 : Int32)] dX1_encode_21 (cons_ne c9 (cons_ne c12 (cons_ne c15 (cons_ne c18 (cons_ne c21 (cons_ne c24 (cons_ne c27 (cons_ne c30 nil_ne)))))))) (by decide +kernel) (by decide +kernel) (by decide) ?_
                  refine g_aload_n (pc := 202) 1 dX1_encode_202 rfl rfl ?_
                  refine g_getR (pc := 203) fl_X1_21 dX1_encode_203 g1 ?_
                  refine g_iload_n (pc := 206) 2 dX1_encode_206 rfl rfl ?_
                  obtain ⟨g31, hf⟩ := gs_some hf
                  obtain ⟨b32, hf⟩ := gb_some hf
                  refine g_iald (pc := 207) g31 b32 dX1_encode_207 ?_
                  obtain rfl := Option.some.inj hf
                  exact g_iret (pc := 208) rfl dX1_encode_208
theorem ct_X1_encode (l : Launch) (X : Cx) {h : AH} {a0 : Nat} {a1 : Int32} {q : Int32} (hf : f_X1_encode h a0 a1 = some q) : Ct l X k_X1_encode [rf X a0, .int a1] h (rI (q, h)) := ct_of ck_X1_encode (by simp [lg_sl, rf_cat, rq_cat, ca_i, ca_l, ca_r]) (by simp [lv_args, rf_cat, rq_cat, ca_i, ca_l, ca_r]) (ok_X1_encode l X hf)
set_option maxRecDepth 100000 in
set_option maxHeartbeats 4000000 in
theorem ok_X1_lowerPart (l : Launch) (X : Cx) {h : AH} {a0 : Nat} {a1 : Int32} {q : Int32} (hf : f_X1_lowerPart h a0 a1 = some q) : Go l X k_X1_lowerPart 0 [(0, rf X a0), (1, .int a1)] [] h (rI (q, h)) := by
  unfold f_X1_lowerPart at hf
  refine g_aload_n (pc := 0) 0 dX1_lowerPart_0 rfl rfl ?_
  obtain ⟨g1, hf⟩ := gs_some hf
  refine g_getR (pc := 1) fl_X1_21 dX1_lowerPart_1 g1 ?_
  refine g_iload_n (pc := 4) 1 dX1_lowerPart_4 rfl rfl ?_
  obtain ⟨g2, hf⟩ := gs_some hf
  obtain ⟨b3, hf⟩ := gb_some hf
  refine g_iald (pc := 5) g2 b3 dX1_lowerPart_5 ?_
  refine g_sipush (pc := 6) (v := (3968 : Int32)) dX1_lowerPart_6 (by decide) ?_
  refine g_iand (pc := 9) dX1_lowerPart_9 ?_
  obtain ⟨x4, ex4, hf⟩ := lt_some hf
  refine g_istore_n (pc := 10) (L' := [(2, .int x4), (0, rf X a0), (1, .int a1)]) dX1_lowerPart_10 rfl (by decide) ex4 rfl ?_
  refine g_bipush (pc := 11) (v := (19 : Int32)) dX1_lowerPart_11 (by decide) ?_
  refine g_iload_n (pc := 13) 0 dX1_lowerPart_13 rfl rfl ?_
  refine g_ior (pc := 14) dX1_lowerPart_14 ?_
  refine g_iload_n (pc := 15) 0 dX1_lowerPart_15 rfl rfl ?_
  refine g_bipush (pc := 16) (v := (8 : Int32)) dX1_lowerPart_16 (by decide) ?_
  refine g_ishl (pc := 18) dX1_lowerPart_18 ?_
  refine g_ior (pc := 19) dX1_lowerPart_19 ?_
  refine g_aload_n (pc := 20) 1 dX1_lowerPart_20 rfl rfl ?_
  refine g_getR (pc := 21) fl_X1_30 dX1_lowerPart_21 g1 ?_
  refine g_iload_n (pc := 24) 2 dX1_lowerPart_24 rfl rfl ?_
  obtain ⟨g5, hf⟩ := gs_some hf
  obtain ⟨b6, hf⟩ := gb_some hf
  refine g_lald (pc := 25) g5 b6 dX1_lowerPart_25 ?_
  refine g_l2i (pc := 26) dX1_lowerPart_26 ?_
  refine g_bipush (pc := 27) (v := (20 : Int32)) dX1_lowerPart_27 (by decide) ?_
  refine g_ishl (pc := 29) dX1_lowerPart_29 ?_
  refine g_ior (pc := 30) dX1_lowerPart_30 ?_
  obtain rfl := Option.some.inj hf
  exact g_iret (pc := 31) rfl dX1_lowerPart_31
theorem ct_X1_lowerPart (l : Launch) (X : Cx) {h : AH} {a0 : Nat} {a1 : Int32} {q : Int32} (hf : f_X1_lowerPart h a0 a1 = some q) : Ct l X k_X1_lowerPart [rf X a0, .int a1] h (rI (q, h)) := ct_of ck_X1_lowerPart (by simp [lg_sl, rf_cat, rq_cat, ca_i, ca_l, ca_r]) (by simp [lv_args, rf_cat, rq_cat, ca_i, ca_l, ca_r]) (ok_X1_lowerPart l X hf)
set_option maxRecDepth 100000 in
set_option maxHeartbeats 4000000 in
theorem ok_X1_emit_L78 (l : Launch) (X : Cx) (k2 : AH → Nat → Nat → Int32 → Option (AH)) (hk2 : ∀ (h : AH) (a0 : Nat) (a1 : Nat) (a2 : Int32) (q : AH), k2 h a0 a1 a2 = some q → Go l X k_X1_emit 2 [(0, rf X a0), (1, rf X a1), (2, .int a2)] [] h (rV q)) (h : AH) (a0 : Nat) (a1 : Nat) (a2 : Int32) (q : AH) (hf : f_X1_emit_L78 k2 h a0 a1 a2 = some q) : Go l X k_X1_emit 78 [(0, rf X a0), (1, rf X a1), (2, .int a2)] [] h (rV q) := by
  unfold f_X1_emit_L78 at hf
  obtain ⟨x1, ex1, hf⟩ := lt_some hf
  refine g_iinc (pc := 78) (y := x1) (L' := [(2, .int x1), (0, rf X a0), (1, rf X a1)]) 2 dX1_emit_78 rfl (by decide) (ex1.trans rfl) (by simp [rf_cat, rq_cat]) ?_
  refine g_goto (pc := 81) (tgt := 2) dX1_emit_81 (by decide) ?_
  refine g_sub [1, 2, 0] rfl ?_
  exact hk2 h a0 a1 x1 q hf
set_option maxRecDepth 100000 in
set_option maxHeartbeats 4000000 in
theorem ok_X1_emit_L61 (l : Launch) (X : Cx) (k2 : AH → Nat → Nat → Int32 → Option (AH)) (hk2 : ∀ (h : AH) (a0 : Nat) (a1 : Nat) (a2 : Int32) (q : AH), k2 h a0 a1 a2 = some q → Go l X k_X1_emit 2 [(0, rf X a0), (1, rf X a1), (2, .int a2)] [] h (rV q)) (h : AH) (a0 : Nat) (a1 : Nat) (a2 : Int32) (a3 : Int32) (a4 : Int32) (s0 : Nat) (s1 : Int32) (s2 : Int32) (q : AH) (hf : f_X1_emit_L61 k2 h a0 a1 a2 a3 a4 s0 s1 s2 = some q) : Go l X k_X1_emit 61 [(0, rf X a0), (1, rf X a1), (2, .int a2), (3, .int a3), (4, .int a4)] [.int s2, .int s1, rf X s0] h (rV q) := by
  unfold f_X1_emit_L61 at hf
  obtain ⟨g1, hf⟩ := gs_some hf
  obtain ⟨b2, hf⟩ := gb_some hf
  obtain ⟨h3, eh3, hf⟩ := lt_some hf
  refine g_iast (pc := 61) g1 b2 dX1_emit_61 eh3 ?_
  refine g_iload_n (pc := 62) 3 dX1_emit_62 rfl rfl ?_
  refine g_iconst (pc := 63) (v := (2 : Int32)) dX1_emit_63 (by decide) ?_
  rcases it_some hf with ⟨c4, hf⟩ | ⟨c4, hf⟩
  · refine g_icne_t (pc := 64) (tgt := 78) dX1_emit_64 (by decide) c4 ?_
    refine g_sub [0, 1, 2] rfl ?_
    exact ok_X1_emit_L78 l X k2 hk2 h3 a0 a1 a2 q hf
  · refine g_icne_f (pc := 64) (tgt := 78) dX1_emit_64 (by decide) (Decidable.of_not_not c4) ?_
    refine g_aload_n (pc := 67) 1 dX1_emit_67 rfl rfl ?_
    refine g_iload (pc := 68) 4 dX1_emit_68 rfl ?_
    refine g_iconst (pc := 70) (v := (1 : Int32)) dX1_emit_70 (by decide) ?_
    refine g_iadd (pc := 71) dX1_emit_71 ?_
    refine g_aload_n (pc := 72) 0 dX1_emit_72 rfl rfl ?_
    refine g_iload_n (pc := 73) 2 dX1_emit_73 rfl rfl ?_
    obtain ⟨g5, hf⟩ := gs_some hf
    obtain ⟨v6, hcv6, hf⟩ := bd_some hf
    refine g_cVI (pc := 74) (k2 := k_X1_lowerPart) (av := [.int a2]) (q := (v6, h3)) rfl dX1_emit_74 ck_X1_lowerPart m_978 m_980 m_40 (ci := 0) rfl (by decide) g5 (by decide) (by decide) rfl (by simp [rf_cat, rq_cat, ca_i, ca_l, ca_r]) (ct_X1_lowerPart l X hcv6) ?_
    obtain ⟨g7, hf⟩ := gs_some hf
    obtain ⟨b8, hf⟩ := gb_some hf
    obtain ⟨h9, eh9, hf⟩ := lt_some hf
    refine g_iast (pc := 77) g7 b8 dX1_emit_77 eh9 ?_
    refine g_sub [0, 1, 2] rfl ?_
    exact ok_X1_emit_L78 l X k2 hk2 h9 a0 a1 a2 q hf
set_option maxRecDepth 100000 in
set_option maxHeartbeats 4000000 in
theorem ok_X1_emit_L2 (l : Launch) (X : Cx) : ∀ (n : Nat) (h : AH) (a0 : Nat) (a1 : Nat) (a2 : Int32) (q : AH), f_X1_emit_L2 n h a0 a1 a2 = some q → Go l X k_X1_emit 2 [(0, rf X a0), (1, rf X a1), (2, .int a2)] [] h (rV q) := by
  intro n
  induction n with
  | zero =>
    intro h a0 a1 a2 q hf
    unfold f_X1_emit_L2 at hf
    cases hf
  | succ n ih =>
    intro h a0 a1 a2 q hf
    unfold f_X1_emit_L2 at hf
    refine g_iload_n (pc := 2) 2 dX1_emit_2 rfl rfl ?_
    refine g_aload_n (pc := 3) 0 dX1_emit_3 rfl rfl ?_
    obtain ⟨g1, hf⟩ := gs_some hf
    refine g_getI (pc := 4) fl_X1_50 dX1_emit_4 g1 ?_
    rcases it_some hf with ⟨c2, hf⟩ | ⟨c2, hf⟩
    · refine g_icge_t (pc := 7) (tgt := 84) dX1_emit_7 (by decide) c2 ?_
      obtain rfl := Option.some.inj hf
      exact g_vret (pc := 84) rfl dX1_emit_84
    · refine g_icge_f (pc := 7) (tgt := 84) dX1_emit_7 (by decide) c2 ?_
      refine g_aload_n (pc := 10) 0 dX1_emit_10 rfl rfl ?_
      refine g_iload_n (pc := 11) 2 dX1_emit_11 rfl rfl ?_
      obtain ⟨v3, hcv3, hf⟩ := bd_some hf
      refine g_cVI (pc := 12) (k2 := k_X1_wordsOf) (av := [.int a2]) (q := (v3, h)) rfl dX1_emit_12 ck_X1_wordsOf m_859 m_861 m_30 (ci := 0) rfl (by decide) g1 (by decide) (by decide) rfl (by simp [rf_cat, rq_cat, ca_i, ca_l, ca_r]) (ct_X1_wordsOf l X hcv3) ?_
      refine g_istore_n (pc := 15) (L' := [(3, .int v3), (0, rf X a0), (1, rf X a1), (2, .int a2)]) dX1_emit_15 rfl (by decide) rfl rfl ?_
      refine g_aload_n (pc := 16) 1 dX1_emit_16 rfl rfl ?_
      refine g_getR (pc := 17) fl_X1_18 dX1_emit_17 g1 ?_
      refine g_iload_n (pc := 20) 3 dX1_emit_20 rfl rfl ?_
      obtain ⟨g4, hf⟩ := gs_some hf
      obtain ⟨b5, hf⟩ := gb_some hf
      refine g_iald (pc := 21) g4 b5 dX1_emit_21 ?_
      refine g_iconst (pc := 22) (v := (2 : Int32)) dX1_emit_22 (by decide) ?_
      refine g_ishr (pc := 23) dX1_emit_23 ?_
      obtain ⟨x6, ex6, hf⟩ := lt_some hf
      refine g_istore (pc := 24) (L' := [(4, .int x6), (3, .int v3), (0, rf X a0), (1, rf X a1), (2, .int a2)]) dX1_emit_24 (by decide) ex6 rfl ?_
      refine g_iload_n (pc := 26) 1 dX1_emit_26 rfl rfl ?_
      rcases it_some hf with ⟨c7, hf⟩ | ⟨c7, hf⟩
      · refine g_ifle_t (pc := 27) (tgt := 78) dX1_emit_27 (by decide) c7 ?_
        refine g_sub [2, 3, 4] rfl ?_
        exact ok_X1_emit_L78 l X (f_X1_emit_L2 n) ih h a0 a1 a2 q hf
      · refine g_ifle_f (pc := 27) (tgt := 78) dX1_emit_27 (by decide) c7 ?_
        refine g_iload (pc := 30) 0 dX1_emit_30 rfl ?_
        refine g_iload_n (pc := 32) 1 dX1_emit_32 rfl rfl ?_
        refine g_iadd (pc := 33) dX1_emit_33 ?_
        refine g_sipush (pc := 34) (v := (2048 : Int32)) dX1_emit_34 (by decide) ?_
        rcases it_some hf with ⟨c8, hf⟩ | ⟨c8, hf⟩
        · refine g_icgt_t (pc := 37) (tgt := 78) dX1_emit_37 (by decide) c8 ?_
          refine g_sub [2, 3, 4] rfl ?_
          exact ok_X1_emit_L78 l X (f_X1_emit_L2 n) ih h a0 a1 a2 q hf
        · refine g_icgt_f (pc := 37) (tgt := 78) dX1_emit_37 (by decide) c8 ?_
          refine g_aload_n (pc := 40) 3 dX1_emit_40 rfl rfl ?_
          refine g_iload (pc := 41) 0 dX1_emit_41 rfl ?_
          refine g_iload_n (pc := 43) 1 dX1_emit_43 rfl rfl ?_
          refine g_iconst (pc := 44) (v := (2 : Int32)) dX1_emit_44 (by decide) ?_
          rcases it_some hf with ⟨c9, hf⟩ | ⟨c9, hf⟩
          · refine g_icne_t (pc := 45) (tgt := 56) dX1_emit_45 (by decide) c9 ?_
            refine g_aload_n (pc := 56) 2 dX1_emit_56 rfl rfl ?_
            refine g_iload_n (pc := 57) 4 dX1_emit_57 rfl rfl ?_
            obtain ⟨v10, hcv10, hf⟩ := bd_some hf
            refine g_cVI (pc := 58) (k2 := k_X1_encode) (av := [.int a2]) (q := (v10, h)) rfl dX1_emit_58 ck_X1_encode m_973 m_975 m_39 (ci := 0) rfl (by decide) g1 (by decide) (by decide) rfl (by simp [rf_cat, rq_cat, ca_i, ca_l, ca_r]) (ct_X1_encode l X hcv10) ?_
            refine g_sub [2, 3, 4, 1, 0] rfl ?_
            exact ok_X1_emit_L61 l X (f_X1_emit_L2 n) ih h a0 a1 a2 v3 x6 a1 x6 v10 q hf
          · refine g_icne_f (pc := 45) (tgt := 56) dX1_emit_45 (by decide) (Decidable.of_not_not c9) ?_
            refine g_aload_n (pc := 48) 2 dX1_emit_48 rfl rfl ?_
            refine g_iload_n (pc := 49) 4 dX1_emit_49 rfl rfl ?_
            obtain ⟨v11, hcv11, hf⟩ := bd_some hf
            refine g_cVI (pc := 50) (k2 := k_X1_upperPart) (av := [.int a2]) (q := (v11, h)) rfl dX1_emit_50 ck_X1_upperPart m_969 m_971 m_38 (ci := 0) rfl (by decide) g1 (by decide) (by decide) rfl (by simp [rf_cat, rq_cat, ca_i, ca_l, ca_r]) (ct_X1_upperPart l X hcv11) ?_
            refine g_goto (pc := 53) (tgt := 61) dX1_emit_53 (by decide) ?_
            refine g_sub [2, 3, 4, 1, 0] rfl ?_
            exact ok_X1_emit_L61 l X (f_X1_emit_L2 n) ih h a0 a1 a2 v3 x6 a1 x6 v11 q hf
set_option maxRecDepth 100000 in
set_option maxHeartbeats 4000000 in
theorem ok_X1_emit (l : Launch) (X : Cx) {h : AH} {a0 : Nat} {a1 : Nat} {q : AH} (hf : f_X1_emit h a0 a1 = some q) : Go l X k_X1_emit 0 [(0, rf X a0), (1, rf X a1)] [] h (rV q) := by
  unfold f_X1_emit at hf
  refine g_iconst (pc := 0) (v := (0 : Int32)) dX1_emit_0 (by decide) ?_
  obtain ⟨x1, ex1, hf⟩ := lt_some hf
  refine g_istore_n (pc := 1) (L' := [(2, .int x1), (0, rf X a0), (1, rf X a1)]) dX1_emit_1 rfl (by decide) ex1 (by simp [rf_cat, rq_cat]) ?_
  refine g_sub [1, 2, 0] rfl ?_
  exact ok_X1_emit_L2 l X FU h a0 a1 x1 q hf
theorem ct_X1_emit (l : Launch) (X : Cx) {h : AH} {a0 : Nat} {a1 : Nat} {q : AH} (hf : f_X1_emit h a0 a1 = some q) : Ct l X k_X1_emit [rf X a0, rf X a1] h (rV q) := ct_of ck_X1_emit (by simp [lg_sl, rf_cat, rq_cat, ca_i, ca_l, ca_r]) (by simp [lv_args, rf_cat, rq_cat, ca_i, ca_l, ca_r]) (ok_X1_emit l X hf)
set_option maxRecDepth 100000 in
set_option maxHeartbeats 4000000 in
theorem ok_X2_init (l : Launch) (X : Cx) {h : AH} {a0 : Nat} {q : AH} (hf : f_X2_init h a0 = some q) : Go l X k_X2_init 0 [(0, rf X a0)] [] h (rV q) := by
  unfold f_X2_init at hf
  refine g_aload_n (pc := 0) 0 dX2_init_0 rfl rfl ?_
  obtain ⟨g1, hf⟩ := gs_some hf
  refine g_objInit (pc := 1) m_376 m_154 m_155 g1 (by decide) (by decide) (by decide) (by simp [rf_cat, rq_cat, ca_i, ca_l, ca_r]) dX2_init_1 ?_
  refine g_aload_n (pc := 4) 0 dX2_init_4 rfl rfl ?_
  refine g_bipush (pc := 5) (v := (32 : Int32)) dX2_init_5 (by decide) ?_
  obtain ⟨h2, eh2, hf⟩ := lt_some hf
  refine g_newI (pc := 7) m_252 dX2_init_7 (by decide) eh2 ?_
  obtain ⟨g3, hf⟩ := gs_some hf
  obtain ⟨h4, eh4, hf⟩ := lt_some hf
  refine g_putRF (pc := 9) fl_X2_9 rfl (cl_own rfl) (Or.inr ⟨_, rfl⟩) dX2_init_9 g3 eh4 ?_
  refine g_aload_n (pc := 12) 0 dX2_init_12 rfl rfl ?_
  refine g_bipush (pc := 13) (v := (32 : Int32)) dX2_init_13 (by decide) ?_
  obtain ⟨h5, eh5, hf⟩ := lt_some hf
  refine g_newI (pc := 15) m_252 dX2_init_15 (by decide) eh5 ?_
  obtain ⟨g6, hf⟩ := gs_some hf
  obtain ⟨h7, eh7, hf⟩ := lt_some hf
  refine g_putRF (pc := 17) fl_X2_15 rfl (cl_own rfl) (Or.inr ⟨_, rfl⟩) dX2_init_17 g6 eh7 ?_
  refine g_aload_n (pc := 20) 0 dX2_init_20 rfl rfl ?_
  refine g_bipush (pc := 21) (v := (32 : Int32)) dX2_init_21 (by decide) ?_
  obtain ⟨h8, eh8, hf⟩ := lt_some hf
  refine g_newI (pc := 23) m_252 dX2_init_23 (by decide) eh8 ?_
  obtain ⟨g9, hf⟩ := gs_some hf
  obtain ⟨h10, eh10, hf⟩ := lt_some hf
  refine g_putRF (pc := 25) fl_X2_18 rfl (cl_own rfl) (Or.inr ⟨_, rfl⟩) dX2_init_25 g9 eh10 ?_
  refine g_aload_n (pc := 28) 0 dX2_init_28 rfl rfl ?_
  refine g_sipush (pc := 29) (v := (128 : Int32)) dX2_init_29 (by decide) ?_
  obtain ⟨h11, eh11, hf⟩ := lt_some hf
  refine g_newI (pc := 32) m_252 dX2_init_32 (by decide) eh11 ?_
  obtain ⟨g12, hf⟩ := gs_some hf
  obtain ⟨h13, eh13, hf⟩ := lt_some hf
  refine g_putRF (pc := 34) fl_X2_21 rfl (cl_own rfl) (Or.inr ⟨_, rfl⟩) dX2_init_34 g12 eh13 ?_
  obtain rfl := Option.some.inj hf
  exact g_vret (pc := 37) rfl dX2_init_37
theorem ct_X2_init (l : Launch) (X : Cx) {h : AH} {a0 : Nat} {q : AH} (hf : f_X2_init h a0 = some q) : Ct l X k_X2_init [rf X a0] h (rV q) := ct_of ck_X2_init (by simp [lg_sl, rf_cat, rq_cat, ca_i, ca_l, ca_r]) (by simp [lv_args, rf_cat, rq_cat, ca_i, ca_l, ca_r]) (ok_X2_init l X hf)
set_option maxRecDepth 100000 in
set_option maxHeartbeats 4000000 in
theorem ok_X2_begin (l : Launch) (X : Cx) {h : AH} {a0 : Nat} {a1 : Int32} {a2 : Int32} {q : AH} (hf : f_X2_begin h a0 a1 a2 = some q) : Go l X k_X2_begin 0 [(0, rf X a0), (1, .int a1), (2, .int a2)] [] h (rV q) := by
  unfold f_X2_begin at hf
  refine g_aload_n (pc := 0) 0 dX2_begin_0 rfl rfl ?_
  refine g_iload_n (pc := 1) 1 dX2_begin_1 rfl rfl ?_
  obtain ⟨g1, hf⟩ := gs_some hf
  obtain ⟨h2, eh2, hf⟩ := lt_some hf
  refine g_putI (pc := 2) fl_X2_24 dX2_begin_2 g1 eh2 ?_
  refine g_aload_n (pc := 5) 0 dX2_begin_5 rfl rfl ?_
  refine g_iload_n (pc := 6) 2 dX2_begin_6 rfl rfl ?_
  have g3 : hS h2 a0 = 2 := (hS_tI eh2 g1)
  obtain ⟨h4, eh4, hf⟩ := lt_some hf
  refine g_putI (pc := 7) fl_X2_28 dX2_begin_7 g3 eh4 ?_
  refine g_aload_n (pc := 10) 0 dX2_begin_10 rfl rfl ?_
  refine g_iconst (pc := 11) (v := (0 : Int32)) dX2_begin_11 (by decide) ?_
  have g5 : hS h4 a0 = 2 := (hS_tI eh4 g3)
  obtain ⟨h6, eh6, hf⟩ := lt_some hf
  refine g_putI (pc := 12) fl_X2_31 dX2_begin_12 g5 eh6 ?_
  refine g_aload_n (pc := 15) 0 dX2_begin_15 rfl rfl ?_
  have g7 : hS h6 a0 = 2 := (hS_tI eh6 g5)
  refine g_getR (pc := 16) fl_X2_15 dX2_begin_16 g7 ?_
  refine g_iconst (pc := 19) (v := (0 : Int32)) dX2_begin_19 (by decide) ?_
  obtain ⟨q8, hcq8, hf⟩ := bd_some hf
  refine g_cSV (pc := 20) (k2 := k_J7_fill_53178) (av := [rf X (hR h6 a0 1), .int (0 : Int32)]) (q := q8) rfl dX2_begin_20 ck_J7_fill_53178 m_432 m_287 (by decide) (by decide) rfl (by simp [rf_cat, rq_cat, ca_i, ca_l, ca_r]) (ct_J7_fill_53178 l X hcq8) ?_
  obtain rfl := Option.some.inj hf
  exact g_vret (pc := 23) rfl dX2_begin_23
theorem ct_X2_begin (l : Launch) (X : Cx) {h : AH} {a0 : Nat} {a1 : Int32} {a2 : Int32} {q : AH} (hf : f_X2_begin h a0 a1 a2 = some q) : Ct l X k_X2_begin [rf X a0, .int a1, .int a2] h (rV q) := ct_of ck_X2_begin (by simp [lg_sl, rf_cat, rq_cat, ca_i, ca_l, ca_r]) (by simp [lv_args, rf_cat, rq_cat, ca_i, ca_l, ca_r]) (ok_X2_begin l X hf)
set_option maxRecDepth 100000 in
set_option maxHeartbeats 4000000 in
theorem ok_X2_find_L47 (l : Launch) (X : Cx) (h : AH) (k16 : Nat → Int32 → Int32 → Int32 → Option (Int32)) (hk16 : ∀ (a0 : Nat) (a1 : Int32) (a2 : Int32) (a3 : Int32) (q : Int32), k16 a0 a1 a2 a3 = some q → Go l X k_X2_find 16 [(0, rf X a0), (1, .int a1), (2, .int a2), (3, .int a3)] [] h (rI (q, h))) (a0 : Nat) (a1 : Int32) (a2 : Int32) (a3 : Int32) (q : Int32) (hf : f_X2_find_L47 h k16 a0 a1 a2 a3 = some q) : Go l X k_X2_find 47 [(0, rf X a0), (1, .int a1), (2, .int a2), (3, .int a3)] [] h (rI (q, h)) := by
  unfold f_X2_find_L47 at hf
  obtain ⟨x1, ex1, hf⟩ := lt_some hf
  refine g_iinc (pc := 47) (y := x1) (L' := [(3, .int x1), (0, rf X a0), (1, .int a1), (2, .int a2)]) 3 dX2_find_47 rfl (by decide) (ex1.trans rfl) rfl ?_
  refine g_goto (pc := 50) (tgt := 16) dX2_find_50 (by decide) ?_
  refine g_sub [1, 2, 3, 0] rfl ?_
  exact hk16 a0 a1 a2 x1 q hf
set_option maxRecDepth 100000 in
set_option maxHeartbeats 4000000 in
theorem ok_X2_find_L16 (l : Launch) (X : Cx) (h : AH) : ∀ (n : Nat) (a0 : Nat) (a1 : Int32) (a2 : Int32) (a3 : Int32) (q : Int32), f_X2_find_L16 h n a0 a1 a2 a3 = some q → Go l X k_X2_find 16 [(0, rf X a0), (1, .int a1), (2, .int a2), (3, .int a3)] [] h (rI (q, h)) := by
  intro n
  induction n with
  | zero =>
    intro a0 a1 a2 a3 q hf
    unfold f_X2_find_L16 at hf
    cases hf
  | succ n ih =>
    intro a0 a1 a2 a3 q hf
    unfold f_X2_find_L16 at hf
    refine g_iload_n (pc := 16) 3 dX2_find_16 rfl rfl ?_
    refine g_iload_n (pc := 17) 2 dX2_find_17 rfl rfl ?_
    refine g_aload_n (pc := 18) 0 dX2_find_18 rfl rfl ?_
    obtain ⟨g1, hf⟩ := gs_some hf
    refine g_getI (pc := 19) fl_X2_28 dX2_find_19 g1 ?_
    refine g_iadd (pc := 22) dX2_find_22 ?_
    rcases it_some hf with ⟨c2, hf⟩ | ⟨c2, hf⟩
    · refine g_icge_t (pc := 23) (tgt := 53) dX2_find_23 (by decide) c2 ?_
      refine g_iconst (pc := 53) (v := (-1 : Int32)) dX2_find_53 (by decide) ?_
      obtain rfl := Option.some.inj hf
      exact g_iret (pc := 54) rfl dX2_find_54
    · refine g_icge_f (pc := 23) (tgt := 53) dX2_find_23 (by decide) c2 ?_
      refine g_aload_n (pc := 26) 0 dX2_find_26 rfl rfl ?_
      refine g_getR (pc := 27) fl_X2_15 dX2_find_27 g1 ?_
      refine g_iload_n (pc := 30) 3 dX2_find_30 rfl rfl ?_
      obtain ⟨g3, hf⟩ := gs_some hf
      obtain ⟨b4, hf⟩ := gb_some hf
      refine g_iald (pc := 31) g3 b4 dX2_find_31 ?_
      rcases it_some hf with ⟨c5, hf⟩ | ⟨c5, hf⟩
      · refine g_ifeq_t (pc := 32) (tgt := 47) dX2_find_32 (by decide) c5 ?_
        exact ok_X2_find_L47 l X h (f_X2_find_L16 h n) ih a0 a1 a2 a3 q hf
      · refine g_ifeq_f (pc := 32) (tgt := 47) dX2_find_32 (by decide) c5 ?_
        refine g_aload_n (pc := 35) 0 dX2_find_35 rfl rfl ?_
        refine g_getR (pc := 36) fl_X2_9 dX2_find_36 g1 ?_
        refine g_iload_n (pc := 39) 3 dX2_find_39 rfl rfl ?_
        obtain ⟨g6, hf⟩ := gs_some hf
        obtain ⟨b7, hf⟩ := gb_some hf
        refine g_iald (pc := 40) g6 b7 dX2_find_40 ?_
        refine g_iload_n (pc := 41) 1 dX2_find_41 rfl rfl ?_
        rcases it_some hf with ⟨c8, hf⟩ | ⟨c8, hf⟩
        · refine g_icne_t (pc := 42) (tgt := 47) dX2_find_42 (by decide) c8 ?_
          exact ok_X2_find_L47 l X h (f_X2_find_L16 h n) ih a0 a1 a2 a3 q hf
        · refine g_icne_f (pc := 42) (tgt := 47) dX2_find_42 (by decide) (Decidable.of_not_not c8) ?_
          refine g_iload_n (pc := 45) 3 dX2_find_45 rfl rfl ?_
          obtain rfl := Option.some.inj hf
          exact g_iret (pc := 46) rfl dX2_find_46
set_option maxRecDepth 100000 in
set_option maxHeartbeats 4000000 in
theorem ok_X2_find (l : Launch) (X : Cx) {h : AH} {a0 : Nat} {a1 : Int32} {q : Int32} (hf : f_X2_find h a0 a1 = some q) : Go l X k_X2_find 0 [(0, rf X a0), (1, .int a1)] [] h (rI (q, h)) := by
  unfold f_X2_find at hf
  refine g_iload_n (pc := 0) 1 dX2_find_0 rfl rfl ?_
  refine g_aload_n (pc := 1) 0 dX2_find_1 rfl rfl ?_
  obtain ⟨g1, hf⟩ := gs_some hf
  refine g_getI (pc := 2) fl_X2_24 dX2_find_2 g1 ?_
  refine g_iconst (pc := 5) (v := (1 : Int32)) dX2_find_5 (by decide) ?_
  refine g_isub (pc := 6) dX2_find_6 ?_
  refine g_iand (pc := 7) dX2_find_7 ?_
  refine g_aload_n (pc := 8) 0 dX2_find_8 rfl rfl ?_
  refine g_getI (pc := 9) fl_X2_28 dX2_find_9 g1 ?_
  refine g_imul (pc := 12) dX2_find_12 ?_
  obtain ⟨x2, ex2, hf⟩ := lt_some hf
  refine g_istore_n (pc := 13) (L' := [(2, .int x2), (0, rf X a0), (1, .int a1)]) dX2_find_13 rfl (by decide) ex2 rfl ?_
  refine g_iload_n (pc := 14) 0 dX2_find_14 rfl rfl ?_
  refine g_istore_n (pc := 15) (L' := [(3, .int x2), (2, .int x2), (0, rf X a0), (1, .int a1)]) dX2_find_15 rfl (by decide) rfl rfl ?_
  refine g_sub [2, 3, 1, 0] rfl ?_
  exact ok_X2_find_L16 l X h FU a0 a1 x2 x2 q hf
theorem ct_X2_find (l : Launch) (X : Cx) {h : AH} {a0 : Nat} {a1 : Int32} {q : Int32} (hf : f_X2_find h a0 a1 = some q) : Ct l X k_X2_find [rf X a0, .int a1] h (rI (q, h)) := ct_of ck_X2_find (by simp [lg_sl, rf_cat, rq_cat, ca_i, ca_l, ca_r]) (by simp [lv_args, rf_cat, rq_cat, ca_i, ca_l, ca_r]) (ok_X2_find l X hf)
set_option maxRecDepth 100000 in
set_option maxHeartbeats 4000000 in
theorem ok_X2_slotFor_L62 (l : Launch) (X : Cx) (h : AH) (k19 : Nat → Int32 → Int32 → Int32 → Option (Int32)) (hk19 : ∀ (a0 : Nat) (a2 : Int32) (a3 : Int32) (a4 : Int32) (q : Int32), k19 a0 a2 a3 a4 = some q → Go l X k_X2_slotFor 19 [(0, rf X a0), (2, .int a2), (3, .int a3), (4, .int a4)] [] h (rI (q, h))) (a0 : Nat) (a2 : Int32) (a3 : Int32) (a4 : Int32) (q : Int32) (hf : f_X2_slotFor_L62 h k19 a0 a2 a3 a4 = some q) : Go l X k_X2_slotFor 62 [(0, rf X a0), (2, .int a2), (3, .int a3), (4, .int a4)] [] h (rI (q, h)) := by
  unfold f_X2_slotFor_L62 at hf
  obtain ⟨x1, ex1, hf⟩ := lt_some hf
  refine g_iinc (pc := 62) (y := x1) (L' := [(4, .int x1), (0, rf X a0), (2, .int a2), (3, .int a3)]) 3 dX2_slotFor_62 rfl (by decide) (ex1.trans rfl) rfl ?_
  refine g_goto (pc := 65) (tgt := 19) dX2_slotFor_65 (by decide) ?_
  refine g_sub [1, 2, 3, 0] rfl ?_
  exact hk19 a0 a2 a3 x1 q hf
set_option maxRecDepth 100000 in
set_option maxHeartbeats 4000000 in
theorem ok_X2_slotFor_L19 (l : Launch) (X : Cx) (h : AH) : ∀ (n : Nat) (a0 : Nat) (a2 : Int32) (a3 : Int32) (a4 : Int32) (q : Int32), f_X2_slotFor_L19 h n a0 a2 a3 a4 = some q → Go l X k_X2_slotFor 19 [(0, rf X a0), (2, .int a2), (3, .int a3), (4, .int a4)] [] h (rI (q, h)) := by
  intro n
  induction n with
  | zero =>
    intro a0 a2 a3 a4 q hf
    unfold f_X2_slotFor_L19 at hf
    cases hf
  | succ n ih =>
    intro a0 a2 a3 a4 q hf
    unfold f_X2_slotFor_L19 at hf
    refine g_iload (pc := 19) 3 dX2_slotFor_19 rfl ?_
    refine g_iload_n (pc := 21) 1 dX2_slotFor_21 rfl rfl ?_
    refine g_aload_n (pc := 22) 0 dX2_slotFor_22 rfl rfl ?_
    obtain ⟨g1, hf⟩ := gs_some hf
    refine g_getI (pc := 23) fl_X2_28 dX2_slotFor_23 g1 ?_
    refine g_iadd (pc := 26) dX2_slotFor_26 ?_
    rcases it_some hf with ⟨c2, hf⟩ | ⟨c2, hf⟩
    · refine g_icge_t (pc := 27) (tgt := 68) dX2_slotFor_27 (by decide) c2 ?_
      refine g_iload_n (pc := 68) 2 dX2_slotFor_68 rfl rfl ?_
      obtain rfl := Option.some.inj hf
      exact g_iret (pc := 69) rfl dX2_slotFor_69
    · refine g_icge_f (pc := 27) (tgt := 68) dX2_slotFor_27 (by decide) c2 ?_
      refine g_aload_n (pc := 30) 0 dX2_slotFor_30 rfl rfl ?_
      refine g_getR (pc := 31) fl_X2_15 dX2_slotFor_31 g1 ?_
      refine g_iload (pc := 34) 3 dX2_slotFor_34 rfl ?_
      obtain ⟨g3, hf⟩ := gs_some hf
      obtain ⟨b4, hf⟩ := gb_some hf
      refine g_iald (pc := 36) g3 b4 dX2_slotFor_36 ?_
      rcases it_some hf with ⟨c5, hf⟩ | ⟨c5, hf⟩
      · refine g_ifne_t (pc := 37) (tgt := 43) dX2_slotFor_37 (by decide) c5 ?_
        refine g_aload_n (pc := 43) 0 dX2_slotFor_43 rfl rfl ?_
        refine g_getR (pc := 44) fl_X2_18 dX2_slotFor_44 g1 ?_
        refine g_iload (pc := 47) 3 dX2_slotFor_47 rfl ?_
        obtain ⟨g6, hf⟩ := gs_some hf
        obtain ⟨b7, hf⟩ := gb_some hf
        refine g_iald (pc := 49) g6 b7 dX2_slotFor_49 ?_
        refine g_aload_n (pc := 50) 0 dX2_slotFor_50 rfl rfl ?_
        refine g_getR (pc := 51) fl_X2_18 dX2_slotFor_51 g1 ?_
        refine g_iload_n (pc := 54) 2 dX2_slotFor_54 rfl rfl ?_
        obtain ⟨b8, hf⟩ := gb_some hf
        refine g_iald (pc := 55) g6 b8 dX2_slotFor_55 ?_
        rcases it_some hf with ⟨c9, hf⟩ | ⟨c9, hf⟩
        · refine g_icge_t (pc := 56) (tgt := 62) dX2_slotFor_56 (by decide) c9 ?_
          exact ok_X2_slotFor_L62 l X h (f_X2_slotFor_L19 h n) ih a0 a2 a3 a4 q hf
        · refine g_icge_f (pc := 56) (tgt := 62) dX2_slotFor_56 (by decide) c9 ?_
          refine g_iload (pc := 59) 3 dX2_slotFor_59 rfl ?_
          refine g_istore_n (pc := 61) (L' := [(3, .int a4), (0, rf X a0), (2, .int a2), (4, .int a4)]) dX2_slotFor_61 rfl (by decide) rfl rfl ?_
          refine g_sub [1, 2, 0, 3] rfl ?_
          exact ok_X2_slotFor_L62 l X h (f_X2_slotFor_L19 h n) ih a0 a2 a4 a4 q hf
      · refine g_ifne_f (pc := 37) (tgt := 43) dX2_slotFor_37 (by decide) (Decidable.of_not_not c5) ?_
        refine g_iload (pc := 40) 3 dX2_slotFor_40 rfl ?_
        obtain rfl := Option.some.inj hf
        exact g_iret (pc := 42) rfl dX2_slotFor_42
set_option maxRecDepth 100000 in
set_option maxHeartbeats 4000000 in
theorem ok_X2_slotFor (l : Launch) (X : Cx) {h : AH} {a0 : Nat} {a1 : Int32} {q : Int32} (hf : f_X2_slotFor h a0 a1 = some q) : Go l X k_X2_slotFor 0 [(0, rf X a0), (1, .int a1)] [] h (rI (q, h)) := by
  unfold f_X2_slotFor at hf
  refine g_iload_n (pc := 0) 1 dX2_slotFor_0 rfl rfl ?_
  refine g_aload_n (pc := 1) 0 dX2_slotFor_1 rfl rfl ?_
  obtain ⟨g1, hf⟩ := gs_some hf
  refine g_getI (pc := 2) fl_X2_24 dX2_slotFor_2 g1 ?_
  refine g_iconst (pc := 5) (v := (1 : Int32)) dX2_slotFor_5 (by decide) ?_
  refine g_isub (pc := 6) dX2_slotFor_6 ?_
  refine g_iand (pc := 7) dX2_slotFor_7 ?_
  refine g_aload_n (pc := 8) 0 dX2_slotFor_8 rfl rfl ?_
  refine g_getI (pc := 9) fl_X2_28 dX2_slotFor_9 g1 ?_
  refine g_imul (pc := 12) dX2_slotFor_12 ?_
  obtain ⟨x2, ex2, hf⟩ := lt_some hf
  refine g_istore_n (pc := 13) (L' := [(2, .int x2), (0, rf X a0), (1, .int a1)]) dX2_slotFor_13 rfl (by decide) ex2 rfl ?_
  refine g_iload_n (pc := 14) 0 dX2_slotFor_14 rfl rfl ?_
  refine g_istore_n (pc := 15) (L' := [(3, .int x2), (2, .int x2), (0, rf X a0), (1, .int a1)]) dX2_slotFor_15 rfl (by decide) rfl rfl ?_
  refine g_iload_n (pc := 16) 1 dX2_slotFor_16 rfl rfl ?_
  refine g_istore (pc := 17) (L' := [(4, .int x2), (3, .int x2), (2, .int x2), (0, rf X a0), (1, .int a1)]) dX2_slotFor_17 (by decide) rfl rfl ?_
  refine g_sub [3, 2, 1, 0] rfl ?_
  exact ok_X2_slotFor_L19 l X h FU a0 x2 x2 x2 q hf
theorem ct_X2_slotFor (l : Launch) (X : Cx) {h : AH} {a0 : Nat} {a1 : Int32} {q : Int32} (hf : f_X2_slotFor h a0 a1 = some q) : Ct l X k_X2_slotFor [rf X a0, .int a1] h (rI (q, h)) := ct_of ck_X2_slotFor (by simp [lg_sl, rf_cat, rq_cat, ca_i, ca_l, ca_r]) (by simp [lv_args, rf_cat, rq_cat, ca_i, ca_l, ca_r]) (ok_X2_slotFor l X hf)
set_option maxRecDepth 100000 in
set_option maxHeartbeats 4000000 in
theorem ok_X2_use (l : Launch) (X : Cx) {h : AH} {a0 : Nat} {a1 : Int32} {q : AH} (hf : f_X2_use h a0 a1 = some q) : Go l X k_X2_use 0 [(0, rf X a0), (1, .int a1)] [] h (rV q) := by
  unfold f_X2_use at hf
  refine g_aload_n (pc := 0) 0 dX2_use_0 rfl rfl ?_
  refine g_dup (pc := 1) dX2_use_1 (rf_cat X _) ?_
  obtain ⟨g1, hf⟩ := gs_some hf
  refine g_getI (pc := 2) fl_X2_31 dX2_use_2 g1 ?_
  refine g_iconst (pc := 5) (v := (1 : Int32)) dX2_use_5 (by decide) ?_
  refine g_iadd (pc := 6) dX2_use_6 ?_
  obtain ⟨h2, eh2, hf⟩ := lt_some hf
  refine g_putI (pc := 7) fl_X2_31 dX2_use_7 g1 eh2 ?_
  refine g_aload_n (pc := 10) 0 dX2_use_10 rfl rfl ?_
  have g3 : hS h2 a0 = 2 := (hS_tI eh2 g1)
  refine g_getR (pc := 11) fl_X2_18 dX2_use_11 g3 ?_
  refine g_iload_n (pc := 14) 1 dX2_use_14 rfl rfl ?_
  refine g_aload_n (pc := 15) 0 dX2_use_15 rfl rfl ?_
  refine g_getI (pc := 16) fl_X2_31 dX2_use_16 g3 ?_
  obtain ⟨g4, hf⟩ := gs_some hf
  obtain ⟨b5, hf⟩ := gb_some hf
  obtain ⟨h6, eh6, hf⟩ := lt_some hf
  refine g_iast (pc := 19) g4 b5 dX2_use_19 eh6 ?_
  obtain rfl := Option.some.inj hf
  exact g_vret (pc := 20) rfl dX2_use_20
theorem ct_X2_use (l : Launch) (X : Cx) {h : AH} {a0 : Nat} {a1 : Int32} {q : AH} (hf : f_X2_use h a0 a1 = some q) : Ct l X k_X2_use [rf X a0, .int a1] h (rV q) := ct_of ck_X2_use (by simp [lg_sl, rf_cat, rq_cat, ca_i, ca_l, ca_r]) (by simp [lv_args, rf_cat, rq_cat, ca_i, ca_l, ca_r]) (ok_X2_use l X hf)
set_option maxRecDepth 100000 in
set_option maxHeartbeats 4000000 in
theorem ok_X2_put_L22 (l : Launch) (X : Cx) (h : AH) (a0 : Nat) (a1 : Int32) (a2 : Int32) (a3 : Nat) (a4 : Int32) (s0 : Int32) (q : AH) (hf : f_X2_put_L22 h a0 a1 a2 a3 a4 s0 = some q) : Go l X k_X2_put 22 [(0, rf X a0), (1, .int a1), (2, .int a2), (3, rf X a3), (4, .int a4)] [.int s0] h (rV q) := by
  unfold f_X2_put_L22 at hf
  refine g_istore (pc := 22) (L' := [(6, .int s0), (0, rf X a0), (1, .int a1), (2, .int a2), (3, rf X a3), (4, .int a4)]) dX2_put_22 (by decide) rfl rfl ?_
  refine g_aload_n (pc := 24) 1 dX2_put_24 rfl rfl ?_
  obtain ⟨g1, hf⟩ := gs_some hf
  refine g_getR (pc := 25) fl_X2_9 dX2_put_25 g1 ?_
  refine g_iload (pc := 28) 0 dX2_put_28 rfl ?_
  refine g_iload_n (pc := 30) 2 dX2_put_30 rfl rfl ?_
  obtain ⟨g2, hf⟩ := gs_some hf
  obtain ⟨b3, hf⟩ := gb_some hf
  obtain ⟨h4, eh4, hf⟩ := lt_some hf
  refine g_iast (pc := 31) g2 b3 dX2_put_31 eh4 ?_
  refine g_aload_n (pc := 32) 1 dX2_put_32 rfl rfl ?_
  have g5 : hS h4 a0 = 2 := (hS_tI eh4 g1)
  refine g_getR (pc := 33) fl_X2_15 dX2_put_33 g5 ?_
  refine g_iload (pc := 36) 0 dX2_put_36 rfl ?_
  refine g_iload_n (pc := 38) 3 dX2_put_38 rfl rfl ?_
  obtain ⟨g6, hf⟩ := gs_some hf
  obtain ⟨b7, hf⟩ := gb_some hf
  obtain ⟨h8, eh8, hf⟩ := lt_some hf
  refine g_iast (pc := 39) g6 b7 dX2_put_39 eh8 ?_
  refine g_aload_n (pc := 40) 4 dX2_put_40 rfl rfl ?_
  refine g_iload (pc := 41) 5 dX2_put_41 rfl ?_
  refine g_aload_n (pc := 43) 1 dX2_put_43 rfl rfl ?_
  have g9 : hS h8 a0 = 2 := (hS_tI eh8 g5)
  refine g_getR (pc := 44) fl_X2_21 dX2_put_44 g9 ?_
  refine g_iload (pc := 47) 0 dX2_put_47 rfl ?_
  refine g_iconst (pc := 49) (v := (4 : Int32)) dX2_put_49 (by decide) ?_
  refine g_imul (pc := 50) dX2_put_50 ?_
  refine g_iconst (pc := 51) (v := (4 : Int32)) dX2_put_51 (by decide) ?_
  obtain ⟨g10, hf⟩ := gs_some hf
  obtain ⟨g11, hf⟩ := gs_some hf
  obtain ⟨b12, hf⟩ := gb_some hf
  obtain ⟨h13, eh13, hf⟩ := lt_some hf
  refine g_copy (pc := 52) acy_X2_47 g10 g11 b12 (by decide) (by decide) (by simp [rf_cat, rq_cat, ca_i, ca_l, ca_r]) dX2_put_52 eh13 ?_
  refine g_aload_n (pc := 55) 1 dX2_put_55 rfl rfl ?_
  refine g_iload (pc := 56) 0 dX2_put_56 rfl ?_
  have g14 : hS h13 a0 = 2 := (hS_tA eh13 g9)
  obtain ⟨q15, hcq15, hf⟩ := bd_some hf
  refine g_cVV (pc := 58) (k2 := k_X2_use) (av := [.int s0]) (q := q15) rfl dX2_put_58 ck_X2_use m_667 m_668 m_669 (ci := 1) rfl (by decide) g14 (by decide) (by decide) rfl (by simp [rf_cat, rq_cat, ca_i, ca_l, ca_r]) (ct_X2_use l X hcq15) ?_
  obtain rfl := Option.some.inj hf
  exact g_vret (pc := 61) rfl dX2_put_61
set_option maxRecDepth 100000 in
set_option maxHeartbeats 4000000 in
theorem ok_X2_put (l : Launch) (X : Cx) {h : AH} {a0 : Nat} {a1 : Int32} {a2 : Int32} {a3 : Nat} {a4 : Int32} {q : AH} (hf : f_X2_put h a0 a1 a2 a3 a4 = some q) : Go l X k_X2_put 0 [(0, rf X a0), (1, .int a1), (2, .int a2), (3, rf X a3), (4, .int a4)] [] h (rV q) := by
  unfold f_X2_put at hf
  refine g_aload_n (pc := 0) 0 dX2_put_0 rfl rfl ?_
  refine g_iload_n (pc := 1) 1 dX2_put_1 rfl rfl ?_
  obtain ⟨g1, hf⟩ := gs_some hf
  obtain ⟨v2, hcv2, hf⟩ := bd_some hf
  refine g_cVI (pc := 2) (k2 := k_X2_find) (av := [.int a1]) (q := (v2, h)) rfl dX2_put_2 ck_X2_find m_661 m_652 m_653 (ci := 1) rfl (by decide) g1 (by decide) (by decide) rfl (by simp [rf_cat, rq_cat, ca_i, ca_l, ca_r]) (ct_X2_find l X hcv2) ?_
  refine g_istore (pc := 5) (L' := [(5, .int v2), (0, rf X a0), (1, .int a1), (2, .int a2), (3, rf X a3), (4, .int a4)]) dX2_put_5 (by decide) rfl rfl ?_
  refine g_iload (pc := 7) 0 dX2_put_7 rfl ?_
  rcases it_some hf with ⟨c3, hf⟩ | ⟨c3, hf⟩
  · refine g_iflt_t (pc := 9) (tgt := 17) dX2_put_9 (by decide) c3 ?_
    refine g_aload_n (pc := 17) 1 dX2_put_17 rfl rfl ?_
    refine g_iload_n (pc := 18) 2 dX2_put_18 rfl rfl ?_
    obtain ⟨v4, hcv4, hf⟩ := bd_some hf
    refine g_cVI (pc := 19) (k2 := k_X2_slotFor) (av := [.int a1]) (q := (v4, h)) rfl dX2_put_19 ck_X2_slotFor m_662 m_663 m_664 (ci := 1) rfl (by decide) g1 (by decide) (by decide) rfl (by simp [rf_cat, rq_cat, ca_i, ca_l, ca_r]) (ct_X2_slotFor l X hcv4) ?_
    refine g_sub [1, 2, 3, 4, 5] rfl ?_
    exact ok_X2_put_L22 l X h a0 a1 a2 a3 a4 v4 q hf
  · refine g_iflt_f (pc := 9) (tgt := 17) dX2_put_9 (by decide) c3 ?_
    refine g_iload (pc := 12) 0 dX2_put_12 rfl ?_
    refine g_goto (pc := 14) (tgt := 22) dX2_put_14 (by decide) ?_
    refine g_sub [1, 2, 3, 4, 5] rfl ?_
    exact ok_X2_put_L22 l X h a0 a1 a2 a3 a4 v2 q hf
theorem ct_X2_put (l : Launch) (X : Cx) {h : AH} {a0 : Nat} {a1 : Int32} {a2 : Int32} {a3 : Nat} {a4 : Int32} {q : AH} (hf : f_X2_put h a0 a1 a2 a3 a4 = some q) : Ct l X k_X2_put [rf X a0, .int a1, .int a2, rf X a3, .int a4] h (rV q) := ct_of ck_X2_put (by simp [lg_sl, rf_cat, rq_cat, ca_i, ca_l, ca_r]) (by simp [lv_args, rf_cat, rq_cat, ca_i, ca_l, ca_r]) (ok_X2_put l X hf)
set_option maxRecDepth 100000 in
set_option maxHeartbeats 4000000 in
theorem ok_X7_init (l : Launch) (X : Cx) {h : AH} {a0 : Nat} {q : AH} (hf : f_X7_init h a0 = some q) : Go l X k_X7_init 0 [(0, rf X a0)] [] h (rV q) := by
  unfold f_X7_init at hf
  refine g_aload_n (pc := 0) 0 dX7_init_0 rfl rfl ?_
  obtain ⟨g1, hf⟩ := gs_some hf
  refine g_objInit (pc := 1) m_359 m_154 m_155 g1 (by decide) (by decide) (by decide) (by simp [rf_cat, rq_cat, ca_i, ca_l, ca_r]) dX7_init_1 ?_
  refine g_aload_n (pc := 4) 0 dX7_init_4 rfl rfl ?_
  refine g_bipush (pc := 5) (v := (48 : Int32)) dX7_init_5 (by decide) ?_
  obtain ⟨h2, eh2, hf⟩ := lt_some hf
  refine g_newI (pc := 7) m_252 dX7_init_7 (by decide) eh2 ?_
  obtain ⟨g3, hf⟩ := gs_some hf
  obtain ⟨h4, eh4, hf⟩ := lt_some hf
  refine g_putRF (pc := 9) fl_X7_11 rfl (cl_own rfl) (Or.inr ⟨_, rfl⟩) dX7_init_9 g3 eh4 ?_
  obtain rfl := Option.some.inj hf
  exact g_vret (pc := 12) rfl dX7_init_12
theorem ct_X7_init (l : Launch) (X : Cx) {h : AH} {a0 : Nat} {q : AH} (hf : f_X7_init h a0 = some q) : Ct l X k_X7_init [rf X a0] h (rV q) := ct_of ck_X7_init (by simp [lg_sl, rf_cat, rq_cat, ca_i, ca_l, ca_r]) (by simp [lv_args, rf_cat, rq_cat, ca_i, ca_l, ca_r]) (ok_X7_init l X hf)
set_option maxRecDepth 100000 in
set_option maxHeartbeats 4000000 in
theorem ok_X9_init (l : Launch) (X : Cx) {h : AH} {a0 : Nat} {q : AH} (hf : f_X9_init h a0 = some q) : Go l X k_X9_init 0 [(0, rf X a0)] [] h (rV q) := by
  unfold f_X9_init at hf
  refine g_aload_n (pc := 0) 0 dX9_init_0 rfl rfl ?_
  obtain ⟨g1, hf⟩ := gs_some hf
  refine g_objInit (pc := 1) m_409 m_154 m_155 g1 (by decide) (by decide) (by decide) (by simp [rf_cat, rq_cat, ca_i, ca_l, ca_r]) dX9_init_1 ?_
  refine g_aload_n (pc := 4) 0 dX9_init_4 rfl rfl ?_
  refine g_sipush (pc := 5) (v := (256 : Int32)) dX9_init_5 (by decide) ?_
  obtain ⟨h2, eh2, hf⟩ := lt_some hf
  refine g_newI (pc := 8) m_252 dX9_init_8 (by decide) eh2 ?_
  obtain ⟨g3, hf⟩ := gs_some hf
  obtain ⟨h4, eh4, hf⟩ := lt_some hf
  refine g_putRF (pc := 10) fl_X9_9 rfl (cl_own rfl) (Or.inr ⟨_, rfl⟩) dX9_init_10 g3 eh4 ?_
  obtain rfl := Option.some.inj hf
  exact g_vret (pc := 13) rfl dX9_init_13
theorem ct_X9_init (l : Launch) (X : Cx) {h : AH} {a0 : Nat} {q : AH} (hf : f_X9_init h a0 = some q) : Ct l X k_X9_init [rf X a0] h (rV q) := ct_of ck_X9_init (by simp [lg_sl, rf_cat, rq_cat, ca_i, ca_l, ca_r]) (by simp [lv_args, rf_cat, rq_cat, ca_i, ca_l, ca_r]) (ok_X9_init l X hf)
set_option maxRecDepth 100000 in
set_option maxHeartbeats 4000000 in
theorem ok_X7_begin (l : Launch) (X : Cx) {h : AH} {a0 : Nat} {a1 : Int32} {q : AH} (hf : f_X7_begin h a0 a1 = some q) : Go l X k_X7_begin 0 [(0, rf X a0), (1, .int a1)] [] h (rV q) := by
  unfold f_X7_begin at hf
  refine g_aload_n (pc := 0) 0 dX7_begin_0 rfl rfl ?_
  refine g_iload_n (pc := 1) 1 dX7_begin_1 rfl rfl ?_
  obtain ⟨g1, hf⟩ := gs_some hf
  obtain ⟨h2, eh2, hf⟩ := lt_some hf
  refine g_putI (pc := 2) fl_X7_15 dX7_begin_2 g1 eh2 ?_
  refine g_aload_n (pc := 5) 0 dX7_begin_5 rfl rfl ?_
  refine g_iconst (pc := 6) (v := (0 : Int32)) dX7_begin_6 (by decide) ?_
  have g3 : hS h2 a0 = 6 := (hS_tI eh2 g1)
  obtain ⟨h4, eh4, hf⟩ := lt_some hf
  refine g_putI (pc := 7) fl_X7_19 dX7_begin_7 g3 eh4 ?_
  obtain rfl := Option.some.inj hf
  exact g_vret (pc := 10) rfl dX7_begin_10
theorem ct_X7_begin (l : Launch) (X : Cx) {h : AH} {a0 : Nat} {a1 : Int32} {q : AH} (hf : f_X7_begin h a0 a1 = some q) : Ct l X k_X7_begin [rf X a0, .int a1] h (rV q) := ct_of ck_X7_begin (by simp [lg_sl, rf_cat, rq_cat, ca_i, ca_l, ca_r]) (by simp [lv_args, rf_cat, rq_cat, ca_i, ca_l, ca_r]) (ok_X7_begin l X hf)
set_option maxRecDepth 100000 in
set_option maxHeartbeats 4000000 in
theorem ok_X3_begin (l : Launch) (X : Cx) {h : AH} {a0 : Nat} {a1 : Int32} {a2 : Int32} {a3 : Int32} {a4 : Int32} {q : AH} (hf : f_X3_begin h a0 a1 a2 a3 a4 = some q) : Go l X k_X3_begin 0 [(0, rf X a0), (1, .int a1), (2, .int a2), (3, .int a3), (4, .int a4)] [] h (rV q) := by
  unfold f_X3_begin at hf
  refine g_aload_n (pc := 0) 0 dX3_begin_0 rfl rfl ?_
  obtain ⟨g1, hf⟩ := gs_some hf
  refine g_getR (pc := 1) fl_X3_9 dX3_begin_1 g1 ?_
  refine g_iconst (pc := 4) (v := (0 : Int32)) dX3_begin_4 (by decide) ?_
  obtain ⟨q2, hcq2, hf⟩ := bd_some hf
  refine g_cSV (pc := 5) (k2 := k_J7_fill_53178) (av := [rf X (hR h a0 2), .int (0 : Int32)]) (q := q2) rfl dX3_begin_5 ck_J7_fill_53178 m_423 m_287 (by decide) (by decide) rfl (by simp [rf_cat, rq_cat, ca_i, ca_l, ca_r]) (ct_J7_fill_53178 l X hcq2) ?_
  refine g_aload_n (pc := 8) 0 dX3_begin_8 rfl rfl ?_
  refine g_iload_n (pc := 9) 1 dX3_begin_9 rfl rfl ?_
  obtain ⟨g3, hf⟩ := gs_some hf
  obtain ⟨h4, eh4, hf⟩ := lt_some hf
  refine g_putI (pc := 10) fl_X3_57 dX3_begin_10 g3 eh4 ?_
  refine g_aload_n (pc := 13) 0 dX3_begin_13 rfl rfl ?_
  refine g_iconst (pc := 14) (v := (0 : Int32)) dX3_begin_14 (by decide) ?_
  have g5 : hS h4 a0 = 3 := (hS_tI eh4 g3)
  obtain ⟨h6, eh6, hf⟩ := lt_some hf
  refine g_putI (pc := 15) fl_X3_60 dX3_begin_15 g5 eh6 ?_
  refine g_aload_n (pc := 18) 0 dX3_begin_18 rfl rfl ?_
  have g7 : hS h6 a0 = 3 := (hS_tI eh6 g5)
  refine g_getR (pc := 19) fl_X3_18 dX3_begin_19 g7 ?_
  refine g_iload_n (pc := 22) 2 dX3_begin_22 rfl rfl ?_
  obtain ⟨g8, hf⟩ := gs_some hf
  obtain ⟨q9, hcq9, hf⟩ := bd_some hf
  refine g_cVV (pc := 23) (k2 := k_X7_begin) (av := [.int a2]) (q := q9) rfl dX3_begin_23 ck_X7_begin m_424 m_425 m_426 (ci := 5) rfl (by decide) g8 (by decide) (by decide) rfl (by simp [rf_cat, rq_cat, ca_i, ca_l, ca_r]) (ct_X7_begin l X hcq9) ?_
  refine g_aload_n (pc := 26) 0 dX3_begin_26 rfl rfl ?_
  obtain ⟨g10, hf⟩ := gs_some hf
  refine g_getR (pc := 27) fl_X3_25 dX3_begin_27 g10 ?_
  refine g_iload_n (pc := 30) 3 dX3_begin_30 rfl rfl ?_
  refine g_iload (pc := 31) 4 dX3_begin_31 rfl ?_
  obtain ⟨g11, hf⟩ := gs_some hf
  obtain ⟨q12, hcq12, hf⟩ := bd_some hf
  refine g_cVV (pc := 33) (k2 := k_X2_begin) (av := [.int a3, .int a4]) (q := q12) rfl dX3_begin_33 ck_X2_begin m_428 m_429 m_430 (ci := 1) rfl (by decide) g11 (by decide) (by decide) rfl (by simp [rf_cat, rq_cat, ca_i, ca_l, ca_r]) (ct_X2_begin l X hcq12) ?_
  refine g_aload_n (pc := 36) 0 dX3_begin_36 rfl rfl ?_
  obtain ⟨g13, hf⟩ := gs_some hf
  refine g_getR (pc := 37) fl_X3_32 dX3_begin_37 g13 ?_
  refine g_iconst (pc := 40) (v := (0 : Int32)) dX3_begin_40 (by decide) ?_
  obtain ⟨g14, hf⟩ := gs_some hf
  obtain ⟨h15, eh15, hf⟩ := lt_some hf
  refine g_putI (pc := 41) fl_X3_69 dX3_begin_41 g14 eh15 ?_
  refine g_aload_n (pc := 44) 0 dX3_begin_44 rfl rfl ?_
  refine g_iconst (pc := 45) (v := (-1 : Int32)) dX3_begin_45 (by decide) ?_
  have g16 : hS h15 a0 = 3 := (hS_tI eh15 g13)
  obtain ⟨h17, eh17, hf⟩ := lt_some hf
  refine g_putI (pc := 46) fl_X3_72 dX3_begin_46 g16 eh17 ?_
  refine g_aload_n (pc := 49) 0 dX3_begin_49 rfl rfl ?_
  refine g_iconst (pc := 50) (v := (0 : Int32)) dX3_begin_50 (by decide) ?_
  have g18 : hS h17 a0 = 3 := (hS_tI eh17 g16)
  obtain ⟨h19, eh19, hf⟩ := lt_some hf
  refine g_putZ (pc := 51) fl_X3_75 dX3_begin_51 g18 rfl eh19 ?_
  refine g_aload_n (pc := 54) 0 dX3_begin_54 rfl rfl ?_
  refine g_iconst (pc := 55) (v := (-1 : Int32)) dX3_begin_55 (by decide) ?_
  have g20 : hS h19 a0 = 3 := (hS_tI eh19 g18)
  obtain ⟨h21, eh21, hf⟩ := lt_some hf
  refine g_putI (pc := 56) fl_X3_79 dX3_begin_56 g20 eh21 ?_
  refine g_aload_n (pc := 59) 0 dX3_begin_59 rfl rfl ?_
  refine g_iconst (pc := 60) (v := (0 : Int32)) dX3_begin_60 (by decide) ?_
  have g22 : hS h21 a0 = 3 := (hS_tI eh21 g20)
  obtain ⟨h23, eh23, hf⟩ := lt_some hf
  refine g_putI (pc := 61) fl_X3_82 dX3_begin_61 g22 eh23 ?_
  refine g_aload_n (pc := 64) 0 dX3_begin_64 rfl rfl ?_
  refine g_iconst (pc := 65) (v := (0 : Int32)) dX3_begin_65 (by decide) ?_
  have g24 : hS h23 a0 = 3 := (hS_tI eh23 g22)
  obtain ⟨h25, eh25, hf⟩ := lt_some hf
  refine g_putI (pc := 66) fl_X3_85 dX3_begin_66 g24 eh25 ?_
  refine g_aload_n (pc := 69) 0 dX3_begin_69 rfl rfl ?_
  refine g_iconst (pc := 70) (v := (0 : Int32)) dX3_begin_70 (by decide) ?_
  have g26 : hS h25 a0 = 3 := (hS_tI eh25 g24)
  obtain ⟨h27, eh27, hf⟩ := lt_some hf
  refine g_putI (pc := 71) fl_X3_88 dX3_begin_71 g26 eh27 ?_
  refine g_aload_n (pc := 74) 0 dX3_begin_74 rfl rfl ?_
  refine g_iconst (pc := 75) (v := (0 : Int32)) dX3_begin_75 (by decide) ?_
  have g28 : hS h27 a0 = 3 := (hS_tI eh27 g26)
  obtain ⟨h29, eh29, hf⟩ := lt_some hf
  refine g_putI (pc := 76) fl_X3_91 dX3_begin_76 g28 eh29 ?_
  obtain rfl := Option.some.inj hf
  exact g_vret (pc := 79) rfl dX3_begin_79
theorem ct_X3_begin (l : Launch) (X : Cx) {h : AH} {a0 : Nat} {a1 : Int32} {a2 : Int32} {a3 : Int32} {a4 : Int32} {q : AH} (hf : f_X3_begin h a0 a1 a2 a3 a4 = some q) : Ct l X k_X3_begin [rf X a0, .int a1, .int a2, .int a3, .int a4] h (rV q) := ct_of ck_X3_begin (by simp [lg_sl, rf_cat, rq_cat, ca_i, ca_l, ca_r]) (by simp [lv_args, rf_cat, rq_cat, ca_i, ca_l, ca_r]) (ok_X3_begin l X hf)
set_option maxRecDepth 100000 in
set_option maxHeartbeats 4000000 in
theorem ok_X3_init (l : Launch) (X : Cx) {h : AH} {a0 : Nat} {a1 : Int32} {a2 : Nat} {q : AH} (hf : f_X3_init h a0 a1 a2 = some q) : Go l X k_X3_init 0 [(0, rf X a0), (1, .int a1), (2, rf X a2)] [] h (rV q) := by
  unfold f_X3_init at hf
  refine g_aload_n (pc := 0) 0 dX3_init_0 rfl rfl ?_
  obtain ⟨g1, hf⟩ := gs_some hf
  refine g_objInit (pc := 1) m_353 m_154 m_155 g1 (by decide) (by decide) (by decide) (by simp [rf_cat, rq_cat, ca_i, ca_l, ca_r]) dX3_init_1 ?_
  refine g_aload_n (pc := 4) 0 dX3_init_4 rfl rfl ?_
  refine g_bipush (pc := 5) (v := (32 : Int32)) dX3_init_5 (by decide) ?_
  obtain ⟨h2, eh2, hf⟩ := lt_some hf
  refine g_newI (pc := 7) m_252 dX3_init_7 (by decide) eh2 ?_
  obtain ⟨g3, hf⟩ := gs_some hf
  obtain ⟨h4, eh4, hf⟩ := lt_some hf
  refine g_putRF (pc := 9) fl_X3_9 rfl (cl_own rfl) (Or.inr ⟨_, rfl⟩) dX3_init_9 g3 eh4 ?_
  refine g_aload_n (pc := 12) 0 dX3_init_12 rfl rfl ?_
  obtain ⟨h5, eh5, hf⟩ := lt_some hf
  refine g_new (pc := 13) nl_X3_15 dX3_init_13 eh5 ?_
  refine g_dup (pc := 16) dX3_init_16 (rf_cat X _) ?_
  have g6 : hS h5 (hZ h4 + 1) = 6 := (hS_nw eh5)
  obtain ⟨q7, hcq7, hf⟩ := bd_some hf
  refine g_nIV (pc := 17) (k2 := k_X7_init) (av := []) (q := q7) rfl dX3_init_17 ck_X7_init rfl rfl 2 rfl m_357 6 g6 (by decide) (by decide) (by decide) rfl (by simp [rf_cat, rq_cat, ca_i, ca_l, ca_r]) (ct_X7_init l X hcq7) ?_
  obtain ⟨g8, hf⟩ := gs_some hf
  obtain ⟨h9, eh9, hf⟩ := lt_some hf
  refine g_putRF (pc := 20) fl_X3_18 rfl (cl_own rfl) (Or.inl ⟨_, rfl⟩) dX3_init_20 g8 eh9 ?_
  refine g_aload_n (pc := 23) 0 dX3_init_23 rfl rfl ?_
  obtain ⟨h10, eh10, hf⟩ := lt_some hf
  refine g_new (pc := 24) nl_X3_22 dX3_init_24 eh10 ?_
  refine g_dup (pc := 27) dX3_init_27 (rf_cat X _) ?_
  have g11 : hS h10 (hZ h9 + 1) = 2 := (hS_nw eh10)
  obtain ⟨q12, hcq12, hf⟩ := bd_some hf
  refine g_nIV (pc := 28) (k2 := k_X2_init) (av := []) (q := q12) rfl dX3_init_28 ck_X2_init rfl rfl 3 rfl m_374 2 g11 (by decide) (by decide) (by decide) rfl (by simp [rf_cat, rq_cat, ca_i, ca_l, ca_r]) (ct_X2_init l X hcq12) ?_
  obtain ⟨g13, hf⟩ := gs_some hf
  obtain ⟨h14, eh14, hf⟩ := lt_some hf
  refine g_putRF (pc := 31) fl_X3_25 rfl (cl_own rfl) (Or.inl ⟨_, rfl⟩) dX3_init_31 g13 eh14 ?_
  refine g_aload_n (pc := 34) 0 dX3_init_34 rfl rfl ?_
  obtain ⟨h15, eh15, hf⟩ := lt_some hf
  refine g_new (pc := 35) nl_X3_29 dX3_init_35 eh15 ?_
  refine g_dup (pc := 38) dX3_init_38 (rf_cat X _) ?_
  have g16 : hS h15 (hZ h14 + 1) = 8 := (hS_nw eh15)
  obtain ⟨q17, hcq17, hf⟩ := bd_some hf
  refine g_nIV (pc := 39) (k2 := k_X9_init) (av := []) (q := q17) rfl dX3_init_39 ck_X9_init rfl rfl 4 rfl m_407 8 g16 (by decide) (by decide) (by decide) rfl (by simp [rf_cat, rq_cat, ca_i, ca_l, ca_r]) (ct_X9_init l X hcq17) ?_
  obtain ⟨g18, hf⟩ := gs_some hf
  obtain ⟨h19, eh19, hf⟩ := lt_some hf
  refine g_putRF (pc := 42) fl_X3_32 rfl (cl_own rfl) (Or.inl ⟨_, rfl⟩) dX3_init_42 g18 eh19 ?_
  refine g_aload_n (pc := 45) 0 dX3_init_45 rfl rfl ?_
  refine g_iconst (pc := 46) (v := (4 : Int32)) dX3_init_46 (by decide) ?_
  obtain ⟨h20, eh20, hf⟩ := lt_some hf
  refine g_newI (pc := 47) m_252 dX3_init_47 (by decide) eh20 ?_
  obtain ⟨g21, hf⟩ := gs_some hf
  obtain ⟨h22, eh22, hf⟩ := lt_some hf
  refine g_putRF (pc := 49) fl_X3_36 rfl (cl_own rfl) (Or.inr ⟨_, rfl⟩) dX3_init_49 g21 eh22 ?_
  refine g_aload_n (pc := 52) 0 dX3_init_52 rfl rfl ?_
  refine g_iload_n (pc := 53) 1 dX3_init_53 rfl rfl ?_
  have g23 : hS h22 a0 = 3 := (hS_tR eh22 g21)
  obtain ⟨h24, eh24, hf⟩ := lt_some hf
  refine g_putIF (pc := 54) fl_X3_39 rfl (cl_own rfl) dX3_init_54 g23 eh24 ?_
  refine g_aload_n (pc := 57) 0 dX3_init_57 rfl rfl ?_
  refine g_aload_n (pc := 58) 2 dX3_init_58 rfl rfl ?_
  have g25 : hS h24 a0 = 3 := (hS_tI eh24 g23)
  obtain ⟨h26, eh26, hf⟩ := lt_some hf
  refine g_putRF (pc := 59) fl_X3_43 rfl (cl_own rfl) (Or.inl ⟨_, rfl⟩) dX3_init_59 g25 eh26 ?_
  refine g_aload_n (pc := 62) 0 dX3_init_62 rfl rfl ?_
  refine g_iconst (pc := 63) (v := (0 : Int32)) dX3_init_63 (by decide) ?_
  refine g_iconst (pc := 64) (v := (1 : Int32)) dX3_init_64 (by decide) ?_
  refine g_iconst (pc := 65) (v := (1 : Int32)) dX3_init_65 (by decide) ?_
  refine g_iconst (pc := 66) (v := (1 : Int32)) dX3_init_66 (by decide) ?_
  have g27 : hS h26 a0 = 3 := (hS_tR eh26 g25)
  obtain ⟨q28, hcq28, hf⟩ := bd_some hf
  refine g_cVV (pc := 67) (k2 := k_X3_begin) (av := [.int (0 : Int32), .int (1 : Int32), .int (1 : Int32), .int (1 : Int32)]) (q := q28) rfl dX3_init_67 ck_X3_begin m_419 m_421 m_1 (ci := 2) rfl (by decide) g27 (by decide) (by decide) rfl (by simp [rf_cat, rq_cat, ca_i, ca_l, ca_r]) (ct_X3_begin l X hcq28) ?_
  obtain rfl := Option.some.inj hf
  exact g_vret (pc := 70) rfl dX3_init_70
theorem ct_X3_init (l : Launch) (X : Cx) {h : AH} {a0 : Nat} {a1 : Int32} {a2 : Nat} {q : AH} (hf : f_X3_init h a0 a1 a2 = some q) : Ct l X k_X3_init [rf X a0, .int a1, rf X a2] h (rV q) := ct_of ck_X3_init (by simp [lg_sl, rf_cat, rq_cat, ca_i, ca_l, ca_r]) (by simp [lv_args, rf_cat, rq_cat, ca_i, ca_l, ca_r]) (ok_X3_init l X hf)
set_option maxRecDepth 100000 in
set_option maxHeartbeats 4000000 in
theorem ok_X3_growWaits (l : Launch) (X : Cx) {h : AH} {a0 : Nat} {q : AH} (hf : f_X3_growWaits h a0 = some q) : Go l X k_X3_growWaits 0 [(0, rf X a0)] [] h (rV q) := by
  unfold f_X3_growWaits at hf
  refine g_aload_n (pc := 0) 0 dX3_growWaits_0 rfl rfl ?_
  obtain ⟨g1, hf⟩ := gs_some hf
  refine g_getI (pc := 1) fl_X3_60 dX3_growWaits_1 g1 ?_
  rcases it_some hf with ⟨c2, hf⟩ | ⟨c2, hf⟩
  · refine g_ifne_t (pc := 4) (tgt := 32) dX3_growWaits_4 (by decide) c2 ?_
    obtain rfl := Option.some.inj hf
    exact g_vret (pc := 32) rfl dX3_growWaits_32
  · refine g_ifne_f (pc := 4) (tgt := 32) dX3_growWaits_4 (by decide) (Decidable.of_not_not c2) ?_
    refine g_aload_n (pc := 7) 0 dX3_growWaits_7 rfl rfl ?_
    refine g_dup (pc := 8) dX3_growWaits_8 (rf_cat X _) ?_
    refine g_getI (pc := 9) fl_X3_85 dX3_growWaits_9 g1 ?_
    refine g_iconst (pc := 12) (v := (1 : Int32)) dX3_growWaits_12 (by decide) ?_
    refine g_iadd (pc := 13) dX3_growWaits_13 ?_
    obtain ⟨h3, eh3, hf⟩ := lt_some hf
    refine g_putI (pc := 14) fl_X3_85 dX3_growWaits_14 g1 eh3 ?_
    refine g_aload_n (pc := 17) 0 dX3_growWaits_17 rfl rfl ?_
    refine g_aload_n (pc := 18) 0 dX3_growWaits_18 rfl rfl ?_
    have g4 : hS h3 a0 = 3 := (hS_tI eh3 g1)
    refine g_getI (pc := 19) fl_X3_88 dX3_growWaits_19 g4 ?_
    refine g_aload_n (pc := 22) 0 dX3_growWaits_22 rfl rfl ?_
    refine g_getI (pc := 23) fl_X3_85 dX3_growWaits_23 g4 ?_
    refine g_max (pc := 26) mmmax_X3_94 (by decide) (by decide) (by simp [rf_cat, rq_cat, ca_i, ca_l, ca_r]) dX3_growWaits_26 ?_
    obtain ⟨h5, eh5, hf⟩ := lt_some hf
    refine g_putI (pc := 29) fl_X3_88 dX3_growWaits_29 g4 eh5 ?_
    obtain rfl := Option.some.inj hf
    exact g_vret (pc := 32) rfl dX3_growWaits_32
theorem ct_X3_growWaits (l : Launch) (X : Cx) {h : AH} {a0 : Nat} {q : AH} (hf : f_X3_growWaits h a0 = some q) : Ct l X k_X3_growWaits [rf X a0] h (rV q) := ct_of ck_X3_growWaits (by simp [lg_sl, rf_cat, rq_cat, ca_i, ca_l, ca_r]) (by simp [lv_args, rf_cat, rq_cat, ca_i, ca_l, ca_r]) (ok_X3_growWaits l X hf)
set_option maxRecDepth 100000 in
set_option maxHeartbeats 4000000 in
theorem ok_X3_tells_L32 (l : Launch) (X : Cx) (h : AH)  (q : Int32) (hf : f_X3_tells_L32 h  = some q) : Go l X k_X3_tells 32 [] [] h (rI (q, h)) := by
  unfold f_X3_tells_L32 at hf
  refine g_iconst (pc := 32) (v := (1 : Int32)) dX3_tells_32 (by decide) ?_
  refine g_goto (pc := 33) (tgt := 37) dX3_tells_33 (by decide) ?_
  obtain rfl := Option.some.inj hf
  exact g_zret (pc := 37) rfl rfl dX3_tells_37
set_option maxRecDepth 100000 in
set_option maxHeartbeats 4000000 in
theorem ok_X3_tells_L10 (l : Launch) (X : Cx) (h : AH) (a0 : Nat) (a1 : Int32) (q : Int32) (hf : f_X3_tells_L10 h a0 a1 = some q) : Go l X k_X3_tells 10 [(0, rf X a0), (1, .int a1)] [] h (rI (q, h)) := by
  unfold f_X3_tells_L10 at hf
  refine g_iload_n (pc := 10) 1 dX3_tells_10 rfl rfl ?_
  refine g_bipush (pc := 11) (v := (100 : Int32)) dX3_tells_11 (by decide) ?_
  rcases it_some hf with ⟨c1, hf⟩ | ⟨c1, hf⟩
  · refine g_iclt_t (pc := 13) (tgt := 36) dX3_tells_13 (by decide) c1 ?_
    refine g_iconst (pc := 36) (v := (0 : Int32)) dX3_tells_36 (by decide) ?_
    obtain rfl := Option.some.inj hf
    exact g_zret (pc := 37) rfl rfl dX3_tells_37
  · refine g_iclt_f (pc := 13) (tgt := 36) dX3_tells_13 (by decide) c1 ?_
    refine g_iload_n (pc := 16) 1 dX3_tells_16 rfl rfl ?_
    refine g_bipush (pc := 17) (v := (100 : Int32)) dX3_tells_17 (by decide) ?_
    refine g_iconst (pc := 19) (v := (3 : Int32)) dX3_tells_19 (by decide) ?_
    refine g_aload_n (pc := 20) 0 dX3_tells_20 rfl rfl ?_
    obtain ⟨g2, hf⟩ := gs_some hf
    refine g_getR (pc := 21) fl_X3_18 dX3_tells_21 g2 ?_
    obtain ⟨g3, hf⟩ := gs_some hf
    refine g_getI (pc := 24) fl_X3_100 dX3_tells_24 g3 ?_
    refine g_imul (pc := 27) dX3_tells_27 ?_
    refine g_iadd (pc := 28) dX3_tells_28 ?_
    rcases it_some hf with ⟨c4, hf⟩ | ⟨c4, hf⟩
    · refine g_icge_t (pc := 29) (tgt := 36) dX3_tells_29 (by decide) c4 ?_
      refine g_iconst (pc := 36) (v := (0 : Int32)) dX3_tells_36 (by decide) ?_
      obtain rfl := Option.some.inj hf
      exact g_zret (pc := 37) rfl rfl dX3_tells_37
    · refine g_icge_f (pc := 29) (tgt := 36) dX3_tells_29 (by decide) c4 ?_
      refine g_sub [] rfl ?_
      exact ok_X3_tells_L32 l X h  q hf
set_option maxRecDepth 100000 in
set_option maxHeartbeats 4000000 in
theorem ok_X3_tells (l : Launch) (X : Cx) {h : AH} {a0 : Nat} {a1 : Int32} {q : Int32} (hf : f_X3_tells h a0 a1 = some q) : Go l X k_X3_tells 0 [(0, rf X a0), (1, .int a1)] [] h (rI (q, h)) := by
  unfold f_X3_tells at hf
  refine g_iload_n (pc := 0) 1 dX3_tells_0 rfl rfl ?_
  rcases it_some hf with ⟨c1, hf⟩ | ⟨c1, hf⟩
  · refine g_iflt_t (pc := 1) (tgt := 10) dX3_tells_1 (by decide) c1 ?_
    exact ok_X3_tells_L10 l X h a0 a1 q hf
  · refine g_iflt_f (pc := 1) (tgt := 10) dX3_tells_1 (by decide) c1 ?_
    refine g_iload_n (pc := 4) 1 dX3_tells_4 rfl rfl ?_
    refine g_bipush (pc := 5) (v := (40 : Int32)) dX3_tells_5 (by decide) ?_
    rcases it_some hf with ⟨c2, hf⟩ | ⟨c2, hf⟩
    · refine g_icle_t (pc := 7) (tgt := 32) dX3_tells_7 (by decide) c2 ?_
      refine g_sub [] rfl ?_
      exact ok_X3_tells_L32 l X h  q hf
    · refine g_icle_f (pc := 7) (tgt := 32) dX3_tells_7 (by decide) c2 ?_
      exact ok_X3_tells_L10 l X h a0 a1 q hf
theorem ct_X3_tells (l : Launch) (X : Cx) {h : AH} {a0 : Nat} {a1 : Int32} {q : Int32} (hf : f_X3_tells h a0 a1 = some q) : Ct l X k_X3_tells [rf X a0, .int a1] h (rI (q, h)) := ct_of ck_X3_tells (by simp [lg_sl, rf_cat, rq_cat, ca_i, ca_l, ca_r]) (by simp [lv_args, rf_cat, rq_cat, ca_i, ca_l, ca_r]) (ok_X3_tells l X hf)
set_option maxRecDepth 100000 in
set_option maxHeartbeats 4000000 in
theorem ok_X7_get (l : Launch) (X : Cx) {h : AH} {a0 : Nat} {a1 : Int32} {a2 : Int32} {q : Int32} (hf : f_X7_get h a0 a1 a2 = some q) : Go l X k_X7_get 0 [(0, rf X a0), (1, .int a1), (2, .int a2)] [] h (rI (q, h)) := by
  unfold f_X7_get at hf
  refine g_aload_n (pc := 0) 0 dX7_get_0 rfl rfl ?_
  obtain ⟨g1, hf⟩ := gs_some hf
  refine g_getR (pc := 1) fl_X7_11 dX7_get_1 g1 ?_
  refine g_iload_n (pc := 4) 1 dX7_get_4 rfl rfl ?_
  refine g_iconst (pc := 5) (v := (3 : Int32)) dX7_get_5 (by decide) ?_
  refine g_imul (pc := 6) dX7_get_6 ?_
  refine g_iload_n (pc := 7) 2 dX7_get_7 rfl rfl ?_
  refine g_iadd (pc := 8) dX7_get_8 ?_
  obtain ⟨g2, hf⟩ := gs_some hf
  obtain ⟨b3, hf⟩ := gb_some hf
  refine g_iald (pc := 9) g2 b3 dX7_get_9 ?_
  obtain rfl := Option.some.inj hf
  exact g_iret (pc := 10) rfl dX7_get_10
theorem ct_X7_get (l : Launch) (X : Cx) {h : AH} {a0 : Nat} {a1 : Int32} {a2 : Int32} {q : Int32} (hf : f_X7_get h a0 a1 a2 = some q) : Ct l X k_X7_get [rf X a0, .int a1, .int a2] h (rI (q, h)) := ct_of ck_X7_get (by simp [lg_sl, rf_cat, rq_cat, ca_i, ca_l, ca_r]) (by simp [lv_args, rf_cat, rq_cat, ca_i, ca_l, ca_r]) (ok_X7_get l X hf)
set_option maxRecDepth 100000 in
set_option maxHeartbeats 4000000 in
theorem ok_X3_tell (l : Launch) (X : Cx) {h : AH} {a0 : Nat} {a1 : Int32} {q : Int32} (hf : f_X3_tell h a0 a1 = some q) : Go l X k_X3_tell 0 [(0, rf X a0), (1, .int a1)] [] h (rI (q, h)) := by
  unfold f_X3_tell at hf
  refine g_iload_n (pc := 0) 1 dX3_tell_0 rfl rfl ?_
  refine g_bipush (pc := 1) (v := (100 : Int32)) dX3_tell_1 (by decide) ?_
  rcases it_some hf with ⟨c1, hf⟩ | ⟨c1, hf⟩
  · refine g_iclt_t (pc := 3) (tgt := 26) dX3_tell_3 (by decide) c1 ?_
    refine g_iload_n (pc := 26) 1 dX3_tell_26 rfl rfl ?_
    rcases it_some hf with ⟨c2, hf⟩ | ⟨c2, hf⟩
    · refine g_tsw (pc := 27) (tgt := 76) (32 : Int32) dX3_tell_27 c2 (by decide +kernel) (by decide +kernel) (off := 49) (by decide +kernel) (by decide) ?_
      refine g_aload_n (pc := 76) 0 dX3_tell_76 rfl rfl ?_
      obtain ⟨g3, hf⟩ := gs_some hf
      refine g_getI (pc := 77) fl_X3_57 dX3_tell_77 g3 ?_
      obtain rfl := Option.some.inj hf
      exact g_iret (pc := 80) rfl dX3_tell_80
    ·
      rcases it_some hf with ⟨c4, hf⟩ | ⟨c4, hf⟩
      · refine g_tsw (pc := 27) (tgt := 81) (33 : Int32) dX3_tell_27 c4 (by decide +kernel) (by decide +kernel) (off := 54) (by decide +kernel) (by decide) ?_
        refine g_aload_n (pc := 81) 0 dX3_tell_81 rfl rfl ?_
        obtain ⟨g5, hf⟩ := gs_some hf
        refine g_getI (pc := 82) fl_X3_60 dX3_tell_82 g5 ?_
        obtain rfl := Option.some.inj hf
        exact g_iret (pc := 85) rfl dX3_tell_85
      ·
        rcases it_some hf with ⟨c6, hf⟩ | ⟨c6, hf⟩
        · refine g_tsw (pc := 27) (tgt := 86) (34 : Int32) dX3_tell_27 c6 (by decide +kernel) (by decide +kernel) (off := 59) (by decide +kernel) (by decide) ?_
          refine g_aload_n (pc := 86) 0 dX3_tell_86 rfl rfl ?_
          obtain ⟨g7, hf⟩ := gs_some hf
          refine g_getR (pc := 87) fl_X3_18 dX3_tell_87 g7 ?_
          obtain ⟨g8, hf⟩ := gs_some hf
          refine g_getI (pc := 90) fl_X3_100 dX3_tell_90 g8 ?_
          obtain rfl := Option.some.inj hf
          exact g_iret (pc := 93) rfl dX3_tell_93
        ·
          rcases it_some hf with ⟨c9, hf⟩ | ⟨c9, hf⟩
          · refine g_tsw (pc := 27) (tgt := 94) (35 : Int32) dX3_tell_27 c9 (by decide +kernel) (by decide +kernel) (off := 67) (by decide +kernel) (by decide) ?_
            refine g_aload_n (pc := 94) 0 dX3_tell_94 rfl rfl ?_
            obtain ⟨g10, hf⟩ := gs_some hf
            refine g_getR (pc := 95) fl_X3_32 dX3_tell_95 g10 ?_
            obtain ⟨g11, hf⟩ := gs_some hf
            refine g_getI (pc := 98) fl_X3_69 dX3_tell_98 g11 ?_
            obtain rfl := Option.some.inj hf
            exact g_iret (pc := 101) rfl dX3_tell_101
          ·
            rcases it_some hf with ⟨c12, hf⟩ | ⟨c12, hf⟩
            · refine g_tsw (pc := 27) (tgt := 102) (36 : Int32) dX3_tell_27 c12 (by decide +kernel) (by decide +kernel) (off := 75) (by decide +kernel) (by decide) ?_
              refine g_aload_n (pc := 102) 0 dX3_tell_102 rfl rfl ?_
              obtain ⟨g13, hf⟩ := gs_some hf
              refine g_getI (pc := 103) fl_X3_79 dX3_tell_103 g13 ?_
              obtain rfl := Option.some.inj hf
              exact g_iret (pc := 106) rfl dX3_tell_106
            ·
              rcases it_some hf with ⟨c14, hf⟩ | ⟨c14, hf⟩
              · refine g_tsw (pc := 27) (tgt := 107) (37 : Int32) dX3_tell_27 c14 (by decide +kernel) (by decide +kernel) (off := 80) (by decide +kernel) (by decide) ?_
                refine g_aload_n (pc := 107) 0 dX3_tell_107 rfl rfl ?_
                obtain ⟨g15, hf⟩ := gs_some hf
                refine g_getI (pc := 108) fl_X3_72 dX3_tell_108 g15 ?_
                obtain rfl := Option.some.inj hf
                exact g_iret (pc := 111) rfl dX3_tell_111
              ·
                rcases it_some hf with ⟨c16, hf⟩ | ⟨c16, hf⟩
                · refine g_tsw (pc := 27) (tgt := 112) (38 : Int32) dX3_tell_27 c16 (by decide +kernel) (by decide +kernel) (off := 85) (by decide +kernel) (by decide) ?_
                  refine g_aload_n (pc := 112) 0 dX3_tell_112 rfl rfl ?_
                  obtain ⟨g17, hf⟩ := gs_some hf
                  refine g_getI (pc := 113) fl_X3_82 dX3_tell_113 g17 ?_
                  obtain rfl := Option.some.inj hf
                  exact g_iret (pc := 116) rfl dX3_tell_116
                ·
                  rcases it_some hf with ⟨c18, hf⟩ | ⟨c18, hf⟩
                  · refine g_tsw (pc := 27) (tgt := 117) (39 : Int32) dX3_tell_27 c18 (by decide +kernel) (by decide +kernel) (off := 90) (by decide +kernel) (by decide) ?_
                    refine g_aload_n (pc := 117) 0 dX3_tell_117 rfl rfl ?_
                    obtain ⟨g19, hf⟩ := gs_some hf
                    refine g_getI (pc := 118) fl_X3_85 dX3_tell_118 g19 ?_
                    obtain rfl := Option.some.inj hf
                    exact g_iret (pc := 121) rfl dX3_tell_121
                  ·
                    rcases it_some hf with ⟨c20, hf⟩ | ⟨c20, hf⟩
                    · refine g_tsw (pc := 27) (tgt := 122) (40 : Int32) dX3_tell_27 c20 (by decide +kernel) (by decide +kernel) (off := 95) (by decide +kernel) (by decide) ?_
                      refine g_aload_n (pc := 122) 0 dX3_tell_122 rfl rfl ?_
                      obtain ⟨g21, hf⟩ := gs_some hf
                      refine g_getI (pc := 123) fl_X3_88 dX3_tell_123 g21 ?_
                      obtain rfl := Option.some.inj hf
                      exact g_iret (pc := 126) rfl dX3_tell_126
                    ·
                      refine g_tswD (pc := 27) (tgt := 127) [(32 : Int32), (33 : Int32), (34 : Int32), (35 : Int32), (36 : Int32), (37 : Int32), (38 : Int32), (39 : Int32), (40 : Int32)] dX3_tell_27 (cons_ne c2 (cons_ne c4 (cons_ne c6 (cons_ne c9 (cons_ne c12 (cons_ne c14 (cons_ne c16 (cons_ne c18 (cons_ne c20 nil_ne))))))))) (by decide +kernel) (by decide +kernel) (by decide) ?_
                      refine g_aload_n (pc := 127) 0 dX3_tell_127 rfl rfl ?_
                      obtain ⟨g22, hf⟩ := gs_some hf
                      refine g_getR (pc := 128) fl_X3_9 dX3_tell_128 g22 ?_
                      refine g_iload_n (pc := 131) 1 dX3_tell_131 rfl rfl ?_
                      refine g_bipush (pc := 132) (v := (31 : Int32)) dX3_tell_132 (by decide) ?_
                      refine g_iand (pc := 134) dX3_tell_134 ?_
                      obtain ⟨g23, hf⟩ := gs_some hf
                      obtain ⟨b24, hf⟩ := gb_some hf
                      refine g_iald (pc := 135) g23 b24 dX3_tell_135 ?_
                      obtain rfl := Option.some.inj hf
                      exact g_iret (pc := 136) rfl dX3_tell_136
  · refine g_iclt_f (pc := 3) (tgt := 26) dX3_tell_3 (by decide) c1 ?_
    refine g_aload_n (pc := 6) 0 dX3_tell_6 rfl rfl ?_
    obtain ⟨g25, hf⟩ := gs_some hf
    refine g_getR (pc := 7) fl_X3_18 dX3_tell_7 g25 ?_
    refine g_iload_n (pc := 10) 1 dX3_tell_10 rfl rfl ?_
    refine g_bipush (pc := 11) (v := (100 : Int32)) dX3_tell_11 (by decide) ?_
    refine g_isub (pc := 13) dX3_tell_13 ?_
    refine g_iconst (pc := 14) (v := (3 : Int32)) dX3_tell_14 (by decide) ?_
    refine g_idiv (pc := 15) (by decide) dX3_tell_15 ?_
    refine g_iload_n (pc := 16) 1 dX3_tell_16 rfl rfl ?_
    refine g_bipush (pc := 17) (v := (100 : Int32)) dX3_tell_17 (by decide) ?_
    refine g_isub (pc := 19) dX3_tell_19 ?_
    refine g_iconst (pc := 20) (v := (3 : Int32)) dX3_tell_20 (by decide) ?_
    refine g_irem (pc := 21) (by decide) dX3_tell_21 ?_
    obtain ⟨g26, hf⟩ := gs_some hf
    obtain ⟨v27, hcv27, hf⟩ := bd_some hf
    refine g_cVI (pc := 22) (k2 := k_X7_get) (av := [.int ((a1 - (100 : Int32)) / (3 : Int32)), .int ((a1 - (100 : Int32)) - (a1 - (100 : Int32)) / (3 : Int32) * (3 : Int32))]) (q := (v27, h)) rfl dX3_tell_22 ck_X7_get m_1155 m_1020 m_1021 (ci := 5) rfl (by decide) g26 (by decide) (by decide) rfl (by simp [rf_cat, rq_cat, ca_i, ca_l, ca_r]) (ct_X7_get l X hcv27) ?_
    obtain rfl := Option.some.inj hf
    exact g_iret (pc := 25) rfl dX3_tell_25
theorem ct_X3_tell (l : Launch) (X : Cx) {h : AH} {a0 : Nat} {a1 : Int32} {q : Int32} (hf : f_X3_tell h a0 a1 = some q) : Ct l X k_X3_tell [rf X a0, .int a1] h (rI (q, h)) := ct_of ck_X3_tell (by simp [lg_sl, rf_cat, rq_cat, ca_i, ca_l, ca_r]) (by simp [lv_args, rf_cat, rq_cat, ca_i, ca_l, ca_r]) (ok_X3_tell l X hf)
set_option maxRecDepth 100000 in
set_option maxHeartbeats 4000000 in
theorem ok_X7_bytesAt_L31 (l : Launch) (X : Cx) (h : AH) (k4 : Nat → Int32 → Int32 → Int32 → Option (Int32)) (hk4 : ∀ (a0 : Nat) (a1 : Int32) (a2 : Int32) (a3 : Int32) (q : Int32), k4 a0 a1 a2 a3 = some q → Go l X k_X7_bytesAt 4 [(0, rf X a0), (1, .int a1), (2, .int a2), (3, .int a3)] [] h (rI (q, h))) (a0 : Nat) (a1 : Int32) (a2 : Int32) (a3 : Int32) (q : Int32) (hf : f_X7_bytesAt_L31 h k4 a0 a1 a2 a3 = some q) : Go l X k_X7_bytesAt 31 [(0, rf X a0), (1, .int a1), (2, .int a2), (3, .int a3)] [] h (rI (q, h)) := by
  unfold f_X7_bytesAt_L31 at hf
  obtain ⟨x1, ex1, hf⟩ := lt_some hf
  refine g_iinc (pc := 31) (y := x1) (L' := [(3, .int x1), (0, rf X a0), (1, .int a1), (2, .int a2)]) 3 dX7_bytesAt_31 rfl (by decide) (ex1.trans rfl) rfl ?_
  refine g_goto (pc := 34) (tgt := 4) dX7_bytesAt_34 (by decide) ?_
  refine g_sub [1, 2, 3, 0] rfl ?_
  exact hk4 a0 a1 a2 x1 q hf
set_option maxRecDepth 100000 in
set_option maxHeartbeats 4000000 in
theorem ok_X7_bytesAt_L4 (l : Launch) (X : Cx) (h : AH) : ∀ (n : Nat) (a0 : Nat) (a1 : Int32) (a2 : Int32) (a3 : Int32) (q : Int32), f_X7_bytesAt_L4 h n a0 a1 a2 a3 = some q → Go l X k_X7_bytesAt 4 [(0, rf X a0), (1, .int a1), (2, .int a2), (3, .int a3)] [] h (rI (q, h)) := by
  intro n
  induction n with
  | zero =>
    intro a0 a1 a2 a3 q hf
    unfold f_X7_bytesAt_L4 at hf
    cases hf
  | succ n ih =>
    intro a0 a1 a2 a3 q hf
    unfold f_X7_bytesAt_L4 at hf
    refine g_iload_n (pc := 4) 3 dX7_bytesAt_4 rfl rfl ?_
    refine g_aload_n (pc := 5) 0 dX7_bytesAt_5 rfl rfl ?_
    obtain ⟨g1, hf⟩ := gs_some hf
    refine g_getI (pc := 6) fl_X7_19 dX7_bytesAt_6 g1 ?_
    rcases it_some hf with ⟨c2, hf⟩ | ⟨c2, hf⟩
    · refine g_icge_t (pc := 9) (tgt := 37) dX7_bytesAt_9 (by decide) c2 ?_
      refine g_iload_n (pc := 37) 2 dX7_bytesAt_37 rfl rfl ?_
      obtain rfl := Option.some.inj hf
      exact g_iret (pc := 38) rfl dX7_bytesAt_38
    · refine g_icge_f (pc := 9) (tgt := 37) dX7_bytesAt_9 (by decide) c2 ?_
      refine g_aload_n (pc := 12) 0 dX7_bytesAt_12 rfl rfl ?_
      refine g_iload_n (pc := 13) 3 dX7_bytesAt_13 rfl rfl ?_
      refine g_iconst (pc := 14) (v := (0 : Int32)) dX7_bytesAt_14 (by decide) ?_
      obtain ⟨v3, hcv3, hf⟩ := bd_some hf
      refine g_cVI (pc := 15) (k2 := k_X7_get) (av := [.int a3, .int (0 : Int32)]) (q := (v3, h)) rfl dX7_bytesAt_15 ck_X7_get m_1019 m_1020 m_1021 (ci := 5) rfl (by decide) g1 (by decide) (by decide) rfl (by simp [rf_cat, rq_cat, ca_i, ca_l, ca_r]) (ct_X7_get l X hcv3) ?_
      refine g_iload_n (pc := 18) 1 dX7_bytesAt_18 rfl rfl ?_
      rcases it_some hf with ⟨c4, hf⟩ | ⟨c4, hf⟩
      · refine g_icne_t (pc := 19) (tgt := 31) dX7_bytesAt_19 (by decide) c4 ?_
        exact ok_X7_bytesAt_L31 l X h (f_X7_bytesAt_L4 h n) ih a0 a1 a2 a3 q hf
      · refine g_icne_f (pc := 19) (tgt := 31) dX7_bytesAt_19 (by decide) (Decidable.of_not_not c4) ?_
        refine g_iload_n (pc := 22) 2 dX7_bytesAt_22 rfl rfl ?_
        refine g_aload_n (pc := 23) 0 dX7_bytesAt_23 rfl rfl ?_
        refine g_iload_n (pc := 24) 3 dX7_bytesAt_24 rfl rfl ?_
        refine g_iconst (pc := 25) (v := (1 : Int32)) dX7_bytesAt_25 (by decide) ?_
        obtain ⟨v5, hcv5, hf⟩ := bd_some hf
        refine g_cVI (pc := 26) (k2 := k_X7_get) (av := [.int a3, .int (1 : Int32)]) (q := (v5, h)) rfl dX7_bytesAt_26 ck_X7_get m_1019 m_1020 m_1021 (ci := 5) rfl (by decide) g1 (by decide) (by decide) rfl (by simp [rf_cat, rq_cat, ca_i, ca_l, ca_r]) (ct_X7_get l X hcv5) ?_
        refine g_ior (pc := 29) dX7_bytesAt_29 ?_
        obtain ⟨x6, ex6, hf⟩ := lt_some hf
        refine g_istore_n (pc := 30) (L' := [(2, .int x6), (0, rf X a0), (1, .int a1), (3, .int a3)]) dX7_bytesAt_30 rfl (by decide) ex6 rfl ?_
        refine g_sub [1, 2, 0, 3] rfl ?_
        exact ok_X7_bytesAt_L31 l X h (f_X7_bytesAt_L4 h n) ih a0 a1 x6 a3 q hf
set_option maxRecDepth 100000 in
set_option maxHeartbeats 4000000 in
theorem ok_X7_bytesAt (l : Launch) (X : Cx) {h : AH} {a0 : Nat} {a1 : Int32} {q : Int32} (hf : f_X7_bytesAt h a0 a1 = some q) : Go l X k_X7_bytesAt 0 [(0, rf X a0), (1, .int a1)] [] h (rI (q, h)) := by
  unfold f_X7_bytesAt at hf
  refine g_iconst (pc := 0) (v := (0 : Int32)) dX7_bytesAt_0 (by decide) ?_
  obtain ⟨x1, ex1, hf⟩ := lt_some hf
  refine g_istore_n (pc := 1) (L' := [(2, .int x1), (0, rf X a0), (1, .int a1)]) dX7_bytesAt_1 rfl (by decide) ex1 rfl ?_
  refine g_iconst (pc := 2) (v := (0 : Int32)) dX7_bytesAt_2 (by decide) ?_
  obtain ⟨x2, ex2, hf⟩ := lt_some hf
  refine g_istore_n (pc := 3) (L' := [(3, .int x2), (2, .int x1), (0, rf X a0), (1, .int a1)]) dX7_bytesAt_3 rfl (by decide) ex2 rfl ?_
  refine g_sub [2, 3, 1, 0] rfl ?_
  exact ok_X7_bytesAt_L4 l X h FU a0 a1 x1 x2 q hf
theorem ct_X7_bytesAt (l : Launch) (X : Cx) {h : AH} {a0 : Nat} {a1 : Int32} {q : Int32} (hf : f_X7_bytesAt h a0 a1 = some q) : Ct l X k_X7_bytesAt [rf X a0, .int a1] h (rI (q, h)) := ct_of ck_X7_bytesAt (by simp [lg_sl, rf_cat, rq_cat, ca_i, ca_l, ca_r]) (by simp [lv_args, rf_cat, rq_cat, ca_i, ca_l, ca_r]) (ok_X7_bytesAt l X hf)
set_option maxRecDepth 100000 in
set_option maxHeartbeats 4000000 in
theorem ok_J7_copyOf_59c91 (l : Launch) (X : Cx) {h : AH} {a0 : Nat} {a1 : Int32} {q : Nat × AH} (hf : f_J7_copyOf_59c91 h a0 a1 = some q) : Go l X k_J7_copyOf_59c91 0 [(0, rf X a0), (1, .int a1)] [] h (rR X q) := by
  unfold f_J7_copyOf_59c91 at hf
  refine g_iload_n (pc := 0) 1 dJ7_copyOf_59c91_0 rfl rfl ?_
  refine g_aload_n (pc := 1) 0 dJ7_copyOf_59c91_1 rfl rfl ?_
  obtain ⟨g1, hf⟩ := gs_some hf
  refine g_alen (pc := 2) 0 rfl g1 (by decide) dJ7_copyOf_59c91_2 ?_
  rcases it_some hf with ⟨c2, hf⟩ | ⟨c2, hf⟩
  · refine g_icne_t (pc := 3) (tgt := 14) dJ7_copyOf_59c91_3 (by decide) c2 ?_
    refine g_iload_n (pc := 14) 1 dJ7_copyOf_59c91_14 rfl rfl ?_
    obtain ⟨b3, hf⟩ := gb_some hf
    obtain ⟨h4, eh4, hf⟩ := lt_some hf
    refine g_newI (pc := 15) m_252 dJ7_copyOf_59c91_15 b3 eh4 ?_
    refine g_astore_n (pc := 17) (L' := [(2, rf X (hZ h + 1)), (0, rf X a0), (1, .int a1)]) dJ7_copyOf_59c91_17 rfl (by decide) rfl ?_
    refine g_aload_n (pc := 18) 1 dJ7_copyOf_59c91_18 rfl rfl ?_
    refine g_iconst (pc := 19) (v := (0 : Int32)) dJ7_copyOf_59c91_19 (by decide) ?_
    refine g_aload_n (pc := 20) 0 dJ7_copyOf_59c91_20 rfl rfl ?_
    refine g_iconst (pc := 21) (v := (0 : Int32)) dJ7_copyOf_59c91_21 (by decide) ?_
    refine g_aload_n (pc := 22) 1 dJ7_copyOf_59c91_22 rfl rfl ?_
    obtain ⟨g5, hf⟩ := gs_some hf
    refine g_alen (pc := 23) 0 rfl g5 (by decide) dJ7_copyOf_59c91_23 ?_
    refine g_iload_n (pc := 24) 2 dJ7_copyOf_59c91_24 rfl rfl ?_
    refine g_min (pc := 25) mmmin_J7_304 (by decide) (by decide) (by simp [rf_cat, rq_cat, ca_i, ca_l, ca_r]) dJ7_copyOf_59c91_25 ?_
    have g6 : hS h4 (hZ h + 1) = 21 := (hS_nw eh4)
    obtain ⟨b7, hf⟩ := gb_some hf
    obtain ⟨h8, eh8, hf⟩ := lt_some hf
    refine g_copy (pc := 28) acy_J7_150 g5 g6 b7 (by decide) (by decide) (by simp [rf_cat, rq_cat, ca_i, ca_l, ca_r]) dJ7_copyOf_59c91_28 eh8 ?_
    refine g_aload_n (pc := 31) 0 dJ7_copyOf_59c91_31 rfl rfl ?_
    obtain rfl := Option.some.inj hf
    exact g_aret (pc := 32) rfl (Or.inr ⟨_, rfl⟩) dJ7_copyOf_59c91_32
  · refine g_icne_f (pc := 3) (tgt := 14) dJ7_copyOf_59c91_3 (by decide) (Decidable.of_not_not c2) ?_
    refine g_aload_n (pc := 6) 0 dJ7_copyOf_59c91_6 rfl rfl ?_
    cases hf
theorem ct_J7_copyOf_59c91 (l : Launch) (X : Cx) {h : AH} {a0 : Nat} {a1 : Int32} {q : Nat × AH} (hf : f_J7_copyOf_59c91 h a0 a1 = some q) : Ct l X k_J7_copyOf_59c91 [rf X a0, .int a1] h (rR X q) := ct_of ck_J7_copyOf_59c91 (by simp [lg_sl, rf_cat, rq_cat, ca_i, ca_l, ca_r]) (by simp [lv_args, rf_cat, rq_cat, ca_i, ca_l, ca_r]) (ok_J7_copyOf_59c91 l X hf)
set_option maxRecDepth 100000 in
set_option maxHeartbeats 4000000 in
theorem ok_X6_send_L137 (l : Launch) (X : Cx) (k103 : AH → Nat → Nat → Int32 → Int32 → Int32 → Option (AH)) (hk103 : ∀ (h : AH) (a0 : Nat) (a5 : Nat) (a6 : Int32) (a7 : Int32) (a8 : Int32) (q : AH), k103 h a0 a5 a6 a7 a8 = some q → Go l X k_X6_send 103 [(0, rf X a0), (5, rf X a5), (6, .int a6), (7, .int a7), (8, .int a8)] [] h (rV q)) (h : AH) (a0 : Nat) (a5 : Nat) (a6 : Int32) (a7 : Int32) (a8 : Int32) (s0 : Nat) (s1 : Int32) (s2 : Int32) (q : AH) (hf : f_X6_send_L137 k103 h a0 a5 a6 a7 a8 s0 s1 s2 = some q) : Go l X k_X6_send 137 [(0, rf X a0), (5, rf X a5), (6, .int a6), (7, .int a7), (8, .int a8)] [.int s2, .int s1, rf X s0] h (rV q) := by
  unfold f_X6_send_L137 at hf
  obtain ⟨g1, hf⟩ := gs_some hf
  obtain ⟨b2, hf⟩ := gb_some hf
  obtain ⟨h3, eh3, hf⟩ := lt_some hf
  refine g_iast (pc := 137) g1 b2 dX6_send_137 eh3 ?_
  obtain ⟨x4, ex4, hf⟩ := lt_some hf
  refine g_iinc (pc := 138) (y := x4) (L' := [(8, .int x4), (0, rf X a0), (5, rf X a5), (6, .int a6), (7, .int a7)]) 4 dX6_send_138 rfl (by decide) (ex4.trans rfl) rfl ?_
  refine g_goto (pc := 141) (tgt := 103) dX6_send_141 (by decide) ?_
  refine g_sub [1, 2, 3, 4, 0] rfl ?_
  exact hk103 h3 a0 a5 a6 a7 x4 q hf
set_option maxRecDepth 100000 in
set_option maxHeartbeats 4000000 in
theorem ok_X6_send_L103 (l : Launch) (X : Cx) : ∀ (n : Nat) (h : AH) (a0 : Nat) (a5 : Nat) (a6 : Int32) (a7 : Int32) (a8 : Int32) (q : AH), f_X6_send_L103 n h a0 a5 a6 a7 a8 = some q → Go l X k_X6_send 103 [(0, rf X a0), (5, rf X a5), (6, .int a6), (7, .int a7), (8, .int a8)] [] h (rV q) := by
  intro n
  induction n with
  | zero =>
    intro h a0 a5 a6 a7 a8 q hf
    unfold f_X6_send_L103 at hf
    cases hf
  | succ n ih =>
    intro h a0 a5 a6 a7 a8 q hf
    unfold f_X6_send_L103 at hf
    refine g_iload (pc := 103) 4 dX6_send_103 rfl ?_
    refine g_iconst (pc := 105) (v := (4 : Int32)) dX6_send_105 (by decide) ?_
    rcases it_some hf with ⟨c1, hf⟩ | ⟨c1, hf⟩
    · refine g_icge_t (pc := 106) (tgt := 144) dX6_send_106 (by decide) c1 ?_
      refine g_aload_n (pc := 144) 0 dX6_send_144 rfl rfl ?_
      refine g_dup (pc := 145) dX6_send_145 (rf_cat X _) ?_
      obtain ⟨g2, hf⟩ := gs_some hf
      refine g_getI (pc := 146) fl_X6_18 dX6_send_146 g2 ?_
      refine g_iconst (pc := 149) (v := (1 : Int32)) dX6_send_149 (by decide) ?_
      refine g_iadd (pc := 150) dX6_send_150 ?_
      obtain ⟨h3, eh3, hf⟩ := lt_some hf
      refine g_putI (pc := 151) fl_X6_18 dX6_send_151 g2 eh3 ?_
      obtain rfl := Option.some.inj hf
      exact g_vret (pc := 154) rfl dX6_send_154
    · refine g_icge_f (pc := 106) (tgt := 144) dX6_send_106 (by decide) c1 ?_
      refine g_aload_n (pc := 109) 0 dX6_send_109 rfl rfl ?_
      obtain ⟨g4, hf⟩ := gs_some hf
      refine g_getR (pc := 110) fl_X6_11 dX6_send_110 g4 ?_
      refine g_iload (pc := 113) 3 dX6_send_113 rfl ?_
      refine g_iconst (pc := 115) (v := (5 : Int32)) dX6_send_115 (by decide) ?_
      refine g_iadd (pc := 116) dX6_send_116 ?_
      refine g_iload (pc := 117) 4 dX6_send_117 rfl ?_
      refine g_iadd (pc := 119) dX6_send_119 ?_
      refine g_aload (pc := 120) 1 dX6_send_120 rfl ?_
      rcases it_some hf with ⟨c5, hf⟩ | ⟨c5, hf⟩
      · refine g_ifnonnull_0 (pc := 122) (tgt := 129) dX6_send_122 (by decide) c5 ?_
        refine g_iconst (pc := 125) (v := (0 : Int32)) dX6_send_125 (by decide) ?_
        refine g_goto (pc := 126) (tgt := 137) dX6_send_126 (by decide) ?_
        exact ok_X6_send_L137 l X (f_X6_send_L103 n) ih h a0 a5 a6 a7 a8 (hR h a0 0) ((a7 + (5 : Int32)) + a8) (0 : Int32) q hf
      · refine g_ifnonnull_1 (pc := 122) (tgt := 129) dX6_send_122 (by decide) c5 ?_
        refine g_aload (pc := 129) 1 dX6_send_129 rfl ?_
        refine g_iload (pc := 131) 2 dX6_send_131 rfl ?_
        refine g_iload (pc := 133) 4 dX6_send_133 rfl ?_
        refine g_iadd (pc := 135) dX6_send_135 ?_
        obtain ⟨g6, hf⟩ := gs_some hf
        obtain ⟨b7, hf⟩ := gb_some hf
        refine g_iald (pc := 136) g6 b7 dX6_send_136 ?_
        exact ok_X6_send_L137 l X (f_X6_send_L103 n) ih h a0 a5 a6 a7 a8 (hR h a0 0) ((a7 + (5 : Int32)) + a8) (hI h a5 (a6 + a8).toNatClampNeg) q hf
set_option maxRecDepth 100000 in
set_option maxHeartbeats 4000000 in
theorem ok_X6_send_L99 (l : Launch) (X : Cx) (h : AH) (a0 : Nat) (a5 : Nat) (a6 : Int32) (a7 : Int32) (s0 : Nat) (s1 : Int32) (s2 : Int32) (q : AH) (hf : f_X6_send_L99 h a0 a5 a6 a7 s0 s1 s2 = some q) : Go l X k_X6_send 99 [(0, rf X a0), (5, rf X a5), (6, .int a6), (7, .int a7)] [.int s2, .int s1, rf X s0] h (rV q) := by
  unfold f_X6_send_L99 at hf
  obtain ⟨g1, hf⟩ := gs_some hf
  obtain ⟨b2, hf⟩ := gb_some hf
  obtain ⟨h3, eh3, hf⟩ := lt_some hf
  refine g_iast (pc := 99) g1 b2 dX6_send_99 eh3 ?_
  refine g_iconst (pc := 100) (v := (0 : Int32)) dX6_send_100 (by decide) ?_
  obtain ⟨x4, ex4, hf⟩ := lt_some hf
  refine g_istore (pc := 101) (L' := [(8, .int x4), (0, rf X a0), (5, rf X a5), (6, .int a6), (7, .int a7)]) dX6_send_101 (by decide) ex4 rfl ?_
  refine g_sub [1, 2, 3, 4, 0] rfl ?_
  exact ok_X6_send_L103 l X FU h3 a0 a5 a6 a7 x4 q hf
set_option maxRecDepth 100000 in
set_option maxHeartbeats 4000000 in
theorem ok_X6_send_L40 (l : Launch) (X : Cx) (h : AH) (a0 : Nat) (a1 : Int32) (a2 : Int32) (a3 : Int32) (a4 : Int32) (a5 : Nat) (a6 : Int32) (a7 : Int32) (q : AH) (hf : f_X6_send_L40 h a0 a1 a2 a3 a4 a5 a6 a7 = some q) : Go l X k_X6_send 40 [(0, rf X a0), (1, .int a1), (2, .int a2), (3, .int a3), (4, .int a4), (5, rf X a5), (6, .int a6), (7, .int a7)] [] h (rV q) := by
  unfold f_X6_send_L40 at hf
  refine g_aload_n (pc := 40) 0 dX6_send_40 rfl rfl ?_
  obtain ⟨g1, hf⟩ := gs_some hf
  refine g_getR (pc := 41) fl_X6_11 dX6_send_41 g1 ?_
  refine g_iload (pc := 44) 7 dX6_send_44 rfl ?_
  refine g_iconst (pc := 46) (v := (0 : Int32)) dX6_send_46 (by decide) ?_
  refine g_iadd (pc := 47) dX6_send_47 ?_
  refine g_iload_n (pc := 48) 1 dX6_send_48 rfl rfl ?_
  obtain ⟨g2, hf⟩ := gs_some hf
  obtain ⟨b3, hf⟩ := gb_some hf
  obtain ⟨h4, eh4, hf⟩ := lt_some hf
  refine g_iast (pc := 49) g2 b3 dX6_send_49 eh4 ?_
  refine g_aload_n (pc := 50) 0 dX6_send_50 rfl rfl ?_
  have g5 : hS h4 a0 = 5 := (hS_tI eh4 g1)
  refine g_getR (pc := 51) fl_X6_11 dX6_send_51 g5 ?_
  refine g_iload (pc := 54) 7 dX6_send_54 rfl ?_
  refine g_iconst (pc := 56) (v := (1 : Int32)) dX6_send_56 (by decide) ?_
  refine g_iadd (pc := 57) dX6_send_57 ?_
  refine g_iload_n (pc := 58) 2 dX6_send_58 rfl rfl ?_
  obtain ⟨g6, hf⟩ := gs_some hf
  obtain ⟨b7, hf⟩ := gb_some hf
  obtain ⟨h8, eh8, hf⟩ := lt_some hf
  refine g_iast (pc := 59) g6 b7 dX6_send_59 eh8 ?_
  refine g_aload_n (pc := 60) 0 dX6_send_60 rfl rfl ?_
  have g9 : hS h8 a0 = 5 := (hS_tI eh8 g5)
  refine g_getR (pc := 61) fl_X6_11 dX6_send_61 g9 ?_
  refine g_iload (pc := 64) 7 dX6_send_64 rfl ?_
  refine g_iconst (pc := 66) (v := (2 : Int32)) dX6_send_66 (by decide) ?_
  refine g_iadd (pc := 67) dX6_send_67 ?_
  refine g_iload_n (pc := 68) 3 dX6_send_68 rfl rfl ?_
  obtain ⟨g10, hf⟩ := gs_some hf
  obtain ⟨b11, hf⟩ := gb_some hf
  obtain ⟨h12, eh12, hf⟩ := lt_some hf
  refine g_iast (pc := 69) g10 b11 dX6_send_69 eh12 ?_
  refine g_aload_n (pc := 70) 0 dX6_send_70 rfl rfl ?_
  have g13 : hS h12 a0 = 5 := (hS_tI eh12 g9)
  refine g_getR (pc := 71) fl_X6_11 dX6_send_71 g13 ?_
  refine g_iload (pc := 74) 7 dX6_send_74 rfl ?_
  refine g_iconst (pc := 76) (v := (3 : Int32)) dX6_send_76 (by decide) ?_
  refine g_iadd (pc := 77) dX6_send_77 ?_
  refine g_iload (pc := 78) 4 dX6_send_78 rfl ?_
  obtain ⟨g14, hf⟩ := gs_some hf
  obtain ⟨b15, hf⟩ := gb_some hf
  obtain ⟨h16, eh16, hf⟩ := lt_some hf
  refine g_iast (pc := 80) g14 b15 dX6_send_80 eh16 ?_
  refine g_aload_n (pc := 81) 0 dX6_send_81 rfl rfl ?_
  have g17 : hS h16 a0 = 5 := (hS_tI eh16 g13)
  refine g_getR (pc := 82) fl_X6_11 dX6_send_82 g17 ?_
  refine g_iload (pc := 85) 7 dX6_send_85 rfl ?_
  refine g_iconst (pc := 87) (v := (4 : Int32)) dX6_send_87 (by decide) ?_
  refine g_iadd (pc := 88) dX6_send_88 ?_
  refine g_aload (pc := 89) 5 dX6_send_89 rfl ?_
  rcases it_some hf with ⟨c18, hf⟩ | ⟨c18, hf⟩
  · refine g_ifnonnull_0 (pc := 91) (tgt := 98) dX6_send_91 (by decide) c18 ?_
    refine g_iconst (pc := 94) (v := (0 : Int32)) dX6_send_94 (by decide) ?_
    refine g_goto (pc := 95) (tgt := 99) dX6_send_95 (by decide) ?_
    refine g_sub [0, 5, 6, 7] rfl ?_
    exact ok_X6_send_L99 l X h16 a0 a5 a6 a7 (hR h16 a0 0) (a7 + (4 : Int32)) (0 : Int32) q hf
  · refine g_ifnonnull_1 (pc := 91) (tgt := 98) dX6_send_91 (by decide) c18 ?_
    refine g_iconst (pc := 98) (v := (1 : Int32)) dX6_send_98 (by decide) ?_
    refine g_sub [0, 5, 6, 7] rfl ?_
    exact ok_X6_send_L99 l X h16 a0 a5 a6 a7 (hR h16 a0 0) (a7 + (4 : Int32)) (1 : Int32) q hf
set_option maxRecDepth 100000 in
set_option maxHeartbeats 4000000 in
theorem ok_X6_send (l : Launch) (X : Cx) {h : AH} {a0 : Nat} {a1 : Int32} {a2 : Int32} {a3 : Int32} {a4 : Int32} {a5 : Nat} {a6 : Int32} {q : AH} (hf : f_X6_send h a0 a1 a2 a3 a4 a5 a6 = some q) : Go l X k_X6_send 0 [(0, rf X a0), (1, .int a1), (2, .int a2), (3, .int a3), (4, .int a4), (5, rf X a5), (6, .int a6)] [] h (rV q) := by
  unfold f_X6_send at hf
  refine g_aload_n (pc := 0) 0 dX6_send_0 rfl rfl ?_
  obtain ⟨g1, hf⟩ := gs_some hf
  refine g_getI (pc := 1) fl_X6_18 dX6_send_1 g1 ?_
  refine g_bipush (pc := 4) (v := (9 : Int32)) dX6_send_4 (by decide) ?_
  refine g_imul (pc := 6) dX6_send_6 ?_
  obtain ⟨x2, ex2, hf⟩ := lt_some hf
  refine g_istore (pc := 7) (L' := [(7, .int x2), (0, rf X a0), (1, .int a1), (2, .int a2), (3, .int a3), (4, .int a4), (5, rf X a5), (6, .int a6)]) dX6_send_7 (by decide) ex2 rfl ?_
  refine g_iload (pc := 9) 0 dX6_send_9 rfl ?_
  refine g_bipush (pc := 11) (v := (9 : Int32)) dX6_send_11 (by decide) ?_
  refine g_iadd (pc := 13) dX6_send_13 ?_
  refine g_aload_n (pc := 14) 1 dX6_send_14 rfl rfl ?_
  refine g_getR (pc := 15) fl_X6_11 dX6_send_15 g1 ?_
  obtain ⟨g3, hf⟩ := gs_some hf
  refine g_alen (pc := 18) 0 rfl g3 (by decide) dX6_send_18 ?_
  rcases it_some hf with ⟨c4, hf⟩ | ⟨c4, hf⟩
  · refine g_icle_t (pc := 19) (tgt := 40) dX6_send_19 (by decide) c4 ?_
    refine g_sub [1, 2, 3, 4, 5, 6, 7, 0] rfl ?_
    exact ok_X6_send_L40 l X h a0 a1 a2 a3 a4 a5 a6 x2 q hf
  · refine g_icle_f (pc := 19) (tgt := 40) dX6_send_19 (by decide) c4 ?_
    refine g_aload_n (pc := 22) 1 dX6_send_22 rfl rfl ?_
    refine g_aload_n (pc := 23) 1 dX6_send_23 rfl rfl ?_
    refine g_getR (pc := 24) fl_X6_11 dX6_send_24 g1 ?_
    refine g_aload_n (pc := 27) 1 dX6_send_27 rfl rfl ?_
    refine g_getR (pc := 28) fl_X6_11 dX6_send_28 g1 ?_
    refine g_alen (pc := 31) 0 rfl g3 (by decide) dX6_send_31 ?_
    refine g_iconst (pc := 32) (v := (2 : Int32)) dX6_send_32 (by decide) ?_
    refine g_imul (pc := 33) dX6_send_33 ?_
    obtain ⟨q5, hcq5, hf⟩ := bd_some hf
    refine g_cSR (pc := 34) (k2 := k_J7_copyOf_59c91) (av := [rf X (hR h a0 0), .int ((nI (hN h (hR h a0 0))) * (2 : Int32))]) (q := q5) rfl dX6_send_34 ck_J7_copyOf_59c91 m_585 m_586 (by decide) (by decide) rfl (by simp [rf_cat, rq_cat, ca_i, ca_l, ca_r]) (ct_J7_copyOf_59c91 l X hcq5) ?_
    obtain ⟨g6, hf⟩ := gs_some hf
    obtain ⟨h7, eh7, hf⟩ := lt_some hf
    refine g_putR (pc := 37) fl_X6_11 (Or.inr ⟨_, rfl⟩) dX6_send_37 g6 eh7 ?_
    refine g_sub [1, 2, 3, 4, 5, 6, 7, 0] rfl ?_
    exact ok_X6_send_L40 l X h7 a0 a1 a2 a3 a4 a5 a6 x2 q hf
theorem ct_X6_send (l : Launch) (X : Cx) {h : AH} {a0 : Nat} {a1 : Int32} {a2 : Int32} {a3 : Int32} {a4 : Int32} {a5 : Nat} {a6 : Int32} {q : AH} (hf : f_X6_send h a0 a1 a2 a3 a4 a5 a6 = some q) : Ct l X k_X6_send [rf X a0, .int a1, .int a2, .int a3, .int a4, rf X a5, .int a6] h (rV q) := ct_of ck_X6_send (by simp [lg_sl, rf_cat, rq_cat, ca_i, ca_l, ca_r]) (by simp [lv_args, rf_cat, rq_cat, ca_i, ca_l, ca_r]) (ok_X6_send l X hf)
set_option maxRecDepth 100000 in
set_option maxHeartbeats 4000000 in
theorem ok_X3_makeRoom_L92 (l : Launch) (X : Cx) (h : AH) (a0 : Nat) (a2 : Int32) (q : Int32 × AH) (hf : f_X3_makeRoom_L92 h a0 a2 = some q) : Go l X k_X3_makeRoom 92 [(0, rf X a0), (2, .int a2)] [] h (rI q) := by
  unfold f_X3_makeRoom_L92 at hf
  refine g_aload_n (pc := 92) 0 dX3_makeRoom_92 rfl rfl ?_
  obtain ⟨g1, hf⟩ := gs_some hf
  refine g_getR (pc := 93) fl_X3_25 dX3_makeRoom_93 g1 ?_
  obtain ⟨g2, hf⟩ := gs_some hf
  refine g_getR (pc := 96) fl_X3_226 dX3_makeRoom_96 g2 ?_
  refine g_iload_n (pc := 99) 1 dX3_makeRoom_99 rfl rfl ?_
  refine g_iconst (pc := 100) (v := (0 : Int32)) dX3_makeRoom_100 (by decide) ?_
  obtain ⟨g3, hf⟩ := gs_some hf
  obtain ⟨b4, hf⟩ := gb_some hf
  obtain ⟨h5, eh5, hf⟩ := lt_some hf
  refine g_iast (pc := 101) g3 b4 dX3_makeRoom_101 eh5 ?_
  refine g_iconst (pc := 102) (v := (1 : Int32)) dX3_makeRoom_102 (by decide) ?_
  obtain rfl := Option.some.inj hf
  exact g_zret (pc := 103) rfl rfl dX3_makeRoom_103
set_option maxRecDepth 100000 in
set_option maxHeartbeats 4000000 in
theorem ok_X3_makeRoom (l : Launch) (X : Cx) {h : AH} {a0 : Nat} {a1 : Int32} {q : Int32 × AH} (hf : f_X3_makeRoom h a0 a1 = some q) : Go l X k_X3_makeRoom 0 [(0, rf X a0), (1, .int a1)] [] h (rI q) := by
  unfold f_X3_makeRoom at hf
  refine g_aload_n (pc := 0) 0 dX3_makeRoom_0 rfl rfl ?_
  obtain ⟨g1, hf⟩ := gs_some hf
  refine g_getR (pc := 1) fl_X3_25 dX3_makeRoom_1 g1 ?_
  refine g_iload_n (pc := 4) 1 dX3_makeRoom_4 rfl rfl ?_
  obtain ⟨g2, hf⟩ := gs_some hf
  obtain ⟨v3, hcv3, hf⟩ := bd_some hf
  refine g_cVI (pc := 5) (k2 := k_X2_slotFor) (av := [.int a1]) (q := (v3, h)) rfl dX3_makeRoom_5 ck_X2_slotFor m_1031 m_663 m_664 (ci := 1) rfl (by decide) g2 (by decide) (by decide) rfl (by simp [rf_cat, rq_cat, ca_i, ca_l, ca_r]) (ct_X2_slotFor l X hcv3) ?_
  refine g_istore_n (pc := 8) (L' := [(2, .int v3), (0, rf X a0), (1, .int a1)]) dX3_makeRoom_8 rfl (by decide) rfl rfl ?_
  refine g_aload_n (pc := 9) 1 dX3_makeRoom_9 rfl rfl ?_
  refine g_getR (pc := 10) fl_X3_25 dX3_makeRoom_10 g1 ?_
  refine g_getR (pc := 13) fl_X3_226 dX3_makeRoom_13 g2 ?_
  refine g_iload_n (pc := 16) 0 dX3_makeRoom_16 rfl rfl ?_
  obtain ⟨g4, hf⟩ := gs_some hf
  obtain ⟨b5, hf⟩ := gb_some hf
  refine g_iald (pc := 17) g4 b5 dX3_makeRoom_17 ?_
  refine g_iconst (pc := 18) (v := (2 : Int32)) dX3_makeRoom_18 (by decide) ?_
  rcases it_some hf with ⟨c6, hf⟩ | ⟨c6, hf⟩
  · refine g_iclt_t (pc := 19) (tgt := 92) dX3_makeRoom_19 (by decide) c6 ?_
    refine g_sub [1, 0] rfl ?_
    exact ok_X3_makeRoom_L92 l X h a0 v3 q hf
  · refine g_iclt_f (pc := 19) (tgt := 92) dX3_makeRoom_19 (by decide) c6 ?_
    refine g_aload_n (pc := 22) 1 dX3_makeRoom_22 rfl rfl ?_
    refine g_getI (pc := 23) fl_X3_72 dX3_makeRoom_23 g1 ?_
    refine g_iconst (pc := 26) (v := (-1 : Int32)) dX3_makeRoom_26 (by decide) ?_
    rcases it_some hf with ⟨c7, hf⟩ | ⟨c7, hf⟩
    · refine g_iceq_t (pc := 27) (tgt := 32) dX3_makeRoom_27 (by decide) c7 ?_
      refine g_aload_n (pc := 32) 1 dX3_makeRoom_32 rfl rfl ?_
      refine g_aload_n (pc := 33) 1 dX3_makeRoom_33 rfl rfl ?_
      refine g_getR (pc := 34) fl_X3_25 dX3_makeRoom_34 g1 ?_
      refine g_getR (pc := 37) fl_X3_241 dX3_makeRoom_37 g2 ?_
      refine g_iload_n (pc := 40) 0 dX3_makeRoom_40 rfl rfl ?_
      obtain ⟨g8, hf⟩ := gs_some hf
      obtain ⟨b9, hf⟩ := gb_some hf
      refine g_iald (pc := 41) g8 b9 dX3_makeRoom_41 ?_
      obtain ⟨h10, eh10, hf⟩ := lt_some hf
      refine g_putI (pc := 42) fl_X3_72 dX3_makeRoom_42 g1 eh10 ?_
      refine g_aload_n (pc := 45) 1 dX3_makeRoom_45 rfl rfl ?_
      refine g_iconst (pc := 46) (v := (0 : Int32)) dX3_makeRoom_46 (by decide) ?_
      have g11 : hS h10 a0 = 3 := (hS_tI eh10 g1)
      obtain ⟨h12, eh12, hf⟩ := lt_some hf
      refine g_putZ (pc := 47) fl_X3_75 dX3_makeRoom_47 g11 rfl eh12 ?_
      refine g_aload_n (pc := 50) 1 dX3_makeRoom_50 rfl rfl ?_
      have g13 : hS h12 a0 = 3 := (hS_tI eh12 g11)
      refine g_getR (pc := 51) fl_X3_25 dX3_makeRoom_51 g13 ?_
      obtain ⟨g14, hf⟩ := gs_some hf
      refine g_getR (pc := 54) fl_X3_199 dX3_makeRoom_54 g14 ?_
      refine g_iload_n (pc := 57) 0 dX3_makeRoom_57 rfl rfl ?_
      refine g_iconst (pc := 58) (v := (4 : Int32)) dX3_makeRoom_58 (by decide) ?_
      refine g_imul (pc := 59) dX3_makeRoom_59 ?_
      refine g_aload_n (pc := 60) 1 dX3_makeRoom_60 rfl rfl ?_
      refine g_getR (pc := 61) fl_X3_36 dX3_makeRoom_61 g13 ?_
      refine g_iconst (pc := 64) (v := (0 : Int32)) dX3_makeRoom_64 (by decide) ?_
      refine g_iconst (pc := 65) (v := (4 : Int32)) dX3_makeRoom_65 (by decide) ?_
      obtain ⟨g15, hf⟩ := gs_some hf
      obtain ⟨g16, hf⟩ := gs_some hf
      obtain ⟨b17, hf⟩ := gb_some hf
      obtain ⟨h18, eh18, hf⟩ := lt_some hf
      refine g_copy (pc := 66) acy_X3_244 g15 g16 b17 (by decide) (by decide) (by simp [rf_cat, rq_cat, ca_i, ca_l, ca_r]) dX3_makeRoom_66 eh18 ?_
      refine g_aload_n (pc := 69) 1 dX3_makeRoom_69 rfl rfl ?_
      have g19 : hS h18 a0 = 3 := (hS_tA eh18 g13)
      refine g_getR (pc := 70) fl_X3_43 dX3_makeRoom_70 g19 ?_
      refine g_iconst (pc := 73) (v := (2 : Int32)) dX3_makeRoom_73 (by decide) ?_
      refine g_aload_n (pc := 74) 1 dX3_makeRoom_74 rfl rfl ?_
      refine g_getI (pc := 75) fl_X3_39 dX3_makeRoom_75 g19 ?_
      refine g_bipush (pc := 78) (v := (16 : Int32)) dX3_makeRoom_78 (by decide) ?_
      refine g_aload_n (pc := 80) 1 dX3_makeRoom_80 rfl rfl ?_
      refine g_getI (pc := 81) fl_X3_72 dX3_makeRoom_81 g19 ?_
      refine g_aload_n (pc := 84) 1 dX3_makeRoom_84 rfl rfl ?_
      refine g_getR (pc := 85) fl_X3_36 dX3_makeRoom_85 g19 ?_
      refine g_iconst (pc := 88) (v := (0 : Int32)) dX3_makeRoom_88 (by decide) ?_
      obtain ⟨g20, hf⟩ := gs_some hf
      obtain ⟨q21, hcq21, hf⟩ := bd_some hf
      refine g_cVV (pc := 89) (k2 := k_X6_send) (av := [.int (2 : Int32), .int (hI h18 a0 0), .int (16 : Int32), .int (hI h18 a0 8), rf X (hR h18 a0 10), .int (0 : Int32)]) (q := q21) rfl dX3_makeRoom_89 ck_X6_send m_655 m_582 m_583 (ci := 4) rfl (by decide) g20 (by decide) (by decide) rfl (by simp [rf_cat, rq_cat, ca_i, ca_l, ca_r]) (ct_X6_send l X hcq21) ?_
      refine g_sub [1, 0] rfl ?_
      exact ok_X3_makeRoom_L92 l X q21 a0 v3 q hf
    · refine g_iceq_f (pc := 27) (tgt := 32) dX3_makeRoom_27 (by decide) c7 ?_
      refine g_iconst (pc := 30) (v := (0 : Int32)) dX3_makeRoom_30 (by decide) ?_
      obtain rfl := Option.some.inj hf
      exact g_zret (pc := 31) rfl rfl dX3_makeRoom_31
theorem ct_X3_makeRoom (l : Launch) (X : Cx) {h : AH} {a0 : Nat} {a1 : Int32} {q : Int32 × AH} (hf : f_X3_makeRoom h a0 a1 = some q) : Ct l X k_X3_makeRoom [rf X a0, .int a1] h (rI q) := ct_of ck_X3_makeRoom (by simp [lg_sl, rf_cat, rq_cat, ca_i, ca_l, ca_r]) (by simp [lv_args, rf_cat, rq_cat, ca_i, ca_l, ca_r]) (ok_X3_makeRoom l X hf)
set_option maxRecDepth 100000 in
set_option maxHeartbeats 4000000 in
theorem ok_X3_miss_L37 (l : Launch) (X : Cx) (h : AH) (a0 : Nat) (a1 : Int32) (a2 : Int32) (q : AH) (hf : f_X3_miss_L37 h a0 a1 a2 = some q) : Go l X k_X3_miss 37 [(0, rf X a0), (1, .int a1), (2, .int a2)] [] h (rV q) := by
  unfold f_X3_miss_L37 at hf
  refine g_aload_n (pc := 37) 0 dX3_miss_37 rfl rfl ?_
  refine g_iload_n (pc := 38) 1 dX3_miss_38 rfl rfl ?_
  obtain ⟨g1, hf⟩ := gs_some hf
  obtain ⟨h2, eh2, hf⟩ := lt_some hf
  refine g_putI (pc := 39) fl_X3_79 dX3_miss_39 g1 eh2 ?_
  refine g_aload_n (pc := 42) 0 dX3_miss_42 rfl rfl ?_
  refine g_dup (pc := 43) dX3_miss_43 (rf_cat X _) ?_
  have g3 : hS h2 a0 = 3 := (hS_tI eh2 g1)
  refine g_getI (pc := 44) fl_X3_82 dX3_miss_44 g3 ?_
  refine g_iconst (pc := 47) (v := (1 : Int32)) dX3_miss_47 (by decide) ?_
  refine g_iadd (pc := 48) dX3_miss_48 ?_
  obtain ⟨h4, eh4, hf⟩ := lt_some hf
  refine g_putI (pc := 49) fl_X3_82 dX3_miss_49 g3 eh4 ?_
  refine g_aload_n (pc := 52) 0 dX3_miss_52 rfl rfl ?_
  have g5 : hS h4 a0 = 3 := (hS_tI eh4 g3)
  refine g_getR (pc := 53) fl_X3_43 dX3_miss_53 g5 ?_
  refine g_iload_n (pc := 56) 2 dX3_miss_56 rfl rfl ?_
  refine g_aload_n (pc := 57) 0 dX3_miss_57 rfl rfl ?_
  refine g_getI (pc := 58) fl_X3_39 dX3_miss_58 g5 ?_
  refine g_bipush (pc := 61) (v := (16 : Int32)) dX3_miss_61 (by decide) ?_
  refine g_iload_n (pc := 63) 1 dX3_miss_63 rfl rfl ?_
  refine g_null (pc := 64) dX3_miss_64 ?_
  refine g_iconst (pc := 65) (v := (0 : Int32)) dX3_miss_65 (by decide) ?_
  obtain ⟨g6, hf⟩ := gs_some hf
  obtain ⟨q7, hcq7, hf⟩ := bd_some hf
  refine g_cVV (pc := 66) (k2 := k_X6_send) (av := [.int a2, .int (hI h4 a0 0), .int (16 : Int32), .int a1, rf X 0, .int (0 : Int32)]) (q := q7) rfl dX3_miss_66 ck_X6_send m_655 m_582 m_583 (ci := 4) rfl (by decide) g6 (by decide) (by decide) rfl (by simp [rf_cat, rq_cat, ca_i, ca_l, ca_r]) (ct_X6_send l X hcq7) ?_
  obtain rfl := Option.some.inj hf
  exact g_vret (pc := 69) rfl dX3_miss_69
set_option maxRecDepth 100000 in
set_option maxHeartbeats 4000000 in
theorem ok_X3_miss (l : Launch) (X : Cx) {h : AH} {a0 : Nat} {a1 : Int32} {a2 : Int32} {q : AH} (hf : f_X3_miss h a0 a1 a2 = some q) : Go l X k_X3_miss 0 [(0, rf X a0), (1, .int a1), (2, .int a2)] [] h (rV q) := by
  unfold f_X3_miss at hf
  refine g_aload_n (pc := 0) 0 dX3_miss_0 rfl rfl ?_
  obtain ⟨g1, hf⟩ := gs_some hf
  refine g_getI (pc := 1) fl_X3_79 dX3_miss_1 g1 ?_
  refine g_iconst (pc := 4) (v := (-1 : Int32)) dX3_miss_4 (by decide) ?_
  rcases it_some hf with ⟨c2, hf⟩ | ⟨c2, hf⟩
  · refine g_icne_t (pc := 5) (tgt := 16) dX3_miss_5 (by decide) c2 ?_
    obtain rfl := Option.some.inj hf
    exact g_vret (pc := 16) rfl dX3_miss_16
  · refine g_icne_f (pc := 5) (tgt := 16) dX3_miss_5 (by decide) (Decidable.of_not_not c2) ?_
    refine g_aload_n (pc := 8) 0 dX3_miss_8 rfl rfl ?_
    refine g_getI (pc := 9) fl_X3_72 dX3_miss_9 g1 ?_
    refine g_iload_n (pc := 12) 1 dX3_miss_12 rfl rfl ?_
    rcases it_some hf with ⟨c3, hf⟩ | ⟨c3, hf⟩
    · refine g_icne_t (pc := 13) (tgt := 17) dX3_miss_13 (by decide) c3 ?_
      refine g_aload_n (pc := 17) 0 dX3_miss_17 rfl rfl ?_
      refine g_getR (pc := 18) fl_X3_25 dX3_miss_18 g1 ?_
      refine g_iload_n (pc := 21) 1 dX3_miss_21 rfl rfl ?_
      obtain ⟨g4, hf⟩ := gs_some hf
      obtain ⟨v5, hcv5, hf⟩ := bd_some hf
      refine g_cVI (pc := 22) (k2 := k_X2_find) (av := [.int a1]) (q := (v5, h)) rfl dX3_miss_22 ck_X2_find m_651 m_652 m_653 (ci := 1) rfl (by decide) g4 (by decide) (by decide) rfl (by simp [rf_cat, rq_cat, ca_i, ca_l, ca_r]) (ct_X2_find l X hcv5) ?_
      rcases it_some hf with ⟨c6, hf⟩ | ⟨c6, hf⟩
      · refine g_ifge_t (pc := 25) (tgt := 37) dX3_miss_25 (by decide) c6 ?_
        exact ok_X3_miss_L37 l X h a0 a1 a2 q hf
      · refine g_ifge_f (pc := 25) (tgt := 37) dX3_miss_25 (by decide) c6 ?_
        refine g_aload_n (pc := 28) 0 dX3_miss_28 rfl rfl ?_
        refine g_iload_n (pc := 29) 1 dX3_miss_29 rfl rfl ?_
        obtain ⟨q7, hcq7, hf⟩ := bd_some hf
        refine g_cVI (pc := 30) (k2 := k_X3_makeRoom) (av := [.int a1]) (q := q7) rfl dX3_miss_30 ck_X3_makeRoom m_1027 m_1029 m_43 (ci := 2) rfl (by decide) g1 (by decide) (by decide) rfl (by simp [rf_cat, rq_cat, ca_i, ca_l, ca_r]) (ct_X3_makeRoom l X hcq7) ?_
        rcases it_some hf with ⟨c8, hf⟩ | ⟨c8, hf⟩
        · refine g_ifne_t (pc := 33) (tgt := 37) dX3_miss_33 (by decide) c8 ?_
          exact ok_X3_miss_L37 l X q7.2 a0 a1 a2 q hf
        · refine g_ifne_f (pc := 33) (tgt := 37) dX3_miss_33 (by decide) (Decidable.of_not_not c8) ?_
          obtain rfl := Option.some.inj hf
          exact g_vret (pc := 36) rfl dX3_miss_36
    · refine g_icne_f (pc := 13) (tgt := 17) dX3_miss_13 (by decide) (Decidable.of_not_not c3) ?_
      obtain rfl := Option.some.inj hf
      exact g_vret (pc := 16) rfl dX3_miss_16
theorem ct_X3_miss (l : Launch) (X : Cx) {h : AH} {a0 : Nat} {a1 : Int32} {a2 : Int32} {q : AH} (hf : f_X3_miss h a0 a1 a2 = some q) : Ct l X k_X3_miss [rf X a0, .int a1, .int a2] h (rV q) := ct_of ck_X3_miss (by simp [lg_sl, rf_cat, rq_cat, ca_i, ca_l, ca_r]) (by simp [lv_args, rf_cat, rq_cat, ca_i, ca_l, ca_r]) (ok_X3_miss l X hf)
set_option maxRecDepth 100000 in
set_option maxHeartbeats 4000000 in
theorem ok_X10_wordOf (l : Launch) (X : Cx) {h : AH} {a0 : Int32} {a1 : Int32} {q : Int32} (hf : f_X10_wordOf h a0 a1 = some q) : Go l X k_X10_wordOf 0 [(0, .int a0), (1, .int a1)] [] h (rI (q, h)) := by
  unfold f_X10_wordOf at hf
  refine g_iload_n (pc := 0) 0 dX10_wordOf_0 rfl rfl ?_
  refine g_iconst (pc := 1) (v := (4 : Int32)) dX10_wordOf_1 (by decide) ?_
  refine g_imul (pc := 2) dX10_wordOf_2 ?_
  refine g_iload_n (pc := 3) 1 dX10_wordOf_3 rfl rfl ?_
  refine g_iconst (pc := 4) (v := (2 : Int32)) dX10_wordOf_4 (by decide) ?_
  refine g_ishr (pc := 5) dX10_wordOf_5 ?_
  refine g_iconst (pc := 6) (v := (3 : Int32)) dX10_wordOf_6 (by decide) ?_
  refine g_iand (pc := 7) dX10_wordOf_7 ?_
  refine g_iadd (pc := 8) dX10_wordOf_8 ?_
  obtain rfl := Option.some.inj hf
  exact g_iret (pc := 9) rfl dX10_wordOf_9
theorem ct_X10_wordOf (l : Launch) (X : Cx) {h : AH} {a0 : Int32} {a1 : Int32} {q : Int32} (hf : f_X10_wordOf h a0 a1 = some q) : Ct l X k_X10_wordOf [.int a0, .int a1] h (rI (q, h)) := ct_of ck_X10_wordOf (by simp [lg_sl, rf_cat, rq_cat, ca_i, ca_l, ca_r]) (by simp [lv_args, rf_cat, rq_cat, ca_i, ca_l, ca_r]) (ok_X10_wordOf l X hf)
set_option maxRecDepth 100000 in
set_option maxHeartbeats 4000000 in
theorem ok_X7_over_L52 (l : Launch) (X : Cx) (h : AH) (k5 : Nat → Int32 → Int32 → Int32 → Option (Int32)) (hk5 : ∀ (a0 : Nat) (a1 : Int32) (a3 : Int32) (a4 : Int32) (q : Int32), k5 a0 a1 a3 a4 = some q → Go l X k_X7_over 5 [(0, rf X a0), (1, .int a1), (3, .int a3), (4, .int a4)] [] h (rI (q, h))) (a0 : Nat) (a1 : Int32) (a3 : Int32) (a4 : Int32) (q : Int32) (hf : f_X7_over_L52 h k5 a0 a1 a3 a4 = some q) : Go l X k_X7_over 52 [(0, rf X a0), (1, .int a1), (3, .int a3), (4, .int a4)] [] h (rI (q, h)) := by
  unfold f_X7_over_L52 at hf
  obtain ⟨x1, ex1, hf⟩ := lt_some hf
  refine g_iinc (pc := 52) (y := x1) (L' := [(4, .int x1), (0, rf X a0), (1, .int a1), (3, .int a3)]) 3 dX7_over_52 rfl (by decide) (ex1.trans rfl) rfl ?_
  refine g_goto (pc := 55) (tgt := 5) dX7_over_55 (by decide) ?_
  refine g_sub [1, 2, 3, 0] rfl ?_
  exact hk5 a0 a1 a3 x1 q hf
set_option maxRecDepth 100000 in
set_option maxHeartbeats 4000000 in
theorem ok_X7_over_L5 (l : Launch) (X : Cx) (h : AH) : ∀ (n : Nat) (a0 : Nat) (a1 : Int32) (a3 : Int32) (a4 : Int32) (q : Int32), f_X7_over_L5 h n a0 a1 a3 a4 = some q → Go l X k_X7_over 5 [(0, rf X a0), (1, .int a1), (3, .int a3), (4, .int a4)] [] h (rI (q, h)) := by
  intro n
  induction n with
  | zero =>
    intro a0 a1 a3 a4 q hf
    unfold f_X7_over_L5 at hf
    cases hf
  | succ n ih =>
    intro a0 a1 a3 a4 q hf
    unfold f_X7_over_L5 at hf
    refine g_iload (pc := 5) 3 dX7_over_5 rfl ?_
    refine g_aload_n (pc := 7) 0 dX7_over_7 rfl rfl ?_
    obtain ⟨g1, hf⟩ := gs_some hf
    refine g_getI (pc := 8) fl_X7_19 dX7_over_8 g1 ?_
    rcases it_some hf with ⟨c2, hf⟩ | ⟨c2, hf⟩
    · refine g_icge_t (pc := 11) (tgt := 58) dX7_over_11 (by decide) c2 ?_
      refine g_iload_n (pc := 58) 2 dX7_over_58 rfl rfl ?_
      obtain rfl := Option.some.inj hf
      exact g_iret (pc := 59) rfl dX7_over_59
    · refine g_icge_f (pc := 11) (tgt := 58) dX7_over_11 (by decide) c2 ?_
      refine g_aload_n (pc := 14) 0 dX7_over_14 rfl rfl ?_
      refine g_iload (pc := 15) 3 dX7_over_15 rfl ?_
      refine g_iconst (pc := 17) (v := (0 : Int32)) dX7_over_17 (by decide) ?_
      obtain ⟨v3, hcv3, hf⟩ := bd_some hf
      refine g_cVI (pc := 18) (k2 := k_X7_get) (av := [.int a4, .int (0 : Int32)]) (q := (v3, h)) rfl dX7_over_18 ck_X7_get m_1019 m_1020 m_1021 (ci := 5) rfl (by decide) g1 (by decide) (by decide) rfl (by simp [rf_cat, rq_cat, ca_i, ca_l, ca_r]) (ct_X7_get l X hcv3) ?_
      refine g_iload_n (pc := 21) 1 dX7_over_21 rfl rfl ?_
      rcases it_some hf with ⟨c4, hf⟩ | ⟨c4, hf⟩
      · refine g_icne_t (pc := 22) (tgt := 52) dX7_over_22 (by decide) c4 ?_
        exact ok_X7_over_L52 l X h (f_X7_over_L5 h n) ih a0 a1 a3 a4 q hf
      · refine g_icne_f (pc := 22) (tgt := 52) dX7_over_22 (by decide) (Decidable.of_not_not c4) ?_
        refine g_iload_n (pc := 25) 2 dX7_over_25 rfl rfl ?_
        refine g_sBBN (pc := 26) 2 rfl dX7_over_26 ?_
        refine g_aload_n (pc := 29) 0 dX7_over_29 rfl rfl ?_
        refine g_iload (pc := 30) 3 dX7_over_30 rfl ?_
        refine g_iconst (pc := 32) (v := (1 : Int32)) dX7_over_32 (by decide) ?_
        obtain ⟨v5, hcv5, hf⟩ := bd_some hf
        refine g_cVI (pc := 33) (k2 := k_X7_get) (av := [.int a4, .int (1 : Int32)]) (q := (v5, h)) rfl dX7_over_33 ck_X7_get m_1019 m_1020 m_1021 (ci := 5) rfl (by decide) g1 (by decide) (by decide) rfl (by simp [rf_cat, rq_cat, ca_i, ca_l, ca_r]) (ct_X7_get l X hcv5) ?_
        refine g_bipush (pc := 36) (v := (15 : Int32)) dX7_over_36 (by decide) ?_
        refine g_iand (pc := 38) dX7_over_38 ?_
        obtain ⟨b6, hf⟩ := gb_some hf
        refine g_tBB (pc := 39) b6 dX7_over_39 ?_
        refine g_iconst (pc := 40) (v := (-1 : Int32)) dX7_over_40 (by decide) ?_
        refine g_ixor (pc := 41) dX7_over_41 ?_
        refine g_iand (pc := 42) dX7_over_42 ?_
        refine g_aload_n (pc := 43) 0 dX7_over_43 rfl rfl ?_
        refine g_iload (pc := 44) 3 dX7_over_44 rfl ?_
        refine g_iconst (pc := 46) (v := (2 : Int32)) dX7_over_46 (by decide) ?_
        obtain ⟨v7, hcv7, hf⟩ := bd_some hf
        refine g_cVI (pc := 47) (k2 := k_X7_get) (av := [.int a4, .int (2 : Int32)]) (q := (v7, h)) rfl dX7_over_47 ck_X7_get m_1019 m_1020 m_1021 (ci := 5) rfl (by decide) g1 (by decide) (by decide) rfl (by simp [rf_cat, rq_cat, ca_i, ca_l, ca_r]) (ct_X7_get l X hcv7) ?_
        refine g_ior (pc := 50) dX7_over_50 ?_
        obtain ⟨x8, ex8, hf⟩ := lt_some hf
        refine g_istore_n (pc := 51) (L' := [(3, .int x8), (0, rf X a0), (1, .int a1), (4, .int a4)]) dX7_over_51 rfl (by decide) ex8 rfl ?_
        refine g_sub [1, 2, 0, 3] rfl ?_
        exact ok_X7_over_L52 l X h (f_X7_over_L5 h n) ih a0 a1 x8 a4 q hf
set_option maxRecDepth 100000 in
set_option maxHeartbeats 4000000 in
theorem ok_X7_over (l : Launch) (X : Cx) {h : AH} {a0 : Nat} {a1 : Int32} {a2 : Int32} {q : Int32} (hf : f_X7_over h a0 a1 a2 = some q) : Go l X k_X7_over 0 [(0, rf X a0), (1, .int a1), (2, .int a2)] [] h (rI (q, h)) := by
  unfold f_X7_over at hf
  refine g_iload_n (pc := 0) 2 dX7_over_0 rfl rfl ?_
  refine g_istore_n (pc := 1) (L' := [(3, .int a2), (0, rf X a0), (1, .int a1), (2, .int a2)]) dX7_over_1 rfl (by decide) rfl rfl ?_
  refine g_iconst (pc := 2) (v := (0 : Int32)) dX7_over_2 (by decide) ?_
  obtain ⟨x1, ex1, hf⟩ := lt_some hf
  refine g_istore (pc := 3) (L' := [(4, .int x1), (3, .int a2), (0, rf X a0), (1, .int a1), (2, .int a2)]) dX7_over_3 (by decide) ex1 rfl ?_
  refine g_sub [2, 3, 1, 0] rfl ?_
  exact ok_X7_over_L5 l X h FU a0 a1 a2 x1 q hf
theorem ct_X7_over (l : Launch) (X : Cx) {h : AH} {a0 : Nat} {a1 : Int32} {a2 : Int32} {q : Int32} (hf : f_X7_over h a0 a1 a2 = some q) : Ct l X k_X7_over [rf X a0, .int a1, .int a2] h (rI (q, h)) := ct_of ck_X7_over (by simp [lg_sl, rf_cat, rq_cat, ca_i, ca_l, ca_r]) (by simp [lv_args, rf_cat, rq_cat, ca_i, ca_l, ca_r]) (ok_X7_over l X hf)
set_option maxRecDepth 100000 in
set_option maxHeartbeats 4000000 in
theorem ok_X3_reads_L68 (l : Launch) (X : Cx) (h : AH) (a0 : Nat) (a1 : Int32) (a3 : Int32) (q : Int32 × AH) (hf : f_X3_reads_L68 h a0 a1 a3 = some q) : Go l X k_X3_reads 68 [(0, rf X a0), (1, .int a1), (3, .int a3)] [] h (rI q) := by
  unfold f_X3_reads_L68 at hf
  refine g_aload_n (pc := 68) 0 dX3_reads_68 rfl rfl ?_
  refine g_aload_n (pc := 69) 0 dX3_reads_69 rfl rfl ?_
  obtain ⟨g1, hf⟩ := gs_some hf
  refine g_getR (pc := 70) fl_X3_18 dX3_reads_70 g1 ?_
  refine g_iload_n (pc := 73) 1 dX3_reads_73 rfl rfl ?_
  refine g_iload_n (pc := 74) 2 dX3_reads_74 rfl rfl ?_
  obtain ⟨g2, hf⟩ := gs_some hf
  obtain ⟨v3, hcv3, hf⟩ := bd_some hf
  refine g_cVI (pc := 75) (k2 := k_X7_over) (av := [.int a1, .int a3]) (q := (v3, h)) rfl dX3_reads_75 ck_X7_over m_1037 m_1038 m_1039 (ci := 5) rfl (by decide) g2 (by decide) (by decide) rfl (by simp [rf_cat, rq_cat, ca_i, ca_l, ca_r]) (ct_X7_over l X hcv3) ?_
  obtain ⟨h4, eh4, hf⟩ := lt_some hf
  refine g_putI (pc := 78) fl_X3_110 dX3_reads_78 g1 eh4 ?_
  refine g_iconst (pc := 81) (v := (1 : Int32)) dX3_reads_81 (by decide) ?_
  obtain rfl := Option.some.inj hf
  exact g_zret (pc := 82) rfl rfl dX3_reads_82
set_option maxRecDepth 100000 in
set_option maxHeartbeats 4000000 in
theorem ok_X3_reads (l : Launch) (X : Cx) {h : AH} {a0 : Nat} {a1 : Int32} {a2 : Int32} {q : Int32 × AH} (hf : f_X3_reads h a0 a1 a2 = some q) : Go l X k_X3_reads 0 [(0, rf X a0), (1, .int a1), (2, .int a2)] [] h (rI q) := by
  unfold f_X3_reads at hf
  refine g_iconst (pc := 0) (v := (0 : Int32)) dX3_reads_0 (by decide) ?_
  obtain ⟨x1, ex1, hf⟩ := lt_some hf
  refine g_istore_n (pc := 1) (L' := [(3, .int x1), (0, rf X a0), (1, .int a1), (2, .int a2)]) dX3_reads_1 rfl (by decide) ex1 rfl ?_
  refine g_iload_n (pc := 2) 3 dX3_reads_2 rfl rfl ?_
  refine g_aload_n (pc := 3) 1 dX3_reads_3 rfl rfl ?_
  obtain ⟨g2, hf⟩ := gs_some hf
  refine g_getR (pc := 4) fl_X3_18 dX3_reads_4 g2 ?_
  refine g_iload_n (pc := 7) 2 dX3_reads_7 rfl rfl ?_
  obtain ⟨g3, hf⟩ := gs_some hf
  obtain ⟨v4, hcv4, hf⟩ := bd_some hf
  refine g_cVI (pc := 8) (k2 := k_X7_bytesAt) (av := [.int a1]) (q := (v4, h)) rfl dX3_reads_8 ck_X7_bytesAt m_1015 m_1016 m_1017 (ci := 5) rfl (by decide) g3 (by decide) (by decide) rfl (by simp [rf_cat, rq_cat, ca_i, ca_l, ca_r]) (ct_X7_bytesAt l X hcv4) ?_
  refine g_iconst (pc := 11) (v := (-1 : Int32)) dX3_reads_11 (by decide) ?_
  refine g_ixor (pc := 12) dX3_reads_12 ?_
  refine g_iand (pc := 13) dX3_reads_13 ?_
  rcases it_some hf with ⟨c5, hf⟩ | ⟨c5, hf⟩
  · refine g_ifeq_t (pc := 14) (tgt := 68) dX3_reads_14 (by decide) c5 ?_
    refine g_sub [1, 2, 0] rfl ?_
    exact ok_X3_reads_L68 l X h a0 a1 x1 q hf
  · refine g_ifeq_f (pc := 14) (tgt := 68) dX3_reads_14 (by decide) c5 ?_
    refine g_aload_n (pc := 17) 1 dX3_reads_17 rfl rfl ?_
    refine g_getR (pc := 18) fl_X3_25 dX3_reads_18 g2 ?_
    refine g_iload_n (pc := 21) 2 dX3_reads_21 rfl rfl ?_
    refine g_iconst (pc := 22) (v := (4 : Int32)) dX3_reads_22 (by decide) ?_
    refine g_ishr (pc := 23) dX3_reads_23 ?_
    obtain ⟨g6, hf⟩ := gs_some hf
    obtain ⟨v7, hcv7, hf⟩ := bd_some hf
    refine g_cVI (pc := 24) (k2 := k_X2_find) (av := [.int (a1 >>> ((4 : Int32) &&& 31))]) (q := (v7, h)) rfl dX3_reads_24 ck_X2_find m_651 m_652 m_653 (ci := 1) rfl (by decide) g6 (by decide) (by decide) rfl (by simp [rf_cat, rq_cat, ca_i, ca_l, ca_r]) (ct_X2_find l X hcv7) ?_
    refine g_istore (pc := 27) (L' := [(4, .int v7), (3, .int x1), (0, rf X a0), (1, .int a1), (2, .int a2)]) dX3_reads_27 (by decide) rfl rfl ?_
    refine g_iload (pc := 29) 0 dX3_reads_29 rfl ?_
    rcases it_some hf with ⟨c8, hf⟩ | ⟨c8, hf⟩
    · refine g_ifge_t (pc := 31) (tgt := 44) dX3_reads_31 (by decide) c8 ?_
      refine g_aload_n (pc := 44) 2 dX3_reads_44 rfl rfl ?_
      refine g_getR (pc := 45) fl_X3_25 dX3_reads_45 g2 ?_
      refine g_iload (pc := 48) 0 dX3_reads_48 rfl ?_
      obtain ⟨q9, hcq9, hf⟩ := bd_some hf
      refine g_cVV (pc := 50) (k2 := k_X2_use) (av := [.int v7]) (q := q9) rfl dX3_reads_50 ck_X2_use m_1033 m_668 m_669 (ci := 1) rfl (by decide) g6 (by decide) (by decide) rfl (by simp [rf_cat, rq_cat, ca_i, ca_l, ca_r]) (ct_X2_use l X hcq9) ?_
      refine g_aload_n (pc := 53) 2 dX3_reads_53 rfl rfl ?_
      obtain ⟨g10, hf⟩ := gs_some hf
      refine g_getR (pc := 54) fl_X3_25 dX3_reads_54 g10 ?_
      obtain ⟨g11, hf⟩ := gs_some hf
      refine g_getR (pc := 57) fl_X3_199 dX3_reads_57 g11 ?_
      refine g_iload (pc := 60) 0 dX3_reads_60 rfl ?_
      refine g_iload_n (pc := 62) 3 dX3_reads_62 rfl rfl ?_
      obtain ⟨v12, hcv12, hf⟩ := bd_some hf
      refine g_nSI (pc := 63) (k2 := k_X10_wordOf) (av := [.int v7, .int a1]) (q := (v12, q9)) rfl dX3_reads_63 ck_X10_wordOf 7 rfl m_1035 (by decide) (by decide) rfl (by simp [rf_cat, rq_cat, ca_i, ca_l, ca_r]) (ct_X10_wordOf l X hcv12) ?_
      obtain ⟨g13, hf⟩ := gs_some hf
      obtain ⟨b14, hf⟩ := gb_some hf
      refine g_iald (pc := 66) g13 b14 dX3_reads_66 ?_
      obtain ⟨x15, ex15, hf⟩ := lt_some hf
      refine g_istore_n (pc := 67) (L' := [(3, .int x15), (4, .int v7), (0, rf X a0), (1, .int a1), (2, .int a2)]) dX3_reads_67 rfl (by decide) ex15 rfl ?_
      refine g_sub [2, 3, 0] rfl ?_
      exact ok_X3_reads_L68 l X q9 a0 a1 x15 q hf
    · refine g_ifge_f (pc := 31) (tgt := 44) dX3_reads_31 (by decide) c8 ?_
      refine g_aload_n (pc := 34) 2 dX3_reads_34 rfl rfl ?_
      refine g_iload_n (pc := 35) 3 dX3_reads_35 rfl rfl ?_
      refine g_iconst (pc := 36) (v := (4 : Int32)) dX3_reads_36 (by decide) ?_
      refine g_ishr (pc := 37) dX3_reads_37 ?_
      refine g_iconst (pc := 38) (v := (0 : Int32)) dX3_reads_38 (by decide) ?_
      obtain ⟨q16, hcq16, hf⟩ := bd_some hf
      refine g_cVV (pc := 39) (k2 := k_X3_miss) (av := [.int (a1 >>> ((4 : Int32) &&& 31)), .int (0 : Int32)]) (q := q16) rfl dX3_reads_39 ck_X3_miss m_1023 m_1025 m_42 (ci := 2) rfl (by decide) g2 (by decide) (by decide) rfl (by simp [rf_cat, rq_cat, ca_i, ca_l, ca_r]) (ct_X3_miss l X hcq16) ?_
      refine g_iconst (pc := 42) (v := (0 : Int32)) dX3_reads_42 (by decide) ?_
      obtain rfl := Option.some.inj hf
      exact g_zret (pc := 43) rfl rfl dX3_reads_43
theorem ct_X3_reads (l : Launch) (X : Cx) {h : AH} {a0 : Nat} {a1 : Int32} {a2 : Int32} {q : Int32 × AH} (hf : f_X3_reads h a0 a1 a2 = some q) : Ct l X k_X3_reads [rf X a0, .int a1, .int a2] h (rI q) := ct_of ck_X3_reads (by simp [lg_sl, rf_cat, rq_cat, ca_i, ca_l, ca_r]) (by simp [lv_args, rf_cat, rq_cat, ca_i, ca_l, ca_r]) (ok_X3_reads l X hf)
set_option maxRecDepth 100000 in
set_option maxHeartbeats 4000000 in
theorem ok_X9_note_L99 (l : Launch) (X : Cx) (h : AH) (a0 : Nat) (q : AH) (hf : f_X9_note_L99 h a0 = some q) : Go l X k_X9_note 99 [(0, rf X a0)] [] h (rV q) := by
  unfold f_X9_note_L99 at hf
  refine g_aload_n (pc := 99) 0 dX9_note_99 rfl rfl ?_
  refine g_dup (pc := 100) dX9_note_100 (rf_cat X _) ?_
  obtain ⟨g1, hf⟩ := gs_some hf
  refine g_getI (pc := 101) fl_X9_13 dX9_note_101 g1 ?_
  refine g_iconst (pc := 104) (v := (1 : Int32)) dX9_note_104 (by decide) ?_
  refine g_iadd (pc := 105) dX9_note_105 ?_
  obtain ⟨h2, eh2, hf⟩ := lt_some hf
  refine g_putI (pc := 106) fl_X9_13 dX9_note_106 g1 eh2 ?_
  obtain rfl := Option.some.inj hf
  exact g_vret (pc := 109) rfl dX9_note_109
set_option maxRecDepth 100000 in
set_option maxHeartbeats 4000000 in
theorem ok_X9_note (l : Launch) (X : Cx) {h : AH} {a0 : Nat} {a1 : Int32} {a2 : Int32} {a3 : Int32} {a4 : Int32} {a5 : Int32} {a6 : Int32} {a7 : Int32} {q : AH} (hf : f_X9_note h a0 a1 a2 a3 a4 a5 a6 a7 = some q) : Go l X k_X9_note 0 [(0, rf X a0), (1, .int a1), (2, .int a2), (3, .int a3), (4, .int a4), (5, .int a5), (6, .int a6), (7, .int a7)] [] h (rV q) := by
  unfold f_X9_note at hf
  refine g_aload_n (pc := 0) 0 dX9_note_0 rfl rfl ?_
  obtain ⟨g1, hf⟩ := gs_some hf
  refine g_getI (pc := 1) fl_X9_13 dX9_note_1 g1 ?_
  refine g_bipush (pc := 4) (v := (32 : Int32)) dX9_note_4 (by decide) ?_
  refine g_irem (pc := 6) (by decide) dX9_note_6 ?_
  refine g_bipush (pc := 7) (v := (8 : Int32)) dX9_note_7 (by decide) ?_
  refine g_imul (pc := 9) dX9_note_9 ?_
  obtain ⟨x2, ex2, hf⟩ := lt_some hf
  refine g_istore (pc := 10) (L' := [(8, .int x2), (0, rf X a0), (1, .int a1), (2, .int a2), (3, .int a3), (4, .int a4), (5, .int a5), (6, .int a6), (7, .int a7)]) dX9_note_10 (by decide) ex2 rfl ?_
  refine g_aload_n (pc := 12) 1 dX9_note_12 rfl rfl ?_
  refine g_getR (pc := 13) fl_X9_9 dX9_note_13 g1 ?_
  refine g_iload (pc := 16) 0 dX9_note_16 rfl ?_
  refine g_iload_n (pc := 18) 2 dX9_note_18 rfl rfl ?_
  obtain ⟨g3, hf⟩ := gs_some hf
  obtain ⟨b4, hf⟩ := gb_some hf
  obtain ⟨h5, eh5, hf⟩ := lt_some hf
  refine g_iast (pc := 19) g3 b4 dX9_note_19 eh5 ?_
  refine g_aload_n (pc := 20) 1 dX9_note_20 rfl rfl ?_
  have g6 : hS h5 a0 = 8 := (hS_tI eh5 g1)
  refine g_getR (pc := 21) fl_X9_9 dX9_note_21 g6 ?_
  refine g_iload (pc := 24) 0 dX9_note_24 rfl ?_
  refine g_iconst (pc := 26) (v := (1 : Int32)) dX9_note_26 (by decide) ?_
  refine g_iadd (pc := 27) dX9_note_27 ?_
  refine g_iload_n (pc := 28) 3 dX9_note_28 rfl rfl ?_
  obtain ⟨g7, hf⟩ := gs_some hf
  obtain ⟨b8, hf⟩ := gb_some hf
  obtain ⟨h9, eh9, hf⟩ := lt_some hf
  refine g_iast (pc := 29) g7 b8 dX9_note_29 eh9 ?_
  refine g_aload_n (pc := 30) 1 dX9_note_30 rfl rfl ?_
  have g10 : hS h9 a0 = 8 := (hS_tI eh9 g6)
  refine g_getR (pc := 31) fl_X9_9 dX9_note_31 g10 ?_
  refine g_iload (pc := 34) 0 dX9_note_34 rfl ?_
  refine g_iconst (pc := 36) (v := (2 : Int32)) dX9_note_36 (by decide) ?_
  refine g_iadd (pc := 37) dX9_note_37 ?_
  refine g_iload_n (pc := 38) 4 dX9_note_38 rfl rfl ?_
  obtain ⟨g11, hf⟩ := gs_some hf
  obtain ⟨b12, hf⟩ := gb_some hf
  obtain ⟨h13, eh13, hf⟩ := lt_some hf
  refine g_iast (pc := 39) g11 b12 dX9_note_39 eh13 ?_
  refine g_aload_n (pc := 40) 1 dX9_note_40 rfl rfl ?_
  have g14 : hS h13 a0 = 8 := (hS_tI eh13 g10)
  refine g_getR (pc := 41) fl_X9_9 dX9_note_41 g14 ?_
  refine g_iload (pc := 44) 0 dX9_note_44 rfl ?_
  refine g_iconst (pc := 46) (v := (3 : Int32)) dX9_note_46 (by decide) ?_
  refine g_iadd (pc := 47) dX9_note_47 ?_
  refine g_iload (pc := 48) 5 dX9_note_48 rfl ?_
  obtain ⟨g15, hf⟩ := gs_some hf
  obtain ⟨b16, hf⟩ := gb_some hf
  obtain ⟨h17, eh17, hf⟩ := lt_some hf
  refine g_iast (pc := 50) g15 b16 dX9_note_50 eh17 ?_
  refine g_aload_n (pc := 51) 1 dX9_note_51 rfl rfl ?_
  have g18 : hS h17 a0 = 8 := (hS_tI eh17 g14)
  refine g_getR (pc := 52) fl_X9_9 dX9_note_52 g18 ?_
  refine g_iload (pc := 55) 0 dX9_note_55 rfl ?_
  refine g_iconst (pc := 57) (v := (4 : Int32)) dX9_note_57 (by decide) ?_
  refine g_iadd (pc := 58) dX9_note_58 ?_
  refine g_iload (pc := 59) 6 dX9_note_59 rfl ?_
  obtain ⟨g19, hf⟩ := gs_some hf
  obtain ⟨b20, hf⟩ := gb_some hf
  obtain ⟨h21, eh21, hf⟩ := lt_some hf
  refine g_iast (pc := 61) g19 b20 dX9_note_61 eh21 ?_
  refine g_aload_n (pc := 62) 1 dX9_note_62 rfl rfl ?_
  have g22 : hS h21 a0 = 8 := (hS_tI eh21 g18)
  refine g_getR (pc := 63) fl_X9_9 dX9_note_63 g22 ?_
  refine g_iload (pc := 66) 0 dX9_note_66 rfl ?_
  refine g_iconst (pc := 68) (v := (5 : Int32)) dX9_note_68 (by decide) ?_
  refine g_iadd (pc := 69) dX9_note_69 ?_
  refine g_iload (pc := 70) 7 dX9_note_70 rfl ?_
  obtain ⟨g23, hf⟩ := gs_some hf
  obtain ⟨b24, hf⟩ := gb_some hf
  obtain ⟨h25, eh25, hf⟩ := lt_some hf
  refine g_iast (pc := 72) g23 b24 dX9_note_72 eh25 ?_
  refine g_aload_n (pc := 73) 1 dX9_note_73 rfl rfl ?_
  have g26 : hS h25 a0 = 8 := (hS_tI eh25 g22)
  refine g_getR (pc := 74) fl_X9_9 dX9_note_74 g26 ?_
  refine g_iload (pc := 77) 0 dX9_note_77 rfl ?_
  refine g_bipush (pc := 79) (v := (6 : Int32)) dX9_note_79 (by decide) ?_
  refine g_iadd (pc := 81) dX9_note_81 ?_
  refine g_iload (pc := 82) 8 dX9_note_82 rfl ?_
  obtain ⟨g27, hf⟩ := gs_some hf
  obtain ⟨b28, hf⟩ := gb_some hf
  obtain ⟨h29, eh29, hf⟩ := lt_some hf
  refine g_iast (pc := 84) g27 b28 dX9_note_84 eh29 ?_
  refine g_aload_n (pc := 85) 1 dX9_note_85 rfl rfl ?_
  have g30 : hS h29 a0 = 8 := (hS_tI eh29 g26)
  refine g_getR (pc := 86) fl_X9_9 dX9_note_86 g30 ?_
  refine g_iload (pc := 89) 0 dX9_note_89 rfl ?_
  refine g_bipush (pc := 91) (v := (7 : Int32)) dX9_note_91 (by decide) ?_
  refine g_iadd (pc := 93) dX9_note_93 ?_
  refine g_aload_n (pc := 94) 1 dX9_note_94 rfl rfl ?_
  refine g_getI (pc := 95) fl_X9_13 dX9_note_95 g30 ?_
  obtain ⟨g31, hf⟩ := gs_some hf
  obtain ⟨b32, hf⟩ := gb_some hf
  obtain ⟨h33, eh33, hf⟩ := lt_some hf
  refine g_iast (pc := 98) g31 b32 dX9_note_98 eh33 ?_
  refine g_sub [1] rfl ?_
  exact ok_X9_note_L99 l X h33 a0 q hf
theorem ct_X9_note (l : Launch) (X : Cx) {h : AH} {a0 : Nat} {a1 : Int32} {a2 : Int32} {a3 : Int32} {a4 : Int32} {a5 : Int32} {a6 : Int32} {a7 : Int32} {q : AH} (hf : f_X9_note h a0 a1 a2 a3 a4 a5 a6 a7 = some q) : Ct l X k_X9_note [rf X a0, .int a1, .int a2, .int a3, .int a4, .int a5, .int a6, .int a7] h (rV q) := ct_of ck_X9_note (by simp [lg_sl, rf_cat, rq_cat, ca_i, ca_l, ca_r]) (by simp [lv_args, rf_cat, rq_cat, ca_i, ca_l, ca_r]) (ok_X9_note l X hf)
