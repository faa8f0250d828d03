def f_X11_wantRegister_L181 (h : AH) (a0 : Nat) : Option (Int32 × AH) :=
  gs h a0 10 <|
  bd (f_X11_refuse h a0) fun q2 =>
  gb (q2.1 == 0 || q2.1 == 1) <|
  some (q2.1, q2.2)
set_option maxRecDepth 100000 in
set_option maxHeartbeats 4000000 in
theorem ok_X11_wantRegister_L181 (l : Launch) (X : Cx) (h : AH) (a0 : Nat) (q : Int32 × AH) (hf : f_X11_wantRegister_L181 h a0 = some q) : Go l X k_X11_wantRegister 181 [(0, rf X a0)] [] h (rI q) := by
  unfold f_X11_wantRegister_L181 at hf
  refine g_aload_n (pc := 181) 0 dX11_wantRegister_181 rfl rfl ?_
  obtain ⟨g1, hf⟩ := gs_some hf
  obtain ⟨q2, hcq2, hf⟩ := bd_some hf
  refine g_cVI (pc := 182) (k2 := k_X11_refuse) (av := []) (q := q2) rfl dX11_wantRegister_182 ck_X11_refuse m_1705 m_1707 m_65 (ci := 9) rfl (by decide) g1 (by decide) (by decide) rfl (by simp [rf_cat, rq_cat, ca_i, ca_l, ca_r]) (ct_X11_refuse l X hcq2) ?_
  obtain ⟨b3, hf⟩ := gb_some hf
  obtain rfl := Option.some.inj hf
  exact g_zret (pc := 185) rfl b3 dX11_wantRegister_185
def f_X11_wantRegister_L169 (h : AH) (a0 : Nat) (a1 : Int32) (a4 : Int32) : Option (Int32 × AH) :=
  if a4 < 0 then
    f_X11_wantRegister_L181 h a0
  else
    if a4 ≤ (31 : Int32) then
      gs h a0 10 <|
      lt (sI h a0 71 ((hI h a0 71) ||| (a4 <<< (a1 &&& 31)))) fun h4 =>
      lt (sI h4 a0 9 ((hI h4 a0 9) + (1 : Int32))) fun h6 =>
      some ((1 : Int32), h6)
    else
      f_X11_wantRegister_L181 h a0
set_option maxRecDepth 100000 in
set_option maxHeartbeats 4000000 in
theorem ok_X11_wantRegister_L169 (l : Launch) (X : Cx) (h : AH) (a0 : Nat) (a1 : Int32) (a4 : Int32) (q : Int32 × AH) (hf : f_X11_wantRegister_L169 h a0 a1 a4 = some q) : Go l X k_X11_wantRegister 169 [(0, rf X a0), (1, .int a1), (4, .int a4)] [] h (rI q) := by
  unfold f_X11_wantRegister_L169 at hf
  refine g_iload (pc := 169) 2 dX11_wantRegister_169 rfl ?_
  rcases it_some hf with ⟨c1, hf⟩ | ⟨c1, hf⟩
  · refine g_iflt_t (pc := 171) (tgt := 181) dX11_wantRegister_171 (by decide) c1 ?_
    refine g_sub [0] rfl ?_
    exact ok_X11_wantRegister_L181 l X h a0 q hf
  · refine g_iflt_f (pc := 171) (tgt := 181) dX11_wantRegister_171 (by decide) c1 ?_
    refine g_iload (pc := 174) 2 dX11_wantRegister_174 rfl ?_
    refine g_bipush (pc := 176) (v := (31 : Int32)) dX11_wantRegister_176 (by decide) ?_
    rcases it_some hf with ⟨c2, hf⟩ | ⟨c2, hf⟩
    · refine g_icle_t (pc := 178) (tgt := 186) dX11_wantRegister_178 (by decide) c2 ?_
      refine g_aload_n (pc := 186) 0 dX11_wantRegister_186 rfl rfl ?_
      refine g_dup (pc := 187) dX11_wantRegister_187 (rf_cat X _) ?_
      obtain ⟨g3, hf⟩ := gs_some hf
      refine g_getI (pc := 188) fl_X11_410 dX11_wantRegister_188 g3 ?_
      refine g_iload (pc := 191) 2 dX11_wantRegister_191 rfl ?_
      refine g_iload_n (pc := 193) 1 dX11_wantRegister_193 rfl rfl ?_
      refine g_ishl (pc := 194) dX11_wantRegister_194 ?_
      refine g_ior (pc := 195) dX11_wantRegister_195 ?_
      obtain ⟨h4, eh4, hf⟩ := lt_some hf
      refine g_putI (pc := 196) fl_X11_410 dX11_wantRegister_196 g3 eh4 ?_
      refine g_aload_n (pc := 199) 0 dX11_wantRegister_199 rfl rfl ?_
      refine g_dup (pc := 200) dX11_wantRegister_200 (rf_cat X _) ?_
      have g5 : hS h4 a0 = 10 := (hS_tI eh4 g3)
      refine g_getI (pc := 201) fl_X11_378 dX11_wantRegister_201 g5 ?_
      refine g_iconst (pc := 204) (v := (1 : Int32)) dX11_wantRegister_204 (by decide) ?_
      refine g_iadd (pc := 205) dX11_wantRegister_205 ?_
      obtain ⟨h6, eh6, hf⟩ := lt_some hf
      refine g_putI (pc := 206) fl_X11_378 dX11_wantRegister_206 g5 eh6 ?_
      refine g_iconst (pc := 209) (v := (1 : Int32)) dX11_wantRegister_209 (by decide) ?_
      obtain rfl := Option.some.inj hf
      exact g_zret (pc := 210) rfl rfl dX11_wantRegister_210
    · refine g_icle_f (pc := 178) (tgt := 186) dX11_wantRegister_178 (by decide) c2 ?_
      refine g_sub [0] rfl ?_
      exact ok_X11_wantRegister_L181 l X h a0 q hf
def f_X11_wantRegister_L72 (h : AH) (a0 : Nat) (a1 : Int32) (a2 : Int64) (a4 : Int32) : Option (Int32 × AH) :=
  lt ((((a2 >>> ((8 : Int32).toInt64 &&& 63)) &&& (255 : Int64)) - (48 : Int64))) fun x1 =>
  gs h a0 10 <|
  gs h (hR h a0 6) 21 <|
  gb (ib (hI h a0 9) (hN h (hR h a0 6))) <|
  if ¬ (hI h (hR h a0 6) (hI h a0 9).toNatClampNeg) = (1 : Int32) then
    f_X11_wantRegister_L169 h a0 a1 a4
  else
    if ¬ (lg_cmp (a2 >>> ((16 : Int32).toInt64 &&& 63)) (120 : Int64)) = 0 then
      f_X11_wantRegister_L169 h a0 a1 a4
    else
      if (lg_cmp x1 (0 : Int64)) ≤ 0 then
        f_X11_wantRegister_L169 h a0 a1 a4
      else
        if 0 ≤ (lg_cmp x1 (4 : Int64)) then
          f_X11_wantRegister_L169 h a0 a1 a4
        else
          if (lg_cmp (a2 &&& (255 : Int64)) (48 : Int64)) < 0 then
            f_X11_wantRegister_L169 h a0 a1 a4
          else
            if 0 < (lg_cmp (a2 &&& (255 : Int64)) (57 : Int64)) then
              f_X11_wantRegister_L169 h a0 a1 a4
            else
              lt (((((10 : Int64) * x1) + (a2 &&& (255 : Int64))) - (48 : Int64)).toInt32) fun x11 =>
              f_X11_wantRegister_L169 h a0 a1 x11
set_option maxRecDepth 100000 in
set_option maxHeartbeats 4000000 in
theorem ok_X11_wantRegister_L72 (l : Launch) (X : Cx) (h : AH) (a0 : Nat) (a1 : Int32) (a2 : Int64) (a4 : Int32) (q : Int32 × AH) (hf : f_X11_wantRegister_L72 h a0 a1 a2 a4 = some q) : Go l X k_X11_wantRegister 72 [(0, rf X a0), (1, .int a1), (2, .long a2), (4, .int a4)] [] h (rI q) := by
  unfold f_X11_wantRegister_L72 at hf
  refine g_lload_n (pc := 72) 2 dX11_wantRegister_72 rfl rfl ?_
  refine g_bipush (pc := 73) (v := (8 : Int32)) dX11_wantRegister_73 (by decide) ?_
  refine g_lshr (pc := 75) dX11_wantRegister_75 ?_
  refine g_ldc2 (pc := 76) (v := (255 : Int64)) m_1646 dX11_wantRegister_76 ?_
  refine g_land (pc := 79) dX11_wantRegister_79 ?_
  refine g_ldc2 (pc := 80) (v := (48 : Int64)) m_1683 dX11_wantRegister_80 ?_
  refine g_lsub (pc := 83) dX11_wantRegister_83 ?_
  obtain ⟨x1, ex1, hf⟩ := lt_some hf
  refine g_lstore (pc := 84) (L' := [(5, .long x1), (0, rf X a0), (1, .int a1), (2, .long a2), (4, .int a4)]) dX11_wantRegister_84 (by decide) ex1 rfl ?_
  refine g_aload_n (pc := 86) 1 dX11_wantRegister_86 rfl rfl ?_
  obtain ⟨g2, hf⟩ := gs_some hf
  refine g_getR (pc := 87) fl_X11_13 dX11_wantRegister_87 g2 ?_
  refine g_aload_n (pc := 90) 1 dX11_wantRegister_90 rfl rfl ?_
  refine g_getI (pc := 91) fl_X11_378 dX11_wantRegister_91 g2 ?_
  obtain ⟨g3, hf⟩ := gs_some hf
  obtain ⟨b4, hf⟩ := gb_some hf
  refine g_iald (pc := 94) g3 b4 dX11_wantRegister_94 ?_
  refine g_iconst (pc := 95) (v := (1 : Int32)) dX11_wantRegister_95 (by decide) ?_
  rcases it_some hf with ⟨c5, hf⟩ | ⟨c5, hf⟩
  · refine g_icne_t (pc := 96) (tgt := 169) dX11_wantRegister_96 (by decide) c5 ?_
    refine g_sub [1, 2, 4] rfl ?_
    exact ok_X11_wantRegister_L169 l X h a0 a1 a4 q hf
  · refine g_icne_f (pc := 96) (tgt := 169) dX11_wantRegister_96 (by decide) (Decidable.of_not_not c5) ?_
    refine g_lload_n (pc := 99) 3 dX11_wantRegister_99 rfl rfl ?_
    refine g_bipush (pc := 100) (v := (16 : Int32)) dX11_wantRegister_100 (by decide) ?_
    refine g_lshr (pc := 102) dX11_wantRegister_102 ?_
    refine g_ldc2 (pc := 103) (v := (120 : Int64)) m_1717 dX11_wantRegister_103 ?_
    refine g_lcmp (pc := 106) dX11_wantRegister_106 ?_
    rcases it_some hf with ⟨c6, hf⟩ | ⟨c6, hf⟩
    · refine g_ifne_t (pc := 107) (tgt := 169) dX11_wantRegister_107 (by decide) c6 ?_
      refine g_sub [1, 2, 4] rfl ?_
      exact ok_X11_wantRegister_L169 l X h a0 a1 a4 q hf
    · refine g_ifne_f (pc := 107) (tgt := 169) dX11_wantRegister_107 (by decide) (Decidable.of_not_not c6) ?_
      refine g_lload (pc := 110) 0 dX11_wantRegister_110 rfl ?_
      refine g_lconst (pc := 112) (v := (0 : Int64)) dX11_wantRegister_112 (by decide) ?_
      refine g_lcmp (pc := 113) dX11_wantRegister_113 ?_
      rcases it_some hf with ⟨c7, hf⟩ | ⟨c7, hf⟩
      · refine g_ifle_t (pc := 114) (tgt := 169) dX11_wantRegister_114 (by decide) c7 ?_
        refine g_sub [1, 2, 4] rfl ?_
        exact ok_X11_wantRegister_L169 l X h a0 a1 a4 q hf
      · refine g_ifle_f (pc := 114) (tgt := 169) dX11_wantRegister_114 (by decide) c7 ?_
        refine g_lload (pc := 117) 0 dX11_wantRegister_117 rfl ?_
        refine g_ldc2 (pc := 119) (v := (4 : Int64)) m_1719 dX11_wantRegister_119 ?_
        refine g_lcmp (pc := 122) dX11_wantRegister_122 ?_
        rcases it_some hf with ⟨c8, hf⟩ | ⟨c8, hf⟩
        · refine g_ifge_t (pc := 123) (tgt := 169) dX11_wantRegister_123 (by decide) c8 ?_
          refine g_sub [1, 2, 4] rfl ?_
          exact ok_X11_wantRegister_L169 l X h a0 a1 a4 q hf
        · refine g_ifge_f (pc := 123) (tgt := 169) dX11_wantRegister_123 (by decide) c8 ?_
          refine g_lload_n (pc := 126) 3 dX11_wantRegister_126 rfl rfl ?_
          refine g_ldc2 (pc := 127) (v := (255 : Int64)) m_1646 dX11_wantRegister_127 ?_
          refine g_land (pc := 130) dX11_wantRegister_130 ?_
          refine g_ldc2 (pc := 131) (v := (48 : Int64)) m_1683 dX11_wantRegister_131 ?_
          refine g_lcmp (pc := 134) dX11_wantRegister_134 ?_
          rcases it_some hf with ⟨c9, hf⟩ | ⟨c9, hf⟩
          · refine g_iflt_t (pc := 135) (tgt := 169) dX11_wantRegister_135 (by decide) c9 ?_
            refine g_sub [1, 2, 4] rfl ?_
            exact ok_X11_wantRegister_L169 l X h a0 a1 a4 q hf
          · refine g_iflt_f (pc := 135) (tgt := 169) dX11_wantRegister_135 (by decide) c9 ?_
            refine g_lload_n (pc := 138) 3 dX11_wantRegister_138 rfl rfl ?_
            refine g_ldc2 (pc := 139) (v := (255 : Int64)) m_1646 dX11_wantRegister_139 ?_
            refine g_land (pc := 142) dX11_wantRegister_142 ?_
            refine g_ldc2 (pc := 143) (v := (57 : Int64)) m_1718 dX11_wantRegister_143 ?_
            refine g_lcmp (pc := 146) dX11_wantRegister_146 ?_
            rcases it_some hf with ⟨c10, hf⟩ | ⟨c10, hf⟩
            · refine g_ifgt_t (pc := 147) (tgt := 169) dX11_wantRegister_147 (by decide) c10 ?_
              refine g_sub [1, 2, 4] rfl ?_
              exact ok_X11_wantRegister_L169 l X h a0 a1 a4 q hf
            · refine g_ifgt_f (pc := 147) (tgt := 169) dX11_wantRegister_147 (by decide) c10 ?_
              refine g_ldc2 (pc := 150) (v := (10 : Int64)) m_1682 dX11_wantRegister_150 ?_
              refine g_lload (pc := 153) 0 dX11_wantRegister_153 rfl ?_
              refine g_lmul (pc := 155) dX11_wantRegister_155 ?_
              refine g_lload_n (pc := 156) 3 dX11_wantRegister_156 rfl rfl ?_
              refine g_ldc2 (pc := 157) (v := (255 : Int64)) m_1646 dX11_wantRegister_157 ?_
              refine g_land (pc := 160) dX11_wantRegister_160 ?_
              refine g_ladd (pc := 161) dX11_wantRegister_161 ?_
              refine g_ldc2 (pc := 162) (v := (48 : Int64)) m_1683 dX11_wantRegister_162 ?_
              refine g_lsub (pc := 165) dX11_wantRegister_165 ?_
              refine g_l2i (pc := 166) dX11_wantRegister_166 ?_
              obtain ⟨x11, ex11, hf⟩ := lt_some hf
              refine g_istore (pc := 167) (L' := [(4, .int x11), (5, .long x1), (0, rf X a0), (1, .int a1), (2, .long a2)]) dX11_wantRegister_167 (by decide) ex11 rfl ?_
              refine g_sub [2, 3, 0] rfl ?_
              exact ok_X11_wantRegister_L169 l X h a0 a1 x11 q hf
def f_X11_wantRegister (h : AH) (a0 : Nat) (a1 : Int32) : Option (Int32 × AH) :=
  gs h a0 10 <|
  gs h (hR h a0 8) 22 <|
  gb (ib (hI h a0 9) (hN h (hR h a0 8))) <|
  lt ((hL h (hR h a0 8) (hI h a0 9).toNatClampNeg)) fun x4 =>
  lt ((-1 : Int32)) fun x5 =>
  gs h (hR h a0 6) 21 <|
  gb (ib (hI h a0 9) (hN h (hR h a0 6))) <|
  if ¬ (hI h (hR h a0 6) (hI h a0 9).toNatClampNeg) = (1 : Int32) then
    f_X11_wantRegister_L72 h a0 a1 x4 x5
  else
    if ¬ (lg_cmp (x4 >>> ((8 : Int32).toInt64 &&& 63)) (120 : Int64)) = 0 then
      f_X11_wantRegister_L72 h a0 a1 x4 x5
    else
      if (lg_cmp (x4 &&& (255 : Int64)) (48 : Int64)) < 0 then
        f_X11_wantRegister_L72 h a0 a1 x4 x5
      else
        if 0 < (lg_cmp (x4 &&& (255 : Int64)) (57 : Int64)) then
          f_X11_wantRegister_L72 h a0 a1 x4 x5
        else
          lt ((((x4 &&& (255 : Int64)).toInt32) - (48 : Int32))) fun x12 =>
          f_X11_wantRegister_L72 h a0 a1 x4 x12
set_option maxRecDepth 100000 in
set_option maxHeartbeats 4000000 in
theorem ok_X11_wantRegister (l : Launch) (X : Cx) {h : AH} {a0 : Nat} {a1 : Int32} {q : Int32 × AH} (hf : f_X11_wantRegister h a0 a1 = some q) : Go l X k_X11_wantRegister 0 [(0, rf X a0), (1, .int a1)] [] h (rI q) := by
  unfold f_X11_wantRegister at hf
  refine g_aload_n (pc := 0) 0 dX11_wantRegister_0 rfl rfl ?_
  obtain ⟨g1, hf⟩ := gs_some hf
  refine g_getR (pc := 1) fl_X11_19 dX11_wantRegister_1 g1 ?_
  refine g_aload_n (pc := 4) 0 dX11_wantRegister_4 rfl rfl ?_
  refine g_getI (pc := 5) fl_X11_378 dX11_wantRegister_5 g1 ?_
  obtain ⟨g2, hf⟩ := gs_some hf
  obtain ⟨b3, hf⟩ := gb_some hf
  refine g_lald (pc := 8) g2 b3 dX11_wantRegister_8 ?_
  obtain ⟨x4, ex4, hf⟩ := lt_some hf
  refine g_lstore_n (pc := 9) (L' := [(2, .long x4), (0, rf X a0), (1, .int a1)]) dX11_wantRegister_9 rfl (by decide) ex4 rfl ?_
  refine g_iconst (pc := 10) (v := (-1 : Int32)) dX11_wantRegister_10 (by decide) ?_
  obtain ⟨x5, ex5, hf⟩ := lt_some hf
  refine g_istore (pc := 11) (L' := [(4, .int x5), (2, .long x4), (0, rf X a0), (1, .int a1)]) dX11_wantRegister_11 (by decide) ex5 rfl ?_
  refine g_aload_n (pc := 13) 2 dX11_wantRegister_13 rfl rfl ?_
  refine g_getR (pc := 14) fl_X11_13 dX11_wantRegister_14 g1 ?_
  refine g_aload_n (pc := 17) 2 dX11_wantRegister_17 rfl rfl ?_
  refine g_getI (pc := 18) fl_X11_378 dX11_wantRegister_18 g1 ?_
  obtain ⟨g6, hf⟩ := gs_some hf
  obtain ⟨b7, hf⟩ := gb_some hf
  refine g_iald (pc := 21) g6 b7 dX11_wantRegister_21 ?_
  refine g_iconst (pc := 22) (v := (1 : Int32)) dX11_wantRegister_22 (by decide) ?_
  rcases it_some hf with ⟨c8, hf⟩ | ⟨c8, hf⟩
  · refine g_icne_t (pc := 23) (tgt := 72) dX11_wantRegister_23 (by decide) c8 ?_
    refine g_sub [2, 3, 1, 0] rfl ?_
    exact ok_X11_wantRegister_L72 l X h a0 a1 x4 x5 q hf
  · refine g_icne_f (pc := 23) (tgt := 72) dX11_wantRegister_23 (by decide) (Decidable.of_not_not c8) ?_
    refine g_lload_n (pc := 26) 1 dX11_wantRegister_26 rfl rfl ?_
    refine g_bipush (pc := 27) (v := (8 : Int32)) dX11_wantRegister_27 (by decide) ?_
    refine g_lshr (pc := 29) dX11_wantRegister_29 ?_
    refine g_ldc2 (pc := 30) (v := (120 : Int64)) m_1717 dX11_wantRegister_30 ?_
    refine g_lcmp (pc := 33) dX11_wantRegister_33 ?_
    rcases it_some hf with ⟨c9, hf⟩ | ⟨c9, hf⟩
    · refine g_ifne_t (pc := 34) (tgt := 72) dX11_wantRegister_34 (by decide) c9 ?_
      refine g_sub [2, 3, 1, 0] rfl ?_
      exact ok_X11_wantRegister_L72 l X h a0 a1 x4 x5 q hf
    · refine g_ifne_f (pc := 34) (tgt := 72) dX11_wantRegister_34 (by decide) (Decidable.of_not_not c9) ?_
      refine g_lload_n (pc := 37) 1 dX11_wantRegister_37 rfl rfl ?_
      refine g_ldc2 (pc := 38) (v := (255 : Int64)) m_1646 dX11_wantRegister_38 ?_
      refine g_land (pc := 41) dX11_wantRegister_41 ?_
      refine g_ldc2 (pc := 42) (v := (48 : Int64)) m_1683 dX11_wantRegister_42 ?_
      refine g_lcmp (pc := 45) dX11_wantRegister_45 ?_
      rcases it_some hf with ⟨c10, hf⟩ | ⟨c10, hf⟩
      · refine g_iflt_t (pc := 46) (tgt := 72) dX11_wantRegister_46 (by decide) c10 ?_
        refine g_sub [2, 3, 1, 0] rfl ?_
        exact ok_X11_wantRegister_L72 l X h a0 a1 x4 x5 q hf
      · refine g_iflt_f (pc := 46) (tgt := 72) dX11_wantRegister_46 (by decide) c10 ?_
        refine g_lload_n (pc := 49) 1 dX11_wantRegister_49 rfl rfl ?_
        refine g_ldc2 (pc := 50) (v := (255 : Int64)) m_1646 dX11_wantRegister_50 ?_
        refine g_land (pc := 53) dX11_wantRegister_53 ?_
        refine g_ldc2 (pc := 54) (v := (57 : Int64)) m_1718 dX11_wantRegister_54 ?_
        refine g_lcmp (pc := 57) dX11_wantRegister_57 ?_
        rcases it_some hf with ⟨c11, hf⟩ | ⟨c11, hf⟩
        · refine g_ifgt_t (pc := 58) (tgt := 72) dX11_wantRegister_58 (by decide) c11 ?_
          refine g_sub [2, 3, 1, 0] rfl ?_
          exact ok_X11_wantRegister_L72 l X h a0 a1 x4 x5 q hf
        · refine g_ifgt_f (pc := 58) (tgt := 72) dX11_wantRegister_58 (by decide) c11 ?_
          refine g_lload_n (pc := 61) 1 dX11_wantRegister_61 rfl rfl ?_
          refine g_ldc2 (pc := 62) (v := (255 : Int64)) m_1646 dX11_wantRegister_62 ?_
          refine g_land (pc := 65) dX11_wantRegister_65 ?_
          refine g_l2i (pc := 66) dX11_wantRegister_66 ?_
          refine g_bipush (pc := 67) (v := (48 : Int32)) dX11_wantRegister_67 (by decide) ?_
          refine g_isub (pc := 69) dX11_wantRegister_69 ?_
          obtain ⟨x12, ex12, hf⟩ := lt_some hf
          refine g_istore (pc := 70) (L' := [(4, .int x12), (2, .long x4), (0, rf X a0), (1, .int a1)]) dX11_wantRegister_70 (by decide) ex12 rfl ?_
          refine g_sub [2, 3, 1, 0] rfl ?_
          exact ok_X11_wantRegister_L72 l X h a0 a1 x4 x12 q hf
theorem ct_X11_wantRegister (l : Launch) (X : Cx) {h : AH} {a0 : Nat} {a1 : Int32} {q : Int32 × AH} (hf : f_X11_wantRegister h a0 a1 = some q) : Ct l X k_X11_wantRegister [rf X a0, .int a1] h (rI q) := ct_of ck_X11_wantRegister (by simp [lg_sl, rf_cat, rq_cat, ca_i, ca_l, ca_r]) (by simp [lv_args, rf_cat, rq_cat, ca_i, ca_l, ca_r]) (ok_X11_wantRegister l X hf)
def f_X11_wantNumber_L205 (h : AH) (a0 : Nat) : Option (Int32 × AH) :=
  gs h a0 10 <|
  lt (sI h a0 9 ((hI h a0 9) + (1 : Int32))) fun h2 =>
  some ((1 : Int32), h2)
set_option maxRecDepth 100000 in
set_option maxHeartbeats 4000000 in
theorem ok_X11_wantNumber_L205 (l : Launch) (X : Cx) (h : AH) (a0 : Nat) (q : Int32 × AH) (hf : f_X11_wantNumber_L205 h a0 = some q) : Go l X k_X11_wantNumber 205 [(0, rf X a0)] [] h (rI q) := by
  unfold f_X11_wantNumber_L205 at hf
  refine g_aload_n (pc := 205) 0 dX11_wantNumber_205 rfl rfl ?_
  refine g_dup (pc := 206) dX11_wantNumber_206 (rf_cat X _) ?_
  obtain ⟨g1, hf⟩ := gs_some hf
  refine g_getI (pc := 207) fl_X11_378 dX11_wantNumber_207 g1 ?_
  refine g_iconst (pc := 210) (v := (1 : Int32)) dX11_wantNumber_210 (by decide) ?_
  refine g_iadd (pc := 211) dX11_wantNumber_211 ?_
  obtain ⟨h2, eh2, hf⟩ := lt_some hf
  refine g_putI (pc := 212) fl_X11_378 dX11_wantNumber_212 g1 eh2 ?_
  refine g_iconst (pc := 215) (v := (1 : Int32)) dX11_wantNumber_215 (by decide) ?_
  obtain rfl := Option.some.inj hf
  exact g_zret (pc := 216) rfl rfl dX11_wantNumber_216
def f_X11_wantNumber_L193 (h : AH) (a0 : Nat) (a7 : Int32) : Option (Int32 × AH) :=
  gs h a0 10 <|
  gs h (hR h a0 7) 21 <|
  gb (ib a7 (hN h (hR h a0 7))) <|
  bd (f_X11_note h a0 (3 : Int32) (hI h (hR h a0 7) a7.toNatClampNeg)) fun q4 =>
  f_X11_wantNumber_L205 q4 a0
set_option maxRecDepth 100000 in
set_option maxHeartbeats 4000000 in
theorem ok_X11_wantNumber_L193 (l : Launch) (X : Cx) (h : AH) (a0 : Nat) (a7 : Int32) (q : Int32 × AH) (hf : f_X11_wantNumber_L193 h a0 a7 = some q) : Go l X k_X11_wantNumber 193 [(0, rf X a0), (7, .int a7)] [] h (rI q) := by
  unfold f_X11_wantNumber_L193 at hf
  refine g_aload_n (pc := 193) 0 dX11_wantNumber_193 rfl rfl ?_
  refine g_iconst (pc := 194) (v := (3 : Int32)) dX11_wantNumber_194 (by decide) ?_
  refine g_aload_n (pc := 195) 0 dX11_wantNumber_195 rfl rfl ?_
  obtain ⟨g1, hf⟩ := gs_some hf
  refine g_getR (pc := 196) fl_X11_16 dX11_wantNumber_196 g1 ?_
  refine g_iload (pc := 199) 1 dX11_wantNumber_199 rfl ?_
  obtain ⟨g2, hf⟩ := gs_some hf
  obtain ⟨b3, hf⟩ := gb_some hf
  refine g_iald (pc := 201) g2 b3 dX11_wantNumber_201 ?_
  obtain ⟨q4, hcq4, hf⟩ := bd_some hf
  refine g_cVV (pc := 202) (k2 := k_X11_note) (av := [.int (3 : Int32), .int (hI h (hR h a0 7) a7.toNatClampNeg)]) (q := q4) rfl dX11_wantNumber_202 ck_X11_note m_1692 m_1694 m_63 (ci := 9) rfl (by decide) g1 (by decide) (by decide) rfl (by simp [rf_cat, rq_cat, ca_i, ca_l, ca_r]) (ct_X11_note l X hcq4) ?_
  refine g_sub [0] rfl ?_
  exact ok_X11_wantNumber_L205 l X q4 a0 q hf
def f_X11_wantNumber_L158 (h : AH) (a0 : Nat) (a2 : Int64) (a4 : Int64) (a6 : Int32) (a7 : Int32) (s0 : Nat) (s1 : Int64) : Option (Int32 × AH) :=
  gs h s0 10 <|
  lt (sL h s0 72 s1) fun h2 =>
  gs h2 a0 10 <|
  if (lg_cmp (hL h2 a0 72) a2) < 0 then
    f_X11_wantNumber_L193 h2 a0 a7
  else
    if 0 < (lg_cmp (hL h2 a0 72) a4) then
      f_X11_wantNumber_L193 h2 a0 a7
    else
      gb (decide (¬ (a6.toInt64) = 0)) <|
      if (lg_cmp ((hL h2 a0 72) - (hL h2 a0 72) / (a6.toInt64) * (a6.toInt64)) (0 : Int64)) = 0 then
        f_X11_wantNumber_L205 h2 a0
      else
        f_X11_wantNumber_L193 h2 a0 a7
set_option maxRecDepth 100000 in
set_option maxHeartbeats 4000000 in
theorem ok_X11_wantNumber_L158 (l : Launch) (X : Cx) (h : AH) (a0 : Nat) (a2 : Int64) (a4 : Int64) (a6 : Int32) (a7 : Int32) (s0 : Nat) (s1 : Int64) (q : Int32 × AH) (hf : f_X11_wantNumber_L158 h a0 a2 a4 a6 a7 s0 s1 = some q) : Go l X k_X11_wantNumber 158 [(0, rf X a0), (2, .long a2), (4, .long a4), (6, .int a6), (7, .int a7)] [.long s1, rf X s0] h (rI q) := by
  unfold f_X11_wantNumber_L158 at hf
  obtain ⟨g1, hf⟩ := gs_some hf
  obtain ⟨h2, eh2, hf⟩ := lt_some hf
  refine g_putL (pc := 158) fl_X11_424 dX11_wantNumber_158 g1 eh2 ?_
  refine g_aload_n (pc := 161) 0 dX11_wantNumber_161 rfl rfl ?_
  obtain ⟨g3, hf⟩ := gs_some hf
  refine g_getL (pc := 162) fl_X11_424 dX11_wantNumber_162 g3 ?_
  refine g_lload_n (pc := 165) 1 dX11_wantNumber_165 rfl rfl ?_
  refine g_lcmp (pc := 166) dX11_wantNumber_166 ?_
  rcases it_some hf with ⟨c4, hf⟩ | ⟨c4, hf⟩
  · refine g_iflt_t (pc := 167) (tgt := 193) dX11_wantNumber_167 (by decide) c4 ?_
    refine g_sub [0, 4] rfl ?_
    exact ok_X11_wantNumber_L193 l X h2 a0 a7 q hf
  · refine g_iflt_f (pc := 167) (tgt := 193) dX11_wantNumber_167 (by decide) c4 ?_
    refine g_aload_n (pc := 170) 0 dX11_wantNumber_170 rfl rfl ?_
    refine g_getL (pc := 171) fl_X11_424 dX11_wantNumber_171 g3 ?_
    refine g_lload (pc := 174) 2 dX11_wantNumber_174 rfl ?_
    refine g_lcmp (pc := 176) dX11_wantNumber_176 ?_
    rcases it_some hf with ⟨c5, hf⟩ | ⟨c5, hf⟩
    · refine g_ifgt_t (pc := 177) (tgt := 193) dX11_wantNumber_177 (by decide) c5 ?_
      refine g_sub [0, 4] rfl ?_
      exact ok_X11_wantNumber_L193 l X h2 a0 a7 q hf
    · refine g_ifgt_f (pc := 177) (tgt := 193) dX11_wantNumber_177 (by decide) c5 ?_
      refine g_aload_n (pc := 180) 0 dX11_wantNumber_180 rfl rfl ?_
      refine g_getL (pc := 181) fl_X11_424 dX11_wantNumber_181 g3 ?_
      refine g_iload (pc := 184) 3 dX11_wantNumber_184 rfl ?_
      refine g_i2l (pc := 186) dX11_wantNumber_186 ?_
      obtain ⟨b6, hf⟩ := gb_some hf
      refine g_lrem (pc := 187) (of_decide_eq_true b6) dX11_wantNumber_187 ?_
      refine g_lconst (pc := 188) (v := (0 : Int64)) dX11_wantNumber_188 (by decide) ?_
      refine g_lcmp (pc := 189) dX11_wantNumber_189 ?_
      rcases it_some hf with ⟨c7, hf⟩ | ⟨c7, hf⟩
      · refine g_ifeq_t (pc := 190) (tgt := 205) dX11_wantNumber_190 (by decide) c7 ?_
        refine g_sub [0] rfl ?_
        exact ok_X11_wantNumber_L205 l X h2 a0 q hf
      · refine g_ifeq_f (pc := 190) (tgt := 205) dX11_wantNumber_190 (by decide) c7 ?_
        refine g_sub [0, 4] rfl ?_
        exact ok_X11_wantNumber_L193 l X h2 a0 a7 q hf
def f_X11_wantNumber_L112 (h : AH) (a0 : Nat) (a2 : Int64) (a4 : Int64) (a6 : Int32) (a7 : Int32) (a8 : Int32) : Option (Int32 × AH) :=
  gs h a0 10 <|
  gs h (hR h a0 6) 21 <|
  gb (ib (hI h a0 9) (hN h (hR h a0 6))) <|
  if (hI h (hR h a0 6) (hI h a0 9).toNatClampNeg) = (2 : Int32) then
    if a8 = 0 then
      gs h (hR h a0 8) 22 <|
      gb (ib (hI h a0 9) (hN h (hR h a0 8))) <|
      f_X11_wantNumber_L158 h a0 a2 a4 a6 a7 a0 (hL h (hR h a0 8) (hI h a0 9).toNatClampNeg)
    else
      gs h (hR h a0 8) 22 <|
      gb (ib (hI h a0 9) (hN h (hR h a0 8))) <|
      f_X11_wantNumber_L158 h a0 a2 a4 a6 a7 a0 (-(hL h (hR h a0 8) (hI h a0 9).toNatClampNeg))
  else
    bd (f_X11_refuse h a0) fun q10 =>
    gb (q10.1 == 0 || q10.1 == 1) <|
    some (q10.1, q10.2)
set_option maxRecDepth 100000 in
set_option maxHeartbeats 4000000 in
theorem ok_X11_wantNumber_L112 (l : Launch) (X : Cx) (h : AH) (a0 : Nat) (a2 : Int64) (a4 : Int64) (a6 : Int32) (a7 : Int32) (a8 : Int32) (q : Int32 × AH) (hf : f_X11_wantNumber_L112 h a0 a2 a4 a6 a7 a8 = some q) : Go l X k_X11_wantNumber 112 [(0, rf X a0), (2, .long a2), (4, .long a4), (6, .int a6), (7, .int a7), (8, .int a8)] [] h (rI q) := by
  unfold f_X11_wantNumber_L112 at hf
  refine g_aload_n (pc := 112) 0 dX11_wantNumber_112 rfl rfl ?_
  obtain ⟨g1, hf⟩ := gs_some hf
  refine g_getR (pc := 113) fl_X11_13 dX11_wantNumber_113 g1 ?_
  refine g_aload_n (pc := 116) 0 dX11_wantNumber_116 rfl rfl ?_
  refine g_getI (pc := 117) fl_X11_378 dX11_wantNumber_117 g1 ?_
  obtain ⟨g2, hf⟩ := gs_some hf
  obtain ⟨b3, hf⟩ := gb_some hf
  refine g_iald (pc := 120) g2 b3 dX11_wantNumber_120 ?_
  refine g_iconst (pc := 121) (v := (2 : Int32)) dX11_wantNumber_121 (by decide) ?_
  rcases it_some hf with ⟨c4, hf⟩ | ⟨c4, hf⟩
  · refine g_iceq_t (pc := 122) (tgt := 130) dX11_wantNumber_122 (by decide) c4 ?_
    refine g_aload_n (pc := 130) 0 dX11_wantNumber_130 rfl rfl ?_
    refine g_iload (pc := 131) 5 dX11_wantNumber_131 rfl ?_
    rcases it_some hf with ⟨c5, hf⟩ | ⟨c5, hf⟩
    · refine g_ifeq_t (pc := 133) (tgt := 149) dX11_wantNumber_133 (by decide) c5 ?_
      refine g_aload_n (pc := 149) 0 dX11_wantNumber_149 rfl rfl ?_
      refine g_getR (pc := 150) fl_X11_19 dX11_wantNumber_150 g1 ?_
      refine g_aload_n (pc := 153) 0 dX11_wantNumber_153 rfl rfl ?_
      refine g_getI (pc := 154) fl_X11_378 dX11_wantNumber_154 g1 ?_
      obtain ⟨g6, hf⟩ := gs_some hf
      obtain ⟨b7, hf⟩ := gb_some hf
      refine g_lald (pc := 157) g6 b7 dX11_wantNumber_157 ?_
      refine g_sub [0, 1, 2, 3, 4] rfl ?_
      exact ok_X11_wantNumber_L158 l X h a0 a2 a4 a6 a7 a0 (hL h (hR h a0 8) (hI h a0 9).toNatClampNeg) q hf
    · refine g_ifeq_f (pc := 133) (tgt := 149) dX11_wantNumber_133 (by decide) c5 ?_
      refine g_aload_n (pc := 136) 0 dX11_wantNumber_136 rfl rfl ?_
      refine g_getR (pc := 137) fl_X11_19 dX11_wantNumber_137 g1 ?_
      refine g_aload_n (pc := 140) 0 dX11_wantNumber_140 rfl rfl ?_
      refine g_getI (pc := 141) fl_X11_378 dX11_wantNumber_141 g1 ?_
      obtain ⟨g8, hf⟩ := gs_some hf
      obtain ⟨b9, hf⟩ := gb_some hf
      refine g_lald (pc := 144) g8 b9 dX11_wantNumber_144 ?_
      refine g_lneg (pc := 145) dX11_wantNumber_145 ?_
      refine g_goto (pc := 146) (tgt := 158) dX11_wantNumber_146 (by decide) ?_
      refine g_sub [0, 1, 2, 3, 4] rfl ?_
      exact ok_X11_wantNumber_L158 l X h a0 a2 a4 a6 a7 a0 (-(hL h (hR h a0 8) (hI h a0 9).toNatClampNeg)) q hf
  · refine g_iceq_f (pc := 122) (tgt := 130) dX11_wantNumber_122 (by decide) c4 ?_
    refine g_aload_n (pc := 125) 0 dX11_wantNumber_125 rfl rfl ?_
    obtain ⟨q10, hcq10, hf⟩ := bd_some hf
    refine g_cVI (pc := 126) (k2 := k_X11_refuse) (av := []) (q := q10) rfl dX11_wantNumber_126 ck_X11_refuse m_1705 m_1707 m_65 (ci := 9) rfl (by decide) g1 (by decide) (by decide) rfl (by simp [rf_cat, rq_cat, ca_i, ca_l, ca_r]) (ct_X11_refuse l X hcq10) ?_
    obtain ⟨b11, hf⟩ := gb_some hf
    obtain rfl := Option.some.inj hf
    exact g_zret (pc := 129) rfl b11 dX11_wantNumber_129
def f_X11_wantNumber_L95 (h : AH) (a0 : Nat) (a2 : Int64) (a4 : Int64) (a6 : Int32) (a7 : Int32) (s0 : Int32) : Option (Int32 × AH) :=
  if s0 = 0 then
    f_X11_wantNumber_L112 h a0 a2 a4 a6 a7 s0
  else
    gs h a0 10 <|
    lt (sI h a0 9 ((hI h a0 9) + (1 : Int32))) fun h3 =>
    f_X11_wantNumber_L112 h3 a0 a2 a4 a6 a7 s0
set_option maxRecDepth 100000 in
set_option maxHeartbeats 4000000 in
theorem ok_X11_wantNumber_L95 (l : Launch) (X : Cx) (h : AH) (a0 : Nat) (a2 : Int64) (a4 : Int64) (a6 : Int32) (a7 : Int32) (s0 : Int32) (q : Int32 × AH) (hf : f_X11_wantNumber_L95 h a0 a2 a4 a6 a7 s0 = some q) : Go l X k_X11_wantNumber 95 [(0, rf X a0), (2, .long a2), (4, .long a4), (6, .int a6), (7, .int a7)] [.int s0] h (rI q) := by
  unfold f_X11_wantNumber_L95 at hf
  refine g_istore (pc := 95) (L' := [(8, .int s0), (0, rf X a0), (2, .long a2), (4, .long a4), (6, .int a6), (7, .int a7)]) dX11_wantNumber_95 (by decide) rfl rfl ?_
  refine g_iload (pc := 97) 0 dX11_wantNumber_97 rfl ?_
  rcases it_some hf with ⟨c1, hf⟩ | ⟨c1, hf⟩
  · refine g_ifeq_t (pc := 99) (tgt := 112) dX11_wantNumber_99 (by decide) c1 ?_
    refine g_sub [1, 2, 3, 4, 5, 0] rfl ?_
    exact ok_X11_wantNumber_L112 l X h a0 a2 a4 a6 a7 s0 q hf
  · refine g_ifeq_f (pc := 99) (tgt := 112) dX11_wantNumber_99 (by decide) c1 ?_
    refine g_aload_n (pc := 102) 1 dX11_wantNumber_102 rfl rfl ?_
    refine g_dup (pc := 103) dX11_wantNumber_103 (rf_cat X _) ?_
    obtain ⟨g2, hf⟩ := gs_some hf
    refine g_getI (pc := 104) fl_X11_378 dX11_wantNumber_104 g2 ?_
    refine g_iconst (pc := 107) (v := (1 : Int32)) dX11_wantNumber_107 (by decide) ?_
    refine g_iadd (pc := 108) dX11_wantNumber_108 ?_
    obtain ⟨h3, eh3, hf⟩ := lt_some hf
    refine g_putI (pc := 109) fl_X11_378 dX11_wantNumber_109 g2 eh3 ?_
    refine g_sub [1, 2, 3, 4, 5, 0] rfl ?_
    exact ok_X11_wantNumber_L112 l X h3 a0 a2 a4 a6 a7 s0 q hf
def f_X11_wantNumber_L94 (h : AH) (a0 : Nat) (a2 : Int64) (a4 : Int64) (a6 : Int32) (a7 : Int32) : Option (Int32 × AH) :=
  f_X11_wantNumber_L95 h a0 a2 a4 a6 a7 (0 : Int32)
set_option maxRecDepth 100000 in
set_option maxHeartbeats 4000000 in
theorem ok_X11_wantNumber_L94 (l : Launch) (X : Cx) (h : AH) (a0 : Nat) (a2 : Int64) (a4 : Int64) (a6 : Int32) (a7 : Int32) (q : Int32 × AH) (hf : f_X11_wantNumber_L94 h a0 a2 a4 a6 a7 = some q) : Go l X k_X11_wantNumber 94 [(0, rf X a0), (2, .long a2), (4, .long a4), (6, .int a6), (7, .int a7)] [] h (rI q) := by
  unfold f_X11_wantNumber_L94 at hf
  refine g_iconst (pc := 94) (v := (0 : Int32)) dX11_wantNumber_94 (by decide) ?_
  exact ok_X11_wantNumber_L95 l X h a0 a2 a4 a6 a7 (0 : Int32) q hf
def f_X11_wantNumber_L29 (h : AH) (a0 : Nat) (a1 : Int32) (a2 : Int64) (a4 : Int64) (a6 : Int32) (a7 : Int32) (s0 : Nat) (s1 : Int32) : Option (Int32 × AH) :=
  gs h s0 10 <|
  gb (s1 == 0 || s1 == 1) <|
  lt (sI h s0 73 s1) fun h3 =>
  gs h3 a0 10 <|
  if (hI h3 a0 73) = 0 then
    if ¬ a1 = 0 then
      f_X11_wantNumber_L94 h3 a0 a2 a4 a6 a7
    else
      bd (f_X11_isSign h3 a0 (45 : Int32)) fun v7 =>
      if v7 = 0 then
        f_X11_wantNumber_L94 h3 a0 a2 a4 a6 a7
      else
        f_X11_wantNumber_L95 h3 a0 a2 a4 a6 a7 (1 : Int32)
  else
    gs h3 (hR h3 a0 8) 22 <|
    gb (ib (hI h3 a0 9) (hN h3 (hR h3 a0 8))) <|
    lt (sL h3 a0 74 (hL h3 (hR h3 a0 8) (hI h3 a0 9).toNatClampNeg)) fun h11 =>
    gs h11 (hR h11 a0 7) 21 <|
    gb (ib (hI h11 a0 9) (hN h11 (hR h11 a0 7))) <|
    lt (sI h11 a0 75 (hI h11 (hR h11 a0 7) (hI h11 a0 9).toNatClampNeg)) fun h15 =>
    lt (sI h15 a0 9 ((hI h15 a0 9) + (1 : Int32))) fun h17 =>
    some ((1 : Int32), h17)
set_option maxRecDepth 100000 in
set_option maxHeartbeats 4000000 in
theorem ok_X11_wantNumber_L29 (l : Launch) (X : Cx) (h : AH) (a0 : Nat) (a1 : Int32) (a2 : Int64) (a4 : Int64) (a6 : Int32) (a7 : Int32) (s0 : Nat) (s1 : Int32) (q : Int32 × AH) (hf : f_X11_wantNumber_L29 h a0 a1 a2 a4 a6 a7 s0 s1 = some q) : Go l X k_X11_wantNumber 29 [(0, rf X a0), (1, .int a1), (2, .long a2), (4, .long a4), (6, .int a6), (7, .int a7)] [.int s1, rf X s0] h (rI q) := by
  unfold f_X11_wantNumber_L29 at hf
  obtain ⟨g1, hf⟩ := gs_some hf
  obtain ⟨b2, hf⟩ := gb_some hf
  obtain ⟨h3, eh3, hf⟩ := lt_some hf
  refine g_putZ (pc := 29) fl_X11_413 dX11_wantNumber_29 g1 b2 eh3 ?_
  refine g_aload_n (pc := 32) 0 dX11_wantNumber_32 rfl rfl ?_
  obtain ⟨g4, hf⟩ := gs_some hf
  refine g_getI (pc := 33) fl_X11_413 dX11_wantNumber_33 g4 ?_
  rcases it_some hf with ⟨c5, hf⟩ | ⟨c5, hf⟩
  · refine g_ifeq_t (pc := 36) (tgt := 77) dX11_wantNumber_36 (by decide) c5 ?_
    refine g_iload_n (pc := 77) 1 dX11_wantNumber_77 rfl rfl ?_
    rcases it_some hf with ⟨c6, hf⟩ | ⟨c6, hf⟩
    · refine g_ifne_t (pc := 78) (tgt := 94) dX11_wantNumber_78 (by decide) c6 ?_
      refine g_sub [0, 2, 3, 4, 5] rfl ?_
      exact ok_X11_wantNumber_L94 l X h3 a0 a2 a4 a6 a7 q hf
    · refine g_ifne_f (pc := 78) (tgt := 94) dX11_wantNumber_78 (by decide) (Decidable.of_not_not c6) ?_
      refine g_aload_n (pc := 81) 0 dX11_wantNumber_81 rfl rfl ?_
      refine g_bipush (pc := 82) (v := (45 : Int32)) dX11_wantNumber_82 (by decide) ?_
      obtain ⟨v7, hcv7, hf⟩ := bd_some hf
      refine g_cVI (pc := 84) (k2 := k_X11_isSign) (av := [.int (45 : Int32)]) (q := (v7, h3)) rfl dX11_wantNumber_84 ck_X11_isSign m_1728 m_1730 m_70 (ci := 9) rfl (by decide) g4 (by decide) (by decide) rfl (by simp [rf_cat, rq_cat, ca_i, ca_l, ca_r]) (ct_X11_isSign l X hcv7) ?_
      rcases it_some hf with ⟨c8, hf⟩ | ⟨c8, hf⟩
      · refine g_ifeq_t (pc := 87) (tgt := 94) dX11_wantNumber_87 (by decide) c8 ?_
        refine g_sub [0, 2, 3, 4, 5] rfl ?_
        exact ok_X11_wantNumber_L94 l X h3 a0 a2 a4 a6 a7 q hf
      · refine g_ifeq_f (pc := 87) (tgt := 94) dX11_wantNumber_87 (by decide) c8 ?_
        refine g_iconst (pc := 90) (v := (1 : Int32)) dX11_wantNumber_90 (by decide) ?_
        refine g_goto (pc := 91) (tgt := 95) dX11_wantNumber_91 (by decide) ?_
        refine g_sub [0, 2, 3, 4, 5] rfl ?_
        exact ok_X11_wantNumber_L95 l X h3 a0 a2 a4 a6 a7 (1 : Int32) q hf
  · refine g_ifeq_f (pc := 36) (tgt := 77) dX11_wantNumber_36 (by decide) c5 ?_
    refine g_aload_n (pc := 39) 0 dX11_wantNumber_39 rfl rfl ?_
    refine g_aload_n (pc := 40) 0 dX11_wantNumber_40 rfl rfl ?_
    refine g_getR (pc := 41) fl_X11_19 dX11_wantNumber_41 g4 ?_
    refine g_aload_n (pc := 44) 0 dX11_wantNumber_44 rfl rfl ?_
    refine g_getI (pc := 45) fl_X11_378 dX11_wantNumber_45 g4 ?_
    obtain ⟨g9, hf⟩ := gs_some hf
    obtain ⟨b10, hf⟩ := gb_some hf
    refine g_lald (pc := 48) g9 b10 dX11_wantNumber_48 ?_
    obtain ⟨h11, eh11, hf⟩ := lt_some hf
    refine g_putL (pc := 49) fl_X11_417 dX11_wantNumber_49 g4 eh11 ?_
    refine g_aload_n (pc := 52) 0 dX11_wantNumber_52 rfl rfl ?_
    refine g_aload_n (pc := 53) 0 dX11_wantNumber_53 rfl rfl ?_
    have g12 : hS h11 a0 = 10 := (hS_tL eh11 g4)
    refine g_getR (pc := 54) fl_X11_16 dX11_wantNumber_54 g12 ?_
    refine g_aload_n (pc := 57) 0 dX11_wantNumber_57 rfl rfl ?_
    refine g_getI (pc := 58) fl_X11_378 dX11_wantNumber_58 g12 ?_
    obtain ⟨g13, hf⟩ := gs_some hf
    obtain ⟨b14, hf⟩ := gb_some hf
    refine g_iald (pc := 61) g13 b14 dX11_wantNumber_61 ?_
    obtain ⟨h15, eh15, hf⟩ := lt_some hf
    refine g_putI (pc := 62) fl_X11_421 dX11_wantNumber_62 g12 eh15 ?_
    refine g_aload_n (pc := 65) 0 dX11_wantNumber_65 rfl rfl ?_
    refine g_dup (pc := 66) dX11_wantNumber_66 (rf_cat X _) ?_
    have g16 : hS h15 a0 = 10 := (hS_tI eh15 g12)
    refine g_getI (pc := 67) fl_X11_378 dX11_wantNumber_67 g16 ?_
    refine g_iconst (pc := 70) (v := (1 : Int32)) dX11_wantNumber_70 (by decide) ?_
    refine g_iadd (pc := 71) dX11_wantNumber_71 ?_
    obtain ⟨h17, eh17, hf⟩ := lt_some hf
    refine g_putI (pc := 72) fl_X11_378 dX11_wantNumber_72 g16 eh17 ?_
    refine g_iconst (pc := 75) (v := (1 : Int32)) dX11_wantNumber_75 (by decide) ?_
    obtain rfl := Option.some.inj hf
    exact g_zret (pc := 76) rfl rfl dX11_wantNumber_76
def f_X11_wantNumber_L28 (h : AH) (a0 : Nat) (a1 : Int32) (a2 : Int64) (a4 : Int64) (a6 : Int32) (a7 : Int32) (s0 : Nat) : Option (Int32 × AH) :=
  f_X11_wantNumber_L29 h a0 a1 a2 a4 a6 a7 s0 (0 : Int32)
set_option maxRecDepth 100000 in
set_option maxHeartbeats 4000000 in
theorem ok_X11_wantNumber_L28 (l : Launch) (X : Cx) (h : AH) (a0 : Nat) (a1 : Int32) (a2 : Int64) (a4 : Int64) (a6 : Int32) (a7 : Int32) (s0 : Nat) (q : Int32 × AH) (hf : f_X11_wantNumber_L28 h a0 a1 a2 a4 a6 a7 s0 = some q) : Go l X k_X11_wantNumber 28 [(0, rf X a0), (1, .int a1), (2, .long a2), (4, .long a4), (6, .int a6), (7, .int a7)] [rf X s0] h (rI q) := by
  unfold f_X11_wantNumber_L28 at hf
  refine g_iconst (pc := 28) (v := (0 : Int32)) dX11_wantNumber_28 (by decide) ?_
  exact ok_X11_wantNumber_L29 l X h a0 a1 a2 a4 a6 a7 s0 (0 : Int32) q hf
def f_X11_wantNumber (h : AH) (a0 : Nat) (a1 : Int32) (a2 : Int64) (a4 : Int64) (a6 : Int32) : Option (Int32 × AH) :=
  gs h a0 10 <|
  lt ((hI h a0 9)) fun x2 =>
  if ¬ a1 = 0 then
    f_X11_wantNumber_L28 h a0 a1 a2 a4 a6 x2 a0
  else
    gs h (hR h a0 6) 21 <|
    gb (ib (hI h a0 9) (hN h (hR h a0 6))) <|
    if ¬ (hI h (hR h a0 6) (hI h a0 9).toNatClampNeg) = (1 : Int32) then
      f_X11_wantNumber_L28 h a0 a1 a2 a4 a6 x2 a0
    else
      f_X11_wantNumber_L29 h a0 a1 a2 a4 a6 x2 a0 (1 : Int32)
set_option maxRecDepth 100000 in
set_option maxHeartbeats 4000000 in
theorem ok_X11_wantNumber (l : Launch) (X : Cx) {h : AH} {a0 : Nat} {a1 : Int32} {a2 : Int64} {a4 : Int64} {a6 : Int32} {q : Int32 × AH} (hf : f_X11_wantNumber h a0 a1 a2 a4 a6 = some q) : Go l X k_X11_wantNumber 0 [(0, rf X a0), (1, .int a1), (2, .long a2), (4, .long a4), (6, .int a6)] [] h (rI q) := by
  unfold f_X11_wantNumber at hf
  refine g_aload_n (pc := 0) 0 dX11_wantNumber_0 rfl rfl ?_
  obtain ⟨g1, hf⟩ := gs_some hf
  refine g_getI (pc := 1) fl_X11_378 dX11_wantNumber_1 g1 ?_
  obtain ⟨x2, ex2, hf⟩ := lt_some hf
  refine g_istore (pc := 4) (L' := [(7, .int x2), (0, rf X a0), (1, .int a1), (2, .long a2), (4, .long a4), (6, .int a6)]) dX11_wantNumber_4 (by decide) ex2 rfl ?_
  refine g_aload_n (pc := 6) 1 dX11_wantNumber_6 rfl rfl ?_
  refine g_iload_n (pc := 7) 2 dX11_wantNumber_7 rfl rfl ?_
  rcases it_some hf with ⟨c3, hf⟩ | ⟨c3, hf⟩
  · refine g_ifne_t (pc := 8) (tgt := 28) dX11_wantNumber_8 (by decide) c3 ?_
    refine g_sub [1, 2, 3, 4, 5, 0] rfl ?_
    exact ok_X11_wantNumber_L28 l X h a0 a1 a2 a4 a6 x2 a0 q hf
  · refine g_ifne_f (pc := 8) (tgt := 28) dX11_wantNumber_8 (by decide) (Decidable.of_not_not c3) ?_
    refine g_aload_n (pc := 11) 1 dX11_wantNumber_11 rfl rfl ?_
    refine g_getR (pc := 12) fl_X11_13 dX11_wantNumber_12 g1 ?_
    refine g_aload_n (pc := 15) 1 dX11_wantNumber_15 rfl rfl ?_
    refine g_getI (pc := 16) fl_X11_378 dX11_wantNumber_16 g1 ?_
    obtain ⟨g4, hf⟩ := gs_some hf
    obtain ⟨b5, hf⟩ := gb_some hf
    refine g_iald (pc := 19) g4 b5 dX11_wantNumber_19 ?_
    refine g_iconst (pc := 20) (v := (1 : Int32)) dX11_wantNumber_20 (by decide) ?_
    rcases it_some hf with ⟨c6, hf⟩ | ⟨c6, hf⟩
    · refine g_icne_t (pc := 21) (tgt := 28) dX11_wantNumber_21 (by decide) c6 ?_
      refine g_sub [1, 2, 3, 4, 5, 0] rfl ?_
      exact ok_X11_wantNumber_L28 l X h a0 a1 a2 a4 a6 x2 a0 q hf
    · refine g_icne_f (pc := 21) (tgt := 28) dX11_wantNumber_21 (by decide) (Decidable.of_not_not c6) ?_
      refine g_iconst (pc := 24) (v := (1 : Int32)) dX11_wantNumber_24 (by decide) ?_
      refine g_goto (pc := 25) (tgt := 29) dX11_wantNumber_25 (by decide) ?_
      refine g_sub [1, 2, 3, 4, 5, 0] rfl ?_
      exact ok_X11_wantNumber_L29 l X h a0 a1 a2 a4 a6 x2 a0 (1 : Int32) q hf
theorem ct_X11_wantNumber (l : Launch) (X : Cx) {h : AH} {a0 : Nat} {a1 : Int32} {a2 : Int64} {a4 : Int64} {a6 : Int32} {q : Int32 × AH} (hf : f_X11_wantNumber h a0 a1 a2 a4 a6 = some q) : Ct l X k_X11_wantNumber [rf X a0, .int a1, .long a2, .long a4, .int a6] h (rI q) := ct_of ck_X11_wantNumber (by simp [lg_sl, rf_cat, rq_cat, ca_i, ca_l, ca_r]) (by simp [lv_args, rf_cat, rq_cat, ca_i, ca_l, ca_r]) (ok_X11_wantNumber l X hf)
def f_X11_leastOf_L33 (h : AH)  : Option (Int64) :=
  some (0 : Int64)
set_option maxRecDepth 100000 in
set_option maxHeartbeats 4000000 in
theorem ok_X11_leastOf_L33 (l : Launch) (X : Cx) (h : AH)  (q : Int64) (hf : f_X11_leastOf_L33 h  = some q) : Go l X k_X11_leastOf 33 [] [] h (rJ (q, h)) := by
  unfold f_X11_leastOf_L33 at hf
  refine g_lconst (pc := 33) (v := (0 : Int64)) dX11_leastOf_33 (by decide) ?_
  refine g_goto (pc := 34) (tgt := 51) dX11_leastOf_34 (by decide) ?_
  obtain rfl := Option.some.inj hf
  exact g_lret (pc := 51) rfl dX11_leastOf_51
def f_X11_leastOf (h : AH) (a0 : Int32) : Option (Int64) :=
  if ¬ a0 = (2 : Int32) then
    if ¬ a0 = (4 : Int32) then
      if a0 = (3 : Int32) then
        f_X11_leastOf_L33 h 
      else
        if ¬ a0 = (6 : Int32) then
          if ¬ a0 = (5 : Int32) then
            some (-2048 : Int64)
          else
            some (-2147483648 : Int64)
        else
          f_X11_leastOf_L33 h 
    else
      some (-1048576 : Int64)
  else
    some (-4096 : Int64)
set_option maxRecDepth 100000 in
set_option maxHeartbeats 4000000 in
theorem ok_X11_leastOf (l : Launch) (X : Cx) {h : AH} {a0 : Int32} {q : Int64} (hf : f_X11_leastOf h a0 = some q) : Go l X k_X11_leastOf 0 [(0, .int a0)] [] h (rJ (q, h)) := by
  unfold f_X11_leastOf at hf
  refine g_iload_n (pc := 0) 0 dX11_leastOf_0 rfl rfl ?_
  refine g_iconst (pc := 1) (v := (2 : Int32)) dX11_leastOf_1 (by decide) ?_
  rcases it_some hf with ⟨c1, hf⟩ | ⟨c1, hf⟩
  · refine g_icne_t (pc := 2) (tgt := 11) dX11_leastOf_2 (by decide) c1 ?_
    refine g_iload_n (pc := 11) 0 dX11_leastOf_11 rfl rfl ?_
    refine g_iconst (pc := 12) (v := (4 : Int32)) dX11_leastOf_12 (by decide) ?_
    rcases it_some hf with ⟨c2, hf⟩ | ⟨c2, hf⟩
    · refine g_icne_t (pc := 13) (tgt := 22) dX11_leastOf_13 (by decide) c2 ?_
      refine g_iload_n (pc := 22) 0 dX11_leastOf_22 rfl rfl ?_
      refine g_iconst (pc := 23) (v := (3 : Int32)) dX11_leastOf_23 (by decide) ?_
      rcases it_some hf with ⟨c3, hf⟩ | ⟨c3, hf⟩
      · refine g_iceq_t (pc := 24) (tgt := 33) dX11_leastOf_24 (by decide) c3 ?_
        refine g_sub [] rfl ?_
        exact ok_X11_leastOf_L33 l X h  q hf
      · refine g_iceq_f (pc := 24) (tgt := 33) dX11_leastOf_24 (by decide) c3 ?_
        refine g_iload_n (pc := 27) 0 dX11_leastOf_27 rfl rfl ?_
        refine g_bipush (pc := 28) (v := (6 : Int32)) dX11_leastOf_28 (by decide) ?_
        rcases it_some hf with ⟨c4, hf⟩ | ⟨c4, hf⟩
        · refine g_icne_t (pc := 30) (tgt := 37) dX11_leastOf_30 (by decide) c4 ?_
          refine g_iload_n (pc := 37) 0 dX11_leastOf_37 rfl rfl ?_
          refine g_iconst (pc := 38) (v := (5 : Int32)) dX11_leastOf_38 (by decide) ?_
          rcases it_some hf with ⟨c5, hf⟩ | ⟨c5, hf⟩
          · refine g_icne_t (pc := 39) (tgt := 48) dX11_leastOf_39 (by decide) c5 ?_
            refine g_ldc2 (pc := 48) (v := (-2048 : Int64)) m_1742 dX11_leastOf_48 ?_
            obtain rfl := Option.some.inj hf
            exact g_lret (pc := 51) rfl dX11_leastOf_51
          · refine g_icne_f (pc := 39) (tgt := 48) dX11_leastOf_39 (by decide) (Decidable.of_not_not c5) ?_
            refine g_ldc2 (pc := 42) (v := (-2147483648 : Int64)) m_1741 dX11_leastOf_42 ?_
            refine g_goto (pc := 45) (tgt := 51) dX11_leastOf_45 (by decide) ?_
            obtain rfl := Option.some.inj hf
            exact g_lret (pc := 51) rfl dX11_leastOf_51
        · refine g_icne_f (pc := 30) (tgt := 37) dX11_leastOf_30 (by decide) (Decidable.of_not_not c4) ?_
          refine g_sub [] rfl ?_
          exact ok_X11_leastOf_L33 l X h  q hf
    · refine g_icne_f (pc := 13) (tgt := 22) dX11_leastOf_13 (by decide) (Decidable.of_not_not c2) ?_
      refine g_ldc2 (pc := 16) (v := (-1048576 : Int64)) m_1740 dX11_leastOf_16 ?_
      refine g_goto (pc := 19) (tgt := 51) dX11_leastOf_19 (by decide) ?_
      obtain rfl := Option.some.inj hf
      exact g_lret (pc := 51) rfl dX11_leastOf_51
  · refine g_icne_f (pc := 2) (tgt := 11) dX11_leastOf_2 (by decide) (Decidable.of_not_not c1) ?_
    refine g_ldc2 (pc := 5) (v := (-4096 : Int64)) m_1739 dX11_leastOf_5 ?_
    refine g_goto (pc := 8) (tgt := 51) dX11_leastOf_8 (by decide) ?_
    obtain rfl := Option.some.inj hf
    exact g_lret (pc := 51) rfl dX11_leastOf_51
theorem ct_X11_leastOf (l : Launch) (X : Cx) {h : AH} {a0 : Int32} {q : Int64} (hf : f_X11_leastOf h a0 = some q) : Ct l X k_X11_leastOf [.int a0] h (rJ (q, h)) := ct_of ck_X11_leastOf (by simp [lg_sl, rf_cat, rq_cat, ca_i, ca_l, ca_r]) (by simp [lv_args, rf_cat, rq_cat, ca_i, ca_l, ca_r]) (ok_X11_leastOf l X hf)
def f_X11_mostOf (h : AH) (a0 : Int32) : Option (Int64) :=
  if ¬ a0 = (2 : Int32) then
    if ¬ a0 = (4 : Int32) then
      if ¬ a0 = (3 : Int32) then
        if ¬ a0 = (6 : Int32) then
          if ¬ a0 = (5 : Int32) then
            some (2047 : Int64)
          else
            some (4294967295 : Int64)
        else
          some (31 : Int64)
      else
        some (1048575 : Int64)
    else
      some (1048574 : Int64)
  else
    some (4094 : Int64)
set_option maxRecDepth 100000 in
set_option maxHeartbeats 4000000 in
theorem ok_X11_mostOf (l : Launch) (X : Cx) {h : AH} {a0 : Int32} {q : Int64} (hf : f_X11_mostOf h a0 = some q) : Go l X k_X11_mostOf 0 [(0, .int a0)] [] h (rJ (q, h)) := by
  unfold f_X11_mostOf at hf
  refine g_iload_n (pc := 0) 0 dX11_mostOf_0 rfl rfl ?_
  refine g_iconst (pc := 1) (v := (2 : Int32)) dX11_mostOf_1 (by decide) ?_
  rcases it_some hf with ⟨c1, hf⟩ | ⟨c1, hf⟩
  · refine g_icne_t (pc := 2) (tgt := 11) dX11_mostOf_2 (by decide) c1 ?_
    refine g_iload_n (pc := 11) 0 dX11_mostOf_11 rfl rfl ?_
    refine g_iconst (pc := 12) (v := (4 : Int32)) dX11_mostOf_12 (by decide) ?_
    rcases it_some hf with ⟨c2, hf⟩ | ⟨c2, hf⟩
    · refine g_icne_t (pc := 13) (tgt := 22) dX11_mostOf_13 (by decide) c2 ?_
      refine g_iload_n (pc := 22) 0 dX11_mostOf_22 rfl rfl ?_
      refine g_iconst (pc := 23) (v := (3 : Int32)) dX11_mostOf_23 (by decide) ?_
      rcases it_some hf with ⟨c3, hf⟩ | ⟨c3, hf⟩
      · refine g_icne_t (pc := 24) (tgt := 33) dX11_mostOf_24 (by decide) c3 ?_
        refine g_iload_n (pc := 33) 0 dX11_mostOf_33 rfl rfl ?_
        refine g_bipush (pc := 34) (v := (6 : Int32)) dX11_mostOf_34 (by decide) ?_
        rcases it_some hf with ⟨c4, hf⟩ | ⟨c4, hf⟩
        · refine g_icne_t (pc := 36) (tgt := 45) dX11_mostOf_36 (by decide) c4 ?_
          refine g_iload_n (pc := 45) 0 dX11_mostOf_45 rfl rfl ?_
          refine g_iconst (pc := 46) (v := (5 : Int32)) dX11_mostOf_46 (by decide) ?_
          rcases it_some hf with ⟨c5, hf⟩ | ⟨c5, hf⟩
          · refine g_icne_t (pc := 47) (tgt := 56) dX11_mostOf_47 (by decide) c5 ?_
            refine g_ldc2 (pc := 56) (v := (2047 : Int64)) m_1751 dX11_mostOf_56 ?_
            obtain rfl := Option.some.inj hf
            exact g_lret (pc := 59) rfl dX11_mostOf_59
          · refine g_icne_f (pc := 47) (tgt := 56) dX11_mostOf_47 (by decide) (Decidable.of_not_not c5) ?_
            refine g_ldc2 (pc := 50) (v := (4294967295 : Int64)) m_1750 dX11_mostOf_50 ?_
            refine g_goto (pc := 53) (tgt := 59) dX11_mostOf_53 (by decide) ?_
            obtain rfl := Option.some.inj hf
            exact g_lret (pc := 59) rfl dX11_mostOf_59
        · refine g_icne_f (pc := 36) (tgt := 45) dX11_mostOf_36 (by decide) (Decidable.of_not_not c4) ?_
          refine g_ldc2 (pc := 39) (v := (31 : Int64)) m_1749 dX11_mostOf_39 ?_
          refine g_goto (pc := 42) (tgt := 59) dX11_mostOf_42 (by decide) ?_
          obtain rfl := Option.some.inj hf
          exact g_lret (pc := 59) rfl dX11_mostOf_59
      · refine g_icne_f (pc := 24) (tgt := 33) dX11_mostOf_24 (by decide) (Decidable.of_not_not c3) ?_
        refine g_ldc2 (pc := 27) (v := (1048575 : Int64)) m_1748 dX11_mostOf_27 ?_
        refine g_goto (pc := 30) (tgt := 59) dX11_mostOf_30 (by decide) ?_
        obtain rfl := Option.some.inj hf
        exact g_lret (pc := 59) rfl dX11_mostOf_59
    · refine g_icne_f (pc := 13) (tgt := 22) dX11_mostOf_13 (by decide) (Decidable.of_not_not c2) ?_
      refine g_ldc2 (pc := 16) (v := (1048574 : Int64)) m_1747 dX11_mostOf_16 ?_
      refine g_goto (pc := 19) (tgt := 59) dX11_mostOf_19 (by decide) ?_
      obtain rfl := Option.some.inj hf
      exact g_lret (pc := 59) rfl dX11_mostOf_59
  · refine g_icne_f (pc := 2) (tgt := 11) dX11_mostOf_2 (by decide) (Decidable.of_not_not c1) ?_
    refine g_ldc2 (pc := 5) (v := (4094 : Int64)) m_1746 dX11_mostOf_5 ?_
    refine g_goto (pc := 8) (tgt := 59) dX11_mostOf_8 (by decide) ?_
    obtain rfl := Option.some.inj hf
    exact g_lret (pc := 59) rfl dX11_mostOf_59
theorem ct_X11_mostOf (l : Launch) (X : Cx) {h : AH} {a0 : Int32} {q : Int64} (hf : f_X11_mostOf h a0 = some q) : Ct l X k_X11_mostOf [.int a0] h (rJ (q, h)) := ct_of ck_X11_mostOf (by simp [lg_sl, rf_cat, rq_cat, ca_i, ca_l, ca_r]) (by simp [lv_args, rf_cat, rq_cat, ca_i, ca_l, ca_r]) (ok_X11_mostOf l X hf)
def f_X11_multipleOf_L10 (h : AH)  : Option (Int32) :=
  some (2 : Int32)
set_option maxRecDepth 100000 in
set_option maxHeartbeats 4000000 in
theorem ok_X11_multipleOf_L10 (l : Launch) (X : Cx) (h : AH)  (q : Int32) (hf : f_X11_multipleOf_L10 h  = some q) : Go l X k_X11_multipleOf 10 [] [] h (rI (q, h)) := by
  unfold f_X11_multipleOf_L10 at hf
  refine g_iconst (pc := 10) (v := (2 : Int32)) dX11_multipleOf_10 (by decide) ?_
  refine g_goto (pc := 11) (tgt := 15) dX11_multipleOf_11 (by decide) ?_
  obtain rfl := Option.some.inj hf
  exact g_iret (pc := 15) rfl dX11_multipleOf_15
def f_X11_multipleOf (h : AH) (a0 : Int32) : Option (Int32) :=
  if a0 = (2 : Int32) then
    f_X11_multipleOf_L10 h 
  else
    if ¬ a0 = (4 : Int32) then
      some (1 : Int32)
    else
      f_X11_multipleOf_L10 h 
set_option maxRecDepth 100000 in
set_option maxHeartbeats 4000000 in
theorem ok_X11_multipleOf (l : Launch) (X : Cx) {h : AH} {a0 : Int32} {q : Int32} (hf : f_X11_multipleOf h a0 = some q) : Go l X k_X11_multipleOf 0 [(0, .int a0)] [] h (rI (q, h)) := by
  unfold f_X11_multipleOf at hf
  refine g_iload_n (pc := 0) 0 dX11_multipleOf_0 rfl rfl ?_
  refine g_iconst (pc := 1) (v := (2 : Int32)) dX11_multipleOf_1 (by decide) ?_
  rcases it_some hf with ⟨c1, hf⟩ | ⟨c1, hf⟩
  · refine g_iceq_t (pc := 2) (tgt := 10) dX11_multipleOf_2 (by decide) c1 ?_
    refine g_sub [] rfl ?_
    exact ok_X11_multipleOf_L10 l X h  q hf
  · refine g_iceq_f (pc := 2) (tgt := 10) dX11_multipleOf_2 (by decide) c1 ?_
    refine g_iload_n (pc := 5) 0 dX11_multipleOf_5 rfl rfl ?_
    refine g_iconst (pc := 6) (v := (4 : Int32)) dX11_multipleOf_6 (by decide) ?_
    rcases it_some hf with ⟨c2, hf⟩ | ⟨c2, hf⟩
    · refine g_icne_t (pc := 7) (tgt := 14) dX11_multipleOf_7 (by decide) c2 ?_
      refine g_iconst (pc := 14) (v := (1 : Int32)) dX11_multipleOf_14 (by decide) ?_
      obtain rfl := Option.some.inj hf
      exact g_iret (pc := 15) rfl dX11_multipleOf_15
    · refine g_icne_f (pc := 7) (tgt := 14) dX11_multipleOf_7 (by decide) (Decidable.of_not_not c2) ?_
      refine g_sub [] rfl ?_
      exact ok_X11_multipleOf_L10 l X h  q hf
theorem ct_X11_multipleOf (l : Launch) (X : Cx) {h : AH} {a0 : Int32} {q : Int32} (hf : f_X11_multipleOf h a0 = some q) : Ct l X k_X11_multipleOf [.int a0] h (rI (q, h)) := ct_of ck_X11_multipleOf (by simp [lg_sl, rf_cat, rq_cat, ca_i, ca_l, ca_r]) (by simp [lv_args, rf_cat, rq_cat, ca_i, ca_l, ca_r]) (ok_X11_multipleOf l X hf)
def f_X11_put (h : AH) (a0 : Int32) (a1 : Int64) : Option (Int32) :=
  lt ((a1.toInt32)) fun x1 =>
  if a0 = (0 : Int32) then
    some (x1 <<< ((20 : Int32) &&& 31))
  else
    if a0 = (1 : Int32) then
      some (((x1 >>> ((5 : Int32) &&& 31)) <<< ((25 : Int32) &&& 31)) ||| ((x1 &&& (31 : Int32)) <<< ((7 : Int32) &&& 31)))
    else
      if a0 = (2 : Int32) then
        some ((((((x1 >>> ((12 : Int32) &&& 31)) &&& (1 : Int32)) <<< ((31 : Int32) &&& 31)) ||| (((x1 >>> ((5 : Int32) &&& 31)) &&& (63 : Int32)) <<< ((25 : Int32) &&& 31))) ||| (((x1 >>> ((1 : Int32) &&& 31)) &&& (15 : Int32)) <<< ((8 : Int32) &&& 31))) ||| (((x1 >>> ((11 : Int32) &&& 31)) &&& (1 : Int32)) <<< ((7 : Int32) &&& 31)))
      else
        if a0 = (3 : Int32) then
          some (x1 <<< ((12 : Int32) &&& 31))
        else
          if a0 = (4 : Int32) then
            some ((((((x1 >>> ((20 : Int32) &&& 31)) &&& (1 : Int32)) <<< ((31 : Int32) &&& 31)) ||| (((x1 >>> ((1 : Int32) &&& 31)) &&& (1023 : Int32)) <<< ((21 : Int32) &&& 31))) ||| (((x1 >>> ((11 : Int32) &&& 31)) &&& (1 : Int32)) <<< ((20 : Int32) &&& 31))) ||| (((x1 >>> ((12 : Int32) &&& 31)) &&& (255 : Int32)) <<< ((12 : Int32) &&& 31)))
          else
            if a0 = (6 : Int32) then
              some (x1 <<< ((20 : Int32) &&& 31))
            else
              if a0 = (7 : Int32) then
                some ((x1 - ((x1 <<< ((20 : Int32) &&& 31)) >>> ((20 : Int32) &&& 31))) &&& (-4096 : Int32))
              else
                if a0 = (8 : Int32) then
                  some (x1 <<< ((20 : Int32) &&& 31))
                else
                  some x1
set_option maxRecDepth 100000 in
set_option maxHeartbeats 4000000 in
theorem ok_X11_put (l : Launch) (X : Cx) {h : AH} {a0 : Int32} {a1 : Int64} {q : Int32} (hf : f_X11_put h a0 a1 = some q) : Go l X k_X11_put 0 [(0, .int a0), (1, .long a1)] [] h (rI (q, h)) := by
  unfold f_X11_put at hf
  refine g_lload_n (pc := 0) 1 dX11_put_0 rfl rfl ?_
  refine g_l2i (pc := 1) dX11_put_1 ?_
  obtain ⟨x1, ex1, hf⟩ := lt_some hf
  refine g_istore_n (pc := 2) (L' := [(3, .int x1), (0, .int a0), (1, .long a1)]) dX11_put_2 rfl (by decide) ex1 rfl ?_
  refine g_iload_n (pc := 3) 1 dX11_put_3 rfl rfl ?_
  rcases it_some hf with ⟨c2, hf⟩ | ⟨c2, hf⟩
  · refine g_tsw (pc := 4) (tgt := 56) (0 : Int32) dX11_put_4 c2 (by decide +kernel) (by decide +kernel) (off := 52) (by decide +kernel) (by decide) ?_
    refine g_iload_n (pc := 56) 0 dX11_put_56 rfl rfl ?_
    refine g_bipush (pc := 57) (v := (20 : Int32)) dX11_put_57 (by decide) ?_
    refine g_ishl (pc := 59) dX11_put_59 ?_
    obtain rfl := Option.some.inj hf
    exact g_iret (pc := 60) rfl dX11_put_60
  ·
    rcases it_some hf with ⟨c3, hf⟩ | ⟨c3, hf⟩
    · refine g_tsw (pc := 4) (tgt := 61) (1 : Int32) dX11_put_4 c3 (by decide +kernel) (by decide +kernel) (off := 57) (by decide +kernel) (by decide) ?_
      refine g_iload_n (pc := 61) 0 dX11_put_61 rfl rfl ?_
      refine g_iconst (pc := 62) (v := (5 : Int32)) dX11_put_62 (by decide) ?_
      refine g_ishr (pc := 63) dX11_put_63 ?_
      refine g_bipush (pc := 64) (v := (25 : Int32)) dX11_put_64 (by decide) ?_
      refine g_ishl (pc := 66) dX11_put_66 ?_
      refine g_iload_n (pc := 67) 0 dX11_put_67 rfl rfl ?_
      refine g_bipush (pc := 68) (v := (31 : Int32)) dX11_put_68 (by decide) ?_
      refine g_iand (pc := 70) dX11_put_70 ?_
      refine g_bipush (pc := 71) (v := (7 : Int32)) dX11_put_71 (by decide) ?_
      refine g_ishl (pc := 73) dX11_put_73 ?_
      refine g_ior (pc := 74) dX11_put_74 ?_
      obtain rfl := Option.some.inj hf
      exact g_iret (pc := 75) rfl dX11_put_75
    ·
      rcases it_some hf with ⟨c4, hf⟩ | ⟨c4, hf⟩
      · refine g_tsw (pc := 4) (tgt := 76) (2 : Int32) dX11_put_4 c4 (by decide +kernel) (by decide +kernel) (off := 72) (by decide +kernel) (by decide) ?_
        refine g_iload_n (pc := 76) 0 dX11_put_76 rfl rfl ?_
        refine g_bipush (pc := 77) (v := (12 : Int32)) dX11_put_77 (by decide) ?_
        refine g_ishr (pc := 79) dX11_put_79 ?_
        refine g_iconst (pc := 80) (v := (1 : Int32)) dX11_put_80 (by decide) ?_
        refine g_iand (pc := 81) dX11_put_81 ?_
        refine g_bipush (pc := 82) (v := (31 : Int32)) dX11_put_82 (by decide) ?_
        refine g_ishl (pc := 84) dX11_put_84 ?_
        refine g_iload_n (pc := 85) 0 dX11_put_85 rfl rfl ?_
        refine g_iconst (pc := 86) (v := (5 : Int32)) dX11_put_86 (by decide) ?_
        refine g_ishr (pc := 87) dX11_put_87 ?_
        refine g_bipush (pc := 88) (v := (63 : Int32)) dX11_put_88 (by decide) ?_
        refine g_iand (pc := 90) dX11_put_90 ?_
        refine g_bipush (pc := 91) (v := (25 : Int32)) dX11_put_91 (by decide) ?_
        refine g_ishl (pc := 93) dX11_put_93 ?_
        refine g_ior (pc := 94) dX11_put_94 ?_
        refine g_iload_n (pc := 95) 0 dX11_put_95 rfl rfl ?_
        refine g_iconst (pc := 96) (v := (1 : Int32)) dX11_put_96 (by decide) ?_
        refine g_ishr (pc := 97) dX11_put_97 ?_
        refine g_bipush (pc := 98) (v := (15 : Int32)) dX11_put_98 (by decide) ?_
        refine g_iand (pc := 100) dX11_put_100 ?_
        refine g_bipush (pc := 101) (v := (8 : Int32)) dX11_put_101 (by decide) ?_
        refine g_ishl (pc := 103) dX11_put_103 ?_
        refine g_ior (pc := 104) dX11_put_104 ?_
        refine g_iload_n (pc := 105) 0 dX11_put_105 rfl rfl ?_
        refine g_bipush (pc := 106) (v := (11 : Int32)) dX11_put_106 (by decide) ?_
        refine g_ishr (pc := 108) dX11_put_108 ?_
        refine g_iconst (pc := 109) (v := (1 : Int32)) dX11_put_109 (by decide) ?_
        refine g_iand (pc := 110) dX11_put_110 ?_
        refine g_bipush (pc := 111) (v := (7 : Int32)) dX11_put_111 (by decide) ?_
        refine g_ishl (pc := 113) dX11_put_113 ?_
        refine g_ior (pc := 114) dX11_put_114 ?_
        obtain rfl := Option.some.inj hf
        exact g_iret (pc := 115) rfl dX11_put_115
      ·
        rcases it_some hf with ⟨c5, hf⟩ | ⟨c5, hf⟩
        · refine g_tsw (pc := 4) (tgt := 116) (3 : Int32) dX11_put_4 c5 (by decide +kernel) (by decide +kernel) (off := 112) (by decide +kernel) (by decide) ?_
          refine g_iload_n (pc := 116) 0 dX11_put_116 rfl rfl ?_
          refine g_bipush (pc := 117) (v := (12 : Int32)) dX11_put_117 (by decide) ?_
          refine g_ishl (pc := 119) dX11_put_119 ?_
          obtain rfl := Option.some.inj hf
          exact g_iret (pc := 120) rfl dX11_put_120
        ·
          rcases it_some hf with ⟨c6, hf⟩ | ⟨c6, hf⟩
          · refine g_tsw (pc := 4) (tgt := 121) (4 : Int32) dX11_put_4 c6 (by decide +kernel) (by decide +kernel) (off := 117) (by decide +kernel) (by decide) ?_
            refine g_iload_n (pc := 121) 0 dX11_put_121 rfl rfl ?_
            refine g_bipush (pc := 122) (v := (20 : Int32)) dX11_put_122 (by decide) ?_
            refine g_ishr (pc := 124) dX11_put_124 ?_
            refine g_iconst (pc := 125) (v := (1 : Int32)) dX11_put_125 (by decide) ?_
            refine g_iand (pc := 126) dX11_put_126 ?_
            refine g_bipush (pc := 127) (v := (31 : Int32)) dX11_put_127 (by decide) ?_
            refine g_ishl (pc := 129) dX11_put_129 ?_
            refine g_iload_n (pc := 130) 0 dX11_put_130 rfl rfl ?_
            refine g_iconst (pc := 131) (v := (1 : Int32)) dX11_put_131 (by decide) ?_
            refine g_ishr (pc := 132) dX11_put_132 ?_
            refine g_sipush (pc := 133) (v := (1023 : Int32)) dX11_put_133 (by decide) ?_
            refine g_iand (pc := 136) dX11_put_136 ?_
            refine g_bipush (pc := 137) (v := (21 : Int32)) dX11_put_137 (by decide) ?_
            refine g_ishl (pc := 139) dX11_put_139 ?_
            refine g_ior (pc := 140) dX11_put_140 ?_
            refine g_iload_n (pc := 141) 0 dX11_put_141 rfl rfl ?_
            refine g_bipush (pc := 142) (v := (11 : Int32)) dX11_put_142 (by decide) ?_
            refine g_ishr (pc := 144) dX11_put_144 ?_
            refine g_iconst (pc := 145) (v := (1 : Int32)) dX11_put_145 (by decide) ?_
            refine g_iand (pc := 146) dX11_put_146 ?_
            refine g_bipush (pc := 147) (v := (20 : Int32)) dX11_put_147 (by decide) ?_
            refine g_ishl (pc := 149) dX11_put_149 ?_
            refine g_ior (pc := 150) dX11_put_150 ?_
            refine g_iload_n (pc := 151) 0 dX11_put_151 rfl rfl ?_
            refine g_bipush (pc := 152) (v := (12 : Int32)) dX11_put_152 (by decide) ?_
            refine g_ishr (pc := 154) dX11_put_154 ?_
            refine g_sipush (pc := 155) (v := (255 : Int32)) dX11_put_155 (by decide) ?_
            refine g_iand (pc := 158) dX11_put_158 ?_
            refine g_bipush (pc := 159) (v := (12 : Int32)) dX11_put_159 (by decide) ?_
            refine g_ishl (pc := 161) dX11_put_161 ?_
            refine g_ior (pc := 162) dX11_put_162 ?_
            obtain rfl := Option.some.inj hf
            exact g_iret (pc := 163) rfl dX11_put_163
          ·
            rcases it_some hf with ⟨c7, hf⟩ | ⟨c7, hf⟩
            · refine g_tsw (pc := 4) (tgt := 56) (6 : Int32) dX11_put_4 c7 (by decide +kernel) (by decide +kernel) (off := 52) (by decide +kernel) (by decide) ?_
              refine g_iload_n (pc := 56) 0 dX11_put_56 rfl rfl ?_
              refine g_bipush (pc := 57) (v := (20 : Int32)) dX11_put_57 (by decide) ?_
              refine g_ishl (pc := 59) dX11_put_59 ?_
              obtain rfl := Option.some.inj hf
              exact g_iret (pc := 60) rfl dX11_put_60
            ·
              rcases it_some hf with ⟨c8, hf⟩ | ⟨c8, hf⟩
              · refine g_tsw (pc := 4) (tgt := 164) (7 : Int32) dX11_put_4 c8 (by decide +kernel) (by decide +kernel) (off := 160) (by decide +kernel) (by decide) ?_
                refine g_iload_n (pc := 164) 0 dX11_put_164 rfl rfl ?_
                refine g_iload_n (pc := 165) 0 dX11_put_165 rfl rfl ?_
                refine g_bipush (pc := 166) (v := (20 : Int32)) dX11_put_166 (by decide) ?_
                refine g_ishl (pc := 168) dX11_put_168 ?_
                refine g_bipush (pc := 169) (v := (20 : Int32)) dX11_put_169 (by decide) ?_
                refine g_ishr (pc := 171) dX11_put_171 ?_
                refine g_isub (pc := 172) dX11_put_172 ?_
                refine g_sipush (pc := 173) (v := (-4096 : Int32)) dX11_put_173 (by decide) ?_
                refine g_iand (pc := 176) dX11_put_176 ?_
                obtain rfl := Option.some.inj hf
                exact g_iret (pc := 177) rfl dX11_put_177
              ·
                rcases it_some hf with ⟨c9, hf⟩ | ⟨c9, hf⟩
                · refine g_tsw (pc := 4) (tgt := 178) (8 : Int32) dX11_put_4 c9 (by decide +kernel) (by decide +kernel) (off := 174) (by decide +kernel) (by decide) ?_
                  refine g_iload_n (pc := 178) 0 dX11_put_178 rfl rfl ?_
                  refine g_bipush (pc := 179) (v := (20 : Int32)) dX11_put_179 (by decide) ?_
                  refine g_ishl (pc := 181) dX11_put_181 ?_
                  obtain rfl := Option.some.inj hf
                  exact g_iret (pc := 182) rfl dX11_put_182
                ·
                  refine g_tswD (pc := 4) (tgt := 183) [(0 : Int32), (1 : Int32), (2 : Int32), (3 : Int32), (4 : Int32), (6 : Int32), (7 : Int32), (8 : Int32)] dX11_put_4 (cons_ne c2 (cons_ne c3 (cons_ne c4 (cons_ne c5 (cons_ne c6 (cons_ne c7 (cons_ne c8 (cons_ne c9 nil_ne)))))))) (by decide +kernel) (by decide +kernel) (by decide) ?_
                  refine g_iload_n (pc := 183) 0 dX11_put_183 rfl rfl ?_
                  obtain rfl := Option.some.inj hf
                  exact g_iret (pc := 184) rfl dX11_put_184
theorem ct_X11_put (l : Launch) (X : Cx) {h : AH} {a0 : Int32} {a1 : Int64} {q : Int32} (hf : f_X11_put h a0 a1 = some q) : Ct l X k_X11_put [.int a0, .long a1] h (rI (q, h)) := ct_of ck_X11_put (by simp [lg_sl, rf_cat, rq_cat, ca_i, ca_l, ca_r]) (by simp [lv_args, rf_cat, rq_cat, ca_i, ca_l, ca_r]) (ok_X11_put l X hf)
def f_X11_wantN (h : AH) (a0 : Nat) (a1 : Int32) : Option (Int32 × AH) :=
  bd (f_X11_leastOf h a1) fun v1 =>
  bd (f_X11_mostOf h a1) fun v2 =>
  bd (f_X11_multipleOf h a1) fun v3 =>
  gs h a0 10 <|
  bd (f_X11_wantNumber h a0 (0 : Int32) v1 v2 v3) fun q5 =>
  if ¬ q5.1 = 0 then
    gs q5.2 a0 10 <|
    lt (sI q5.2 a0 76 a1) fun h8 =>
    some ((1 : Int32), h8)
  else
    some ((0 : Int32), q5.2)
set_option maxRecDepth 100000 in
set_option maxHeartbeats 4000000 in
theorem ok_X11_wantN (l : Launch) (X : Cx) {h : AH} {a0 : Nat} {a1 : Int32} {q : Int32 × AH} (hf : f_X11_wantN h a0 a1 = some q) : Go l X k_X11_wantN 0 [(0, rf X a0), (1, .int a1)] [] h (rI q) := by
  unfold f_X11_wantN at hf
  refine g_aload_n (pc := 0) 0 dX11_wantN_0 rfl rfl ?_
  refine g_iconst (pc := 1) (v := (0 : Int32)) dX11_wantN_1 (by decide) ?_
  refine g_iload_n (pc := 2) 1 dX11_wantN_2 rfl rfl ?_
  obtain ⟨v1, hcv1, hf⟩ := bd_some hf
  refine g_cSJ (pc := 3) (k2 := k_X11_leastOf) (av := [.int a1]) (q := (v1, h)) rfl dX11_wantN_3 ck_X11_leastOf m_1736 m_1737 (by decide) (by decide) rfl (by simp [rf_cat, rq_cat, ca_i, ca_l, ca_r]) (ct_X11_leastOf l X hcv1) ?_
  refine g_iload_n (pc := 6) 1 dX11_wantN_6 rfl rfl ?_
  obtain ⟨v2, hcv2, hf⟩ := bd_some hf
  refine g_cSJ (pc := 7) (k2 := k_X11_mostOf) (av := [.int a1]) (q := (v2, h)) rfl dX11_wantN_7 ck_X11_mostOf m_1743 m_1744 (by decide) (by decide) rfl (by simp [rf_cat, rq_cat, ca_i, ca_l, ca_r]) (ct_X11_mostOf l X hcv2) ?_
  refine g_iload_n (pc := 10) 1 dX11_wantN_10 rfl rfl ?_
  obtain ⟨v3, hcv3, hf⟩ := bd_some hf
  refine g_cSI (pc := 11) (k2 := k_X11_multipleOf) (av := [.int a1]) (q := (v3, h)) rfl dX11_wantN_11 ck_X11_multipleOf m_1752 m_1753 (by decide) (by decide) rfl (by simp [rf_cat, rq_cat, ca_i, ca_l, ca_r]) (ct_X11_multipleOf l X hcv3) ?_
  obtain ⟨g4, hf⟩ := gs_some hf
  obtain ⟨q5, hcq5, hf⟩ := bd_some hf
  refine g_cVI (pc := 14) (k2 := k_X11_wantNumber) (av := [.int (0 : Int32), .long v1, .long v2, .int v3]) (q := q5) rfl dX11_wantN_14 ck_X11_wantNumber m_1755 m_1757 m_72 (ci := 9) rfl (by decide) g4 (by decide) (by decide) rfl (by simp [rf_cat, rq_cat, ca_i, ca_l, ca_r]) (ct_X11_wantNumber l X hcq5) ?_
  rcases it_some hf with ⟨c6, hf⟩ | ⟨c6, hf⟩
  · refine g_ifne_t (pc := 17) (tgt := 22) dX11_wantN_17 (by decide) c6 ?_
    refine g_aload_n (pc := 22) 0 dX11_wantN_22 rfl rfl ?_
    refine g_iload_n (pc := 23) 1 dX11_wantN_23 rfl rfl ?_
    obtain ⟨g7, hf⟩ := gs_some hf
    obtain ⟨h8, eh8, hf⟩ := lt_some hf
    refine g_putI (pc := 24) fl_X11_461 dX11_wantN_24 g7 eh8 ?_
    refine g_iconst (pc := 27) (v := (1 : Int32)) dX11_wantN_27 (by decide) ?_
    obtain rfl := Option.some.inj hf
    exact g_zret (pc := 28) rfl rfl dX11_wantN_28
  · refine g_ifne_f (pc := 17) (tgt := 22) dX11_wantN_17 (by decide) (Decidable.of_not_not c6) ?_
    refine g_iconst (pc := 20) (v := (0 : Int32)) dX11_wantN_20 (by decide) ?_
    obtain rfl := Option.some.inj hf
    exact g_zret (pc := 21) rfl rfl dX11_wantN_21
theorem ct_X11_wantN (l : Launch) (X : Cx) {h : AH} {a0 : Nat} {a1 : Int32} {q : Int32 × AH} (hf : f_X11_wantN h a0 a1 = some q) : Ct l X k_X11_wantN [rf X a0, .int a1] h (rI q) := ct_of ck_X11_wantN (by simp [lg_sl, rf_cat, rq_cat, ca_i, ca_l, ca_r]) (by simp [lv_args, rf_cat, rq_cat, ca_i, ca_l, ca_r]) (ok_X11_wantN l X hf)
def f_X11_wantComma (h : AH) (a0 : Nat) : Option (Int32 × AH) :=
  gs h a0 10 <|
  bd (f_X11_wantSign h a0 (44 : Int32)) fun q2 =>
  gb (q2.1 == 0 || q2.1 == 1) <|
  some (q2.1, q2.2)
set_option maxRecDepth 100000 in
set_option maxHeartbeats 4000000 in
theorem ok_X11_wantComma (l : Launch) (X : Cx) {h : AH} {a0 : Nat} {q : Int32 × AH} (hf : f_X11_wantComma h a0 = some q) : Go l X k_X11_wantComma 0 [(0, rf X a0)] [] h (rI q) := by
  unfold f_X11_wantComma at hf
  refine g_aload_n (pc := 0) 0 dX11_wantComma_0 rfl rfl ?_
  refine g_bipush (pc := 1) (v := (44 : Int32)) dX11_wantComma_1 (by decide) ?_
  obtain ⟨g1, hf⟩ := gs_some hf
  obtain ⟨q2, hcq2, hf⟩ := bd_some hf
  refine g_cVI (pc := 3) (k2 := k_X11_wantSign) (av := [.int (44 : Int32)]) (q := q2) rfl dX11_wantComma_3 ck_X11_wantSign m_1724 m_1726 m_69 (ci := 9) rfl (by decide) g1 (by decide) (by decide) rfl (by simp [rf_cat, rq_cat, ca_i, ca_l, ca_r]) (ct_X11_wantSign l X hcq2) ?_
  obtain ⟨b3, hf⟩ := gb_some hf
  obtain rfl := Option.some.inj hf
  exact g_zret (pc := 6) rfl b3 dX11_wantComma_6
theorem ct_X11_wantComma (l : Launch) (X : Cx) {h : AH} {a0 : Nat} {q : Int32 × AH} (hf : f_X11_wantComma h a0 = some q) : Ct l X k_X11_wantComma [rf X a0] h (rI q) := ct_of ck_X11_wantComma (by simp [lg_sl, rf_cat, rq_cat, ca_i, ca_l, ca_r]) (by simp [lv_args, rf_cat, rq_cat, ca_i, ca_l, ca_r]) (ok_X11_wantComma l X hf)
def f_X11_wantBase (h : AH) (a0 : Nat) : Option (Int32 × AH) :=
  gs h a0 10 <|
  bd (f_X11_wantSign h a0 (40 : Int32)) fun q2 =>
  if q2.1 = 0 then
    some ((0 : Int32), q2.2)
  else
    gs q2.2 a0 10 <|
    bd (f_X11_wantRegister q2.2 a0 (15 : Int32)) fun q5 =>
    if q5.1 = 0 then
      some ((0 : Int32), q5.2)
    else
      gs q5.2 a0 10 <|
      bd (f_X11_wantSign q5.2 a0 (41 : Int32)) fun q8 =>
      if q8.1 = 0 then
        some ((0 : Int32), q8.2)
      else
        some ((1 : Int32), q8.2)
set_option maxRecDepth 100000 in
set_option maxHeartbeats 4000000 in
theorem ok_X11_wantBase (l : Launch) (X : Cx) {h : AH} {a0 : Nat} {q : Int32 × AH} (hf : f_X11_wantBase h a0 = some q) : Go l X k_X11_wantBase 0 [(0, rf X a0)] [] h (rI q) := by
  unfold f_X11_wantBase at hf
  refine g_aload_n (pc := 0) 0 dX11_wantBase_0 rfl rfl ?_
  refine g_bipush (pc := 1) (v := (40 : Int32)) dX11_wantBase_1 (by decide) ?_
  obtain ⟨g1, hf⟩ := gs_some hf
  obtain ⟨q2, hcq2, hf⟩ := bd_some hf
  refine g_cVI (pc := 3) (k2 := k_X11_wantSign) (av := [.int (40 : Int32)]) (q := q2) rfl dX11_wantBase_3 ck_X11_wantSign m_1724 m_1726 m_69 (ci := 9) rfl (by decide) g1 (by decide) (by decide) rfl (by simp [rf_cat, rq_cat, ca_i, ca_l, ca_r]) (ct_X11_wantSign l X hcq2) ?_
  rcases it_some hf with ⟨c3, hf⟩ | ⟨c3, hf⟩
  · refine g_ifeq_t (pc := 6) (tgt := 31) dX11_wantBase_6 (by decide) c3 ?_
    refine g_iconst (pc := 31) (v := (0 : Int32)) dX11_wantBase_31 (by decide) ?_
    obtain rfl := Option.some.inj hf
    exact g_zret (pc := 32) rfl rfl dX11_wantBase_32
  · refine g_ifeq_f (pc := 6) (tgt := 31) dX11_wantBase_6 (by decide) c3 ?_
    refine g_aload_n (pc := 9) 0 dX11_wantBase_9 rfl rfl ?_
    refine g_bipush (pc := 10) (v := (15 : Int32)) dX11_wantBase_10 (by decide) ?_
    obtain ⟨g4, hf⟩ := gs_some hf
    obtain ⟨q5, hcq5, hf⟩ := bd_some hf
    refine g_cVI (pc := 12) (k2 := k_X11_wantRegister) (av := [.int (15 : Int32)]) (q := q5) rfl dX11_wantBase_12 ck_X11_wantRegister m_1713 m_1715 m_67 (ci := 9) rfl (by decide) g4 (by decide) (by decide) rfl (by simp [rf_cat, rq_cat, ca_i, ca_l, ca_r]) (ct_X11_wantRegister l X hcq5) ?_
    rcases it_some hf with ⟨c6, hf⟩ | ⟨c6, hf⟩
    · refine g_ifeq_t (pc := 15) (tgt := 31) dX11_wantBase_15 (by decide) c6 ?_
      refine g_iconst (pc := 31) (v := (0 : Int32)) dX11_wantBase_31 (by decide) ?_
      obtain rfl := Option.some.inj hf
      exact g_zret (pc := 32) rfl rfl dX11_wantBase_32
    · refine g_ifeq_f (pc := 15) (tgt := 31) dX11_wantBase_15 (by decide) c6 ?_
      refine g_aload_n (pc := 18) 0 dX11_wantBase_18 rfl rfl ?_
      refine g_bipush (pc := 19) (v := (41 : Int32)) dX11_wantBase_19 (by decide) ?_
      obtain ⟨g7, hf⟩ := gs_some hf
      obtain ⟨q8, hcq8, hf⟩ := bd_some hf
      refine g_cVI (pc := 21) (k2 := k_X11_wantSign) (av := [.int (41 : Int32)]) (q := q8) rfl dX11_wantBase_21 ck_X11_wantSign m_1724 m_1726 m_69 (ci := 9) rfl (by decide) g7 (by decide) (by decide) rfl (by simp [rf_cat, rq_cat, ca_i, ca_l, ca_r]) (ct_X11_wantSign l X hcq8) ?_
      rcases it_some hf with ⟨c9, hf⟩ | ⟨c9, hf⟩
      · refine g_ifeq_t (pc := 24) (tgt := 31) dX11_wantBase_24 (by decide) c9 ?_
        refine g_iconst (pc := 31) (v := (0 : Int32)) dX11_wantBase_31 (by decide) ?_
        obtain rfl := Option.some.inj hf
        exact g_zret (pc := 32) rfl rfl dX11_wantBase_32
      · refine g_ifeq_f (pc := 24) (tgt := 31) dX11_wantBase_24 (by decide) c9 ?_
        refine g_iconst (pc := 27) (v := (1 : Int32)) dX11_wantBase_27 (by decide) ?_
        refine g_goto (pc := 28) (tgt := 32) dX11_wantBase_28 (by decide) ?_
        obtain rfl := Option.some.inj hf
        exact g_zret (pc := 32) rfl rfl dX11_wantBase_32
theorem ct_X11_wantBase (l : Launch) (X : Cx) {h : AH} {a0 : Nat} {q : Int32 × AH} (hf : f_X11_wantBase h a0 = some q) : Ct l X k_X11_wantBase [rf X a0] h (rI q) := ct_of ck_X11_wantBase (by simp [lg_sl, rf_cat, rq_cat, ca_i, ca_l, ca_r]) (by simp [lv_args, rf_cat, rq_cat, ca_i, ca_l, ca_r]) (ok_X11_wantBase l X hf)
def f_X11_wantParts_L225 (h : AH) (s0 : Int32) : Option (Int32 × AH) :=
  if s0 = 0 then
    some ((0 : Int32), h)
  else
    some ((1 : Int32), h)
set_option maxRecDepth 100000 in
set_option maxHeartbeats 4000000 in
theorem ok_X11_wantParts_L225 (l : Launch) (X : Cx) (h : AH) (s0 : Int32) (q : Int32 × AH) (hf : f_X11_wantParts_L225 h s0 = some q) : Go l X k_X11_wantParts 225 [] [.int s0] h (rI q) := by
  unfold f_X11_wantParts_L225 at hf
  rcases it_some hf with ⟨c1, hf⟩ | ⟨c1, hf⟩
  · refine g_ifeq_t (pc := 225) (tgt := 232) dX11_wantParts_225 (by decide) c1 ?_
    refine g_iconst (pc := 232) (v := (0 : Int32)) dX11_wantParts_232 (by decide) ?_
    obtain rfl := Option.some.inj hf
    exact g_zret (pc := 233) rfl rfl dX11_wantParts_233
  · refine g_ifeq_f (pc := 225) (tgt := 232) dX11_wantParts_225 (by decide) c1 ?_
    refine g_iconst (pc := 228) (v := (1 : Int32)) dX11_wantParts_228 (by decide) ?_
    refine g_goto (pc := 229) (tgt := 233) dX11_wantParts_229 (by decide) ?_
    obtain rfl := Option.some.inj hf
    exact g_zret (pc := 233) rfl rfl dX11_wantParts_233
def f_X11_wantParts_L353 (h : AH) (a0 : Nat) (s0 : Int32) : Option (Int32 × AH) :=
  if s0 = 0 then
    some ((0 : Int32), h)
  else
    gs h a0 10 <|
    bd (f_X11_wantComma h a0) fun q3 =>
    if q3.1 = 0 then
      some ((0 : Int32), q3.2)
    else
      gs q3.2 a0 10 <|
      bd (f_X11_wantN q3.2 a0 (4 : Int32)) fun q6 =>
      if q6.1 = 0 then
        some ((0 : Int32), q6.2)
      else
        some ((1 : Int32), q6.2)
set_option maxRecDepth 100000 in
set_option maxHeartbeats 4000000 in
theorem ok_X11_wantParts_L353 (l : Launch) (X : Cx) (h : AH) (a0 : Nat) (s0 : Int32) (q : Int32 × AH) (hf : f_X11_wantParts_L353 h a0 s0 = some q) : Go l X k_X11_wantParts 353 [(0, rf X a0)] [.int s0] h (rI q) := by
  unfold f_X11_wantParts_L353 at hf
  rcases it_some hf with ⟨c1, hf⟩ | ⟨c1, hf⟩
  · refine g_ifeq_t (pc := 353) (tgt := 375) dX11_wantParts_353 (by decide) c1 ?_
    refine g_iconst (pc := 375) (v := (0 : Int32)) dX11_wantParts_375 (by decide) ?_
    obtain rfl := Option.some.inj hf
    exact g_zret (pc := 376) rfl rfl dX11_wantParts_376
  · refine g_ifeq_f (pc := 353) (tgt := 375) dX11_wantParts_353 (by decide) c1 ?_
    refine g_aload_n (pc := 356) 0 dX11_wantParts_356 rfl rfl ?_
    obtain ⟨g2, hf⟩ := gs_some hf
    obtain ⟨q3, hcq3, hf⟩ := bd_some hf
    refine g_cVI (pc := 357) (k2 := k_X11_wantComma) (av := []) (q := q3) rfl dX11_wantParts_357 ck_X11_wantComma m_1720 m_1722 m_68 (ci := 9) rfl (by decide) g2 (by decide) (by decide) rfl (by simp [rf_cat, rq_cat, ca_i, ca_l, ca_r]) (ct_X11_wantComma l X hcq3) ?_
    rcases it_some hf with ⟨c4, hf⟩ | ⟨c4, hf⟩
    · refine g_ifeq_t (pc := 360) (tgt := 375) dX11_wantParts_360 (by decide) c4 ?_
      refine g_iconst (pc := 375) (v := (0 : Int32)) dX11_wantParts_375 (by decide) ?_
      obtain rfl := Option.some.inj hf
      exact g_zret (pc := 376) rfl rfl dX11_wantParts_376
    · refine g_ifeq_f (pc := 360) (tgt := 375) dX11_wantParts_360 (by decide) c4 ?_
      refine g_aload_n (pc := 363) 0 dX11_wantParts_363 rfl rfl ?_
      refine g_iconst (pc := 364) (v := (4 : Int32)) dX11_wantParts_364 (by decide) ?_
      obtain ⟨g5, hf⟩ := gs_some hf
      obtain ⟨q6, hcq6, hf⟩ := bd_some hf
      refine g_cVI (pc := 365) (k2 := k_X11_wantN) (av := [.int (4 : Int32)]) (q := q6) rfl dX11_wantParts_365 ck_X11_wantN m_1732 m_1734 m_71 (ci := 9) rfl (by decide) g5 (by decide) (by decide) rfl (by simp [rf_cat, rq_cat, ca_i, ca_l, ca_r]) (ct_X11_wantN l X hcq6) ?_
      rcases it_some hf with ⟨c7, hf⟩ | ⟨c7, hf⟩
      · refine g_ifeq_t (pc := 368) (tgt := 375) dX11_wantParts_368 (by decide) c7 ?_
        refine g_iconst (pc := 375) (v := (0 : Int32)) dX11_wantParts_375 (by decide) ?_
        obtain rfl := Option.some.inj hf
        exact g_zret (pc := 376) rfl rfl dX11_wantParts_376
      · refine g_ifeq_f (pc := 368) (tgt := 375) dX11_wantParts_368 (by decide) c7 ?_
        refine g_iconst (pc := 371) (v := (1 : Int32)) dX11_wantParts_371 (by decide) ?_
        refine g_goto (pc := 372) (tgt := 376) dX11_wantParts_372 (by decide) ?_
        obtain rfl := Option.some.inj hf
        exact g_zret (pc := 376) rfl rfl dX11_wantParts_376
def f_X11_wantParts_L489 (h : AH) (s0 : Int32) : Option (Int32 × AH) :=
  gb (s0 == 0 || s0 == 1) <|
  some (s0, h)
set_option maxRecDepth 100000 in
set_option maxHeartbeats 4000000 in
theorem ok_X11_wantParts_L489 (l : Launch) (X : Cx) (h : AH) (s0 : Int32) (q : Int32 × AH) (hf : f_X11_wantParts_L489 h s0 = some q) : Go l X k_X11_wantParts 489 [] [.int s0] h (rI q) := by
  unfold f_X11_wantParts_L489 at hf
  obtain ⟨b1, hf⟩ := gb_some hf
  obtain rfl := Option.some.inj hf
  exact g_zret (pc := 489) rfl b1 dX11_wantParts_489
def f_X11_wantParts_L18 (h : AH) (a0 : Nat) (a1 : Int32) (s0 : Int32) : Option (Int32 × AH) :=
  if a1 = (0 : Int32) then
    gs h a0 10 <|
    bd (f_X11_wantRegister h a0 (7 : Int32)) fun q3 =>
    if q3.1 = 0 then
      some ((0 : Int32), q3.2)
    else
      gs q3.2 a0 10 <|
      bd (f_X11_wantComma q3.2 a0) fun q6 =>
      if q6.1 = 0 then
        some ((0 : Int32), q6.2)
      else
        gs q6.2 a0 10 <|
        bd (f_X11_wantRegister q6.2 a0 (15 : Int32)) fun q9 =>
        if q9.1 = 0 then
          some ((0 : Int32), q9.2)
        else
          gs q9.2 a0 10 <|
          bd (f_X11_wantComma q9.2 a0) fun q12 =>
          if q12.1 = 0 then
            some ((0 : Int32), q12.2)
          else
            gs q12.2 a0 10 <|
            bd (f_X11_wantRegister q12.2 a0 (20 : Int32)) fun q15 =>
            if q15.1 = 0 then
              some ((0 : Int32), q15.2)
            else
              some ((1 : Int32), q15.2)
  else
    if a1 = (1 : Int32) then
      gs h a0 10 <|
      bd (f_X11_wantRegister h a0 (7 : Int32)) fun q19 =>
      if q19.1 = 0 then
        some ((0 : Int32), q19.2)
      else
        gs q19.2 a0 10 <|
        bd (f_X11_wantComma q19.2 a0) fun q22 =>
        if q22.1 = 0 then
          some ((0 : Int32), q22.2)
        else
          gs q22.2 a0 10 <|
          bd (f_X11_wantRegister q22.2 a0 (15 : Int32)) fun q25 =>
          if q25.1 = 0 then
            some ((0 : Int32), q25.2)
          else
            gs q25.2 a0 10 <|
            bd (f_X11_wantComma q25.2 a0) fun q28 =>
            if q28.1 = 0 then
              some ((0 : Int32), q28.2)
            else
              gs q28.2 a0 10 <|
              bd (f_X11_wantN q28.2 a0 s0) fun q31 =>
              if q31.1 = 0 then
                some ((0 : Int32), q31.2)
              else
                some ((1 : Int32), q31.2)
    else
      if a1 = (2 : Int32) then
        gs h a0 10 <|
        bd (f_X11_wantRegister h a0 (7 : Int32)) fun q35 =>
        if q35.1 = 0 then
          some ((0 : Int32), q35.2)
        else
          gs q35.2 a0 10 <|
          bd (f_X11_wantComma q35.2 a0) fun q38 =>
          if q38.1 = 0 then
            some ((0 : Int32), q38.2)
          else
            gs q38.2 a0 10 <|
            bd (f_X11_wantN q38.2 a0 (0 : Int32)) fun q41 =>
            if q41.1 = 0 then
              some ((0 : Int32), q41.2)
            else
              gs q41.2 a0 10 <|
              bd (f_X11_wantBase q41.2 a0) fun q44 =>
              f_X11_wantParts_L225 q44.2 q44.1
      else
        if a1 = (3 : Int32) then
          gs h a0 10 <|
          bd (f_X11_wantRegister h a0 (20 : Int32)) fun q47 =>
          if q47.1 = 0 then
            some ((0 : Int32), q47.2)
          else
            gs q47.2 a0 10 <|
            bd (f_X11_wantComma q47.2 a0) fun q50 =>
            if q50.1 = 0 then
              some ((0 : Int32), q50.2)
            else
              gs q50.2 a0 10 <|
              bd (f_X11_wantN q50.2 a0 (1 : Int32)) fun q53 =>
              if q53.1 = 0 then
                some ((0 : Int32), q53.2)
              else
                gs q53.2 a0 10 <|
                bd (f_X11_wantBase q53.2 a0) fun q56 =>
                if q56.1 = 0 then
                  some ((0 : Int32), q56.2)
                else
                  some ((1 : Int32), q56.2)
        else
          if a1 = (4 : Int32) then
            gs h a0 10 <|
            bd (f_X11_wantRegister h a0 (15 : Int32)) fun q60 =>
            if q60.1 = 0 then
              some ((0 : Int32), q60.2)
            else
              gs q60.2 a0 10 <|
              bd (f_X11_wantComma q60.2 a0) fun q63 =>
              if q63.1 = 0 then
                some ((0 : Int32), q63.2)
              else
                gs q63.2 a0 10 <|
                bd (f_X11_wantRegister q63.2 a0 (20 : Int32)) fun q66 =>
                if q66.1 = 0 then
                  some ((0 : Int32), q66.2)
                else
                  gs q66.2 a0 10 <|
                  bd (f_X11_wantComma q66.2 a0) fun q69 =>
                  if q69.1 = 0 then
                    some ((0 : Int32), q69.2)
                  else
                    gs q69.2 a0 10 <|
                    bd (f_X11_wantN q69.2 a0 (2 : Int32)) fun q72 =>
                    if q72.1 = 0 then
                      some ((0 : Int32), q72.2)
                    else
                      some ((1 : Int32), q72.2)
          else
            if a1 = (5 : Int32) then
              gs h a0 10 <|
              bd (f_X11_wantRegister h a0 (7 : Int32)) fun q76 =>
              if q76.1 = 0 then
                some ((0 : Int32), q76.2)
              else
                gs q76.2 a0 10 <|
                bd (f_X11_wantComma q76.2 a0) fun q79 =>
                if q79.1 = 0 then
                  some ((0 : Int32), q79.2)
                else
                  gs q79.2 a0 10 <|
                  bd (f_X11_wantN q79.2 a0 (3 : Int32)) fun q82 =>
                  if q82.1 = 0 then
                    some ((0 : Int32), q82.2)
                  else
                    some ((1 : Int32), q82.2)
            else
              if a1 = (6 : Int32) then
                gs h a0 10 <|
                bd (f_X11_wantRegister h a0 (7 : Int32)) fun q86 =>
                f_X11_wantParts_L353 q86.2 a0 q86.1
              else
                if a1 = (7 : Int32) then
                  gs h a0 10 <|
                  bd (f_X11_wantRegister h a0 (7 : Int32)) fun q89 =>
                  if q89.1 = 0 then
                    some ((0 : Int32), q89.2)
                  else
                    gs q89.2 a0 10 <|
                    bd (f_X11_wantComma q89.2 a0) fun q92 =>
                    if q92.1 = 0 then
                      some ((0 : Int32), q92.2)
                    else
                      gs q92.2 a0 10 <|
                      bd (f_X11_wantRegister q92.2 a0 (20 : Int32)) fun q95 =>
                      if q95.1 = 0 then
                        some ((0 : Int32), q95.2)
                      else
                        gs q95.2 a0 10 <|
                        bd (f_X11_wantComma q95.2 a0) fun q98 =>
                        if q98.1 = 0 then
                          some ((0 : Int32), q98.2)
                        else
                          gs q98.2 a0 10 <|
                          bd (f_X11_wantBase q98.2 a0) fun q101 =>
                          if q101.1 = 0 then
                            some ((0 : Int32), q101.2)
                          else
                            some ((1 : Int32), q101.2)
                else
                  if a1 = (9 : Int32) then
                    gs h a0 10 <|
                    bd (f_X11_wantRegister h a0 (7 : Int32)) fun q105 =>
                    if q105.1 = 0 then
                      some ((0 : Int32), q105.2)
                    else
                      gs q105.2 a0 10 <|
                      bd (f_X11_wantComma q105.2 a0) fun q108 =>
                      if q108.1 = 0 then
                        some ((0 : Int32), q108.2)
                      else
                        gs q108.2 a0 10 <|
                        bd (f_X11_wantRegister q108.2 a0 (15 : Int32)) fun q111 =>
                        if q111.1 = 0 then
                          some ((0 : Int32), q111.2)
                        else
                          some ((1 : Int32), q111.2)
                  else
                    if a1 = (10 : Int32) then
                      gs h a0 10 <|
                      bd (f_X11_wantRegister h a0 (7 : Int32)) fun q115 =>
                      if q115.1 = 0 then
                        some ((0 : Int32), q115.2)
                      else
                        gs q115.2 a0 10 <|
                        bd (f_X11_wantComma q115.2 a0) fun q118 =>
                        if q118.1 = 0 then
                          some ((0 : Int32), q118.2)
                        else
                          gs q118.2 a0 10 <|
                          bd (f_X11_wantRegister q118.2 a0 (20 : Int32)) fun q121 =>
                          if q121.1 = 0 then
                            some ((0 : Int32), q121.2)
                          else
                            some ((1 : Int32), q121.2)
                    else
                      if a1 = (11 : Int32) then
                        gs h a0 10 <|
                        bd (f_X11_wantN h a0 (4 : Int32)) fun q125 =>
                        f_X11_wantParts_L489 q125.2 q125.1
                      else
                        if a1 = (12 : Int32) then
                          gs h a0 10 <|
                          bd (f_X11_wantRegister h a0 (15 : Int32)) fun q128 =>
                          if q128.1 = 0 then
                            some ((0 : Int32), q128.2)
                          else
                            gs q128.2 a0 10 <|
                            bd (f_X11_wantComma q128.2 a0) fun q131 =>
                            if q131.1 = 0 then
                              some ((0 : Int32), q131.2)
                            else
                              gs q131.2 a0 10 <|
                              bd (f_X11_wantN q131.2 a0 (2 : Int32)) fun q134 =>
                              if q134.1 = 0 then
                                some ((0 : Int32), q134.2)
                              else
                                some ((1 : Int32), q134.2)
                        else
                          if a1 = (13 : Int32) then
                            gs h a0 10 <|
                            bd (f_X11_wantRegister h a0 (7 : Int32)) fun q138 =>
                            if q138.1 = 0 then
                              some ((0 : Int32), q138.2)
                            else
                              gs q138.2 a0 10 <|
                              bd (f_X11_wantComma q138.2 a0) fun q141 =>
                              if q141.1 = 0 then
                                some ((0 : Int32), q141.2)
                              else
                                gs q141.2 a0 10 <|
                                bd (f_X11_wantN q141.2 a0 (5 : Int32)) fun q144 =>
                                if q144.1 = 0 then
                                  some ((0 : Int32), q144.2)
                                else
                                  some ((1 : Int32), q144.2)
                          else
                            if a1 = (14 : Int32) then
                              gs h a0 10 <|
                              bd (f_X11_wantN h a0 (5 : Int32)) fun q148 =>
                              gb (q148.1 == 0 || q148.1 == 1) <|
                              some (q148.1, q148.2)
                            else
                              if a1 = (15 : Int32) then
                                gs h a0 10 <|
                                bd (f_X11_wantNumber h a0 (1 : Int32) (0 : Int64) (8188 : Int64) (4 : Int32)) fun q152 =>
                                gb (q152.1 == 0 || q152.1 == 1) <|
                                some (q152.1, q152.2)
                              else
                                if a1 = (16 : Int32) then
                                  gs h a0 10 <|
                                  bd (f_X11_wantNumber h a0 (1 : Int32) (0 : Int64) (15 : Int64) (1 : Int32)) fun q156 =>
                                  gb (q156.1 == 0 || q156.1 == 1) <|
                                  some (q156.1, q156.2)
                                else
                                  some ((1 : Int32), h)
set_option maxRecDepth 100000 in
set_option maxHeartbeats 4000000 in
theorem ok_X11_wantParts_L18 (l : Launch) (X : Cx) (h : AH) (a0 : Nat) (a1 : Int32) (s0 : Int32) (q : Int32 × AH) (hf : f_X11_wantParts_L18 h a0 a1 s0 = some q) : Go l X k_X11_wantParts 18 [(0, rf X a0), (1, .int a1)] [.int s0] h (rI q) := by
  unfold f_X11_wantParts_L18 at hf
  refine g_istore_n (pc := 18) (L' := [(3, .int s0), (0, rf X a0), (1, .int a1)]) dX11_wantParts_18 rfl (by decide) rfl rfl ?_
  refine g_iload_n (pc := 19) 2 dX11_wantParts_19 rfl rfl ?_
  rcases it_some hf with ⟨c1, hf⟩ | ⟨c1, hf⟩
  · refine g_tsw (pc := 20) (tgt := 104) (0 : Int32) dX11_wantParts_20 c1 (by decide +kernel) (by decide +kernel) (off := 84) (by decide +kernel) (by decide) ?_
    refine g_aload_n (pc := 104) 1 dX11_wantParts_104 rfl rfl ?_
    refine g_bipush (pc := 105) (v := (7 : Int32)) dX11_wantParts_105 (by decide) ?_
    obtain ⟨g2, hf⟩ := gs_some hf
    obtain ⟨q3, hcq3, hf⟩ := bd_some hf
    refine g_cVI (pc := 107) (k2 := k_X11_wantRegister) (av := [.int (7 : Int32)]) (q := q3) rfl dX11_wantParts_107 ck_X11_wantRegister m_1713 m_1715 m_67 (ci := 9) rfl (by decide) g2 (by decide) (by decide) rfl (by simp [rf_cat, rq_cat, ca_i, ca_l, ca_r]) (ct_X11_wantRegister l X hcq3) ?_
    rcases it_some hf with ⟨c4, hf⟩ | ⟨c4, hf⟩
    · refine g_ifeq_t (pc := 110) (tgt := 149) dX11_wantParts_110 (by decide) c4 ?_
      refine g_iconst (pc := 149) (v := (0 : Int32)) dX11_wantParts_149 (by decide) ?_
      obtain rfl := Option.some.inj hf
      exact g_zret (pc := 150) rfl rfl dX11_wantParts_150
    · refine g_ifeq_f (pc := 110) (tgt := 149) dX11_wantParts_110 (by decide) c4 ?_
      refine g_aload_n (pc := 113) 1 dX11_wantParts_113 rfl rfl ?_
      obtain ⟨g5, hf⟩ := gs_some hf
      obtain ⟨q6, hcq6, hf⟩ := bd_some hf
      refine g_cVI (pc := 114) (k2 := k_X11_wantComma) (av := []) (q := q6) rfl dX11_wantParts_114 ck_X11_wantComma m_1720 m_1722 m_68 (ci := 9) rfl (by decide) g5 (by decide) (by decide) rfl (by simp [rf_cat, rq_cat, ca_i, ca_l, ca_r]) (ct_X11_wantComma l X hcq6) ?_
      rcases it_some hf with ⟨c7, hf⟩ | ⟨c7, hf⟩
      · refine g_ifeq_t (pc := 117) (tgt := 149) dX11_wantParts_117 (by decide) c7 ?_
        refine g_iconst (pc := 149) (v := (0 : Int32)) dX11_wantParts_149 (by decide) ?_
        obtain rfl := Option.some.inj hf
        exact g_zret (pc := 150) rfl rfl dX11_wantParts_150
      · refine g_ifeq_f (pc := 117) (tgt := 149) dX11_wantParts_117 (by decide) c7 ?_
        refine g_aload_n (pc := 120) 1 dX11_wantParts_120 rfl rfl ?_
        refine g_bipush (pc := 121) (v := (15 : Int32)) dX11_wantParts_121 (by decide) ?_
        obtain ⟨g8, hf⟩ := gs_some hf
        obtain ⟨q9, hcq9, hf⟩ := bd_some hf
        refine g_cVI (pc := 123) (k2 := k_X11_wantRegister) (av := [.int (15 : Int32)]) (q := q9) rfl dX11_wantParts_123 ck_X11_wantRegister m_1713 m_1715 m_67 (ci := 9) rfl (by decide) g8 (by decide) (by decide) rfl (by simp [rf_cat, rq_cat, ca_i, ca_l, ca_r]) (ct_X11_wantRegister l X hcq9) ?_
        rcases it_some hf with ⟨c10, hf⟩ | ⟨c10, hf⟩
        · refine g_ifeq_t (pc := 126) (tgt := 149) dX11_wantParts_126 (by decide) c10 ?_
          refine g_iconst (pc := 149) (v := (0 : Int32)) dX11_wantParts_149 (by decide) ?_
          obtain rfl := Option.some.inj hf
          exact g_zret (pc := 150) rfl rfl dX11_wantParts_150
        · refine g_ifeq_f (pc := 126) (tgt := 149) dX11_wantParts_126 (by decide) c10 ?_
          refine g_aload_n (pc := 129) 1 dX11_wantParts_129 rfl rfl ?_
          obtain ⟨g11, hf⟩ := gs_some hf
          obtain ⟨q12, hcq12, hf⟩ := bd_some hf
          refine g_cVI (pc := 130) (k2 := k_X11_wantComma) (av := []) (q := q12) rfl dX11_wantParts_130 ck_X11_wantComma m_1720 m_1722 m_68 (ci := 9) rfl (by decide) g11 (by decide) (by decide) rfl (by simp [rf_cat, rq_cat, ca_i, ca_l, ca_r]) (ct_X11_wantComma l X hcq12) ?_
          rcases it_some hf with ⟨c13, hf⟩ | ⟨c13, hf⟩
          · refine g_ifeq_t (pc := 133) (tgt := 149) dX11_wantParts_133 (by decide) c13 ?_
            refine g_iconst (pc := 149) (v := (0 : Int32)) dX11_wantParts_149 (by decide) ?_
            obtain rfl := Option.some.inj hf
            exact g_zret (pc := 150) rfl rfl dX11_wantParts_150
          · refine g_ifeq_f (pc := 133) (tgt := 149) dX11_wantParts_133 (by decide) c13 ?_
            refine g_aload_n (pc := 136) 1 dX11_wantParts_136 rfl rfl ?_
            refine g_bipush (pc := 137) (v := (20 : Int32)) dX11_wantParts_137 (by decide) ?_
            obtain ⟨g14, hf⟩ := gs_some hf
            obtain ⟨q15, hcq15, hf⟩ := bd_some hf
            refine g_cVI (pc := 139) (k2 := k_X11_wantRegister) (av := [.int (20 : Int32)]) (q := q15) rfl dX11_wantParts_139 ck_X11_wantRegister m_1713 m_1715 m_67 (ci := 9) rfl (by decide) g14 (by decide) (by decide) rfl (by simp [rf_cat, rq_cat, ca_i, ca_l, ca_r]) (ct_X11_wantRegister l X hcq15) ?_
            rcases it_some hf with ⟨c16, hf⟩ | ⟨c16, hf⟩
            · refine g_ifeq_t (pc := 142) (tgt := 149) dX11_wantParts_142 (by decide) c16 ?_
              refine g_iconst (pc := 149) (v := (0 : Int32)) dX11_wantParts_149 (by decide) ?_
              obtain rfl := Option.some.inj hf
              exact g_zret (pc := 150) rfl rfl dX11_wantParts_150
            · refine g_ifeq_f (pc := 142) (tgt := 149) dX11_wantParts_142 (by decide) c16 ?_
              refine g_iconst (pc := 145) (v := (1 : Int32)) dX11_wantParts_145 (by decide) ?_
              refine g_goto (pc := 146) (tgt := 150) dX11_wantParts_146 (by decide) ?_
              obtain rfl := Option.some.inj hf
              exact g_zret (pc := 150) rfl rfl dX11_wantParts_150
  ·
    rcases it_some hf with ⟨c17, hf⟩ | ⟨c17, hf⟩
    · refine g_tsw (pc := 20) (tgt := 151) (1 : Int32) dX11_wantParts_20 c17 (by decide +kernel) (by decide +kernel) (off := 131) (by decide +kernel) (by decide) ?_
      refine g_aload_n (pc := 151) 1 dX11_wantParts_151 rfl rfl ?_
      refine g_bipush (pc := 152) (v := (7 : Int32)) dX11_wantParts_152 (by decide) ?_
      obtain ⟨g18, hf⟩ := gs_some hf
      obtain ⟨q19, hcq19, hf⟩ := bd_some hf
      refine g_cVI (pc := 154) (k2 := k_X11_wantRegister) (av := [.int (7 : Int32)]) (q := q19) rfl dX11_wantParts_154 ck_X11_wantRegister m_1713 m_1715 m_67 (ci := 9) rfl (by decide) g18 (by decide) (by decide) rfl (by simp [rf_cat, rq_cat, ca_i, ca_l, ca_r]) (ct_X11_wantRegister l X hcq19) ?_
      rcases it_some hf with ⟨c20, hf⟩ | ⟨c20, hf⟩
      · refine g_ifeq_t (pc := 157) (tgt := 195) dX11_wantParts_157 (by decide) c20 ?_
        refine g_iconst (pc := 195) (v := (0 : Int32)) dX11_wantParts_195 (by decide) ?_
        obtain rfl := Option.some.inj hf
        exact g_zret (pc := 196) rfl rfl dX11_wantParts_196
      · refine g_ifeq_f (pc := 157) (tgt := 195) dX11_wantParts_157 (by decide) c20 ?_
        refine g_aload_n (pc := 160) 1 dX11_wantParts_160 rfl rfl ?_
        obtain ⟨g21, hf⟩ := gs_some hf
        obtain ⟨q22, hcq22, hf⟩ := bd_some hf
        refine g_cVI (pc := 161) (k2 := k_X11_wantComma) (av := []) (q := q22) rfl dX11_wantParts_161 ck_X11_wantComma m_1720 m_1722 m_68 (ci := 9) rfl (by decide) g21 (by decide) (by decide) rfl (by simp [rf_cat, rq_cat, ca_i, ca_l, ca_r]) (ct_X11_wantComma l X hcq22) ?_
        rcases it_some hf with ⟨c23, hf⟩ | ⟨c23, hf⟩
        · refine g_ifeq_t (pc := 164) (tgt := 195) dX11_wantParts_164 (by decide) c23 ?_
          refine g_iconst (pc := 195) (v := (0 : Int32)) dX11_wantParts_195 (by decide) ?_
          obtain rfl := Option.some.inj hf
          exact g_zret (pc := 196) rfl rfl dX11_wantParts_196
        · refine g_ifeq_f (pc := 164) (tgt := 195) dX11_wantParts_164 (by decide) c23 ?_
          refine g_aload_n (pc := 167) 1 dX11_wantParts_167 rfl rfl ?_
          refine g_bipush (pc := 168) (v := (15 : Int32)) dX11_wantParts_168 (by decide) ?_
          obtain ⟨g24, hf⟩ := gs_some hf
          obtain ⟨q25, hcq25, hf⟩ := bd_some hf
          refine g_cVI (pc := 170) (k2 := k_X11_wantRegister) (av := [.int (15 : Int32)]) (q := q25) rfl dX11_wantParts_170 ck_X11_wantRegister m_1713 m_1715 m_67 (ci := 9) rfl (by decide) g24 (by decide) (by decide) rfl (by simp [rf_cat, rq_cat, ca_i, ca_l, ca_r]) (ct_X11_wantRegister l X hcq25) ?_
          rcases it_some hf with ⟨c26, hf⟩ | ⟨c26, hf⟩
          · refine g_ifeq_t (pc := 173) (tgt := 195) dX11_wantParts_173 (by decide) c26 ?_
            refine g_iconst (pc := 195) (v := (0 : Int32)) dX11_wantParts_195 (by decide) ?_
            obtain rfl := Option.some.inj hf
            exact g_zret (pc := 196) rfl rfl dX11_wantParts_196
          · refine g_ifeq_f (pc := 173) (tgt := 195) dX11_wantParts_173 (by decide) c26 ?_
            refine g_aload_n (pc := 176) 1 dX11_wantParts_176 rfl rfl ?_
            obtain ⟨g27, hf⟩ := gs_some hf
            obtain ⟨q28, hcq28, hf⟩ := bd_some hf
            refine g_cVI (pc := 177) (k2 := k_X11_wantComma) (av := []) (q := q28) rfl dX11_wantParts_177 ck_X11_wantComma m_1720 m_1722 m_68 (ci := 9) rfl (by decide) g27 (by decide) (by decide) rfl (by simp [rf_cat, rq_cat, ca_i, ca_l, ca_r]) (ct_X11_wantComma l X hcq28) ?_
            rcases it_some hf with ⟨c29, hf⟩ | ⟨c29, hf⟩
            · refine g_ifeq_t (pc := 180) (tgt := 195) dX11_wantParts_180 (by decide) c29 ?_
              refine g_iconst (pc := 195) (v := (0 : Int32)) dX11_wantParts_195 (by decide) ?_
              obtain rfl := Option.some.inj hf
              exact g_zret (pc := 196) rfl rfl dX11_wantParts_196
            · refine g_ifeq_f (pc := 180) (tgt := 195) dX11_wantParts_180 (by decide) c29 ?_
              refine g_aload_n (pc := 183) 1 dX11_wantParts_183 rfl rfl ?_
              refine g_iload_n (pc := 184) 0 dX11_wantParts_184 rfl rfl ?_
              obtain ⟨g30, hf⟩ := gs_some hf
              obtain ⟨q31, hcq31, hf⟩ := bd_some hf
              refine g_cVI (pc := 185) (k2 := k_X11_wantN) (av := [.int s0]) (q := q31) rfl dX11_wantParts_185 ck_X11_wantN m_1732 m_1734 m_71 (ci := 9) rfl (by decide) g30 (by decide) (by decide) rfl (by simp [rf_cat, rq_cat, ca_i, ca_l, ca_r]) (ct_X11_wantN l X hcq31) ?_
              rcases it_some hf with ⟨c32, hf⟩ | ⟨c32, hf⟩
              · refine g_ifeq_t (pc := 188) (tgt := 195) dX11_wantParts_188 (by decide) c32 ?_
                refine g_iconst (pc := 195) (v := (0 : Int32)) dX11_wantParts_195 (by decide) ?_
                obtain rfl := Option.some.inj hf
                exact g_zret (pc := 196) rfl rfl dX11_wantParts_196
              · refine g_ifeq_f (pc := 188) (tgt := 195) dX11_wantParts_188 (by decide) c32 ?_
                refine g_iconst (pc := 191) (v := (1 : Int32)) dX11_wantParts_191 (by decide) ?_
                refine g_goto (pc := 192) (tgt := 196) dX11_wantParts_192 (by decide) ?_
                obtain rfl := Option.some.inj hf
                exact g_zret (pc := 196) rfl rfl dX11_wantParts_196
    ·
      rcases it_some hf with ⟨c33, hf⟩ | ⟨c33, hf⟩
      · refine g_tsw (pc := 20) (tgt := 197) (2 : Int32) dX11_wantParts_20 c33 (by decide +kernel) (by decide +kernel) (off := 177) (by decide +kernel) (by decide) ?_
        refine g_aload_n (pc := 197) 1 dX11_wantParts_197 rfl rfl ?_
        refine g_bipush (pc := 198) (v := (7 : Int32)) dX11_wantParts_198 (by decide) ?_
        obtain ⟨g34, hf⟩ := gs_some hf
        obtain ⟨q35, hcq35, hf⟩ := bd_some hf
        refine g_cVI (pc := 200) (k2 := k_X11_wantRegister) (av := [.int (7 : Int32)]) (q := q35) rfl dX11_wantParts_200 ck_X11_wantRegister m_1713 m_1715 m_67 (ci := 9) rfl (by decide) g34 (by decide) (by decide) rfl (by simp [rf_cat, rq_cat, ca_i, ca_l, ca_r]) (ct_X11_wantRegister l X hcq35) ?_
        rcases it_some hf with ⟨c36, hf⟩ | ⟨c36, hf⟩
        · refine g_ifeq_t (pc := 203) (tgt := 232) dX11_wantParts_203 (by decide) c36 ?_
          refine g_iconst (pc := 232) (v := (0 : Int32)) dX11_wantParts_232 (by decide) ?_
          obtain rfl := Option.some.inj hf
          exact g_zret (pc := 233) rfl rfl dX11_wantParts_233
        · refine g_ifeq_f (pc := 203) (tgt := 232) dX11_wantParts_203 (by decide) c36 ?_
          refine g_aload_n (pc := 206) 1 dX11_wantParts_206 rfl rfl ?_
          obtain ⟨g37, hf⟩ := gs_some hf
          obtain ⟨q38, hcq38, hf⟩ := bd_some hf
          refine g_cVI (pc := 207) (k2 := k_X11_wantComma) (av := []) (q := q38) rfl dX11_wantParts_207 ck_X11_wantComma m_1720 m_1722 m_68 (ci := 9) rfl (by decide) g37 (by decide) (by decide) rfl (by simp [rf_cat, rq_cat, ca_i, ca_l, ca_r]) (ct_X11_wantComma l X hcq38) ?_
          rcases it_some hf with ⟨c39, hf⟩ | ⟨c39, hf⟩
          · refine g_ifeq_t (pc := 210) (tgt := 232) dX11_wantParts_210 (by decide) c39 ?_
            refine g_iconst (pc := 232) (v := (0 : Int32)) dX11_wantParts_232 (by decide) ?_
            obtain rfl := Option.some.inj hf
            exact g_zret (pc := 233) rfl rfl dX11_wantParts_233
          · refine g_ifeq_f (pc := 210) (tgt := 232) dX11_wantParts_210 (by decide) c39 ?_
            refine g_aload_n (pc := 213) 1 dX11_wantParts_213 rfl rfl ?_
            refine g_iconst (pc := 214) (v := (0 : Int32)) dX11_wantParts_214 (by decide) ?_
            obtain ⟨g40, hf⟩ := gs_some hf
            obtain ⟨q41, hcq41, hf⟩ := bd_some hf
            refine g_cVI (pc := 215) (k2 := k_X11_wantN) (av := [.int (0 : Int32)]) (q := q41) rfl dX11_wantParts_215 ck_X11_wantN m_1732 m_1734 m_71 (ci := 9) rfl (by decide) g40 (by decide) (by decide) rfl (by simp [rf_cat, rq_cat, ca_i, ca_l, ca_r]) (ct_X11_wantN l X hcq41) ?_
            rcases it_some hf with ⟨c42, hf⟩ | ⟨c42, hf⟩
            · refine g_ifeq_t (pc := 218) (tgt := 232) dX11_wantParts_218 (by decide) c42 ?_
              refine g_iconst (pc := 232) (v := (0 : Int32)) dX11_wantParts_232 (by decide) ?_
              obtain rfl := Option.some.inj hf
              exact g_zret (pc := 233) rfl rfl dX11_wantParts_233
            · refine g_ifeq_f (pc := 218) (tgt := 232) dX11_wantParts_218 (by decide) c42 ?_
              refine g_aload_n (pc := 221) 1 dX11_wantParts_221 rfl rfl ?_
              obtain ⟨g43, hf⟩ := gs_some hf
              obtain ⟨q44, hcq44, hf⟩ := bd_some hf
              refine g_cVI (pc := 222) (k2 := k_X11_wantBase) (av := []) (q := q44) rfl dX11_wantParts_222 ck_X11_wantBase m_1759 m_1761 m_73 (ci := 9) rfl (by decide) g43 (by decide) (by decide) rfl (by simp [rf_cat, rq_cat, ca_i, ca_l, ca_r]) (ct_X11_wantBase l X hcq44) ?_
              refine g_sub [] rfl ?_
              exact ok_X11_wantParts_L225 l X q44.2 q44.1 q hf
      ·
        rcases it_some hf with ⟨c45, hf⟩ | ⟨c45, hf⟩
        · refine g_tsw (pc := 20) (tgt := 234) (3 : Int32) dX11_wantParts_20 c45 (by decide +kernel) (by decide +kernel) (off := 214) (by decide +kernel) (by decide) ?_
          refine g_aload_n (pc := 234) 1 dX11_wantParts_234 rfl rfl ?_
          refine g_bipush (pc := 235) (v := (20 : Int32)) dX11_wantParts_235 (by decide) ?_
          obtain ⟨g46, hf⟩ := gs_some hf
          obtain ⟨q47, hcq47, hf⟩ := bd_some hf
          refine g_cVI (pc := 237) (k2 := k_X11_wantRegister) (av := [.int (20 : Int32)]) (q := q47) rfl dX11_wantParts_237 ck_X11_wantRegister m_1713 m_1715 m_67 (ci := 9) rfl (by decide) g46 (by decide) (by decide) rfl (by simp [rf_cat, rq_cat, ca_i, ca_l, ca_r]) (ct_X11_wantRegister l X hcq47) ?_
          rcases it_some hf with ⟨c48, hf⟩ | ⟨c48, hf⟩
          · refine g_ifeq_t (pc := 240) (tgt := 269) dX11_wantParts_240 (by decide) c48 ?_
            refine g_iconst (pc := 269) (v := (0 : Int32)) dX11_wantParts_269 (by decide) ?_
            obtain rfl := Option.some.inj hf
            exact g_zret (pc := 270) rfl rfl dX11_wantParts_270
          · refine g_ifeq_f (pc := 240) (tgt := 269) dX11_wantParts_240 (by decide) c48 ?_
            refine g_aload_n (pc := 243) 1 dX11_wantParts_243 rfl rfl ?_
            obtain ⟨g49, hf⟩ := gs_some hf
            obtain ⟨q50, hcq50, hf⟩ := bd_some hf
            refine g_cVI (pc := 244) (k2 := k_X11_wantComma) (av := []) (q := q50) rfl dX11_wantParts_244 ck_X11_wantComma m_1720 m_1722 m_68 (ci := 9) rfl (by decide) g49 (by decide) (by decide) rfl (by simp [rf_cat, rq_cat, ca_i, ca_l, ca_r]) (ct_X11_wantComma l X hcq50) ?_
            rcases it_some hf with ⟨c51, hf⟩ | ⟨c51, hf⟩
            · refine g_ifeq_t (pc := 247) (tgt := 269) dX11_wantParts_247 (by decide) c51 ?_
              refine g_iconst (pc := 269) (v := (0 : Int32)) dX11_wantParts_269 (by decide) ?_
              obtain rfl := Option.some.inj hf
              exact g_zret (pc := 270) rfl rfl dX11_wantParts_270
            · refine g_ifeq_f (pc := 247) (tgt := 269) dX11_wantParts_247 (by decide) c51 ?_
              refine g_aload_n (pc := 250) 1 dX11_wantParts_250 rfl rfl ?_
              refine g_iconst (pc := 251) (v := (1 : Int32)) dX11_wantParts_251 (by decide) ?_
              obtain ⟨g52, hf⟩ := gs_some hf
              obtain ⟨q53, hcq53, hf⟩ := bd_some hf
              refine g_cVI (pc := 252) (k2 := k_X11_wantN) (av := [.int (1 : Int32)]) (q := q53) rfl dX11_wantParts_252 ck_X11_wantN m_1732 m_1734 m_71 (ci := 9) rfl (by decide) g52 (by decide) (by decide) rfl (by simp [rf_cat, rq_cat, ca_i, ca_l, ca_r]) (ct_X11_wantN l X hcq53) ?_
              rcases it_some hf with ⟨c54, hf⟩ | ⟨c54, hf⟩
              · refine g_ifeq_t (pc := 255) (tgt := 269) dX11_wantParts_255 (by decide) c54 ?_
                refine g_iconst (pc := 269) (v := (0 : Int32)) dX11_wantParts_269 (by decide) ?_
                obtain rfl := Option.some.inj hf
                exact g_zret (pc := 270) rfl rfl dX11_wantParts_270
              · refine g_ifeq_f (pc := 255) (tgt := 269) dX11_wantParts_255 (by decide) c54 ?_
                refine g_aload_n (pc := 258) 1 dX11_wantParts_258 rfl rfl ?_
                obtain ⟨g55, hf⟩ := gs_some hf
                obtain ⟨q56, hcq56, hf⟩ := bd_some hf
                refine g_cVI (pc := 259) (k2 := k_X11_wantBase) (av := []) (q := q56) rfl dX11_wantParts_259 ck_X11_wantBase m_1759 m_1761 m_73 (ci := 9) rfl (by decide) g55 (by decide) (by decide) rfl (by simp [rf_cat, rq_cat, ca_i, ca_l, ca_r]) (ct_X11_wantBase l X hcq56) ?_
                rcases it_some hf with ⟨c57, hf⟩ | ⟨c57, hf⟩
                · refine g_ifeq_t (pc := 262) (tgt := 269) dX11_wantParts_262 (by decide) c57 ?_
                  refine g_iconst (pc := 269) (v := (0 : Int32)) dX11_wantParts_269 (by decide) ?_
                  obtain rfl := Option.some.inj hf
                  exact g_zret (pc := 270) rfl rfl dX11_wantParts_270
                · refine g_ifeq_f (pc := 262) (tgt := 269) dX11_wantParts_262 (by decide) c57 ?_
                  refine g_iconst (pc := 265) (v := (1 : Int32)) dX11_wantParts_265 (by decide) ?_
                  refine g_goto (pc := 266) (tgt := 270) dX11_wantParts_266 (by decide) ?_
                  obtain rfl := Option.some.inj hf
                  exact g_zret (pc := 270) rfl rfl dX11_wantParts_270
        ·
          rcases it_some hf with ⟨c58, hf⟩ | ⟨c58, hf⟩
          · refine g_tsw (pc := 20) (tgt := 271) (4 : Int32) dX11_wantParts_20 c58 (by decide +kernel) (by decide +kernel) (off := 251) (by decide +kernel) (by decide) ?_
            refine g_aload_n (pc := 271) 1 dX11_wantParts_271 rfl rfl ?_
            refine g_bipush (pc := 272) (v := (15 : Int32)) dX11_wantParts_272 (by decide) ?_
            obtain ⟨g59, hf⟩ := gs_some hf
            obtain ⟨q60, hcq60, hf⟩ := bd_some hf
            refine g_cVI (pc := 274) (k2 := k_X11_wantRegister) (av := [.int (15 : Int32)]) (q := q60) rfl dX11_wantParts_274 ck_X11_wantRegister m_1713 m_1715 m_67 (ci := 9) rfl (by decide) g59 (by decide) (by decide) rfl (by simp [rf_cat, rq_cat, ca_i, ca_l, ca_r]) (ct_X11_wantRegister l X hcq60) ?_
            rcases it_some hf with ⟨c61, hf⟩ | ⟨c61, hf⟩
            · refine g_ifeq_t (pc := 277) (tgt := 315) dX11_wantParts_277 (by decide) c61 ?_
              refine g_iconst (pc := 315) (v := (0 : Int32)) dX11_wantParts_315 (by decide) ?_
              obtain rfl := Option.some.inj hf
              exact g_zret (pc := 316) rfl rfl dX11_wantParts_316
            · refine g_ifeq_f (pc := 277) (tgt := 315) dX11_wantParts_277 (by decide) c61 ?_
              refine g_aload_n (pc := 280) 1 dX11_wantParts_280 rfl rfl ?_
              obtain ⟨g62, hf⟩ := gs_some hf
              obtain ⟨q63, hcq63, hf⟩ := bd_some hf
              refine g_cVI (pc := 281) (k2 := k_X11_wantComma) (av := []) (q := q63) rfl dX11_wantParts_281 ck_X11_wantComma m_1720 m_1722 m_68 (ci := 9) rfl (by decide) g62 (by decide) (by decide) rfl (by simp [rf_cat, rq_cat, ca_i, ca_l, ca_r]) (ct_X11_wantComma l X hcq63) ?_
              rcases it_some hf with ⟨c64, hf⟩ | ⟨c64, hf⟩
              · refine g_ifeq_t (pc := 284) (tgt := 315) dX11_wantParts_284 (by decide) c64 ?_
                refine g_iconst (pc := 315) (v := (0 : Int32)) dX11_wantParts_315 (by decide) ?_
                obtain rfl := Option.some.inj hf
                exact g_zret (pc := 316) rfl rfl dX11_wantParts_316
              · refine g_ifeq_f (pc := 284) (tgt := 315) dX11_wantParts_284 (by decide) c64 ?_
                refine g_aload_n (pc := 287) 1 dX11_wantParts_287 rfl rfl ?_
                refine g_bipush (pc := 288) (v := (20 : Int32)) dX11_wantParts_288 (by decide) ?_
                obtain ⟨g65, hf⟩ := gs_some hf
                obtain ⟨q66, hcq66, hf⟩ := bd_some hf
                refine g_cVI (pc := 290) (k2 := k_X11_wantRegister) (av := [.int (20 : Int32)]) (q := q66) rfl dX11_wantParts_290 ck_X11_wantRegister m_1713 m_1715 m_67 (ci := 9) rfl (by decide) g65 (by decide) (by decide) rfl (by simp [rf_cat, rq_cat, ca_i, ca_l, ca_r]) (ct_X11_wantRegister l X hcq66) ?_
                rcases it_some hf with ⟨c67, hf⟩ | ⟨c67, hf⟩
                · refine g_ifeq_t (pc := 293) (tgt := 315) dX11_wantParts_293 (by decide) c67 ?_
                  refine g_iconst (pc := 315) (v := (0 : Int32)) dX11_wantParts_315 (by decide) ?_
                  obtain rfl := Option.some.inj hf
                  exact g_zret (pc := 316) rfl rfl dX11_wantParts_316
                · refine g_ifeq_f (pc := 293) (tgt := 315) dX11_wantParts_293 (by decide) c67 ?_
                  refine g_aload_n (pc := 296) 1 dX11_wantParts_296 rfl rfl ?_
                  obtain ⟨g68, hf⟩ := gs_some hf
                  obtain ⟨q69, hcq69, hf⟩ := bd_some hf
                  refine g_cVI (pc := 297) (k2 := k_X11_wantComma) (av := []) (q := q69) rfl dX11_wantParts_297 ck_X11_wantComma m_1720 m_1722 m_68 (ci := 9) rfl (by decide) g68 (by decide) (by decide) rfl (by simp [rf_cat, rq_cat, ca_i, ca_l, ca_r]) (ct_X11_wantComma l X hcq69) ?_
                  rcases it_some hf with ⟨c70, hf⟩ | ⟨c70, hf⟩
                  · refine g_ifeq_t (pc := 300) (tgt := 315) dX11_wantParts_300 (by decide) c70 ?_
                    refine g_iconst (pc := 315) (v := (0 : Int32)) dX11_wantParts_315 (by decide) ?_
                    obtain rfl := Option.some.inj hf
                    exact g_zret (pc := 316) rfl rfl dX11_wantParts_316
                  · refine g_ifeq_f (pc := 300) (tgt := 315) dX11_wantParts_300 (by decide) c70 ?_
                    refine g_aload_n (pc := 303) 1 dX11_wantParts_303 rfl rfl ?_
                    refine g_iconst (pc := 304) (v := (2 : Int32)) dX11_wantParts_304 (by decide) ?_
                    obtain ⟨g71, hf⟩ := gs_some hf
                    obtain ⟨q72, hcq72, hf⟩ := bd_some hf
                    refine g_cVI (pc := 305) (k2 := k_X11_wantN) (av := [.int (2 : Int32)]) (q := q72) rfl dX11_wantParts_305 ck_X11_wantN m_1732 m_1734 m_71 (ci := 9) rfl (by decide) g71 (by decide) (by decide) rfl (by simp [rf_cat, rq_cat, ca_i, ca_l, ca_r]) (ct_X11_wantN l X hcq72) ?_
                    rcases it_some hf with ⟨c73, hf⟩ | ⟨c73, hf⟩
                    · refine g_ifeq_t (pc := 308) (tgt := 315) dX11_wantParts_308 (by decide) c73 ?_
                      refine g_iconst (pc := 315) (v := (0 : Int32)) dX11_wantParts_315 (by decide) ?_
                      obtain rfl := Option.some.inj hf
                      exact g_zret (pc := 316) rfl rfl dX11_wantParts_316
                    · refine g_ifeq_f (pc := 308) (tgt := 315) dX11_wantParts_308 (by decide) c73 ?_
                      refine g_iconst (pc := 311) (v := (1 : Int32)) dX11_wantParts_311 (by decide) ?_
                      refine g_goto (pc := 312) (tgt := 316) dX11_wantParts_312 (by decide) ?_
                      obtain rfl := Option.some.inj hf
                      exact g_zret (pc := 316) rfl rfl dX11_wantParts_316
          ·
            rcases it_some hf with ⟨c74, hf⟩ | ⟨c74, hf⟩
            · refine g_tsw (pc := 20) (tgt := 317) (5 : Int32) dX11_wantParts_20 c74 (by decide +kernel) (by decide +kernel) (off := 297) (by decide +kernel) (by decide) ?_
              refine g_aload_n (pc := 317) 1 dX11_wantParts_317 rfl rfl ?_
              refine g_bipush (pc := 318) (v := (7 : Int32)) dX11_wantParts_318 (by decide) ?_
              obtain ⟨g75, hf⟩ := gs_some hf
              obtain ⟨q76, hcq76, hf⟩ := bd_some hf
              refine g_cVI (pc := 320) (k2 := k_X11_wantRegister) (av := [.int (7 : Int32)]) (q := q76) rfl dX11_wantParts_320 ck_X11_wantRegister m_1713 m_1715 m_67 (ci := 9) rfl (by decide) g75 (by decide) (by decide) rfl (by simp [rf_cat, rq_cat, ca_i, ca_l, ca_r]) (ct_X11_wantRegister l X hcq76) ?_
              rcases it_some hf with ⟨c77, hf⟩ | ⟨c77, hf⟩
              · refine g_ifeq_t (pc := 323) (tgt := 345) dX11_wantParts_323 (by decide) c77 ?_
                refine g_iconst (pc := 345) (v := (0 : Int32)) dX11_wantParts_345 (by decide) ?_
                obtain rfl := Option.some.inj hf
                exact g_zret (pc := 346) rfl rfl dX11_wantParts_346
              · refine g_ifeq_f (pc := 323) (tgt := 345) dX11_wantParts_323 (by decide) c77 ?_
                refine g_aload_n (pc := 326) 1 dX11_wantParts_326 rfl rfl ?_
                obtain ⟨g78, hf⟩ := gs_some hf
                obtain ⟨q79, hcq79, hf⟩ := bd_some hf
                refine g_cVI (pc := 327) (k2 := k_X11_wantComma) (av := []) (q := q79) rfl dX11_wantParts_327 ck_X11_wantComma m_1720 m_1722 m_68 (ci := 9) rfl (by decide) g78 (by decide) (by decide) rfl (by simp [rf_cat, rq_cat, ca_i, ca_l, ca_r]) (ct_X11_wantComma l X hcq79) ?_
                rcases it_some hf with ⟨c80, hf⟩ | ⟨c80, hf⟩
                · refine g_ifeq_t (pc := 330) (tgt := 345) dX11_wantParts_330 (by decide) c80 ?_
                  refine g_iconst (pc := 345) (v := (0 : Int32)) dX11_wantParts_345 (by decide) ?_
                  obtain rfl := Option.some.inj hf
                  exact g_zret (pc := 346) rfl rfl dX11_wantParts_346
                · refine g_ifeq_f (pc := 330) (tgt := 345) dX11_wantParts_330 (by decide) c80 ?_
                  refine g_aload_n (pc := 333) 1 dX11_wantParts_333 rfl rfl ?_
                  refine g_iconst (pc := 334) (v := (3 : Int32)) dX11_wantParts_334 (by decide) ?_
                  obtain ⟨g81, hf⟩ := gs_some hf
                  obtain ⟨q82, hcq82, hf⟩ := bd_some hf
                  refine g_cVI (pc := 335) (k2 := k_X11_wantN) (av := [.int (3 : Int32)]) (q := q82) rfl dX11_wantParts_335 ck_X11_wantN m_1732 m_1734 m_71 (ci := 9) rfl (by decide) g81 (by decide) (by decide) rfl (by simp [rf_cat, rq_cat, ca_i, ca_l, ca_r]) (ct_X11_wantN l X hcq82) ?_
                  rcases it_some hf with ⟨c83, hf⟩ | ⟨c83, hf⟩
                  · refine g_ifeq_t (pc := 338) (tgt := 345) dX11_wantParts_338 (by decide) c83 ?_
                    refine g_iconst (pc := 345) (v := (0 : Int32)) dX11_wantParts_345 (by decide) ?_
                    obtain rfl := Option.some.inj hf
                    exact g_zret (pc := 346) rfl rfl dX11_wantParts_346
                  · refine g_ifeq_f (pc := 338) (tgt := 345) dX11_wantParts_338 (by decide) c83 ?_
                    refine g_iconst (pc := 341) (v := (1 : Int32)) dX11_wantParts_341 (by decide) ?_
                    refine g_goto (pc := 342) (tgt := 346) dX11_wantParts_342 (by decide) ?_
                    obtain rfl := Option.some.inj hf
                    exact g_zret (pc := 346) rfl rfl dX11_wantParts_346
            ·
              rcases it_some hf with ⟨c84, hf⟩ | ⟨c84, hf⟩
              · refine g_tsw (pc := 20) (tgt := 347) (6 : Int32) dX11_wantParts_20 c84 (by decide +kernel) (by decide +kernel) (off := 327) (by decide +kernel) (by decide) ?_
                refine g_aload_n (pc := 347) 1 dX11_wantParts_347 rfl rfl ?_
                refine g_bipush (pc := 348) (v := (7 : Int32)) dX11_wantParts_348 (by decide) ?_
                obtain ⟨g85, hf⟩ := gs_some hf
                obtain ⟨q86, hcq86, hf⟩ := bd_some hf
                refine g_cVI (pc := 350) (k2 := k_X11_wantRegister) (av := [.int (7 : Int32)]) (q := q86) rfl dX11_wantParts_350 ck_X11_wantRegister m_1713 m_1715 m_67 (ci := 9) rfl (by decide) g85 (by decide) (by decide) rfl (by simp [rf_cat, rq_cat, ca_i, ca_l, ca_r]) (ct_X11_wantRegister l X hcq86) ?_
                refine g_sub [1] rfl ?_
                exact ok_X11_wantParts_L353 l X q86.2 a0 q86.1 q hf
              ·
                rcases it_some hf with ⟨c87, hf⟩ | ⟨c87, hf⟩
                · refine g_tsw (pc := 20) (tgt := 377) (7 : Int32) dX11_wantParts_20 c87 (by decide +kernel) (by decide +kernel) (off := 357) (by decide +kernel) (by decide) ?_
                  refine g_aload_n (pc := 377) 1 dX11_wantParts_377 rfl rfl ?_
                  refine g_bipush (pc := 378) (v := (7 : Int32)) dX11_wantParts_378 (by decide) ?_
                  obtain ⟨g88, hf⟩ := gs_some hf
                  obtain ⟨q89, hcq89, hf⟩ := bd_some hf
                  refine g_cVI (pc := 380) (k2 := k_X11_wantRegister) (av := [.int (7 : Int32)]) (q := q89) rfl dX11_wantParts_380 ck_X11_wantRegister m_1713 m_1715 m_67 (ci := 9) rfl (by decide) g88 (by decide) (by decide) rfl (by simp [rf_cat, rq_cat, ca_i, ca_l, ca_r]) (ct_X11_wantRegister l X hcq89) ?_
                  rcases it_some hf with ⟨c90, hf⟩ | ⟨c90, hf⟩
                  · refine g_ifeq_t (pc := 383) (tgt := 420) dX11_wantParts_383 (by decide) c90 ?_
                    refine g_iconst (pc := 420) (v := (0 : Int32)) dX11_wantParts_420 (by decide) ?_
                    obtain rfl := Option.some.inj hf
                    exact g_zret (pc := 421) rfl rfl dX11_wantParts_421
                  · refine g_ifeq_f (pc := 383) (tgt := 420) dX11_wantParts_383 (by decide) c90 ?_
                    refine g_aload_n (pc := 386) 1 dX11_wantParts_386 rfl rfl ?_
                    obtain ⟨g91, hf⟩ := gs_some hf
                    obtain ⟨q92, hcq92, hf⟩ := bd_some hf
                    refine g_cVI (pc := 387) (k2 := k_X11_wantComma) (av := []) (q := q92) rfl dX11_wantParts_387 ck_X11_wantComma m_1720 m_1722 m_68 (ci := 9) rfl (by decide) g91 (by decide) (by decide) rfl (by simp [rf_cat, rq_cat, ca_i, ca_l, ca_r]) (ct_X11_wantComma l X hcq92) ?_
                    rcases it_some hf with ⟨c93, hf⟩ | ⟨c93, hf⟩
                    · refine g_ifeq_t (pc := 390) (tgt := 420) dX11_wantParts_390 (by decide) c93 ?_
                      refine g_iconst (pc := 420) (v := (0 : Int32)) dX11_wantParts_420 (by decide) ?_
                      obtain rfl := Option.some.inj hf
                      exact g_zret (pc := 421) rfl rfl dX11_wantParts_421
                    · refine g_ifeq_f (pc := 390) (tgt := 420) dX11_wantParts_390 (by decide) c93 ?_
                      refine g_aload_n (pc := 393) 1 dX11_wantParts_393 rfl rfl ?_
                      refine g_bipush (pc := 394) (v := (20 : Int32)) dX11_wantParts_394 (by decide) ?_
                      obtain ⟨g94, hf⟩ := gs_some hf
                      obtain ⟨q95, hcq95, hf⟩ := bd_some hf
                      refine g_cVI (pc := 396) (k2 := k_X11_wantRegister) (av := [.int (20 : Int32)]) (q := q95) rfl dX11_wantParts_396 ck_X11_wantRegister m_1713 m_1715 m_67 (ci := 9) rfl (by decide) g94 (by decide) (by decide) rfl (by simp [rf_cat, rq_cat, ca_i, ca_l, ca_r]) (ct_X11_wantRegister l X hcq95) ?_
                      rcases it_some hf with ⟨c96, hf⟩ | ⟨c96, hf⟩
                      · refine g_ifeq_t (pc := 399) (tgt := 420) dX11_wantParts_399 (by decide) c96 ?_
                        refine g_iconst (pc := 420) (v := (0 : Int32)) dX11_wantParts_420 (by decide) ?_
                        obtain rfl := Option.some.inj hf
                        exact g_zret (pc := 421) rfl rfl dX11_wantParts_421
                      · refine g_ifeq_f (pc := 399) (tgt := 420) dX11_wantParts_399 (by decide) c96 ?_
                        refine g_aload_n (pc := 402) 1 dX11_wantParts_402 rfl rfl ?_
                        obtain ⟨g97, hf⟩ := gs_some hf
                        obtain ⟨q98, hcq98, hf⟩ := bd_some hf
                        refine g_cVI (pc := 403) (k2 := k_X11_wantComma) (av := []) (q := q98) rfl dX11_wantParts_403 ck_X11_wantComma m_1720 m_1722 m_68 (ci := 9) rfl (by decide) g97 (by decide) (by decide) rfl (by simp [rf_cat, rq_cat, ca_i, ca_l, ca_r]) (ct_X11_wantComma l X hcq98) ?_
                        rcases it_some hf with ⟨c99, hf⟩ | ⟨c99, hf⟩
                        · refine g_ifeq_t (pc := 406) (tgt := 420) dX11_wantParts_406 (by decide) c99 ?_
                          refine g_iconst (pc := 420) (v := (0 : Int32)) dX11_wantParts_420 (by decide) ?_
                          obtain rfl := Option.some.inj hf
                          exact g_zret (pc := 421) rfl rfl dX11_wantParts_421
                        · refine g_ifeq_f (pc := 406) (tgt := 420) dX11_wantParts_406 (by decide) c99 ?_
                          refine g_aload_n (pc := 409) 1 dX11_wantParts_409 rfl rfl ?_
                          obtain ⟨g100, hf⟩ := gs_some hf
                          obtain ⟨q101, hcq101, hf⟩ := bd_some hf
                          refine g_cVI (pc := 410) (k2 := k_X11_wantBase) (av := []) (q := q101) rfl dX11_wantParts_410 ck_X11_wantBase m_1759 m_1761 m_73 (ci := 9) rfl (by decide) g100 (by decide) (by decide) rfl (by simp [rf_cat, rq_cat, ca_i, ca_l, ca_r]) (ct_X11_wantBase l X hcq101) ?_
                          rcases it_some hf with ⟨c102, hf⟩ | ⟨c102, hf⟩
                          · refine g_ifeq_t (pc := 413) (tgt := 420) dX11_wantParts_413 (by decide) c102 ?_
                            refine g_iconst (pc := 420) (v := (0 : Int32)) dX11_wantParts_420 (by decide) ?_
                            obtain rfl := Option.some.inj hf
                            exact g_zret (pc := 421) rfl rfl dX11_wantParts_421
                          · refine g_ifeq_f (pc := 413) (tgt := 420) dX11_wantParts_413 (by decide) c102 ?_
                            refine g_iconst (pc := 416) (v := (1 : Int32)) dX11_wantParts_416 (by decide) ?_
                            refine g_goto (pc := 417) (tgt := 421) dX11_wantParts_417 (by decide) ?_
                            obtain rfl := Option.some.inj hf
                            exact g_zret (pc := 421) rfl rfl dX11_wantParts_421
                ·
                  rcases it_some hf with ⟨c103, hf⟩ | ⟨c103, hf⟩
                  · refine g_tsw (pc := 20) (tgt := 422) (9 : Int32) dX11_wantParts_20 c103 (by decide +kernel) (by decide +kernel) (off := 402) (by decide +kernel) (by decide) ?_
                    refine g_aload_n (pc := 422) 1 dX11_wantParts_422 rfl rfl ?_
                    refine g_bipush (pc := 423) (v := (7 : Int32)) dX11_wantParts_423 (by decide) ?_
                    obtain ⟨g104, hf⟩ := gs_some hf
                    obtain ⟨q105, hcq105, hf⟩ := bd_some hf
                    refine g_cVI (pc := 425) (k2 := k_X11_wantRegister) (av := [.int (7 : Int32)]) (q := q105) rfl dX11_wantParts_425 ck_X11_wantRegister m_1713 m_1715 m_67 (ci := 9) rfl (by decide) g104 (by decide) (by decide) rfl (by simp [rf_cat, rq_cat, ca_i, ca_l, ca_r]) (ct_X11_wantRegister l X hcq105) ?_
                    rcases it_some hf with ⟨c106, hf⟩ | ⟨c106, hf⟩
                    · refine g_ifeq_t (pc := 428) (tgt := 451) dX11_wantParts_428 (by decide) c106 ?_
                      refine g_iconst (pc := 451) (v := (0 : Int32)) dX11_wantParts_451 (by decide) ?_
                      obtain rfl := Option.some.inj hf
                      exact g_zret (pc := 452) rfl rfl dX11_wantParts_452
                    · refine g_ifeq_f (pc := 428) (tgt := 451) dX11_wantParts_428 (by decide) c106 ?_
                      refine g_aload_n (pc := 431) 1 dX11_wantParts_431 rfl rfl ?_
                      obtain ⟨g107, hf⟩ := gs_some hf
                      obtain ⟨q108, hcq108, hf⟩ := bd_some hf
                      refine g_cVI (pc := 432) (k2 := k_X11_wantComma) (av := []) (q := q108) rfl dX11_wantParts_432 ck_X11_wantComma m_1720 m_1722 m_68 (ci := 9) rfl (by decide) g107 (by decide) (by decide) rfl (by simp [rf_cat, rq_cat, ca_i, ca_l, ca_r]) (ct_X11_wantComma l X hcq108) ?_
                      rcases it_some hf with ⟨c109, hf⟩ | ⟨c109, hf⟩
                      · refine g_ifeq_t (pc := 435) (tgt := 451) dX11_wantParts_435 (by decide) c109 ?_
                        refine g_iconst (pc := 451) (v := (0 : Int32)) dX11_wantParts_451 (by decide) ?_
                        obtain rfl := Option.some.inj hf
                        exact g_zret (pc := 452) rfl rfl dX11_wantParts_452
                      · refine g_ifeq_f (pc := 435) (tgt := 451) dX11_wantParts_435 (by decide) c109 ?_
                        refine g_aload_n (pc := 438) 1 dX11_wantParts_438 rfl rfl ?_
                        refine g_bipush (pc := 439) (v := (15 : Int32)) dX11_wantParts_439 (by decide) ?_
                        obtain ⟨g110, hf⟩ := gs_some hf
                        obtain ⟨q111, hcq111, hf⟩ := bd_some hf
                        refine g_cVI (pc := 441) (k2 := k_X11_wantRegister) (av := [.int (15 : Int32)]) (q := q111) rfl dX11_wantParts_441 ck_X11_wantRegister m_1713 m_1715 m_67 (ci := 9) rfl (by decide) g110 (by decide) (by decide) rfl (by simp [rf_cat, rq_cat, ca_i, ca_l, ca_r]) (ct_X11_wantRegister l X hcq111) ?_
                        rcases it_some hf with ⟨c112, hf⟩ | ⟨c112, hf⟩
                        · refine g_ifeq_t (pc := 444) (tgt := 451) dX11_wantParts_444 (by decide) c112 ?_
                          refine g_iconst (pc := 451) (v := (0 : Int32)) dX11_wantParts_451 (by decide) ?_
                          obtain rfl := Option.some.inj hf
                          exact g_zret (pc := 452) rfl rfl dX11_wantParts_452
                        · refine g_ifeq_f (pc := 444) (tgt := 451) dX11_wantParts_444 (by decide) c112 ?_
                          refine g_iconst (pc := 447) (v := (1 : Int32)) dX11_wantParts_447 (by decide) ?_
                          refine g_goto (pc := 448) (tgt := 452) dX11_wantParts_448 (by decide) ?_
                          obtain rfl := Option.some.inj hf
                          exact g_zret (pc := 452) rfl rfl dX11_wantParts_452
                  ·
                    rcases it_some hf with ⟨c113, hf⟩ | ⟨c113, hf⟩
                    · refine g_tsw (pc := 20) (tgt := 453) (10 : Int32) dX11_wantParts_20 c113 (by decide +kernel) (by decide +kernel) (off := 433) (by decide +kernel) (by decide) ?_
                      refine g_aload_n (pc := 453) 1 dX11_wantParts_453 rfl rfl ?_
                      refine g_bipush (pc := 454) (v := (7 : Int32)) dX11_wantParts_454 (by decide) ?_
                      obtain ⟨g114, hf⟩ := gs_some hf
                      obtain ⟨q115, hcq115, hf⟩ := bd_some hf
                      refine g_cVI (pc := 456) (k2 := k_X11_wantRegister) (av := [.int (7 : Int32)]) (q := q115) rfl dX11_wantParts_456 ck_X11_wantRegister m_1713 m_1715 m_67 (ci := 9) rfl (by decide) g114 (by decide) (by decide) rfl (by simp [rf_cat, rq_cat, ca_i, ca_l, ca_r]) (ct_X11_wantRegister l X hcq115) ?_
                      rcases it_some hf with ⟨c116, hf⟩ | ⟨c116, hf⟩
                      · refine g_ifeq_t (pc := 459) (tgt := 482) dX11_wantParts_459 (by decide) c116 ?_
                        refine g_iconst (pc := 482) (v := (0 : Int32)) dX11_wantParts_482 (by decide) ?_
                        obtain rfl := Option.some.inj hf
                        exact g_zret (pc := 483) rfl rfl dX11_wantParts_483
                      · refine g_ifeq_f (pc := 459) (tgt := 482) dX11_wantParts_459 (by decide) c116 ?_
                        refine g_aload_n (pc := 462) 1 dX11_wantParts_462 rfl rfl ?_
                        obtain ⟨g117, hf⟩ := gs_some hf
                        obtain ⟨q118, hcq118, hf⟩ := bd_some hf
                        refine g_cVI (pc := 463) (k2 := k_X11_wantComma) (av := []) (q := q118) rfl dX11_wantParts_463 ck_X11_wantComma m_1720 m_1722 m_68 (ci := 9) rfl (by decide) g117 (by decide) (by decide) rfl (by simp [rf_cat, rq_cat, ca_i, ca_l, ca_r]) (ct_X11_wantComma l X hcq118) ?_
                        rcases it_some hf with ⟨c119, hf⟩ | ⟨c119, hf⟩
                        · refine g_ifeq_t (pc := 466) (tgt := 482) dX11_wantParts_466 (by decide) c119 ?_
                          refine g_iconst (pc := 482) (v := (0 : Int32)) dX11_wantParts_482 (by decide) ?_
                          obtain rfl := Option.some.inj hf
                          exact g_zret (pc := 483) rfl rfl dX11_wantParts_483
                        · refine g_ifeq_f (pc := 466) (tgt := 482) dX11_wantParts_466 (by decide) c119 ?_
                          refine g_aload_n (pc := 469) 1 dX11_wantParts_469 rfl rfl ?_
                          refine g_bipush (pc := 470) (v := (20 : Int32)) dX11_wantParts_470 (by decide) ?_
                          obtain ⟨g120, hf⟩ := gs_some hf
                          obtain ⟨q121, hcq121, hf⟩ := bd_some hf
                          refine g_cVI (pc := 472) (k2 := k_X11_wantRegister) (av := [.int (20 : Int32)]) (q := q121) rfl dX11_wantParts_472 ck_X11_wantRegister m_1713 m_1715 m_67 (ci := 9) rfl (by decide) g120 (by decide) (by decide) rfl (by simp [rf_cat, rq_cat, ca_i, ca_l, ca_r]) (ct_X11_wantRegister l X hcq121) ?_
                          rcases it_some hf with ⟨c122, hf⟩ | ⟨c122, hf⟩
                          · refine g_ifeq_t (pc := 475) (tgt := 482) dX11_wantParts_475 (by decide) c122 ?_
                            refine g_iconst (pc := 482) (v := (0 : Int32)) dX11_wantParts_482 (by decide) ?_
                            obtain rfl := Option.some.inj hf
                            exact g_zret (pc := 483) rfl rfl dX11_wantParts_483
                          · refine g_ifeq_f (pc := 475) (tgt := 482) dX11_wantParts_475 (by decide) c122 ?_
                            refine g_iconst (pc := 478) (v := (1 : Int32)) dX11_wantParts_478 (by decide) ?_
                            refine g_goto (pc := 479) (tgt := 483) dX11_wantParts_479 (by decide) ?_
                            obtain rfl := Option.some.inj hf
                            exact g_zret (pc := 483) rfl rfl dX11_wantParts_483
                    ·
                      rcases it_some hf with ⟨c123, hf⟩ | ⟨c123, hf⟩
                      · refine g_tsw (pc := 20) (tgt := 484) (11 : Int32) dX11_wantParts_20 c123 (by decide +kernel) (by decide +kernel) (off := 464) (by decide +kernel) (by decide) ?_
                        refine g_aload_n (pc := 484) 1 dX11_wantParts_484 rfl rfl ?_
                        refine g_iconst (pc := 485) (v := (4 : Int32)) dX11_wantParts_485 (by decide) ?_
                        obtain ⟨g124, hf⟩ := gs_some hf
                        obtain ⟨q125, hcq125, hf⟩ := bd_some hf
                        refine g_cVI (pc := 486) (k2 := k_X11_wantN) (av := [.int (4 : Int32)]) (q := q125) rfl dX11_wantParts_486 ck_X11_wantN m_1732 m_1734 m_71 (ci := 9) rfl (by decide) g124 (by decide) (by decide) rfl (by simp [rf_cat, rq_cat, ca_i, ca_l, ca_r]) (ct_X11_wantN l X hcq125) ?_
                        refine g_sub [] rfl ?_
                        exact ok_X11_wantParts_L489 l X q125.2 q125.1 q hf
                      ·
                        rcases it_some hf with ⟨c126, hf⟩ | ⟨c126, hf⟩
                        · refine g_tsw (pc := 20) (tgt := 490) (12 : Int32) dX11_wantParts_20 c126 (by decide +kernel) (by decide +kernel) (off := 470) (by decide +kernel) (by decide) ?_
                          refine g_aload_n (pc := 490) 1 dX11_wantParts_490 rfl rfl ?_
                          refine g_bipush (pc := 491) (v := (15 : Int32)) dX11_wantParts_491 (by decide) ?_
                          obtain ⟨g127, hf⟩ := gs_some hf
                          obtain ⟨q128, hcq128, hf⟩ := bd_some hf
                          refine g_cVI (pc := 493) (k2 := k_X11_wantRegister) (av := [.int (15 : Int32)]) (q := q128) rfl dX11_wantParts_493 ck_X11_wantRegister m_1713 m_1715 m_67 (ci := 9) rfl (by decide) g127 (by decide) (by decide) rfl (by simp [rf_cat, rq_cat, ca_i, ca_l, ca_r]) (ct_X11_wantRegister l X hcq128) ?_
                          rcases it_some hf with ⟨c129, hf⟩ | ⟨c129, hf⟩
                          · refine g_ifeq_t (pc := 496) (tgt := 518) dX11_wantParts_496 (by decide) c129 ?_
                            refine g_iconst (pc := 518) (v := (0 : Int32)) dX11_wantParts_518 (by decide) ?_
                            obtain rfl := Option.some.inj hf
                            exact g_zret (pc := 519) rfl rfl dX11_wantParts_519
                          · refine g_ifeq_f (pc := 496) (tgt := 518) dX11_wantParts_496 (by decide) c129 ?_
                            refine g_aload_n (pc := 499) 1 dX11_wantParts_499 rfl rfl ?_
                            obtain ⟨g130, hf⟩ := gs_some hf
                            obtain ⟨q131, hcq131, hf⟩ := bd_some hf
                            refine g_cVI (pc := 500) (k2 := k_X11_wantComma) (av := []) (q := q131) rfl dX11_wantParts_500 ck_X11_wantComma m_1720 m_1722 m_68 (ci := 9) rfl (by decide) g130 (by decide) (by decide) rfl (by simp [rf_cat, rq_cat, ca_i, ca_l, ca_r]) (ct_X11_wantComma l X hcq131) ?_
                            rcases it_some hf with ⟨c132, hf⟩ | ⟨c132, hf⟩
                            · refine g_ifeq_t (pc := 503) (tgt := 518) dX11_wantParts_503 (by decide) c132 ?_
                              refine g_iconst (pc := 518) (v := (0 : Int32)) dX11_wantParts_518 (by decide) ?_
                              obtain rfl := Option.some.inj hf
                              exact g_zret (pc := 519) rfl rfl dX11_wantParts_519
                            · refine g_ifeq_f (pc := 503) (tgt := 518) dX11_wantParts_503 (by decide) c132 ?_
                              refine g_aload_n (pc := 506) 1 dX11_wantParts_506 rfl rfl ?_
                              refine g_iconst (pc := 507) (v := (2 : Int32)) dX11_wantParts_507 (by decide) ?_
                              obtain ⟨g133, hf⟩ := gs_some hf
                              obtain ⟨q134, hcq134, hf⟩ := bd_some hf
                              refine g_cVI (pc := 508) (k2 := k_X11_wantN) (av := [.int (2 : Int32)]) (q := q134) rfl dX11_wantParts_508 ck_X11_wantN m_1732 m_1734 m_71 (ci := 9) rfl (by decide) g133 (by decide) (by decide) rfl (by simp [rf_cat, rq_cat, ca_i, ca_l, ca_r]) (ct_X11_wantN l X hcq134) ?_
                              rcases it_some hf with ⟨c135, hf⟩ | ⟨c135, hf⟩
                              · refine g_ifeq_t (pc := 511) (tgt := 518) dX11_wantParts_511 (by decide) c135 ?_
                                refine g_iconst (pc := 518) (v := (0 : Int32)) dX11_wantParts_518 (by decide) ?_
                                obtain rfl := Option.some.inj hf
                                exact g_zret (pc := 519) rfl rfl dX11_wantParts_519
                              · refine g_ifeq_f (pc := 511) (tgt := 518) dX11_wantParts_511 (by decide) c135 ?_
                                refine g_iconst (pc := 514) (v := (1 : Int32)) dX11_wantParts_514 (by decide) ?_
                                refine g_goto (pc := 515) (tgt := 519) dX11_wantParts_515 (by decide) ?_
                                obtain rfl := Option.some.inj hf
                                exact g_zret (pc := 519) rfl rfl dX11_wantParts_519
                        ·
                          rcases it_some hf with ⟨c136, hf⟩ | ⟨c136, hf⟩
                          · refine g_tsw (pc := 20) (tgt := 520) (13 : Int32) dX11_wantParts_20 c136 (by decide +kernel) (by decide +kernel) (off := 500) (by decide +kernel) (by decide) ?_
                            refine g_aload_n (pc := 520) 1 dX11_wantParts_520 rfl rfl ?_
                            refine g_bipush (pc := 521) (v := (7 : Int32)) dX11_wantParts_521 (by decide) ?_
                            obtain ⟨g137, hf⟩ := gs_some hf
                            obtain ⟨q138, hcq138, hf⟩ := bd_some hf
                            refine g_cVI (pc := 523) (k2 := k_X11_wantRegister) (av := [.int (7 : Int32)]) (q := q138) rfl dX11_wantParts_523 ck_X11_wantRegister m_1713 m_1715 m_67 (ci := 9) rfl (by decide) g137 (by decide) (by decide) rfl (by simp [rf_cat, rq_cat, ca_i, ca_l, ca_r]) (ct_X11_wantRegister l X hcq138) ?_
                            rcases it_some hf with ⟨c139, hf⟩ | ⟨c139, hf⟩
                            · refine g_ifeq_t (pc := 526) (tgt := 548) dX11_wantParts_526 (by decide) c139 ?_
                              refine g_iconst (pc := 548) (v := (0 : Int32)) dX11_wantParts_548 (by decide) ?_
                              obtain rfl := Option.some.inj hf
                              exact g_zret (pc := 549) rfl rfl dX11_wantParts_549
                            · refine g_ifeq_f (pc := 526) (tgt := 548) dX11_wantParts_526 (by decide) c139 ?_
                              refine g_aload_n (pc := 529) 1 dX11_wantParts_529 rfl rfl ?_
                              obtain ⟨g140, hf⟩ := gs_some hf
                              obtain ⟨q141, hcq141, hf⟩ := bd_some hf
                              refine g_cVI (pc := 530) (k2 := k_X11_wantComma) (av := []) (q := q141) rfl dX11_wantParts_530 ck_X11_wantComma m_1720 m_1722 m_68 (ci := 9) rfl (by decide) g140 (by decide) (by decide) rfl (by simp [rf_cat, rq_cat, ca_i, ca_l, ca_r]) (ct_X11_wantComma l X hcq141) ?_
                              rcases it_some hf with ⟨c142, hf⟩ | ⟨c142, hf⟩
                              · refine g_ifeq_t (pc := 533) (tgt := 548) dX11_wantParts_533 (by decide) c142 ?_
                                refine g_iconst (pc := 548) (v := (0 : Int32)) dX11_wantParts_548 (by decide) ?_
                                obtain rfl := Option.some.inj hf
                                exact g_zret (pc := 549) rfl rfl dX11_wantParts_549
                              · refine g_ifeq_f (pc := 533) (tgt := 548) dX11_wantParts_533 (by decide) c142 ?_
                                refine g_aload_n (pc := 536) 1 dX11_wantParts_536 rfl rfl ?_
                                refine g_iconst (pc := 537) (v := (5 : Int32)) dX11_wantParts_537 (by decide) ?_
                                obtain ⟨g143, hf⟩ := gs_some hf
                                obtain ⟨q144, hcq144, hf⟩ := bd_some hf
                                refine g_cVI (pc := 538) (k2 := k_X11_wantN) (av := [.int (5 : Int32)]) (q := q144) rfl dX11_wantParts_538 ck_X11_wantN m_1732 m_1734 m_71 (ci := 9) rfl (by decide) g143 (by decide) (by decide) rfl (by simp [rf_cat, rq_cat, ca_i, ca_l, ca_r]) (ct_X11_wantN l X hcq144) ?_
                                rcases it_some hf with ⟨c145, hf⟩ | ⟨c145, hf⟩
                                · refine g_ifeq_t (pc := 541) (tgt := 548) dX11_wantParts_541 (by decide) c145 ?_
                                  refine g_iconst (pc := 548) (v := (0 : Int32)) dX11_wantParts_548 (by decide) ?_
                                  obtain rfl := Option.some.inj hf
                                  exact g_zret (pc := 549) rfl rfl dX11_wantParts_549
                                · refine g_ifeq_f (pc := 541) (tgt := 548) dX11_wantParts_541 (by decide) c145 ?_
                                  refine g_iconst (pc := 544) (v := (1 : Int32)) dX11_wantParts_544 (by decide) ?_
                                  refine g_goto (pc := 545) (tgt := 549) dX11_wantParts_545 (by decide) ?_
                                  obtain rfl := Option.some.inj hf
                                  exact g_zret (pc := 549) rfl rfl dX11_wantParts_549
                          ·
                            rcases it_some hf with ⟨c146, hf⟩ | ⟨c146, hf⟩
                            · refine g_tsw (pc := 20) (tgt := 550) (14 : Int32) dX11_wantParts_20 c146 (by decide +kernel) (by decide +kernel) (off := 530) (by decide +kernel) (by decide) ?_
                              refine g_aload_n (pc := 550) 1 dX11_wantParts_550 rfl rfl ?_
                              refine g_iconst (pc := 551) (v := (5 : Int32)) dX11_wantParts_551 (by decide) ?_
                              obtain ⟨g147, hf⟩ := gs_some hf
                              obtain ⟨q148, hcq148, hf⟩ := bd_some hf
                              refine g_cVI (pc := 552) (k2 := k_X11_wantN) (av := [.int (5 : Int32)]) (q := q148) rfl dX11_wantParts_552 ck_X11_wantN m_1732 m_1734 m_71 (ci := 9) rfl (by decide) g147 (by decide) (by decide) rfl (by simp [rf_cat, rq_cat, ca_i, ca_l, ca_r]) (ct_X11_wantN l X hcq148) ?_
                              obtain ⟨b149, hf⟩ := gb_some hf
                              obtain rfl := Option.some.inj hf
                              exact g_zret (pc := 555) rfl b149 dX11_wantParts_555
                            ·
                              rcases it_some hf with ⟨c150, hf⟩ | ⟨c150, hf⟩
                              · refine g_tsw (pc := 20) (tgt := 556) (15 : Int32) dX11_wantParts_20 c150 (by decide +kernel) (by decide +kernel) (off := 536) (by decide +kernel) (by decide) ?_
                                refine g_aload_n (pc := 556) 1 dX11_wantParts_556 rfl rfl ?_
                                refine g_iconst (pc := 557) (v := (1 : Int32)) dX11_wantParts_557 (by decide) ?_
                                refine g_lconst (pc := 558) (v := (0 : Int64)) dX11_wantParts_558 (by decide) ?_
                                refine g_ldc2 (pc := 559) (v := (8188 : Int64)) m_1763 dX11_wantParts_559 ?_
                                refine g_iconst (pc := 562) (v := (4 : Int32)) dX11_wantParts_562 (by decide) ?_
                                obtain ⟨g151, hf⟩ := gs_some hf
                                obtain ⟨q152, hcq152, hf⟩ := bd_some hf
                                refine g_cVI (pc := 563) (k2 := k_X11_wantNumber) (av := [.int (1 : Int32), .long (0 : Int64), .long (8188 : Int64), .int (4 : Int32)]) (q := q152) rfl dX11_wantParts_563 ck_X11_wantNumber m_1755 m_1757 m_72 (ci := 9) rfl (by decide) g151 (by decide) (by decide) rfl (by simp [rf_cat, rq_cat, ca_i, ca_l, ca_r]) (ct_X11_wantNumber l X hcq152) ?_
                                obtain ⟨b153, hf⟩ := gb_some hf
                                obtain rfl := Option.some.inj hf
                                exact g_zret (pc := 566) rfl b153 dX11_wantParts_566
                              ·
                                rcases it_some hf with ⟨c154, hf⟩ | ⟨c154, hf⟩
                                · refine g_tsw (pc := 20) (tgt := 567) (16 : Int32) dX11_wantParts_20 c154 (by decide +kernel) (by decide +kernel) (off := 547) (by decide +kernel) (by decide) ?_
                                  refine g_aload_n (pc := 567) 1 dX11_wantParts_567 rfl rfl ?_
                                  refine g_iconst (pc := 568) (v := (1 : Int32)) dX11_wantParts_568 (by decide) ?_
                                  refine g_lconst (pc := 569) (v := (0 : Int64)) dX11_wantParts_569 (by decide) ?_
                                  refine g_ldc2 (pc := 570) (v := (15 : Int64)) m_1764 dX11_wantParts_570 ?_
                                  refine g_iconst (pc := 573) (v := (1 : Int32)) dX11_wantParts_573 (by decide) ?_
                                  obtain ⟨g155, hf⟩ := gs_some hf
                                  obtain ⟨q156, hcq156, hf⟩ := bd_some hf
                                  refine g_cVI (pc := 574) (k2 := k_X11_wantNumber) (av := [.int (1 : Int32), .long (0 : Int64), .long (15 : Int64), .int (1 : Int32)]) (q := q156) rfl dX11_wantParts_574 ck_X11_wantNumber m_1755 m_1757 m_72 (ci := 9) rfl (by decide) g155 (by decide) (by decide) rfl (by simp [rf_cat, rq_cat, ca_i, ca_l, ca_r]) (ct_X11_wantNumber l X hcq156) ?_
                                  obtain ⟨b157, hf⟩ := gb_some hf
                                  obtain rfl := Option.some.inj hf
                                  exact g_zret (pc := 577) rfl b157 dX11_wantParts_577
                                ·
                                  refine g_tswD (pc := 20) (tgt := 578) [(0 : Int32), (1 : Int32), (2 : Int32), (3 : Int32), (4 : Int32), (5 : Int32), (6 : Int32), (7 : Int32), (9 : Int32), (10 : Int32), (11 : Int32), (12 : Int32), (13 : Int32), (14 : Int32), (15 : Int32), (16 : Int32)] dX11_wantParts_20 (cons_ne c1 (cons_ne c17 (cons_ne c33 (cons_ne c45 (cons_ne c58 (cons_ne c74 (cons_ne c84 (cons_ne c87 (cons_ne c103 (cons_ne c113 (cons_ne c123 (cons_ne c126 (cons_ne c136 (cons_ne c146 (cons_ne c150 (cons_ne c154 nil_ne)))))))))))))))) (by decide +kernel) (by decide +kernel) (by decide) ?_
                                  refine g_iconst (pc := 578) (v := (1 : Int32)) dX11_wantParts_578 (by decide) ?_
                                  obtain rfl := Option.some.inj hf
                                  exact g_zret (pc := 579) rfl rfl dX11_wantParts_579
def f_X11_wantParts_L17 (h : AH) (a0 : Nat) (a1 : Int32) : Option (Int32 × AH) :=
  f_X11_wantParts_L18 h a0 a1 (0 : Int32)
set_option maxRecDepth 100000 in
set_option maxHeartbeats 4000000 in
theorem ok_X11_wantParts_L17 (l : Launch) (X : Cx) (h : AH) (a0 : Nat) (a1 : Int32) (q : Int32 × AH) (hf : f_X11_wantParts_L17 h a0 a1 = some q) : Go l X k_X11_wantParts 17 [(0, rf X a0), (1, .int a1)] [] h (rI q) := by
  unfold f_X11_wantParts_L17 at hf
  refine g_iconst (pc := 17) (v := (0 : Int32)) dX11_wantParts_17 (by decide) ?_
  exact ok_X11_wantParts_L18 l X h a0 a1 (0 : Int32) q hf
def f_X11_wantParts (h : AH) (a0 : Nat) (a1 : Int32) (a2 : Int32) : Option (Int32 × AH) :=
  if a2 ≤ (15 : Int32) then
    f_X11_wantParts_L17 h a0 a1
  else
    if (19 : Int32) ≤ a2 then
      f_X11_wantParts_L17 h a0 a1
    else
      f_X11_wantParts_L18 h a0 a1 (6 : Int32)
set_option maxRecDepth 100000 in
set_option maxHeartbeats 4000000 in
theorem ok_X11_wantParts (l : Launch) (X : Cx) {h : AH} {a0 : Nat} {a1 : Int32} {a2 : Int32} {q : Int32 × AH} (hf : f_X11_wantParts h a0 a1 a2 = some q) : Go l X k_X11_wantParts 0 [(0, rf X a0), (1, .int a1), (2, .int a2)] [] h (rI q) := by
  unfold f_X11_wantParts at hf
  refine g_iload_n (pc := 0) 2 dX11_wantParts_0 rfl rfl ?_
  refine g_bipush (pc := 1) (v := (15 : Int32)) dX11_wantParts_1 (by decide) ?_
  rcases it_some hf with ⟨c1, hf⟩ | ⟨c1, hf⟩
  · refine g_icle_t (pc := 3) (tgt := 17) dX11_wantParts_3 (by decide) c1 ?_
    refine g_sub [0, 1] rfl ?_
    exact ok_X11_wantParts_L17 l X h a0 a1 q hf
  · refine g_icle_f (pc := 3) (tgt := 17) dX11_wantParts_3 (by decide) c1 ?_
    refine g_iload_n (pc := 6) 2 dX11_wantParts_6 rfl rfl ?_
    refine g_bipush (pc := 7) (v := (19 : Int32)) dX11_wantParts_7 (by decide) ?_
    rcases it_some hf with ⟨c2, hf⟩ | ⟨c2, hf⟩
    · refine g_icge_t (pc := 9) (tgt := 17) dX11_wantParts_9 (by decide) c2 ?_
      refine g_sub [0, 1] rfl ?_
      exact ok_X11_wantParts_L17 l X h a0 a1 q hf
    · refine g_icge_f (pc := 9) (tgt := 17) dX11_wantParts_9 (by decide) c2 ?_
      refine g_bipush (pc := 12) (v := (6 : Int32)) dX11_wantParts_12 (by decide) ?_
      refine g_goto (pc := 14) (tgt := 18) dX11_wantParts_14 (by decide) ?_
      refine g_sub [0, 1] rfl ?_
      exact ok_X11_wantParts_L18 l X h a0 a1 (6 : Int32) q hf
theorem ct_X11_wantParts (l : Launch) (X : Cx) {h : AH} {a0 : Nat} {a1 : Int32} {a2 : Int32} {q : Int32 × AH} (hf : f_X11_wantParts h a0 a1 a2 = some q) : Ct l X k_X11_wantParts [rf X a0, .int a1, .int a2] h (rI q) := ct_of ck_X11_wantParts (by simp [lg_sl, rf_cat, rq_cat, ca_i, ca_l, ca_r]) (by simp [lv_args, rf_cat, rq_cat, ca_i, ca_l, ca_r]) (ok_X11_wantParts l X hf)
