def f_X6_send_L137 (k103 : AH → Nat → Nat → Int32 → Int32 → Int32 → Option (AH)) (h : AH) (a0 : Nat) (a5 : Nat) (a6 : Int32) (a7 : Int32) (a8 : Int32) (s0 : Nat) (s1 : Int32) (s2 : Int32) : Option (AH) :=
  gs h s0 21 <|
  gb (ib s1 (hN h s0)) <|
  lt (sI h s0 s1.toNatClampNeg s2) fun h3 =>
  lt (a8 + (1 : Int32)) fun x4 =>
  k103 h3 a0 a5 a6 a7 x4
set_option maxRecDepth 100000 in
set_option maxHeartbeats 4000000 in
theorem ok_X6_send_L137 (l : Launch) (X : Cx) (k103 : AH → Nat → Nat → Int32 → Int32 → Int32 → Option (AH)) (hk103 : ∀ (h : AH) (a0 : Nat) (a5 : Nat) (a6 : Int32) (a7 : Int32) (a8 : Int32) (q : AH), k103 h a0 a5 a6 a7 a8 = some q → Go l X k_X6_send 103 [(0, rf X a0), (5, rf X a5), (6, .int a6), (7, .int a7), (8, .int a8)] [] h (rV q)) (h : AH) (a0 : Nat) (a5 : Nat) (a6 : Int32) (a7 : Int32) (a8 : Int32) (s0 : Nat) (s1 : Int32) (s2 : Int32) (q : AH) (hf : f_X6_send_L137 k103 h a0 a5 a6 a7 a8 s0 s1 s2 = some q) : Go l X k_X6_send 137 [(0, rf X a0), (5, rf X a5), (6, .int a6), (7, .int a7), (8, .int a8)] [.int s2, .int s1, rf X s0] h (rV q) := by
  unfold f_X6_send_L137 at hf
  obtain ⟨g1, hf⟩ := gs_some hf
  obtain ⟨b2, hf⟩ := gb_some hf
  obtain ⟨h3, eh3, hf⟩ := lt_some hf
  refine g_iast (pc := 137) g1 b2 dX6_send_137 eh3 ?_
  obtain ⟨x4, ex4, hf⟩ := lt_some hf
  refine g_iinc (pc := 138) (y := x4) (L' := [(8, .int x4), (0, rf X a0), (5, rf X a5), (6, .int a6), (7, .int a7)]) 4 dX6_send_138 rfl (by decide) (ex4.trans rfl) rfl ?_
  refine g_goto (pc := 141) (tgt := 103) dX6_send_141 (by decide) ?_
  refine g_sub [1, 2, 3, 4, 0] rfl ?_
  exact hk103 h3 a0 a5 a6 a7 x4 q hf
def f_X6_send_L103 : Nat → AH → Nat → Nat → Int32 → Int32 → Int32 → Option (AH)
  | 0, _, _, _, _, _, _ => none
  | n + 1, h, a0, a5, a6, a7, a8 =>
    if (4 : Int32) ≤ a8 then
      gs h a0 5 <|
      lt (sI h a0 1 ((hI h a0 1) + (1 : Int32))) fun h3 =>
      some h3
    else
      gs h a0 5 <|
      if a5 = 0 then
        f_X6_send_L137 (f_X6_send_L103 n) h a0 a5 a6 a7 a8 (hR h a0 0) ((a7 + (5 : Int32)) + a8) (0 : Int32)
      else
        gs h a5 21 <|
        gb (ib (a6 + a8) (hN h a5)) <|
        f_X6_send_L137 (f_X6_send_L103 n) h a0 a5 a6 a7 a8 (hR h a0 0) ((a7 + (5 : Int32)) + a8) (hI h a5 (a6 + a8).toNatClampNeg)
set_option maxRecDepth 100000 in
set_option maxHeartbeats 4000000 in
theorem ok_X6_send_L103 (l : Launch) (X : Cx) : ∀ (n : Nat) (h : AH) (a0 : Nat) (a5 : Nat) (a6 : Int32) (a7 : Int32) (a8 : Int32) (q : AH), f_X6_send_L103 n h a0 a5 a6 a7 a8 = some q → Go l X k_X6_send 103 [(0, rf X a0), (5, rf X a5), (6, .int a6), (7, .int a7), (8, .int a8)] [] h (rV q) := by
  intro n
  induction n with
  | zero =>
    intro h a0 a5 a6 a7 a8 q hf
    unfold f_X6_send_L103 at hf
    cases hf
  | succ n ih =>
    intro h a0 a5 a6 a7 a8 q hf
    unfold f_X6_send_L103 at hf
    refine g_iload (pc := 103) 4 dX6_send_103 rfl ?_
    refine g_iconst (pc := 105) (v := (4 : Int32)) dX6_send_105 (by decide) ?_
    rcases it_some hf with ⟨c1, hf⟩ | ⟨c1, hf⟩
    · refine g_icge_t (pc := 106) (tgt := 144) dX6_send_106 (by decide) c1 ?_
      refine g_aload_n (pc := 144) 0 dX6_send_144 rfl rfl ?_
      refine g_dup (pc := 145) dX6_send_145 (rf_cat X _) ?_
      obtain ⟨g2, hf⟩ := gs_some hf
      refine g_getI (pc := 146) fl_X6_18 dX6_send_146 g2 ?_
      refine g_iconst (pc := 149) (v := (1 : Int32)) dX6_send_149 (by decide) ?_
      refine g_iadd (pc := 150) dX6_send_150 ?_
      obtain ⟨h3, eh3, hf⟩ := lt_some hf
      refine g_putI (pc := 151) fl_X6_18 dX6_send_151 g2 eh3 ?_
      obtain rfl := Option.some.inj hf
      exact g_vret (pc := 154) rfl dX6_send_154
    · refine g_icge_f (pc := 106) (tgt := 144) dX6_send_106 (by decide) c1 ?_
      refine g_aload_n (pc := 109) 0 dX6_send_109 rfl rfl ?_
      obtain ⟨g4, hf⟩ := gs_some hf
      refine g_getR (pc := 110) fl_X6_11 dX6_send_110 g4 ?_
      refine g_iload (pc := 113) 3 dX6_send_113 rfl ?_
      refine g_iconst (pc := 115) (v := (5 : Int32)) dX6_send_115 (by decide) ?_
      refine g_iadd (pc := 116) dX6_send_116 ?_
      refine g_iload (pc := 117) 4 dX6_send_117 rfl ?_
      refine g_iadd (pc := 119) dX6_send_119 ?_
      refine g_aload (pc := 120) 1 dX6_send_120 rfl ?_
      rcases it_some hf with ⟨c5, hf⟩ | ⟨c5, hf⟩
      · refine g_ifnonnull_0 (pc := 122) (tgt := 129) dX6_send_122 (by decide) c5 ?_
        refine g_iconst (pc := 125) (v := (0 : Int32)) dX6_send_125 (by decide) ?_
        refine g_goto (pc := 126) (tgt := 137) dX6_send_126 (by decide) ?_
        exact ok_X6_send_L137 l X (f_X6_send_L103 n) ih h a0 a5 a6 a7 a8 (hR h a0 0) ((a7 + (5 : Int32)) + a8) (0 : Int32) q hf
      · refine g_ifnonnull_1 (pc := 122) (tgt := 129) dX6_send_122 (by decide) c5 ?_
        refine g_aload (pc := 129) 1 dX6_send_129 rfl ?_
        refine g_iload (pc := 131) 2 dX6_send_131 rfl ?_
        refine g_iload (pc := 133) 4 dX6_send_133 rfl ?_
        refine g_iadd (pc := 135) dX6_send_135 ?_
        obtain ⟨g6, hf⟩ := gs_some hf
        obtain ⟨b7, hf⟩ := gb_some hf
        refine g_iald (pc := 136) g6 b7 dX6_send_136 ?_
        exact ok_X6_send_L137 l X (f_X6_send_L103 n) ih h a0 a5 a6 a7 a8 (hR h a0 0) ((a7 + (5 : Int32)) + a8) (hI h a5 (a6 + a8).toNatClampNeg) q hf
def f_X6_send_L99 (h : AH) (a0 : Nat) (a5 : Nat) (a6 : Int32) (a7 : Int32) (s0 : Nat) (s1 : Int32) (s2 : Int32) : Option (AH) :=
  gs h s0 21 <|
  gb (ib s1 (hN h s0)) <|
  lt (sI h s0 s1.toNatClampNeg s2) fun h3 =>
  lt ((0 : Int32)) fun x4 =>
  f_X6_send_L103 FU h3 a0 a5 a6 a7 x4
set_option maxRecDepth 100000 in
set_option maxHeartbeats 4000000 in
theorem ok_X6_send_L99 (l : Launch) (X : Cx) (h : AH) (a0 : Nat) (a5 : Nat) (a6 : Int32) (a7 : Int32) (s0 : Nat) (s1 : Int32) (s2 : Int32) (q : AH) (hf : f_X6_send_L99 h a0 a5 a6 a7 s0 s1 s2 = some q) : Go l X k_X6_send 99 [(0, rf X a0), (5, rf X a5), (6, .int a6), (7, .int a7)] [.int s2, .int s1, rf X s0] h (rV q) := by
  unfold f_X6_send_L99 at hf
  obtain ⟨g1, hf⟩ := gs_some hf
  obtain ⟨b2, hf⟩ := gb_some hf
  obtain ⟨h3, eh3, hf⟩ := lt_some hf
  refine g_iast (pc := 99) g1 b2 dX6_send_99 eh3 ?_
  refine g_iconst (pc := 100) (v := (0 : Int32)) dX6_send_100 (by decide) ?_
  obtain ⟨x4, ex4, hf⟩ := lt_some hf
  refine g_istore (pc := 101) (L' := [(8, .int x4), (0, rf X a0), (5, rf X a5), (6, .int a6), (7, .int a7)]) dX6_send_101 (by decide) ex4 rfl ?_
  refine g_sub [1, 2, 3, 4, 0] rfl ?_
  exact ok_X6_send_L103 l X FU h3 a0 a5 a6 a7 x4 q hf
def f_X6_send_L40 (h : AH) (a0 : Nat) (a1 : Int32) (a2 : Int32) (a3 : Int32) (a4 : Int32) (a5 : Nat) (a6 : Int32) (a7 : Int32) : Option (AH) :=
  gs h a0 5 <|
  gs h (hR h a0 0) 21 <|
  gb (ib (a7 + (0 : Int32)) (hN h (hR h a0 0))) <|
  lt (sI h (hR h a0 0) (a7 + (0 : Int32)).toNatClampNeg a1) fun h4 =>
  gs h4 (hR h4 a0 0) 21 <|
  gb (ib (a7 + (1 : Int32)) (hN h4 (hR h4 a0 0))) <|
  lt (sI h4 (hR h4 a0 0) (a7 + (1 : Int32)).toNatClampNeg a2) fun h8 =>
  gs h8 (hR h8 a0 0) 21 <|
  gb (ib (a7 + (2 : Int32)) (hN h8 (hR h8 a0 0))) <|
  lt (sI h8 (hR h8 a0 0) (a7 + (2 : Int32)).toNatClampNeg a3) fun h12 =>
  gs h12 (hR h12 a0 0) 21 <|
  gb (ib (a7 + (3 : Int32)) (hN h12 (hR h12 a0 0))) <|
  lt (sI h12 (hR h12 a0 0) (a7 + (3 : Int32)).toNatClampNeg a4) fun h16 =>
  if a5 = 0 then
    f_X6_send_L99 h16 a0 a5 a6 a7 (hR h16 a0 0) (a7 + (4 : Int32)) (0 : Int32)
  else
    f_X6_send_L99 h16 a0 a5 a6 a7 (hR h16 a0 0) (a7 + (4 : Int32)) (1 : Int32)
set_option maxRecDepth 100000 in
set_option maxHeartbeats 4000000 in
theorem ok_X6_send_L40 (l : Launch) (X : Cx) (h : AH) (a0 : Nat) (a1 : Int32) (a2 : Int32) (a3 : Int32) (a4 : Int32) (a5 : Nat) (a6 : Int32) (a7 : Int32) (q : AH) (hf : f_X6_send_L40 h a0 a1 a2 a3 a4 a5 a6 a7 = some q) : Go l X k_X6_send 40 [(0, rf X a0), (1, .int a1), (2, .int a2), (3, .int a3), (4, .int a4), (5, rf X a5), (6, .int a6), (7, .int a7)] [] h (rV q) := by
  unfold f_X6_send_L40 at hf
  refine g_aload_n (pc := 40) 0 dX6_send_40 rfl rfl ?_
  obtain ⟨g1, hf⟩ := gs_some hf
  refine g_getR (pc := 41) fl_X6_11 dX6_send_41 g1 ?_
  refine g_iload (pc := 44) 7 dX6_send_44 rfl ?_
  refine g_iconst (pc := 46) (v := (0 : Int32)) dX6_send_46 (by decide) ?_
  refine g_iadd (pc := 47) dX6_send_47 ?_
  refine g_iload_n (pc := 48) 1 dX6_send_48 rfl rfl ?_
  obtain ⟨g2, hf⟩ := gs_some hf
  obtain ⟨b3, hf⟩ := gb_some hf
  obtain ⟨h4, eh4, hf⟩ := lt_some hf
  refine g_iast (pc := 49) g2 b3 dX6_send_49 eh4 ?_
  refine g_aload_n (pc := 50) 0 dX6_send_50 rfl rfl ?_
  have g5 : hS h4 a0 = 5 := (hS_tI eh4 g1)
  refine g_getR (pc := 51) fl_X6_11 dX6_send_51 g5 ?_
  refine g_iload (pc := 54) 7 dX6_send_54 rfl ?_
  refine g_iconst (pc := 56) (v := (1 : Int32)) dX6_send_56 (by decide) ?_
  refine g_iadd (pc := 57) dX6_send_57 ?_
  refine g_iload_n (pc := 58) 2 dX6_send_58 rfl rfl ?_
  obtain ⟨g6, hf⟩ := gs_some hf
  obtain ⟨b7, hf⟩ := gb_some hf
  obtain ⟨h8, eh8, hf⟩ := lt_some hf
  refine g_iast (pc := 59) g6 b7 dX6_send_59 eh8 ?_
  refine g_aload_n (pc := 60) 0 dX6_send_60 rfl rfl ?_
  have g9 : hS h8 a0 = 5 := (hS_tI eh8 g5)
  refine g_getR (pc := 61) fl_X6_11 dX6_send_61 g9 ?_
  refine g_iload (pc := 64) 7 dX6_send_64 rfl ?_
  refine g_iconst (pc := 66) (v := (2 : Int32)) dX6_send_66 (by decide) ?_
  refine g_iadd (pc := 67) dX6_send_67 ?_
  refine g_iload_n (pc := 68) 3 dX6_send_68 rfl rfl ?_
  obtain ⟨g10, hf⟩ := gs_some hf
  obtain ⟨b11, hf⟩ := gb_some hf
  obtain ⟨h12, eh12, hf⟩ := lt_some hf
  refine g_iast (pc := 69) g10 b11 dX6_send_69 eh12 ?_
  refine g_aload_n (pc := 70) 0 dX6_send_70 rfl rfl ?_
  have g13 : hS h12 a0 = 5 := (hS_tI eh12 g9)
  refine g_getR (pc := 71) fl_X6_11 dX6_send_71 g13 ?_
  refine g_iload (pc := 74) 7 dX6_send_74 rfl ?_
  refine g_iconst (pc := 76) (v := (3 : Int32)) dX6_send_76 (by decide) ?_
  refine g_iadd (pc := 77) dX6_send_77 ?_
  refine g_iload (pc := 78) 4 dX6_send_78 rfl ?_
  obtain ⟨g14, hf⟩ := gs_some hf
  obtain ⟨b15, hf⟩ := gb_some hf
  obtain ⟨h16, eh16, hf⟩ := lt_some hf
  refine g_iast (pc := 80) g14 b15 dX6_send_80 eh16 ?_
  refine g_aload_n (pc := 81) 0 dX6_send_81 rfl rfl ?_
  have g17 : hS h16 a0 = 5 := (hS_tI eh16 g13)
  refine g_getR (pc := 82) fl_X6_11 dX6_send_82 g17 ?_
  refine g_iload (pc := 85) 7 dX6_send_85 rfl ?_
  refine g_iconst (pc := 87) (v := (4 : Int32)) dX6_send_87 (by decide) ?_
  refine g_iadd (pc := 88) dX6_send_88 ?_
  refine g_aload (pc := 89) 5 dX6_send_89 rfl ?_
  rcases it_some hf with ⟨c18, hf⟩ | ⟨c18, hf⟩
  · refine g_ifnonnull_0 (pc := 91) (tgt := 98) dX6_send_91 (by decide) c18 ?_
    refine g_iconst (pc := 94) (v := (0 : Int32)) dX6_send_94 (by decide) ?_
    refine g_goto (pc := 95) (tgt := 99) dX6_send_95 (by decide) ?_
    refine g_sub [0, 5, 6, 7] rfl ?_
    exact ok_X6_send_L99 l X h16 a0 a5 a6 a7 (hR h16 a0 0) (a7 + (4 : Int32)) (0 : Int32) q hf
  · refine g_ifnonnull_1 (pc := 91) (tgt := 98) dX6_send_91 (by decide) c18 ?_
    refine g_iconst (pc := 98) (v := (1 : Int32)) dX6_send_98 (by decide) ?_
    refine g_sub [0, 5, 6, 7] rfl ?_
    exact ok_X6_send_L99 l X h16 a0 a5 a6 a7 (hR h16 a0 0) (a7 + (4 : Int32)) (1 : Int32) q hf
def f_X6_send (h : AH) (a0 : Nat) (a1 : Int32) (a2 : Int32) (a3 : Int32) (a4 : Int32) (a5 : Nat) (a6 : Int32) : Option (AH) :=
  gs h a0 5 <|
  lt (((hI h a0 1) * (9 : Int32))) fun x2 =>
  gs h (hR h a0 0) 21 <|
  if (x2 + (9 : Int32)) ≤ (nI (hN h (hR h a0 0))) then
    f_X6_send_L40 h a0 a1 a2 a3 a4 a5 a6 x2
  else
    bd (f_J7_copyOf_59c91 h (hR h a0 0) ((nI (hN h (hR h a0 0))) * (2 : Int32))) fun q5 =>
    gs q5.2 a0 5 <|
    lt (sR q5.2 a0 0 q5.1) fun h7 =>
    f_X6_send_L40 h7 a0 a1 a2 a3 a4 a5 a6 x2
set_option maxRecDepth 100000 in
set_option maxHeartbeats 4000000 in
theorem ok_X6_send (l : Launch) (X : Cx) {h : AH} {a0 : Nat} {a1 : Int32} {a2 : Int32} {a3 : Int32} {a4 : Int32} {a5 : Nat} {a6 : Int32} {q : AH} (hf : f_X6_send h a0 a1 a2 a3 a4 a5 a6 = some q) : Go l X k_X6_send 0 [(0, rf X a0), (1, .int a1), (2, .int a2), (3, .int a3), (4, .int a4), (5, rf X a5), (6, .int a6)] [] h (rV q) := by
  unfold f_X6_send at hf
  refine g_aload_n (pc := 0) 0 dX6_send_0 rfl rfl ?_
  obtain ⟨g1, hf⟩ := gs_some hf
  refine g_getI (pc := 1) fl_X6_18 dX6_send_1 g1 ?_
  refine g_bipush (pc := 4) (v := (9 : Int32)) dX6_send_4 (by decide) ?_
  refine g_imul (pc := 6) dX6_send_6 ?_
  obtain ⟨x2, ex2, hf⟩ := lt_some hf
  refine g_istore (pc := 7) (L' := [(7, .int x2), (0, rf X a0), (1, .int a1), (2, .int a2), (3, .int a3), (4, .int a4), (5, rf X a5), (6, .int a6)]) dX6_send_7 (by decide) ex2 rfl ?_
  refine g_iload (pc := 9) 0 dX6_send_9 rfl ?_
  refine g_bipush (pc := 11) (v := (9 : Int32)) dX6_send_11 (by decide) ?_
  refine g_iadd (pc := 13) dX6_send_13 ?_
  refine g_aload_n (pc := 14) 1 dX6_send_14 rfl rfl ?_
  refine g_getR (pc := 15) fl_X6_11 dX6_send_15 g1 ?_
  obtain ⟨g3, hf⟩ := gs_some hf
  refine g_alen (pc := 18) 0 rfl g3 (by decide) dX6_send_18 ?_
  rcases it_some hf with ⟨c4, hf⟩ | ⟨c4, hf⟩
  · refine g_icle_t (pc := 19) (tgt := 40) dX6_send_19 (by decide) c4 ?_
    refine g_sub [1, 2, 3, 4, 5, 6, 7, 0] rfl ?_
    exact ok_X6_send_L40 l X h a0 a1 a2 a3 a4 a5 a6 x2 q hf
  · refine g_icle_f (pc := 19) (tgt := 40) dX6_send_19 (by decide) c4 ?_
    refine g_aload_n (pc := 22) 1 dX6_send_22 rfl rfl ?_
    refine g_aload_n (pc := 23) 1 dX6_send_23 rfl rfl ?_
    refine g_getR (pc := 24) fl_X6_11 dX6_send_24 g1 ?_
    refine g_aload_n (pc := 27) 1 dX6_send_27 rfl rfl ?_
    refine g_getR (pc := 28) fl_X6_11 dX6_send_28 g1 ?_
    refine g_alen (pc := 31) 0 rfl g3 (by decide) dX6_send_31 ?_
    refine g_iconst (pc := 32) (v := (2 : Int32)) dX6_send_32 (by decide) ?_
    refine g_imul (pc := 33) dX6_send_33 ?_
    obtain ⟨q5, hcq5, hf⟩ := bd_some hf
    refine g_cSR (pc := 34) (k2 := k_J7_copyOf_59c91) (av := [rf X (hR h a0 0), .int ((nI (hN h (hR h a0 0))) * (2 : Int32))]) (q := q5) rfl dX6_send_34 ck_J7_copyOf_59c91 m_585 m_586 (by decide) (by decide) rfl (by simp [rf_cat, rq_cat, ca_i, ca_l, ca_r]) (ct_J7_copyOf_59c91 l X hcq5) ?_
    obtain ⟨g6, hf⟩ := gs_some hf
    obtain ⟨h7, eh7, hf⟩ := lt_some hf
    refine g_putR (pc := 37) fl_X6_11 (Or.inr ⟨_, rfl⟩) dX6_send_37 g6 eh7 ?_
    refine g_sub [1, 2, 3, 4, 5, 6, 7, 0] rfl ?_
    exact ok_X6_send_L40 l X h7 a0 a1 a2 a3 a4 a5 a6 x2 q hf
theorem ct_X6_send (l : Launch) (X : Cx) {h : AH} {a0 : Nat} {a1 : Int32} {a2 : Int32} {a3 : Int32} {a4 : Int32} {a5 : Nat} {a6 : Int32} {q : AH} (hf : f_X6_send h a0 a1 a2 a3 a4 a5 a6 = some q) : Ct l X k_X6_send [rf X a0, .int a1, .int a2, .int a3, .int a4, rf X a5, .int a6] h (rV q) := ct_of ck_X6_send (by simp [lg_sl, rf_cat, rq_cat, ca_i, ca_l, ca_r]) (by simp [lv_args, rf_cat, rq_cat, ca_i, ca_l, ca_r]) (ok_X6_send l X hf)
def f_X3_makeRoom_L92 (h : AH) (a0 : Nat) (a2 : Int32) : Option (Int32 × AH) :=
  gs h a0 3 <|
  gs h (hR h a0 6) 2 <|
  gs h (hR h (hR h a0 6) 1) 21 <|
  gb (ib a2 (hN h (hR h (hR h a0 6) 1))) <|
  lt (sI h (hR h (hR h a0 6) 1) a2.toNatClampNeg (0 : Int32)) fun h5 =>
  some ((1 : Int32), h5)
set_option maxRecDepth 100000 in
set_option maxHeartbeats 4000000 in
theorem ok_X3_makeRoom_L92 (l : Launch) (X : Cx) (h : AH) (a0 : Nat) (a2 : Int32) (q : Int32 × AH) (hf : f_X3_makeRoom_L92 h a0 a2 = some q) : Go l X k_X3_makeRoom 92 [(0, rf X a0), (2, .int a2)] [] h (rI q) := by
  unfold f_X3_makeRoom_L92 at hf
  refine g_aload_n (pc := 92) 0 dX3_makeRoom_92 rfl rfl ?_
  obtain ⟨g1, hf⟩ := gs_some hf
  refine g_getR (pc := 93) fl_X3_25 dX3_makeRoom_93 g1 ?_
  obtain ⟨g2, hf⟩ := gs_some hf
  refine g_getR (pc := 96) fl_X3_226 dX3_makeRoom_96 g2 ?_
  refine g_iload_n (pc := 99) 1 dX3_makeRoom_99 rfl rfl ?_
  refine g_iconst (pc := 100) (v := (0 : Int32)) dX3_makeRoom_100 (by decide) ?_
  obtain ⟨g3, hf⟩ := gs_some hf
  obtain ⟨b4, hf⟩ := gb_some hf
  obtain ⟨h5, eh5, hf⟩ := lt_some hf
  refine g_iast (pc := 101) g3 b4 dX3_makeRoom_101 eh5 ?_
  refine g_iconst (pc := 102) (v := (1 : Int32)) dX3_makeRoom_102 (by decide) ?_
  obtain rfl := Option.some.inj hf
  exact g_zret (pc := 103) rfl rfl dX3_makeRoom_103
def f_X3_makeRoom (h : AH) (a0 : Nat) (a1 : Int32) : Option (Int32 × AH) :=
  gs h a0 3 <|
  gs h (hR h a0 6) 2 <|
  bd (f_X2_slotFor h (hR h a0 6) a1) fun v3 =>
  gs h (hR h (hR h a0 6) 1) 21 <|
  gb (ib v3 (hN h (hR h (hR h a0 6) 1))) <|
  if (hI h (hR h (hR h a0 6) 1) v3.toNatClampNeg) < (2 : Int32) then
    f_X3_makeRoom_L92 h a0 v3
  else
    if (hI h a0 8) = (-1 : Int32) then
      gs h (hR h (hR h a0 6) 0) 21 <|
      gb (ib v3 (hN h (hR h (hR h a0 6) 0))) <|
      lt (sI h a0 8 (hI h (hR h (hR h a0 6) 0) v3.toNatClampNeg)) fun h10 =>
      lt (sI h10 a0 9 (0 : Int32)) fun h12 =>
      gs h12 (hR h12 a0 6) 2 <|
      gs h12 (hR h12 (hR h12 a0 6) 3) 21 <|
      gs h12 (hR h12 a0 10) 21 <|
      gb (cpok (v3 * (4 : Int32)) (0 : Int32) (4 : Int32) (hN h12 (hR h12 (hR h12 a0 6) 3)) (hN h12 (hR h12 a0 10))) <|
      lt (sA h12 (hR h12 a0 10) (va_cpy (hI h12 (hR h12 (hR h12 a0 6) 3)) (hI h12 (hR h12 a0 10)) (v3 * (4 : Int32)).toNatClampNeg (0 : Int32).toNatClampNeg (4 : Int32).toNatClampNeg)) fun h18 =>
      gs h18 (hR h18 a0 1) 5 <|
      bd (f_X6_send h18 (hR h18 a0 1) (2 : Int32) (hI h18 a0 0) (16 : Int32) (hI h18 a0 8) (hR h18 a0 10) (0 : Int32)) fun q21 =>
      f_X3_makeRoom_L92 q21 a0 v3
    else
      some ((0 : Int32), h)
set_option maxRecDepth 100000 in
set_option maxHeartbeats 4000000 in
theorem ok_X3_makeRoom (l : Launch) (X : Cx) {h : AH} {a0 : Nat} {a1 : Int32} {q : Int32 × AH} (hf : f_X3_makeRoom h a0 a1 = some q) : Go l X k_X3_makeRoom 0 [(0, rf X a0), (1, .int a1)] [] h (rI q) := by
  unfold f_X3_makeRoom at hf
  refine g_aload_n (pc := 0) 0 dX3_makeRoom_0 rfl rfl ?_
  obtain ⟨g1, hf⟩ := gs_some hf
  refine g_getR (pc := 1) fl_X3_25 dX3_makeRoom_1 g1 ?_
  refine g_iload_n (pc := 4) 1 dX3_makeRoom_4 rfl rfl ?_
  obtain ⟨g2, hf⟩ := gs_some hf
  obtain ⟨v3, hcv3, hf⟩ := bd_some hf
  refine g_cVI (pc := 5) (k2 := k_X2_slotFor) (av := [.int a1]) (q := (v3, h)) rfl dX3_makeRoom_5 ck_X2_slotFor m_1031 m_663 m_664 (ci := 1) rfl (by decide) g2 (by decide) (by decide) rfl (by simp [rf_cat, rq_cat, ca_i, ca_l, ca_r]) (ct_X2_slotFor l X hcv3) ?_
  refine g_istore_n (pc := 8) (L' := [(2, .int v3), (0, rf X a0), (1, .int a1)]) dX3_makeRoom_8 rfl (by decide) rfl rfl ?_
  refine g_aload_n (pc := 9) 1 dX3_makeRoom_9 rfl rfl ?_
  refine g_getR (pc := 10) fl_X3_25 dX3_makeRoom_10 g1 ?_
  refine g_getR (pc := 13) fl_X3_226 dX3_makeRoom_13 g2 ?_
  refine g_iload_n (pc := 16) 0 dX3_makeRoom_16 rfl rfl ?_
  obtain ⟨g4, hf⟩ := gs_some hf
  obtain ⟨b5, hf⟩ := gb_some hf
  refine g_iald (pc := 17) g4 b5 dX3_makeRoom_17 ?_
  refine g_iconst (pc := 18) (v := (2 : Int32)) dX3_makeRoom_18 (by decide) ?_
  rcases it_some hf with ⟨c6, hf⟩ | ⟨c6, hf⟩
  · refine g_iclt_t (pc := 19) (tgt := 92) dX3_makeRoom_19 (by decide) c6 ?_
    refine g_sub [1, 0] rfl ?_
    exact ok_X3_makeRoom_L92 l X h a0 v3 q hf
  · refine g_iclt_f (pc := 19) (tgt := 92) dX3_makeRoom_19 (by decide) c6 ?_
    refine g_aload_n (pc := 22) 1 dX3_makeRoom_22 rfl rfl ?_
    refine g_getI (pc := 23) fl_X3_72 dX3_makeRoom_23 g1 ?_
    refine g_iconst (pc := 26) (v := (-1 : Int32)) dX3_makeRoom_26 (by decide) ?_
    rcases it_some hf with ⟨c7, hf⟩ | ⟨c7, hf⟩
    · refine g_iceq_t (pc := 27) (tgt := 32) dX3_makeRoom_27 (by decide) c7 ?_
      refine g_aload_n (pc := 32) 1 dX3_makeRoom_32 rfl rfl ?_
      refine g_aload_n (pc := 33) 1 dX3_makeRoom_33 rfl rfl ?_
      refine g_getR (pc := 34) fl_X3_25 dX3_makeRoom_34 g1 ?_
      refine g_getR (pc := 37) fl_X3_241 dX3_makeRoom_37 g2 ?_
      refine g_iload_n (pc := 40) 0 dX3_makeRoom_40 rfl rfl ?_
      obtain ⟨g8, hf⟩ := gs_some hf
      obtain ⟨b9, hf⟩ := gb_some hf
      refine g_iald (pc := 41) g8 b9 dX3_makeRoom_41 ?_
      obtain ⟨h10, eh10, hf⟩ := lt_some hf
      refine g_putI (pc := 42) fl_X3_72 dX3_makeRoom_42 g1 eh10 ?_
      refine g_aload_n (pc := 45) 1 dX3_makeRoom_45 rfl rfl ?_
      refine g_iconst (pc := 46) (v := (0 : Int32)) dX3_makeRoom_46 (by decide) ?_
      have g11 : hS h10 a0 = 3 := (hS_tI eh10 g1)
      obtain ⟨h12, eh12, hf⟩ := lt_some hf
      refine g_putZ (pc := 47) fl_X3_75 dX3_makeRoom_47 g11 rfl eh12 ?_
      refine g_aload_n (pc := 50) 1 dX3_makeRoom_50 rfl rfl ?_
      have g13 : hS h12 a0 = 3 := (hS_tI eh12 g11)
      refine g_getR (pc := 51) fl_X3_25 dX3_makeRoom_51 g13 ?_
      obtain ⟨g14, hf⟩ := gs_some hf
      refine g_getR (pc := 54) fl_X3_199 dX3_makeRoom_54 g14 ?_
      refine g_iload_n (pc := 57) 0 dX3_makeRoom_57 rfl rfl ?_
      refine g_iconst (pc := 58) (v := (4 : Int32)) dX3_makeRoom_58 (by decide) ?_
      refine g_imul (pc := 59) dX3_makeRoom_59 ?_
      refine g_aload_n (pc := 60) 1 dX3_makeRoom_60 rfl rfl ?_
      refine g_getR (pc := 61) fl_X3_36 dX3_makeRoom_61 g13 ?_
      refine g_iconst (pc := 64) (v := (0 : Int32)) dX3_makeRoom_64 (by decide) ?_
      refine g_iconst (pc := 65) (v := (4 : Int32)) dX3_makeRoom_65 (by decide) ?_
      obtain ⟨g15, hf⟩ := gs_some hf
      obtain ⟨g16, hf⟩ := gs_some hf
      obtain ⟨b17, hf⟩ := gb_some hf
      obtain ⟨h18, eh18, hf⟩ := lt_some hf
      refine g_copy (pc := 66) acy_X3_244 g15 g16 b17 (by decide) (by decide) (by simp [rf_cat, rq_cat, ca_i, ca_l, ca_r]) dX3_makeRoom_66 eh18 ?_
      refine g_aload_n (pc := 69) 1 dX3_makeRoom_69 rfl rfl ?_
      have g19 : hS h18 a0 = 3 := (hS_tA eh18 g13)
      refine g_getR (pc := 70) fl_X3_43 dX3_makeRoom_70 g19 ?_
      refine g_iconst (pc := 73) (v := (2 : Int32)) dX3_makeRoom_73 (by decide) ?_
      refine g_aload_n (pc := 74) 1 dX3_makeRoom_74 rfl rfl ?_
      refine g_getI (pc := 75) fl_X3_39 dX3_makeRoom_75 g19 ?_
      refine g_bipush (pc := 78) (v := (16 : Int32)) dX3_makeRoom_78 (by decide) ?_
      refine g_aload_n (pc := 80) 1 dX3_makeRoom_80 rfl rfl ?_
      refine g_getI (pc := 81) fl_X3_72 dX3_makeRoom_81 g19 ?_
      refine g_aload_n (pc := 84) 1 dX3_makeRoom_84 rfl rfl ?_
      refine g_getR (pc := 85) fl_X3_36 dX3_makeRoom_85 g19 ?_
      refine g_iconst (pc := 88) (v := (0 : Int32)) dX3_makeRoom_88 (by decide) ?_
      obtain ⟨g20, hf⟩ := gs_some hf
      obtain ⟨q21, hcq21, hf⟩ := bd_some hf
      refine g_cVV (pc := 89) (k2 := k_X6_send) (av := [.int (2 : Int32), .int (hI h18 a0 0), .int (16 : Int32), .int (hI h18 a0 8), rf X (hR h18 a0 10), .int (0 : Int32)]) (q := q21) rfl dX3_makeRoom_89 ck_X6_send m_655 m_582 m_583 (ci := 4) rfl (by decide) g20 (by decide) (by decide) rfl (by simp [rf_cat, rq_cat, ca_i, ca_l, ca_r]) (ct_X6_send l X hcq21) ?_
      refine g_sub [1, 0] rfl ?_
      exact ok_X3_makeRoom_L92 l X q21 a0 v3 q hf
    · refine g_iceq_f (pc := 27) (tgt := 32) dX3_makeRoom_27 (by decide) c7 ?_
      refine g_iconst (pc := 30) (v := (0 : Int32)) dX3_makeRoom_30 (by decide) ?_
      obtain rfl := Option.some.inj hf
      exact g_zret (pc := 31) rfl rfl dX3_makeRoom_31
theorem ct_X3_makeRoom (l : Launch) (X : Cx) {h : AH} {a0 : Nat} {a1 : Int32} {q : Int32 × AH} (hf : f_X3_makeRoom h a0 a1 = some q) : Ct l X k_X3_makeRoom [rf X a0, .int a1] h (rI q) := ct_of ck_X3_makeRoom (by simp [lg_sl, rf_cat, rq_cat, ca_i, ca_l, ca_r]) (by simp [lv_args, rf_cat, rq_cat, ca_i, ca_l, ca_r]) (ok_X3_makeRoom l X hf)
def f_X3_miss_L37 (h : AH) (a0 : Nat) (a1 : Int32) (a2 : Int32) : Option (AH) :=
  gs h a0 3 <|
  lt (sI h a0 11 a1) fun h2 =>
  lt (sI h2 a0 12 ((hI h2 a0 12) + (1 : Int32))) fun h4 =>
  gs h4 (hR h4 a0 1) 5 <|
  bd (f_X6_send h4 (hR h4 a0 1) a2 (hI h4 a0 0) (16 : Int32) a1 0 (0 : Int32)) fun q7 =>
  some q7
set_option maxRecDepth 100000 in
set_option maxHeartbeats 4000000 in
theorem ok_X3_miss_L37 (l : Launch) (X : Cx) (h : AH) (a0 : Nat) (a1 : Int32) (a2 : Int32) (q : AH) (hf : f_X3_miss_L37 h a0 a1 a2 = some q) : Go l X k_X3_miss 37 [(0, rf X a0), (1, .int a1), (2, .int a2)] [] h (rV q) := by
  unfold f_X3_miss_L37 at hf
  refine g_aload_n (pc := 37) 0 dX3_miss_37 rfl rfl ?_
  refine g_iload_n (pc := 38) 1 dX3_miss_38 rfl rfl ?_
  obtain ⟨g1, hf⟩ := gs_some hf
  obtain ⟨h2, eh2, hf⟩ := lt_some hf
  refine g_putI (pc := 39) fl_X3_79 dX3_miss_39 g1 eh2 ?_
  refine g_aload_n (pc := 42) 0 dX3_miss_42 rfl rfl ?_
  refine g_dup (pc := 43) dX3_miss_43 (rf_cat X _) ?_
  have g3 : hS h2 a0 = 3 := (hS_tI eh2 g1)
  refine g_getI (pc := 44) fl_X3_82 dX3_miss_44 g3 ?_
  refine g_iconst (pc := 47) (v := (1 : Int32)) dX3_miss_47 (by decide) ?_
  refine g_iadd (pc := 48) dX3_miss_48 ?_
  obtain ⟨h4, eh4, hf⟩ := lt_some hf
  refine g_putI (pc := 49) fl_X3_82 dX3_miss_49 g3 eh4 ?_
  refine g_aload_n (pc := 52) 0 dX3_miss_52 rfl rfl ?_
  have g5 : hS h4 a0 = 3 := (hS_tI eh4 g3)
  refine g_getR (pc := 53) fl_X3_43 dX3_miss_53 g5 ?_
  refine g_iload_n (pc := 56) 2 dX3_miss_56 rfl rfl ?_
  refine g_aload_n (pc := 57) 0 dX3_miss_57 rfl rfl ?_
  refine g_getI (pc := 58) fl_X3_39 dX3_miss_58 g5 ?_
  refine g_bipush (pc := 61) (v := (16 : Int32)) dX3_miss_61 (by decide) ?_
  refine g_iload_n (pc := 63) 1 dX3_miss_63 rfl rfl ?_
  refine g_null (pc := 64) dX3_miss_64 ?_
  refine g_iconst (pc := 65) (v := (0 : Int32)) dX3_miss_65 (by decide) ?_
  obtain ⟨g6, hf⟩ := gs_some hf
  obtain ⟨q7, hcq7, hf⟩ := bd_some hf
  refine g_cVV (pc := 66) (k2 := k_X6_send) (av := [.int a2, .int (hI h4 a0 0), .int (16 : Int32), .int a1, rf X 0, .int (0 : Int32)]) (q := q7) rfl dX3_miss_66 ck_X6_send m_655 m_582 m_583 (ci := 4) rfl (by decide) g6 (by decide) (by decide) rfl (by simp [rf_cat, rq_cat, ca_i, ca_l, ca_r]) (ct_X6_send l X hcq7) ?_
  obtain rfl := Option.some.inj hf
  exact g_vret (pc := 69) rfl dX3_miss_69
def f_X3_miss (h : AH) (a0 : Nat) (a1 : Int32) (a2 : Int32) : Option (AH) :=
  gs h a0 3 <|
  if ¬ (hI h a0 11) = (-1 : Int32) then
    some h
  else
    if ¬ (hI h a0 8) = a1 then
      gs h (hR h a0 6) 2 <|
      bd (f_X2_find h (hR h a0 6) a1) fun v5 =>
      if 0 ≤ v5 then
        f_X3_miss_L37 h a0 a1 a2
      else
        bd (f_X3_makeRoom h a0 a1) fun q7 =>
        if ¬ q7.1 = 0 then
          f_X3_miss_L37 q7.2 a0 a1 a2
        else
          some q7.2
    else
      some h
set_option maxRecDepth 100000 in
set_option maxHeartbeats 4000000 in
theorem ok_X3_miss (l : Launch) (X : Cx) {h : AH} {a0 : Nat} {a1 : Int32} {a2 : Int32} {q : AH} (hf : f_X3_miss h a0 a1 a2 = some q) : Go l X k_X3_miss 0 [(0, rf X a0), (1, .int a1), (2, .int a2)] [] h (rV q) := by
  unfold f_X3_miss at hf
  refine g_aload_n (pc := 0) 0 dX3_miss_0 rfl rfl ?_
  obtain ⟨g1, hf⟩ := gs_some hf
  refine g_getI (pc := 1) fl_X3_79 dX3_miss_1 g1 ?_
  refine g_iconst (pc := 4) (v := (-1 : Int32)) dX3_miss_4 (by decide) ?_
  rcases it_some hf with ⟨c2, hf⟩ | ⟨c2, hf⟩
  · refine g_icne_t (pc := 5) (tgt := 16) dX3_miss_5 (by decide) c2 ?_
    obtain rfl := Option.some.inj hf
    exact g_vret (pc := 16) rfl dX3_miss_16
  · refine g_icne_f (pc := 5) (tgt := 16) dX3_miss_5 (by decide) (Decidable.of_not_not c2) ?_
    refine g_aload_n (pc := 8) 0 dX3_miss_8 rfl rfl ?_
    refine g_getI (pc := 9) fl_X3_72 dX3_miss_9 g1 ?_
    refine g_iload_n (pc := 12) 1 dX3_miss_12 rfl rfl ?_
    rcases it_some hf with ⟨c3, hf⟩ | ⟨c3, hf⟩
    · refine g_icne_t (pc := 13) (tgt := 17) dX3_miss_13 (by decide) c3 ?_
      refine g_aload_n (pc := 17) 0 dX3_miss_17 rfl rfl ?_
      refine g_getR (pc := 18) fl_X3_25 dX3_miss_18 g1 ?_
      refine g_iload_n (pc := 21) 1 dX3_miss_21 rfl rfl ?_
      obtain ⟨g4, hf⟩ := gs_some hf
      obtain ⟨v5, hcv5, hf⟩ := bd_some hf
      refine g_cVI (pc := 22) (k2 := k_X2_find) (av := [.int a1]) (q := (v5, h)) rfl dX3_miss_22 ck_X2_find m_651 m_652 m_653 (ci := 1) rfl (by decide) g4 (by decide) (by decide) rfl (by simp [rf_cat, rq_cat, ca_i, ca_l, ca_r]) (ct_X2_find l X hcv5) ?_
      rcases it_some hf with ⟨c6, hf⟩ | ⟨c6, hf⟩
      · refine g_ifge_t (pc := 25) (tgt := 37) dX3_miss_25 (by decide) c6 ?_
        exact ok_X3_miss_L37 l X h a0 a1 a2 q hf
      · refine g_ifge_f (pc := 25) (tgt := 37) dX3_miss_25 (by decide) c6 ?_
        refine g_aload_n (pc := 28) 0 dX3_miss_28 rfl rfl ?_
        refine g_iload_n (pc := 29) 1 dX3_miss_29 rfl rfl ?_
        obtain ⟨q7, hcq7, hf⟩ := bd_some hf
        refine g_cVI (pc := 30) (k2 := k_X3_makeRoom) (av := [.int a1]) (q := q7) rfl dX3_miss_30 ck_X3_makeRoom m_1027 m_1029 m_43 (ci := 2) rfl (by decide) g1 (by decide) (by decide) rfl (by simp [rf_cat, rq_cat, ca_i, ca_l, ca_r]) (ct_X3_makeRoom l X hcq7) ?_
        rcases it_some hf with ⟨c8, hf⟩ | ⟨c8, hf⟩
        · refine g_ifne_t (pc := 33) (tgt := 37) dX3_miss_33 (by decide) c8 ?_
          exact ok_X3_miss_L37 l X q7.2 a0 a1 a2 q hf
        · refine g_ifne_f (pc := 33) (tgt := 37) dX3_miss_33 (by decide) (Decidable.of_not_not c8) ?_
          obtain rfl := Option.some.inj hf
          exact g_vret (pc := 36) rfl dX3_miss_36
    · refine g_icne_f (pc := 13) (tgt := 17) dX3_miss_13 (by decide) (Decidable.of_not_not c3) ?_
      obtain rfl := Option.some.inj hf
      exact g_vret (pc := 16) rfl dX3_miss_16
theorem ct_X3_miss (l : Launch) (X : Cx) {h : AH} {a0 : Nat} {a1 : Int32} {a2 : Int32} {q : AH} (hf : f_X3_miss h a0 a1 a2 = some q) : Ct l X k_X3_miss [rf X a0, .int a1, .int a2] h (rV q) := ct_of ck_X3_miss (by simp [lg_sl, rf_cat, rq_cat, ca_i, ca_l, ca_r]) (by simp [lv_args, rf_cat, rq_cat, ca_i, ca_l, ca_r]) (ok_X3_miss l X hf)
def f_X10_wordOf (h : AH) (a0 : Int32) (a1 : Int32) : Option (Int32) :=
  some ((a0 * (4 : Int32)) + ((a1 >>> ((2 : Int32) &&& 31)) &&& (3 : Int32)))
set_option maxRecDepth 100000 in
set_option maxHeartbeats 4000000 in
theorem ok_X10_wordOf (l : Launch) (X : Cx) {h : AH} {a0 : Int32} {a1 : Int32} {q : Int32} (hf : f_X10_wordOf h a0 a1 = some q) : Go l X k_X10_wordOf 0 [(0, .int a0), (1, .int a1)] [] h (rI (q, h)) := by
  unfold f_X10_wordOf at hf
  refine g_iload_n (pc := 0) 0 dX10_wordOf_0 rfl rfl ?_
  refine g_iconst (pc := 1) (v := (4 : Int32)) dX10_wordOf_1 (by decide) ?_
  refine g_imul (pc := 2) dX10_wordOf_2 ?_
  refine g_iload_n (pc := 3) 1 dX10_wordOf_3 rfl rfl ?_
  refine g_iconst (pc := 4) (v := (2 : Int32)) dX10_wordOf_4 (by decide) ?_
  refine g_ishr (pc := 5) dX10_wordOf_5 ?_
  refine g_iconst (pc := 6) (v := (3 : Int32)) dX10_wordOf_6 (by decide) ?_
  refine g_iand (pc := 7) dX10_wordOf_7 ?_
  refine g_iadd (pc := 8) dX10_wordOf_8 ?_
  obtain rfl := Option.some.inj hf
  exact g_iret (pc := 9) rfl dX10_wordOf_9
theorem ct_X10_wordOf (l : Launch) (X : Cx) {h : AH} {a0 : Int32} {a1 : Int32} {q : Int32} (hf : f_X10_wordOf h a0 a1 = some q) : Ct l X k_X10_wordOf [.int a0, .int a1] h (rI (q, h)) := ct_of ck_X10_wordOf (by simp [lg_sl, rf_cat, rq_cat, ca_i, ca_l, ca_r]) (by simp [lv_args, rf_cat, rq_cat, ca_i, ca_l, ca_r]) (ok_X10_wordOf l X hf)
def f_X7_over_L52 (h : AH) (k5 : Nat → Int32 → Int32 → Int32 → Option (Int32)) (a0 : Nat) (a1 : Int32) (a3 : Int32) (a4 : Int32) : Option (Int32) :=
  lt (a4 + (1 : Int32)) fun x1 =>
  k5 a0 a1 a3 x1
set_option maxRecDepth 100000 in
set_option maxHeartbeats 4000000 in
theorem ok_X7_over_L52 (l : Launch) (X : Cx) (h : AH) (k5 : Nat → Int32 → Int32 → Int32 → Option (Int32)) (hk5 : ∀ (a0 : Nat) (a1 : Int32) (a3 : Int32) (a4 : Int32) (q : Int32), k5 a0 a1 a3 a4 = some q → Go l X k_X7_over 5 [(0, rf X a0), (1, .int a1), (3, .int a3), (4, .int a4)] [] h (rI (q, h))) (a0 : Nat) (a1 : Int32) (a3 : Int32) (a4 : Int32) (q : Int32) (hf : f_X7_over_L52 h k5 a0 a1 a3 a4 = some q) : Go l X k_X7_over 52 [(0, rf X a0), (1, .int a1), (3, .int a3), (4, .int a4)] [] h (rI (q, h)) := by
  unfold f_X7_over_L52 at hf
  obtain ⟨x1, ex1, hf⟩ := lt_some hf
  refine g_iinc (pc := 52) (y := x1) (L' := [(4, .int x1), (0, rf X a0), (1, .int a1), (3, .int a3)]) 3 dX7_over_52 rfl (by decide) (ex1.trans rfl) rfl ?_
  refine g_goto (pc := 55) (tgt := 5) dX7_over_55 (by decide) ?_
  refine g_sub [1, 2, 3, 0] rfl ?_
  exact hk5 a0 a1 a3 x1 q hf
def f_X7_over_L5 (h : AH) : Nat → Nat → Int32 → Int32 → Int32 → Option (Int32)
  | 0, _, _, _, _ => none
  | n + 1, a0, a1, a3, a4 =>
    gs h a0 6 <|
    if (hI h a0 1) ≤ a4 then
      some a3
    else
      bd (f_X7_get h a0 a4 (0 : Int32)) fun v3 =>
      if ¬ v3 = a1 then
        f_X7_over_L52 h (f_X7_over_L5 h n) a0 a1 a3 a4
      else
        bd (f_X7_get h a0 a4 (1 : Int32)) fun v5 =>
        gb (ib (v5 &&& (15 : Int32)) 16) <|
        bd (f_X7_get h a0 a4 (2 : Int32)) fun v7 =>
        lt (((a3 &&& ((tBB.getD (v5 &&& (15 : Int32)).toNatClampNeg 0) ^^^ (-1 : Int32))) ||| v7)) fun x8 =>
        f_X7_over_L52 h (f_X7_over_L5 h n) a0 a1 x8 a4
set_option maxRecDepth 100000 in
set_option maxHeartbeats 4000000 in
theorem ok_X7_over_L5 (l : Launch) (X : Cx) (h : AH) : ∀ (n : Nat) (a0 : Nat) (a1 : Int32) (a3 : Int32) (a4 : Int32) (q : Int32), f_X7_over_L5 h n a0 a1 a3 a4 = some q → Go l X k_X7_over 5 [(0, rf X a0), (1, .int a1), (3, .int a3), (4, .int a4)] [] h (rI (q, h)) := by
  intro n
  induction n with
  | zero =>
    intro a0 a1 a3 a4 q hf
    unfold f_X7_over_L5 at hf
    cases hf
  | succ n ih =>
    intro a0 a1 a3 a4 q hf
    unfold f_X7_over_L5 at hf
    refine g_iload (pc := 5) 3 dX7_over_5 rfl ?_
    refine g_aload_n (pc := 7) 0 dX7_over_7 rfl rfl ?_
    obtain ⟨g1, hf⟩ := gs_some hf
    refine g_getI (pc := 8) fl_X7_19 dX7_over_8 g1 ?_
    rcases it_some hf with ⟨c2, hf⟩ | ⟨c2, hf⟩
    · refine g_icge_t (pc := 11) (tgt := 58) dX7_over_11 (by decide) c2 ?_
      refine g_iload_n (pc := 58) 2 dX7_over_58 rfl rfl ?_
      obtain rfl := Option.some.inj hf
      exact g_iret (pc := 59) rfl dX7_over_59
    · refine g_icge_f (pc := 11) (tgt := 58) dX7_over_11 (by decide) c2 ?_
      refine g_aload_n (pc := 14) 0 dX7_over_14 rfl rfl ?_
      refine g_iload (pc := 15) 3 dX7_over_15 rfl ?_
      refine g_iconst (pc := 17) (v := (0 : Int32)) dX7_over_17 (by decide) ?_
      obtain ⟨v3, hcv3, hf⟩ := bd_some hf
      refine g_cVI (pc := 18) (k2 := k_X7_get) (av := [.int a4, .int (0 : Int32)]) (q := (v3, h)) rfl dX7_over_18 ck_X7_get m_1019 m_1020 m_1021 (ci := 5) rfl (by decide) g1 (by decide) (by decide) rfl (by simp [rf_cat, rq_cat, ca_i, ca_l, ca_r]) (ct_X7_get l X hcv3) ?_
      refine g_iload_n (pc := 21) 1 dX7_over_21 rfl rfl ?_
      rcases it_some hf with ⟨c4, hf⟩ | ⟨c4, hf⟩
      · refine g_icne_t (pc := 22) (tgt := 52) dX7_over_22 (by decide) c4 ?_
        exact ok_X7_over_L52 l X h (f_X7_over_L5 h n) ih a0 a1 a3 a4 q hf
      · refine g_icne_f (pc := 22) (tgt := 52) dX7_over_22 (by decide) (Decidable.of_not_not c4) ?_
        refine g_iload_n (pc := 25) 2 dX7_over_25 rfl rfl ?_
        refine g_sBBN (pc := 26) 2 rfl dX7_over_26 ?_
        refine g_aload_n (pc := 29) 0 dX7_over_29 rfl rfl ?_
        refine g_iload (pc := 30) 3 dX7_over_30 rfl ?_
        refine g_iconst (pc := 32) (v := (1 : Int32)) dX7_over_32 (by decide) ?_
        obtain ⟨v5, hcv5, hf⟩ := bd_some hf
        refine g_cVI (pc := 33) (k2 := k_X7_get) (av := [.int a4, .int (1 : Int32)]) (q := (v5, h)) rfl dX7_over_33 ck_X7_get m_1019 m_1020 m_1021 (ci := 5) rfl (by decide) g1 (by decide) (by decide) rfl (by simp [rf_cat, rq_cat, ca_i, ca_l, ca_r]) (ct_X7_get l X hcv5) ?_
        refine g_bipush (pc := 36) (v := (15 : Int32)) dX7_over_36 (by decide) ?_
        refine g_iand (pc := 38) dX7_over_38 ?_
        obtain ⟨b6, hf⟩ := gb_some hf
        refine g_tBB (pc := 39) b6 dX7_over_39 ?_
        refine g_iconst (pc := 40) (v := (-1 : Int32)) dX7_over_40 (by decide) ?_
        refine g_ixor (pc := 41) dX7_over_41 ?_
        refine g_iand (pc := 42) dX7_over_42 ?_
        refine g_aload_n (pc := 43) 0 dX7_over_43 rfl rfl ?_
        refine g_iload (pc := 44) 3 dX7_over_44 rfl ?_
        refine g_iconst (pc := 46) (v := (2 : Int32)) dX7_over_46 (by decide) ?_
        obtain ⟨v7, hcv7, hf⟩ := bd_some hf
        refine g_cVI (pc := 47) (k2 := k_X7_get) (av := [.int a4, .int (2 : Int32)]) (q := (v7, h)) rfl dX7_over_47 ck_X7_get m_1019 m_1020 m_1021 (ci := 5) rfl (by decide) g1 (by decide) (by decide) rfl (by simp [rf_cat, rq_cat, ca_i, ca_l, ca_r]) (ct_X7_get l X hcv7) ?_
        refine g_ior (pc := 50) dX7_over_50 ?_
        obtain ⟨x8, ex8, hf⟩ := lt_some hf
        refine g_istore_n (pc := 51) (L' := [(3, .int x8), (0, rf X a0), (1, .int a1), (4, .int a4)]) dX7_over_51 rfl (by decide) ex8 rfl ?_
        refine g_sub [1, 2, 0, 3] rfl ?_
        exact ok_X7_over_L52 l X h (f_X7_over_L5 h n) ih a0 a1 x8 a4 q hf
def f_X7_over (h : AH) (a0 : Nat) (a1 : Int32) (a2 : Int32) : Option (Int32) :=
  lt ((0 : Int32)) fun x1 =>
  f_X7_over_L5 h FU a0 a1 a2 x1
set_option maxRecDepth 100000 in
set_option maxHeartbeats 4000000 in
theorem ok_X7_over (l : Launch) (X : Cx) {h : AH} {a0 : Nat} {a1 : Int32} {a2 : Int32} {q : Int32} (hf : f_X7_over h a0 a1 a2 = some q) : Go l X k_X7_over 0 [(0, rf X a0), (1, .int a1), (2, .int a2)] [] h (rI (q, h)) := by
  unfold f_X7_over at hf
  refine g_iload_n (pc := 0) 2 dX7_over_0 rfl rfl ?_
  refine g_istore_n (pc := 1) (L' := [(3, .int a2), (0, rf X a0), (1, .int a1), (2, .int a2)]) dX7_over_1 rfl (by decide) rfl rfl ?_
  refine g_iconst (pc := 2) (v := (0 : Int32)) dX7_over_2 (by decide) ?_
  obtain ⟨x1, ex1, hf⟩ := lt_some hf
  refine g_istore (pc := 3) (L' := [(4, .int x1), (3, .int a2), (0, rf X a0), (1, .int a1), (2, .int a2)]) dX7_over_3 (by decide) ex1 rfl ?_
  refine g_sub [2, 3, 1, 0] rfl ?_
  exact ok_X7_over_L5 l X h FU a0 a1 a2 x1 q hf
theorem ct_X7_over (l : Launch) (X : Cx) {h : AH} {a0 : Nat} {a1 : Int32} {a2 : Int32} {q : Int32} (hf : f_X7_over h a0 a1 a2 = some q) : Ct l X k_X7_over [rf X a0, .int a1, .int a2] h (rI (q, h)) := ct_of ck_X7_over (by simp [lg_sl, rf_cat, rq_cat, ca_i, ca_l, ca_r]) (by simp [lv_args, rf_cat, rq_cat, ca_i, ca_l, ca_r]) (ok_X7_over l X hf)
def f_X3_reads_L68 (h : AH) (a0 : Nat) (a1 : Int32) (a3 : Int32) : Option (Int32 × AH) :=
  gs h a0 3 <|
  gs h (hR h a0 5) 6 <|
  bd (f_X7_over h (hR h a0 5) a1 a3) fun v3 =>
  lt (sI h a0 16 v3) fun h4 =>
  some ((1 : Int32), h4)
set_option maxRecDepth 100000 in
set_option maxHeartbeats 4000000 in
theorem ok_X3_reads_L68 (l : Launch) (X : Cx) (h : AH) (a0 : Nat) (a1 : Int32) (a3 : Int32) (q : Int32 × AH) (hf : f_X3_reads_L68 h a0 a1 a3 = some q) : Go l X k_X3_reads 68 [(0, rf X a0), (1, .int a1), (3, .int a3)] [] h (rI q) := by
  unfold f_X3_reads_L68 at hf
  refine g_aload_n (pc := 68) 0 dX3_reads_68 rfl rfl ?_
  refine g_aload_n (pc := 69) 0 dX3_reads_69 rfl rfl ?_
  obtain ⟨g1, hf⟩ := gs_some hf
  refine g_getR (pc := 70) fl_X3_18 dX3_reads_70 g1 ?_
  refine g_iload_n (pc := 73) 1 dX3_reads_73 rfl rfl ?_
  refine g_iload_n (pc := 74) 2 dX3_reads_74 rfl rfl ?_
  obtain ⟨g2, hf⟩ := gs_some hf
  obtain ⟨v3, hcv3, hf⟩ := bd_some hf
  refine g_cVI (pc := 75) (k2 := k_X7_over) (av := [.int a1, .int a3]) (q := (v3, h)) rfl dX3_reads_75 ck_X7_over m_1037 m_1038 m_1039 (ci := 5) rfl (by decide) g2 (by decide) (by decide) rfl (by simp [rf_cat, rq_cat, ca_i, ca_l, ca_r]) (ct_X7_over l X hcv3) ?_
  obtain ⟨h4, eh4, hf⟩ := lt_some hf
  refine g_putI (pc := 78) fl_X3_110 dX3_reads_78 g1 eh4 ?_
  refine g_iconst (pc := 81) (v := (1 : Int32)) dX3_reads_81 (by decide) ?_
  obtain rfl := Option.some.inj hf
  exact g_zret (pc := 82) rfl rfl dX3_reads_82
def f_X3_reads (h : AH) (a0 : Nat) (a1 : Int32) (a2 : Int32) : Option (Int32 × AH) :=
  lt ((0 : Int32)) fun x1 =>
  gs h a0 3 <|
  gs h (hR h a0 5) 6 <|
  bd (f_X7_bytesAt h (hR h a0 5) a1) fun v4 =>
  if (a2 &&& (v4 ^^^ (-1 : Int32))) = 0 then
    f_X3_reads_L68 h a0 a1 x1
  else
    gs h (hR h a0 6) 2 <|
    bd (f_X2_find h (hR h a0 6) (a1 >>> ((4 : Int32) &&& 31))) fun v7 =>
    if 0 ≤ v7 then
      bd (f_X2_use h (hR h a0 6) v7) fun q9 =>
      gs q9 a0 3 <|
      gs q9 (hR q9 a0 6) 2 <|
      bd (f_X10_wordOf q9 v7 a1) fun v12 =>
      gs q9 (hR q9 (hR q9 a0 6) 3) 21 <|
      gb (ib v12 (hN q9 (hR q9 (hR q9 a0 6) 3))) <|
      lt ((hI q9 (hR q9 (hR q9 a0 6) 3) v12.toNatClampNeg)) fun x15 =>
      f_X3_reads_L68 q9 a0 a1 x15
    else
      bd (f_X3_miss h a0 (a1 >>> ((4 : Int32) &&& 31)) (0 : Int32)) fun q16 =>
      some ((0 : Int32), q16)
set_option maxRecDepth 100000 in
set_option maxHeartbeats 4000000 in
theorem ok_X3_reads (l : Launch) (X : Cx) {h : AH} {a0 : Nat} {a1 : Int32} {a2 : Int32} {q : Int32 × AH} (hf : f_X3_reads h a0 a1 a2 = some q) : Go l X k_X3_reads 0 [(0, rf X a0), (1, .int a1), (2, .int a2)] [] h (rI q) := by
  unfold f_X3_reads at hf
  refine g_iconst (pc := 0) (v := (0 : Int32)) dX3_reads_0 (by decide) ?_
  obtain ⟨x1, ex1, hf⟩ := lt_some hf
  refine g_istore_n (pc := 1) (L' := [(3, .int x1), (0, rf X a0), (1, .int a1), (2, .int a2)]) dX3_reads_1 rfl (by decide) ex1 rfl ?_
  refine g_iload_n (pc := 2) 3 dX3_reads_2 rfl rfl ?_
  refine g_aload_n (pc := 3) 1 dX3_reads_3 rfl rfl ?_
  obtain ⟨g2, hf⟩ := gs_some hf
  refine g_getR (pc := 4) fl_X3_18 dX3_reads_4 g2 ?_
  refine g_iload_n (pc := 7) 2 dX3_reads_7 rfl rfl ?_
  obtain ⟨g3, hf⟩ := gs_some hf
  obtain ⟨v4, hcv4, hf⟩ := bd_some hf
  refine g_cVI (pc := 8) (k2 := k_X7_bytesAt) (av := [.int a1]) (q := (v4, h)) rfl dX3_reads_8 ck_X7_bytesAt m_1015 m_1016 m_1017 (ci := 5) rfl (by decide) g3 (by decide) (by decide) rfl (by simp [rf_cat, rq_cat, ca_i, ca_l, ca_r]) (ct_X7_bytesAt l X hcv4) ?_
  refine g_iconst (pc := 11) (v := (-1 : Int32)) dX3_reads_11 (by decide) ?_
  refine g_ixor (pc := 12) dX3_reads_12 ?_
  refine g_iand (pc := 13) dX3_reads_13 ?_
  rcases it_some hf with ⟨c5, hf⟩ | ⟨c5, hf⟩
  · refine g_ifeq_t (pc := 14) (tgt := 68) dX3_reads_14 (by decide) c5 ?_
    refine g_sub [1, 2, 0] rfl ?_
    exact ok_X3_reads_L68 l X h a0 a1 x1 q hf
  · refine g_ifeq_f (pc := 14) (tgt := 68) dX3_reads_14 (by decide) c5 ?_
    refine g_aload_n (pc := 17) 1 dX3_reads_17 rfl rfl ?_
    refine g_getR (pc := 18) fl_X3_25 dX3_reads_18 g2 ?_
    refine g_iload_n (pc := 21) 2 dX3_reads_21 rfl rfl ?_
    refine g_iconst (pc := 22) (v := (4 : Int32)) dX3_reads_22 (by decide) ?_
    refine g_ishr (pc := 23) dX3_reads_23 ?_
    obtain ⟨g6, hf⟩ := gs_some hf
    obtain ⟨v7, hcv7, hf⟩ := bd_some hf
    refine g_cVI (pc := 24) (k2 := k_X2_find) (av := [.int (a1 >>> ((4 : Int32) &&& 31))]) (q := (v7, h)) rfl dX3_reads_24 ck_X2_find m_651 m_652 m_653 (ci := 1) rfl (by decide) g6 (by decide) (by decide) rfl (by simp [rf_cat, rq_cat, ca_i, ca_l, ca_r]) (ct_X2_find l X hcv7) ?_
    refine g_istore (pc := 27) (L' := [(4, .int v7), (3, .int x1), (0, rf X a0), (1, .int a1), (2, .int a2)]) dX3_reads_27 (by decide) rfl rfl ?_
    refine g_iload (pc := 29) 0 dX3_reads_29 rfl ?_
    rcases it_some hf with ⟨c8, hf⟩ | ⟨c8, hf⟩
    · refine g_ifge_t (pc := 31) (tgt := 44) dX3_reads_31 (by decide) c8 ?_
      refine g_aload_n (pc := 44) 2 dX3_reads_44 rfl rfl ?_
      refine g_getR (pc := 45) fl_X3_25 dX3_reads_45 g2 ?_
      refine g_iload (pc := 48) 0 dX3_reads_48 rfl ?_
      obtain ⟨q9, hcq9, hf⟩ := bd_some hf
      refine g_cVV (pc := 50) (k2 := k_X2_use) (av := [.int v7]) (q := q9) rfl dX3_reads_50 ck_X2_use m_1033 m_668 m_669 (ci := 1) rfl (by decide) g6 (by decide) (by decide) rfl (by simp [rf_cat, rq_cat, ca_i, ca_l, ca_r]) (ct_X2_use l X hcq9) ?_
      refine g_aload_n (pc := 53) 2 dX3_reads_53 rfl rfl ?_
      obtain ⟨g10, hf⟩ := gs_some hf
      refine g_getR (pc := 54) fl_X3_25 dX3_reads_54 g10 ?_
      obtain ⟨g11, hf⟩ := gs_some hf
      refine g_getR (pc := 57) fl_X3_199 dX3_reads_57 g11 ?_
      refine g_iload (pc := 60) 0 dX3_reads_60 rfl ?_
      refine g_iload_n (pc := 62) 3 dX3_reads_62 rfl rfl ?_
      obtain ⟨v12, hcv12, hf⟩ := bd_some hf
      refine g_nSI (pc := 63) (k2 := k_X10_wordOf) (av := [.int v7, .int a1]) (q := (v12, q9)) rfl dX3_reads_63 ck_X10_wordOf 7 rfl m_1035 (by decide) (by decide) rfl (by simp [rf_cat, rq_cat, ca_i, ca_l, ca_r]) (ct_X10_wordOf l X hcv12) ?_
      obtain ⟨g13, hf⟩ := gs_some hf
      obtain ⟨b14, hf⟩ := gb_some hf
      refine g_iald (pc := 66) g13 b14 dX3_reads_66 ?_
      obtain ⟨x15, ex15, hf⟩ := lt_some hf
      refine g_istore_n (pc := 67) (L' := [(3, .int x15), (4, .int v7), (0, rf X a0), (1, .int a1), (2, .int a2)]) dX3_reads_67 rfl (by decide) ex15 rfl ?_
      refine g_sub [2, 3, 0] rfl ?_
      exact ok_X3_reads_L68 l X q9 a0 a1 x15 q hf
    · refine g_ifge_f (pc := 31) (tgt := 44) dX3_reads_31 (by decide) c8 ?_
      refine g_aload_n (pc := 34) 2 dX3_reads_34 rfl rfl ?_
      refine g_iload_n (pc := 35) 3 dX3_reads_35 rfl rfl ?_
      refine g_iconst (pc := 36) (v := (4 : Int32)) dX3_reads_36 (by decide) ?_
      refine g_ishr (pc := 37) dX3_reads_37 ?_
      refine g_iconst (pc := 38) (v := (0 : Int32)) dX3_reads_38 (by decide) ?_
      obtain ⟨q16, hcq16, hf⟩ := bd_some hf
      refine g_cVV (pc := 39) (k2 := k_X3_miss) (av := [.int (a1 >>> ((4 : Int32) &&& 31)), .int (0 : Int32)]) (q := q16) rfl dX3_reads_39 ck_X3_miss m_1023 m_1025 m_42 (ci := 2) rfl (by decide) g2 (by decide) (by decide) rfl (by simp [rf_cat, rq_cat, ca_i, ca_l, ca_r]) (ct_X3_miss l X hcq16) ?_
      refine g_iconst (pc := 42) (v := (0 : Int32)) dX3_reads_42 (by decide) ?_
      obtain rfl := Option.some.inj hf
      exact g_zret (pc := 43) rfl rfl dX3_reads_43
theorem ct_X3_reads (l : Launch) (X : Cx) {h : AH} {a0 : Nat} {a1 : Int32} {a2 : Int32} {q : Int32 × AH} (hf : f_X3_reads h a0 a1 a2 = some q) : Ct l X k_X3_reads [rf X a0, .int a1, .int a2] h (rI q) := ct_of ck_X3_reads (by simp [lg_sl, rf_cat, rq_cat, ca_i, ca_l, ca_r]) (by simp [lv_args, rf_cat, rq_cat, ca_i, ca_l, ca_r]) (ok_X3_reads l X hf)
def f_X9_note_L99 (h : AH) (a0 : Nat) : Option (AH) :=
  gs h a0 8 <|
  lt (sI h a0 1 ((hI h a0 1) + (1 : Int32))) fun h2 =>
  some h2
set_option maxRecDepth 100000 in
set_option maxHeartbeats 4000000 in
theorem ok_X9_note_L99 (l : Launch) (X : Cx) (h : AH) (a0 : Nat) (q : AH) (hf : f_X9_note_L99 h a0 = some q) : Go l X k_X9_note 99 [(0, rf X a0)] [] h (rV q) := by
  unfold f_X9_note_L99 at hf
  refine g_aload_n (pc := 99) 0 dX9_note_99 rfl rfl ?_
  refine g_dup (pc := 100) dX9_note_100 (rf_cat X _) ?_
  obtain ⟨g1, hf⟩ := gs_some hf
  refine g_getI (pc := 101) fl_X9_13 dX9_note_101 g1 ?_
  refine g_iconst (pc := 104) (v := (1 : Int32)) dX9_note_104 (by decide) ?_
  refine g_iadd (pc := 105) dX9_note_105 ?_
  obtain ⟨h2, eh2, hf⟩ := lt_some hf
  refine g_putI (pc := 106) fl_X9_13 dX9_note_106 g1 eh2 ?_
  obtain rfl := Option.some.inj hf
  exact g_vret (pc := 109) rfl dX9_note_109
def f_X9_note (h : AH) (a0 : Nat) (a1 : Int32) (a2 : Int32) (a3 : Int32) (a4 : Int32) (a5 : Int32) (a6 : Int32) (a7 : Int32) : Option (AH) :=
  gs h a0 8 <|
  lt ((((hI h a0 1) - (hI h a0 1) / (32 : Int32) * (32 : Int32)) * (8 : Int32))) fun x2 =>
  gs h (hR h a0 0) 21 <|
  gb (ib x2 (hN h (hR h a0 0))) <|
  lt (sI h (hR h a0 0) x2.toNatClampNeg a1) fun h5 =>
  gs h5 (hR h5 a0 0) 21 <|
  gb (ib (x2 + (1 : Int32)) (hN h5 (hR h5 a0 0))) <|
  lt (sI h5 (hR h5 a0 0) (x2 + (1 : Int32)).toNatClampNeg a2) fun h9 =>
  gs h9 (hR h9 a0 0) 21 <|
  gb (ib (x2 + (2 : Int32)) (hN h9 (hR h9 a0 0))) <|
  lt (sI h9 (hR h9 a0 0) (x2 + (2 : Int32)).toNatClampNeg a3) fun h13 =>
  gs h13 (hR h13 a0 0) 21 <|
  gb (ib (x2 + (3 : Int32)) (hN h13 (hR h13 a0 0))) <|
  lt (sI h13 (hR h13 a0 0) (x2 + (3 : Int32)).toNatClampNeg a4) fun h17 =>
  gs h17 (hR h17 a0 0) 21 <|
  gb (ib (x2 + (4 : Int32)) (hN h17 (hR h17 a0 0))) <|
  lt (sI h17 (hR h17 a0 0) (x2 + (4 : Int32)).toNatClampNeg a5) fun h21 =>
  gs h21 (hR h21 a0 0) 21 <|
  gb (ib (x2 + (5 : Int32)) (hN h21 (hR h21 a0 0))) <|
  lt (sI h21 (hR h21 a0 0) (x2 + (5 : Int32)).toNatClampNeg a6) fun h25 =>
  gs h25 (hR h25 a0 0) 21 <|
  gb (ib (x2 + (6 : Int32)) (hN h25 (hR h25 a0 0))) <|
  lt (sI h25 (hR h25 a0 0) (x2 + (6 : Int32)).toNatClampNeg a7) fun h29 =>
  gs h29 (hR h29 a0 0) 21 <|
  gb (ib (x2 + (7 : Int32)) (hN h29 (hR h29 a0 0))) <|
  lt (sI h29 (hR h29 a0 0) (x2 + (7 : Int32)).toNatClampNeg (hI h29 a0 1)) fun h33 =>
  f_X9_note_L99 h33 a0
set_option maxRecDepth 100000 in
set_option maxHeartbeats 4000000 in
theorem ok_X9_note (l : Launch) (X : Cx) {h : AH} {a0 : Nat} {a1 : Int32} {a2 : Int32} {a3 : Int32} {a4 : Int32} {a5 : Int32} {a6 : Int32} {a7 : Int32} {q : AH} (hf : f_X9_note h a0 a1 a2 a3 a4 a5 a6 a7 = some q) : Go l X k_X9_note 0 [(0, rf X a0), (1, .int a1), (2, .int a2), (3, .int a3), (4, .int a4), (5, .int a5), (6, .int a6), (7, .int a7)] [] h (rV q) := by
  unfold f_X9_note at hf
  refine g_aload_n (pc := 0) 0 dX9_note_0 rfl rfl ?_
  obtain ⟨g1, hf⟩ := gs_some hf
  refine g_getI (pc := 1) fl_X9_13 dX9_note_1 g1 ?_
  refine g_bipush (pc := 4) (v := (32 : Int32)) dX9_note_4 (by decide) ?_
  refine g_irem (pc := 6) (by decide) dX9_note_6 ?_
  refine g_bipush (pc := 7) (v := (8 : Int32)) dX9_note_7 (by decide) ?_
  refine g_imul (pc := 9) dX9_note_9 ?_
  obtain ⟨x2, ex2, hf⟩ := lt_some hf
  refine g_istore (pc := 10) (L' := [(8, .int x2), (0, rf X a0), (1, .int a1), (2, .int a2), (3, .int a3), (4, .int a4), (5, .int a5), (6, .int a6), (7, .int a7)]) dX9_note_10 (by decide) ex2 rfl ?_
  refine g_aload_n (pc := 12) 1 dX9_note_12 rfl rfl ?_
  refine g_getR (pc := 13) fl_X9_9 dX9_note_13 g1 ?_
  refine g_iload (pc := 16) 0 dX9_note_16 rfl ?_
  refine g_iload_n (pc := 18) 2 dX9_note_18 rfl rfl ?_
  obtain ⟨g3, hf⟩ := gs_some hf
  obtain ⟨b4, hf⟩ := gb_some hf
  obtain ⟨h5, eh5, hf⟩ := lt_some hf
  refine g_iast (pc := 19) g3 b4 dX9_note_19 eh5 ?_
  refine g_aload_n (pc := 20) 1 dX9_note_20 rfl rfl ?_
  have g6 : hS h5 a0 = 8 := (hS_tI eh5 g1)
  refine g_getR (pc := 21) fl_X9_9 dX9_note_21 g6 ?_
  refine g_iload (pc := 24) 0 dX9_note_24 rfl ?_
  refine g_iconst (pc := 26) (v := (1 : Int32)) dX9_note_26 (by decide) ?_
  refine g_iadd (pc := 27) dX9_note_27 ?_
  refine g_iload_n (pc := 28) 3 dX9_note_28 rfl rfl ?_
  obtain ⟨g7, hf⟩ := gs_some hf
  obtain ⟨b8, hf⟩ := gb_some hf
  obtain ⟨h9, eh9, hf⟩ := lt_some hf
  refine g_iast (pc := 29) g7 b8 dX9_note_29 eh9 ?_
  refine g_aload_n (pc := 30) 1 dX9_note_30 rfl rfl ?_
  have g10 : hS h9 a0 = 8 := (hS_tI eh9 g6)
  refine g_getR (pc := 31) fl_X9_9 dX9_note_31 g10 ?_
  refine g_iload (pc := 34) 0 dX9_note_34 rfl ?_
  refine g_iconst (pc := 36) (v := (2 : Int32)) dX9_note_36 (by decide) ?_
  refine g_iadd (pc := 37) dX9_note_37 ?_
  refine g_iload_n (pc := 38) 4 dX9_note_38 rfl rfl ?_
  obtain ⟨g11, hf⟩ := gs_some hf
  obtain ⟨b12, hf⟩ := gb_some hf
  obtain ⟨h13, eh13, hf⟩ := lt_some hf
  refine g_iast (pc := 39) g11 b12 dX9_note_39 eh13 ?_
  refine g_aload_n (pc := 40) 1 dX9_note_40 rfl rfl ?_
  have g14 : hS h13 a0 = 8 := (hS_tI eh13 g10)
  refine g_getR (pc := 41) fl_X9_9 dX9_note_41 g14 ?_
  refine g_iload (pc := 44) 0 dX9_note_44 rfl ?_
  refine g_iconst (pc := 46) (v := (3 : Int32)) dX9_note_46 (by decide) ?_
  refine g_iadd (pc := 47) dX9_note_47 ?_
  refine g_iload (pc := 48) 5 dX9_note_48 rfl ?_
  obtain ⟨g15, hf⟩ := gs_some hf
  obtain ⟨b16, hf⟩ := gb_some hf
  obtain ⟨h17, eh17, hf⟩ := lt_some hf
  refine g_iast (pc := 50) g15 b16 dX9_note_50 eh17 ?_
  refine g_aload_n (pc := 51) 1 dX9_note_51 rfl rfl ?_
  have g18 : hS h17 a0 = 8 := (hS_tI eh17 g14)
  refine g_getR (pc := 52) fl_X9_9 dX9_note_52 g18 ?_
  refine g_iload (pc := 55) 0 dX9_note_55 rfl ?_
  refine g_iconst (pc := 57) (v := (4 : Int32)) dX9_note_57 (by decide) ?_
  refine g_iadd (pc := 58) dX9_note_58 ?_
  refine g_iload (pc := 59) 6 dX9_note_59 rfl ?_
  obtain ⟨g19, hf⟩ := gs_some hf
  obtain ⟨b20, hf⟩ := gb_some hf
  obtain ⟨h21, eh21, hf⟩ := lt_some hf
  refine g_iast (pc := 61) g19 b20 dX9_note_61 eh21 ?_
  refine g_aload_n (pc := 62) 1 dX9_note_62 rfl rfl ?_
  have g22 : hS h21 a0 = 8 := (hS_tI eh21 g18)
  refine g_getR (pc := 63) fl_X9_9 dX9_note_63 g22 ?_
  refine g_iload (pc := 66) 0 dX9_note_66 rfl ?_
  refine g_iconst (pc := 68) (v := (5 : Int32)) dX9_note_68 (by decide) ?_
  refine g_iadd (pc := 69) dX9_note_69 ?_
  refine g_iload (pc := 70) 7 dX9_note_70 rfl ?_
  obtain ⟨g23, hf⟩ := gs_some hf
  obtain ⟨b24, hf⟩ := gb_some hf
  obtain ⟨h25, eh25, hf⟩ := lt_some hf
  refine g_iast (pc := 72) g23 b24 dX9_note_72 eh25 ?_
  refine g_aload_n (pc := 73) 1 dX9_note_73 rfl rfl ?_
  have g26 : hS h25 a0 = 8 := (hS_tI eh25 g22)
  refine g_getR (pc := 74) fl_X9_9 dX9_note_74 g26 ?_
  refine g_iload (pc := 77) 0 dX9_note_77 rfl ?_
  refine g_bipush (pc := 79) (v := (6 : Int32)) dX9_note_79 (by decide) ?_
  refine g_iadd (pc := 81) dX9_note_81 ?_
  refine g_iload (pc := 82) 8 dX9_note_82 rfl ?_
  obtain ⟨g27, hf⟩ := gs_some hf
  obtain ⟨b28, hf⟩ := gb_some hf
  obtain ⟨h29, eh29, hf⟩ := lt_some hf
  refine g_iast (pc := 84) g27 b28 dX9_note_84 eh29 ?_
  refine g_aload_n (pc := 85) 1 dX9_note_85 rfl rfl ?_
  have g30 : hS h29 a0 = 8 := (hS_tI eh29 g26)
  refine g_getR (pc := 86) fl_X9_9 dX9_note_86 g30 ?_
  refine g_iload (pc := 89) 0 dX9_note_89 rfl ?_
  refine g_bipush (pc := 91) (v := (7 : Int32)) dX9_note_91 (by decide) ?_
  refine g_iadd (pc := 93) dX9_note_93 ?_
  refine g_aload_n (pc := 94) 1 dX9_note_94 rfl rfl ?_
  refine g_getI (pc := 95) fl_X9_13 dX9_note_95 g30 ?_
  obtain ⟨g31, hf⟩ := gs_some hf
  obtain ⟨b32, hf⟩ := gb_some hf
  obtain ⟨h33, eh33, hf⟩ := lt_some hf
  refine g_iast (pc := 98) g31 b32 dX9_note_98 eh33 ?_
  refine g_sub [1] rfl ?_
  exact ok_X9_note_L99 l X h33 a0 q hf
theorem ct_X9_note (l : Launch) (X : Cx) {h : AH} {a0 : Nat} {a1 : Int32} {a2 : Int32} {a3 : Int32} {a4 : Int32} {a5 : Int32} {a6 : Int32} {a7 : Int32} {q : AH} (hf : f_X9_note h a0 a1 a2 a3 a4 a5 a6 a7 = some q) : Ct l X k_X9_note [rf X a0, .int a1, .int a2, .int a3, .int a4, .int a5, .int a6, .int a7] h (rV q) := ct_of ck_X9_note (by simp [lg_sl, rf_cat, rq_cat, ca_i, ca_l, ca_r]) (by simp [lv_args, rf_cat, rq_cat, ca_i, ca_l, ca_r]) (ok_X9_note l X hf)
def f_X3_finish_L11 (h : AH) (a0 : Nat) (a1 : Int32) (a2 : Int32) (a4 : Int32) (a5 : Int32) (a6 : Int32) (a7 : Int32) : Option (Int32 × AH) :=
  gs h a0 3 <|
  gs h (hR h a0 2) 21 <|
  gb (ib a2 (hN h (hR h a0 2))) <|
  gs h (hR h a0 7) 8 <|
  bd (f_X9_note h (hR h a0 7) (hI h a0 3) a1 a2 (hI h (hR h a0 2) a2.toNatClampNeg) a4 a5 a6) fun q5 =>
  gs q5 a0 3 <|
  lt (sI q5 a0 3 (a7 &&& (8191 : Int32))) fun h7 =>
  lt (sI h7 a0 13 (0 : Int32)) fun h9 =>
  some ((1 : Int32), h9)
set_option maxRecDepth 100000 in
set_option maxHeartbeats 4000000 in
theorem ok_X3_finish_L11 (l : Launch) (X : Cx) (h : AH) (a0 : Nat) (a1 : Int32) (a2 : Int32) (a4 : Int32) (a5 : Int32) (a6 : Int32) (a7 : Int32) (q : Int32 × AH) (hf : f_X3_finish_L11 h a0 a1 a2 a4 a5 a6 a7 = some q) : Go l X k_X3_finish 11 [(0, rf X a0), (1, .int a1), (2, .int a2), (4, .int a4), (5, .int a5), (6, .int a6), (7, .int a7)] [] h (rI q) := by
  unfold f_X3_finish_L11 at hf
  refine g_aload_n (pc := 11) 0 dX3_finish_11 rfl rfl ?_
  obtain ⟨g1, hf⟩ := gs_some hf
  refine g_getR (pc := 12) fl_X3_32 dX3_finish_12 g1 ?_
  refine g_aload_n (pc := 15) 0 dX3_finish_15 rfl rfl ?_
  refine g_getI (pc := 16) fl_X3_57 dX3_finish_16 g1 ?_
  refine g_iload_n (pc := 19) 1 dX3_finish_19 rfl rfl ?_
  refine g_iload_n (pc := 20) 2 dX3_finish_20 rfl rfl ?_
  refine g_aload_n (pc := 21) 0 dX3_finish_21 rfl rfl ?_
  refine g_getR (pc := 22) fl_X3_9 dX3_finish_22 g1 ?_
  refine g_iload_n (pc := 25) 2 dX3_finish_25 rfl rfl ?_
  obtain ⟨g2, hf⟩ := gs_some hf
  obtain ⟨b3, hf⟩ := gb_some hf
  refine g_iald (pc := 26) g2 b3 dX3_finish_26 ?_
  refine g_iload (pc := 27) 3 dX3_finish_27 rfl ?_
  refine g_iload (pc := 29) 4 dX3_finish_29 rfl ?_
  refine g_iload (pc := 31) 5 dX3_finish_31 rfl ?_
  obtain ⟨g4, hf⟩ := gs_some hf
  obtain ⟨q5, hcq5, hf⟩ := bd_some hf
  refine g_cVV (pc := 33) (k2 := k_X9_note) (av := [.int (hI h a0 3), .int a1, .int a2, .int (hI h (hR h a0 2) a2.toNatClampNeg), .int a4, .int a5, .int a6]) (q := q5) rfl dX3_finish_33 ck_X9_note m_1051 m_1052 m_1053 (ci := 7) rfl (by decide) g4 (by decide) (by decide) rfl (by simp [rf_cat, rq_cat, ca_i, ca_l, ca_r]) (ct_X9_note l X hcq5) ?_
  refine g_aload_n (pc := 36) 0 dX3_finish_36 rfl rfl ?_
  refine g_iload (pc := 37) 6 dX3_finish_37 rfl ?_
  refine g_sipush (pc := 39) (v := (8191 : Int32)) dX3_finish_39 (by decide) ?_
  refine g_iand (pc := 42) dX3_finish_42 ?_
  obtain ⟨g6, hf⟩ := gs_some hf
  obtain ⟨h7, eh7, hf⟩ := lt_some hf
  refine g_putI (pc := 43) fl_X3_57 dX3_finish_43 g6 eh7 ?_
  refine g_aload_n (pc := 46) 0 dX3_finish_46 rfl rfl ?_
  refine g_iconst (pc := 47) (v := (0 : Int32)) dX3_finish_47 (by decide) ?_
  have g8 : hS h7 a0 = 3 := (hS_tI eh7 g6)
  obtain ⟨h9, eh9, hf⟩ := lt_some hf
  refine g_putI (pc := 48) fl_X3_85 dX3_finish_48 g8 eh9 ?_
  refine g_iconst (pc := 51) (v := (1 : Int32)) dX3_finish_51 (by decide) ?_
  obtain rfl := Option.some.inj hf
  exact g_iret (pc := 52) rfl dX3_finish_52
def f_X3_finish (h : AH) (a0 : Nat) (a1 : Int32) (a2 : Int32) (a3 : Int32) (a4 : Int32) (a5 : Int32) (a6 : Int32) (a7 : Int32) : Option (Int32 × AH) :=
  if a2 = 0 then
    f_X3_finish_L11 h a0 a1 a2 a4 a5 a6 a7
  else
    gs h a0 3 <|
    gs h (hR h a0 2) 21 <|
    gb (ib a2 (hN h (hR h a0 2))) <|
    lt (sI h (hR h a0 2) a2.toNatClampNeg a3) fun h5 =>
    f_X3_finish_L11 h5 a0 a1 a2 a4 a5 a6 a7
set_option maxRecDepth 100000 in
set_option maxHeartbeats 4000000 in
theorem ok_X3_finish (l : Launch) (X : Cx) {h : AH} {a0 : Nat} {a1 : Int32} {a2 : Int32} {a3 : Int32} {a4 : Int32} {a5 : Int32} {a6 : Int32} {a7 : Int32} {q : Int32 × AH} (hf : f_X3_finish h a0 a1 a2 a3 a4 a5 a6 a7 = some q) : Go l X k_X3_finish 0 [(0, rf X a0), (1, .int a1), (2, .int a2), (3, .int a3), (4, .int a4), (5, .int a5), (6, .int a6), (7, .int a7)] [] h (rI q) := by
  unfold f_X3_finish at hf
  refine g_iload_n (pc := 0) 2 dX3_finish_0 rfl rfl ?_
  rcases it_some hf with ⟨c1, hf⟩ | ⟨c1, hf⟩
  · refine g_ifeq_t (pc := 1) (tgt := 11) dX3_finish_1 (by decide) c1 ?_
    refine g_sub [0, 1, 2, 4, 5, 6, 7] rfl ?_
    exact ok_X3_finish_L11 l X h a0 a1 a2 a4 a5 a6 a7 q hf
  · refine g_ifeq_f (pc := 1) (tgt := 11) dX3_finish_1 (by decide) c1 ?_
    refine g_aload_n (pc := 4) 0 dX3_finish_4 rfl rfl ?_
    obtain ⟨g2, hf⟩ := gs_some hf
    refine g_getR (pc := 5) fl_X3_9 dX3_finish_5 g2 ?_
    refine g_iload_n (pc := 8) 2 dX3_finish_8 rfl rfl ?_
    refine g_iload_n (pc := 9) 3 dX3_finish_9 rfl rfl ?_
    obtain ⟨g3, hf⟩ := gs_some hf
    obtain ⟨b4, hf⟩ := gb_some hf
    obtain ⟨h5, eh5, hf⟩ := lt_some hf
    refine g_iast (pc := 10) g3 b4 dX3_finish_10 eh5 ?_
    refine g_sub [0, 1, 2, 4, 5, 6, 7] rfl ?_
    exact ok_X3_finish_L11 l X h5 a0 a1 a2 a4 a5 a6 a7 q hf
theorem ct_X3_finish (l : Launch) (X : Cx) {h : AH} {a0 : Nat} {a1 : Int32} {a2 : Int32} {a3 : Int32} {a4 : Int32} {a5 : Int32} {a6 : Int32} {a7 : Int32} {q : Int32 × AH} (hf : f_X3_finish h a0 a1 a2 a3 a4 a5 a6 a7 = some q) : Ct l X k_X3_finish [rf X a0, .int a1, .int a2, .int a3, .int a4, .int a5, .int a6, .int a7] h (rI q) := ct_of ck_X3_finish (by simp [lg_sl, rf_cat, rq_cat, ca_i, ca_l, ca_r]) (by simp [lv_args, rf_cat, rq_cat, ca_i, ca_l, ca_r]) (ok_X3_finish l X hf)
def f_X3_reckoned (h : AH) (a0 : Nat) (a1 : Int32) (a2 : Int32) : Option (Int32 × AH) :=
  gs h a0 3 <|
  bd (f_X3_finish h a0 a1 ((jushr a1 (7 : Int32)) &&& (31 : Int32)) a2 (-1 : Int32) (0 : Int32) (0 : Int32) ((hI h a0 3) + (4 : Int32))) fun q2 =>
  some (q2.1, q2.2)
set_option maxRecDepth 100000 in
set_option maxHeartbeats 4000000 in
theorem ok_X3_reckoned (l : Launch) (X : Cx) {h : AH} {a0 : Nat} {a1 : Int32} {a2 : Int32} {q : Int32 × AH} (hf : f_X3_reckoned h a0 a1 a2 = some q) : Go l X k_X3_reckoned 0 [(0, rf X a0), (1, .int a1), (2, .int a2)] [] h (rI q) := by
  unfold f_X3_reckoned at hf
  refine g_aload_n (pc := 0) 0 dX3_reckoned_0 rfl rfl ?_
  refine g_iload_n (pc := 1) 1 dX3_reckoned_1 rfl rfl ?_
  refine g_iload_n (pc := 2) 1 dX3_reckoned_2 rfl rfl ?_
  refine g_bipush (pc := 3) (v := (7 : Int32)) dX3_reckoned_3 (by decide) ?_
  refine g_iushr (pc := 5) dX3_reckoned_5 ?_
  refine g_bipush (pc := 6) (v := (31 : Int32)) dX3_reckoned_6 (by decide) ?_
  refine g_iand (pc := 8) dX3_reckoned_8 ?_
  refine g_iload_n (pc := 9) 2 dX3_reckoned_9 rfl rfl ?_
  refine g_iconst (pc := 10) (v := (-1 : Int32)) dX3_reckoned_10 (by decide) ?_
  refine g_iconst (pc := 11) (v := (0 : Int32)) dX3_reckoned_11 (by decide) ?_
  refine g_iconst (pc := 12) (v := (0 : Int32)) dX3_reckoned_12 (by decide) ?_
  refine g_aload_n (pc := 13) 0 dX3_reckoned_13 rfl rfl ?_
  obtain ⟨g1, hf⟩ := gs_some hf
  refine g_getI (pc := 14) fl_X3_57 dX3_reckoned_14 g1 ?_
  refine g_iconst (pc := 17) (v := (4 : Int32)) dX3_reckoned_17 (by decide) ?_
  refine g_iadd (pc := 18) dX3_reckoned_18 ?_
  obtain ⟨q2, hcq2, hf⟩ := bd_some hf
  refine g_cVI (pc := 19) (k2 := k_X3_finish) (av := [.int a1, .int ((jushr a1 (7 : Int32)) &&& (31 : Int32)), .int a2, .int (-1 : Int32), .int (0 : Int32), .int (0 : Int32), .int ((hI h a0 3) + (4 : Int32))]) (q := q2) rfl dX3_reckoned_19 ck_X3_finish m_1047 m_1049 m_45 (ci := 2) rfl (by decide) g1 (by decide) (by decide) rfl (by simp [rf_cat, rq_cat, ca_i, ca_l, ca_r]) (ct_X3_finish l X hcq2) ?_
  obtain rfl := Option.some.inj hf
  exact g_iret (pc := 22) rfl dX3_reckoned_22
theorem ct_X3_reckoned (l : Launch) (X : Cx) {h : AH} {a0 : Nat} {a1 : Int32} {a2 : Int32} {q : Int32 × AH} (hf : f_X3_reckoned h a0 a1 a2 = some q) : Ct l X k_X3_reckoned [rf X a0, .int a1, .int a2] h (rI q) := ct_of ck_X3_reckoned (by simp [lg_sl, rf_cat, rq_cat, ca_i, ca_l, ca_r]) (by simp [lv_args, rf_cat, rq_cat, ca_i, ca_l, ca_r]) (ok_X3_reckoned l X hf)
def f_X3_jumped (h : AH) (a0 : Nat) (a1 : Int32) (a2 : Int32) : Option (Int32 × AH) :=
  gs h a0 3 <|
  bd (f_X3_finish h a0 a1 ((jushr a1 (7 : Int32)) &&& (31 : Int32)) ((hI h a0 3) + (4 : Int32)) (-1 : Int32) (0 : Int32) (0 : Int32) a2) fun q2 =>
  some (q2.1, q2.2)
set_option maxRecDepth 100000 in
set_option maxHeartbeats 4000000 in
theorem ok_X3_jumped (l : Launch) (X : Cx) {h : AH} {a0 : Nat} {a1 : Int32} {a2 : Int32} {q : Int32 × AH} (hf : f_X3_jumped h a0 a1 a2 = some q) : Go l X k_X3_jumped 0 [(0, rf X a0), (1, .int a1), (2, .int a2)] [] h (rI q) := by
  unfold f_X3_jumped at hf
  refine g_aload_n (pc := 0) 0 dX3_jumped_0 rfl rfl ?_
  refine g_iload_n (pc := 1) 1 dX3_jumped_1 rfl rfl ?_
  refine g_iload_n (pc := 2) 1 dX3_jumped_2 rfl rfl ?_
  refine g_bipush (pc := 3) (v := (7 : Int32)) dX3_jumped_3 (by decide) ?_
  refine g_iushr (pc := 5) dX3_jumped_5 ?_
  refine g_bipush (pc := 6) (v := (31 : Int32)) dX3_jumped_6 (by decide) ?_
  refine g_iand (pc := 8) dX3_jumped_8 ?_
  refine g_aload_n (pc := 9) 0 dX3_jumped_9 rfl rfl ?_
  obtain ⟨g1, hf⟩ := gs_some hf
  refine g_getI (pc := 10) fl_X3_57 dX3_jumped_10 g1 ?_
  refine g_iconst (pc := 13) (v := (4 : Int32)) dX3_jumped_13 (by decide) ?_
  refine g_iadd (pc := 14) dX3_jumped_14 ?_
  refine g_iconst (pc := 15) (v := (-1 : Int32)) dX3_jumped_15 (by decide) ?_
  refine g_iconst (pc := 16) (v := (0 : Int32)) dX3_jumped_16 (by decide) ?_
  refine g_iconst (pc := 17) (v := (0 : Int32)) dX3_jumped_17 (by decide) ?_
  refine g_iload_n (pc := 18) 2 dX3_jumped_18 rfl rfl ?_
  obtain ⟨q2, hcq2, hf⟩ := bd_some hf
  refine g_cVI (pc := 19) (k2 := k_X3_finish) (av := [.int a1, .int ((jushr a1 (7 : Int32)) &&& (31 : Int32)), .int ((hI h a0 3) + (4 : Int32)), .int (-1 : Int32), .int (0 : Int32), .int (0 : Int32), .int a2]) (q := q2) rfl dX3_jumped_19 ck_X3_finish m_1047 m_1049 m_45 (ci := 2) rfl (by decide) g1 (by decide) (by decide) rfl (by simp [rf_cat, rq_cat, ca_i, ca_l, ca_r]) (ct_X3_finish l X hcq2) ?_
  obtain rfl := Option.some.inj hf
  exact g_iret (pc := 22) rfl dX3_jumped_22
theorem ct_X3_jumped (l : Launch) (X : Cx) {h : AH} {a0 : Nat} {a1 : Int32} {a2 : Int32} {q : Int32 × AH} (hf : f_X3_jumped h a0 a1 a2 = some q) : Ct l X k_X3_jumped [rf X a0, .int a1, .int a2] h (rI q) := ct_of ck_X3_jumped (by simp [lg_sl, rf_cat, rq_cat, ca_i, ca_l, ca_r]) (by simp [lv_args, rf_cat, rq_cat, ca_i, ca_l, ca_r]) (ok_X3_jumped l X hf)
def f_X3_stopped (h : AH) (a0 : Nat) (a1 : Int32) (a2 : Int32) : Option (Int32 × AH) :=
  gs h a0 3 <|
  lt (sI h a0 4 a2) fun h2 =>
  bd (f_X3_finish h2 a0 a1 (0 : Int32) (0 : Int32) (-1 : Int32) (0 : Int32) (0 : Int32) (hI h2 a0 3)) fun q4 =>
  some (q4.1, q4.2)
set_option maxRecDepth 100000 in
set_option maxHeartbeats 4000000 in
theorem ok_X3_stopped (l : Launch) (X : Cx) {h : AH} {a0 : Nat} {a1 : Int32} {a2 : Int32} {q : Int32 × AH} (hf : f_X3_stopped h a0 a1 a2 = some q) : Go l X k_X3_stopped 0 [(0, rf X a0), (1, .int a1), (2, .int a2)] [] h (rI q) := by
  unfold f_X3_stopped at hf
  refine g_aload_n (pc := 0) 0 dX3_stopped_0 rfl rfl ?_
  refine g_iload_n (pc := 1) 2 dX3_stopped_1 rfl rfl ?_
  obtain ⟨g1, hf⟩ := gs_some hf
  obtain ⟨h2, eh2, hf⟩ := lt_some hf
  refine g_putI (pc := 2) fl_X3_60 dX3_stopped_2 g1 eh2 ?_
  refine g_aload_n (pc := 5) 0 dX3_stopped_5 rfl rfl ?_
  refine g_iload_n (pc := 6) 1 dX3_stopped_6 rfl rfl ?_
  refine g_iconst (pc := 7) (v := (0 : Int32)) dX3_stopped_7 (by decide) ?_
  refine g_iconst (pc := 8) (v := (0 : Int32)) dX3_stopped_8 (by decide) ?_
  refine g_iconst (pc := 9) (v := (-1 : Int32)) dX3_stopped_9 (by decide) ?_
  refine g_iconst (pc := 10) (v := (0 : Int32)) dX3_stopped_10 (by decide) ?_
  refine g_iconst (pc := 11) (v := (0 : Int32)) dX3_stopped_11 (by decide) ?_
  refine g_aload_n (pc := 12) 0 dX3_stopped_12 rfl rfl ?_
  have g3 : hS h2 a0 = 3 := (hS_tI eh2 g1)
  refine g_getI (pc := 13) fl_X3_57 dX3_stopped_13 g3 ?_
  obtain ⟨q4, hcq4, hf⟩ := bd_some hf
  refine g_cVI (pc := 16) (k2 := k_X3_finish) (av := [.int a1, .int (0 : Int32), .int (0 : Int32), .int (-1 : Int32), .int (0 : Int32), .int (0 : Int32), .int (hI h2 a0 3)]) (q := q4) rfl dX3_stopped_16 ck_X3_finish m_1047 m_1049 m_45 (ci := 2) rfl (by decide) g3 (by decide) (by decide) rfl (by simp [rf_cat, rq_cat, ca_i, ca_l, ca_r]) (ct_X3_finish l X hcq4) ?_
  obtain rfl := Option.some.inj hf
  exact g_iret (pc := 19) rfl dX3_stopped_19
theorem ct_X3_stopped (l : Launch) (X : Cx) {h : AH} {a0 : Nat} {a1 : Int32} {a2 : Int32} {q : Int32 × AH} (hf : f_X3_stopped h a0 a1 a2 = some q) : Ct l X k_X3_stopped [rf X a0, .int a1, .int a2] h (rI q) := ct_of ck_X3_stopped (by simp [lg_sl, rf_cat, rq_cat, ca_i, ca_l, ca_r]) (by simp [lv_args, rf_cat, rq_cat, ca_i, ca_l, ca_r]) (ok_X3_stopped l X hf)
def f_X3_branched_L31 (h : AH) (a0 : Nat) (a1 : Int32) (s0 : Int32) : Option (Int32 × AH) :=
  gs h a0 3 <|
  bd (f_X3_finish h a0 a1 (0 : Int32) (0 : Int32) (-1 : Int32) (0 : Int32) (0 : Int32) ((hI h a0 3) + s0)) fun q2 =>
  some (q2.1, q2.2)
set_option maxRecDepth 100000 in
set_option maxHeartbeats 4000000 in
theorem ok_X3_branched_L31 (l : Launch) (X : Cx) (h : AH) (a0 : Nat) (a1 : Int32) (s0 : Int32) (q : Int32 × AH) (hf : f_X3_branched_L31 h a0 a1 s0 = some q) : Go l X k_X3_branched 31 [(0, rf X a0), (1, .int a1)] [.int s0] h (rI q) := by
  unfold f_X3_branched_L31 at hf
  refine g_istore (pc := 31) (L' := [(4, .int s0), (0, rf X a0), (1, .int a1)]) dX3_branched_31 (by decide) rfl rfl ?_
  refine g_aload_n (pc := 33) 1 dX3_branched_33 rfl rfl ?_
  refine g_iload_n (pc := 34) 2 dX3_branched_34 rfl rfl ?_
  refine g_iconst (pc := 35) (v := (0 : Int32)) dX3_branched_35 (by decide) ?_
  refine g_iconst (pc := 36) (v := (0 : Int32)) dX3_branched_36 (by decide) ?_
  refine g_iconst (pc := 37) (v := (-1 : Int32)) dX3_branched_37 (by decide) ?_
  refine g_iconst (pc := 38) (v := (0 : Int32)) dX3_branched_38 (by decide) ?_
  refine g_iconst (pc := 39) (v := (0 : Int32)) dX3_branched_39 (by decide) ?_
  refine g_aload_n (pc := 40) 1 dX3_branched_40 rfl rfl ?_
  obtain ⟨g1, hf⟩ := gs_some hf
  refine g_getI (pc := 41) fl_X3_57 dX3_branched_41 g1 ?_
  refine g_iload (pc := 44) 0 dX3_branched_44 rfl ?_
  refine g_iadd (pc := 46) dX3_branched_46 ?_
  obtain ⟨q2, hcq2, hf⟩ := bd_some hf
  refine g_cVI (pc := 47) (k2 := k_X3_finish) (av := [.int a1, .int (0 : Int32), .int (0 : Int32), .int (-1 : Int32), .int (0 : Int32), .int (0 : Int32), .int ((hI h a0 3) + s0)]) (q := q2) rfl dX3_branched_47 ck_X3_finish m_1047 m_1049 m_45 (ci := 2) rfl (by decide) g1 (by decide) (by decide) rfl (by simp [rf_cat, rq_cat, ca_i, ca_l, ca_r]) (ct_X3_finish l X hcq2) ?_
  obtain rfl := Option.some.inj hf
  exact g_iret (pc := 50) rfl dX3_branched_50
def f_X3_branched (h : AH) (a0 : Nat) (a1 : Int32) (a2 : Int32) (a3 : Int32) : Option (Int32 × AH) :=
  bd (f_X0_knowsBranch h a1) fun v1 =>
  if ¬ v1 = 0 then
    bd (f_X0_branches h a1 a2 a3) fun v3 =>
    if v3 = 0 then
      f_X3_branched_L31 h a0 a1 (4 : Int32)
    else
      bd (f_X0_branchDistance h a1) fun v5 =>
      f_X3_branched_L31 h a0 a1 v5
  else
    gs h a0 3 <|
    bd (f_X3_stopped h a0 a1 (2 : Int32)) fun q7 =>
    some (q7.1, q7.2)
set_option maxRecDepth 100000 in
set_option maxHeartbeats 4000000 in
theorem ok_X3_branched (l : Launch) (X : Cx) {h : AH} {a0 : Nat} {a1 : Int32} {a2 : Int32} {a3 : Int32} {q : Int32 × AH} (hf : f_X3_branched h a0 a1 a2 a3 = some q) : Go l X k_X3_branched 0 [(0, rf X a0), (1, .int a1), (2, .int a2), (3, .int a3)] [] h (rI q) := by
  unfold f_X3_branched at hf
  refine g_iload_n (pc := 0) 1 dX3_branched_0 rfl rfl ?_
  obtain ⟨v1, hcv1, hf⟩ := bd_some hf
  refine g_cSI (pc := 1) (k2 := k_X0_knowsBranch) (av := [.int a1]) (q := (v1, h)) rfl dX3_branched_1 ck_X0_knowsBranch m_1074 m_1075 (by decide) (by decide) rfl (by simp [rf_cat, rq_cat, ca_i, ca_l, ca_r]) (ct_X0_knowsBranch l X hcv1) ?_
  rcases it_some hf with ⟨c2, hf⟩ | ⟨c2, hf⟩
  · refine g_ifne_t (pc := 4) (tgt := 14) dX3_branched_4 (by decide) c2 ?_
    refine g_iload_n (pc := 14) 1 dX3_branched_14 rfl rfl ?_
    refine g_iload_n (pc := 15) 2 dX3_branched_15 rfl rfl ?_
    refine g_iload_n (pc := 16) 3 dX3_branched_16 rfl rfl ?_
    obtain ⟨v3, hcv3, hf⟩ := bd_some hf
    refine g_cSI (pc := 17) (k2 := k_X0_branches) (av := [.int a1, .int a2, .int a3]) (q := (v3, h)) rfl dX3_branched_17 ck_X0_branches m_1078 m_1079 (by decide) (by decide) rfl (by simp [rf_cat, rq_cat, ca_i, ca_l, ca_r]) (ct_X0_branches l X hcv3) ?_
    rcases it_some hf with ⟨c4, hf⟩ | ⟨c4, hf⟩
    · refine g_ifeq_t (pc := 20) (tgt := 30) dX3_branched_20 (by decide) c4 ?_
      refine g_iconst (pc := 30) (v := (4 : Int32)) dX3_branched_30 (by decide) ?_
      refine g_sub [0, 1] rfl ?_
      exact ok_X3_branched_L31 l X h a0 a1 (4 : Int32) q hf
    · refine g_ifeq_f (pc := 20) (tgt := 30) dX3_branched_20 (by decide) c4 ?_
      refine g_iload_n (pc := 23) 1 dX3_branched_23 rfl rfl ?_
      obtain ⟨v5, hcv5, hf⟩ := bd_some hf
      refine g_cSI (pc := 24) (k2 := k_X0_branchDistance) (av := [.int a1]) (q := (v5, h)) rfl dX3_branched_24 ck_X0_branchDistance m_1085 m_1086 (by decide) (by decide) rfl (by simp [rf_cat, rq_cat, ca_i, ca_l, ca_r]) (ct_X0_branchDistance l X hcv5) ?_
      refine g_goto (pc := 27) (tgt := 31) dX3_branched_27 (by decide) ?_
      refine g_sub [0, 1] rfl ?_
      exact ok_X3_branched_L31 l X h a0 a1 v5 q hf
  · refine g_ifne_f (pc := 4) (tgt := 14) dX3_branched_4 (by decide) (Decidable.of_not_not c2) ?_
    refine g_aload_n (pc := 7) 0 dX3_branched_7 rfl rfl ?_
    refine g_iload_n (pc := 8) 1 dX3_branched_8 rfl rfl ?_
    refine g_iconst (pc := 9) (v := (2 : Int32)) dX3_branched_9 (by decide) ?_
    obtain ⟨g6, hf⟩ := gs_some hf
    obtain ⟨q7, hcq7, hf⟩ := bd_some hf
    refine g_cVI (pc := 10) (k2 := k_X3_stopped) (av := [.int a1, .int (2 : Int32)]) (q := q7) rfl dX3_branched_10 ck_X3_stopped m_1066 m_1068 m_47 (ci := 2) rfl (by decide) g6 (by decide) (by decide) rfl (by simp [rf_cat, rq_cat, ca_i, ca_l, ca_r]) (ct_X3_stopped l X hcq7) ?_
    obtain rfl := Option.some.inj hf
    exact g_iret (pc := 13) rfl dX3_branched_13
theorem ct_X3_branched (l : Launch) (X : Cx) {h : AH} {a0 : Nat} {a1 : Int32} {a2 : Int32} {a3 : Int32} {q : Int32 × AH} (hf : f_X3_branched h a0 a1 a2 a3 = some q) : Ct l X k_X3_branched [rf X a0, .int a1, .int a2, .int a3] h (rI q) := ct_of ck_X3_branched (by simp [lg_sl, rf_cat, rq_cat, ca_i, ca_l, ca_r]) (by simp [lv_args, rf_cat, rq_cat, ca_i, ca_l, ca_r]) (ok_X3_branched l X hf)
def f_X3_loaded_L15 (h : AH) (a0 : Nat) (a1 : Int32) : Option (Int32 × AH) :=
  gs h a0 3 <|
  bd (f_X3_stopped h a0 a1 (2 : Int32)) fun q2 =>
  some (q2.1, q2.2)
set_option maxRecDepth 100000 in
set_option maxHeartbeats 4000000 in
theorem ok_X3_loaded_L15 (l : Launch) (X : Cx) (h : AH) (a0 : Nat) (a1 : Int32) (q : Int32 × AH) (hf : f_X3_loaded_L15 h a0 a1 = some q) : Go l X k_X3_loaded 15 [(0, rf X a0), (1, .int a1)] [] h (rI q) := by
  unfold f_X3_loaded_L15 at hf
  refine g_aload_n (pc := 15) 0 dX3_loaded_15 rfl rfl ?_
  refine g_iload_n (pc := 16) 1 dX3_loaded_16 rfl rfl ?_
  refine g_iconst (pc := 17) (v := (2 : Int32)) dX3_loaded_17 (by decide) ?_
  obtain ⟨g1, hf⟩ := gs_some hf
  obtain ⟨q2, hcq2, hf⟩ := bd_some hf
  refine g_cVI (pc := 18) (k2 := k_X3_stopped) (av := [.int a1, .int (2 : Int32)]) (q := q2) rfl dX3_loaded_18 ck_X3_stopped m_1066 m_1068 m_47 (ci := 2) rfl (by decide) g1 (by decide) (by decide) rfl (by simp [rf_cat, rq_cat, ca_i, ca_l, ca_r]) (ct_X3_stopped l X hcq2) ?_
  obtain rfl := Option.some.inj hf
  exact g_iret (pc := 21) rfl dX3_loaded_21
def f_X3_loaded_L112 (h : AH) (s0 : Int32) : Option (Int32 × AH) :=
  some (s0, h)
set_option maxRecDepth 100000 in
set_option maxHeartbeats 4000000 in
theorem ok_X3_loaded_L112 (l : Launch) (X : Cx) (h : AH) (s0 : Int32) (q : Int32 × AH) (hf : f_X3_loaded_L112 h s0 = some q) : Go l X k_X3_loaded 112 [] [.int s0] h (rI q) := by
  unfold f_X3_loaded_L112 at hf
  obtain rfl := Option.some.inj hf
  exact g_iret (pc := 112) rfl dX3_loaded_112
def f_X3_loaded (h : AH) (a0 : Nat) (a1 : Int32) (a2 : Int32) : Option (Int32 × AH) :=
  bd (f_X0_variant h a1) fun v1 =>
  if v1 = (3 : Int32) then
    f_X3_loaded_L15 h a0 a1
  else
    if v1 ≤ (5 : Int32) then
      lt (((1 : Int32) <<< ((v1 &&& (3 : Int32)) &&& 31))) fun x4 =>
      if (a2 &&& (x4 - (1 : Int32))) = 0 then
        lt ((a2 &&& (3 : Int32))) fun x6 =>
        gs h a0 3 <|
        bd (f_X3_reads h a0 (a2 - x6) ((((1 : Int32) <<< (x4 &&& 31)) - (1 : Int32)) <<< (x6 &&& 31))) fun q8 =>
        if ¬ q8.1 = 0 then
          gs q8.2 a0 3 <|
          bd (f_X0_extend q8.2 (jushr (hI q8.2 a0 16) ((8 : Int32) * x6)) v1) fun v11 =>
          bd (f_X3_finish q8.2 a0 a1 ((jushr a1 (7 : Int32)) &&& (31 : Int32)) v11 a2 v11 (0 : Int32) ((hI q8.2 a0 3) + (4 : Int32))) fun q12 =>
          f_X3_loaded_L112 q12.2 q12.1
        else
          some ((3 : Int32), q8.2)
      else
        gs h a0 3 <|
        bd (f_X3_stopped h a0 a1 (4 : Int32)) fun q14 =>
        some (q14.1, q14.2)
    else
      f_X3_loaded_L15 h a0 a1
set_option maxRecDepth 100000 in
set_option maxHeartbeats 4000000 in
theorem ok_X3_loaded (l : Launch) (X : Cx) {h : AH} {a0 : Nat} {a1 : Int32} {a2 : Int32} {q : Int32 × AH} (hf : f_X3_loaded h a0 a1 a2 = some q) : Go l X k_X3_loaded 0 [(0, rf X a0), (1, .int a1), (2, .int a2)] [] h (rI q) := by
  unfold f_X3_loaded at hf
  refine g_iload_n (pc := 0) 1 dX3_loaded_0 rfl rfl ?_
  obtain ⟨v1, hcv1, hf⟩ := bd_some hf
  refine g_cSI (pc := 1) (k2 := k_X0_variant) (av := [.int a1]) (q := (v1, h)) rfl dX3_loaded_1 ck_X0_variant m_1063 m_1064 (by decide) (by decide) rfl (by simp [rf_cat, rq_cat, ca_i, ca_l, ca_r]) (ct_X0_variant l X hcv1) ?_
  refine g_istore_n (pc := 4) (L' := [(3, .int v1), (0, rf X a0), (1, .int a1), (2, .int a2)]) dX3_loaded_4 rfl (by decide) rfl rfl ?_
  refine g_iload_n (pc := 5) 0 dX3_loaded_5 rfl rfl ?_
  refine g_iconst (pc := 6) (v := (3 : Int32)) dX3_loaded_6 (by decide) ?_
  rcases it_some hf with ⟨c2, hf⟩ | ⟨c2, hf⟩
  · refine g_iceq_t (pc := 7) (tgt := 15) dX3_loaded_7 (by decide) c2 ?_
    refine g_sub [1, 2] rfl ?_
    exact ok_X3_loaded_L15 l X h a0 a1 q hf
  · refine g_iceq_f (pc := 7) (tgt := 15) dX3_loaded_7 (by decide) c2 ?_
    refine g_iload_n (pc := 10) 0 dX3_loaded_10 rfl rfl ?_
    refine g_iconst (pc := 11) (v := (5 : Int32)) dX3_loaded_11 (by decide) ?_
    rcases it_some hf with ⟨c3, hf⟩ | ⟨c3, hf⟩
    · refine g_icle_t (pc := 12) (tgt := 22) dX3_loaded_12 (by decide) c3 ?_
      refine g_iconst (pc := 22) (v := (1 : Int32)) dX3_loaded_22 (by decide) ?_
      refine g_iload_n (pc := 23) 0 dX3_loaded_23 rfl rfl ?_
      refine g_iconst (pc := 24) (v := (3 : Int32)) dX3_loaded_24 (by decide) ?_
      refine g_iand (pc := 25) dX3_loaded_25 ?_
      refine g_ishl (pc := 26) dX3_loaded_26 ?_
      obtain ⟨x4, ex4, hf⟩ := lt_some hf
      refine g_istore (pc := 27) (L' := [(4, .int x4), (3, .int v1), (0, rf X a0), (1, .int a1), (2, .int a2)]) dX3_loaded_27 (by decide) ex4 rfl ?_
      refine g_iload_n (pc := 29) 4 dX3_loaded_29 rfl rfl ?_
      refine g_iload (pc := 30) 0 dX3_loaded_30 rfl ?_
      refine g_iconst (pc := 32) (v := (1 : Int32)) dX3_loaded_32 (by decide) ?_
      refine g_isub (pc := 33) dX3_loaded_33 ?_
      refine g_iand (pc := 34) dX3_loaded_34 ?_
      rcases it_some hf with ⟨c5, hf⟩ | ⟨c5, hf⟩
      · refine g_ifeq_t (pc := 35) (tgt := 45) dX3_loaded_35 (by decide) c5 ?_
        refine g_iload_n (pc := 45) 4 dX3_loaded_45 rfl rfl ?_
        refine g_iconst (pc := 46) (v := (3 : Int32)) dX3_loaded_46 (by decide) ?_
        refine g_iand (pc := 47) dX3_loaded_47 ?_
        obtain ⟨x6, ex6, hf⟩ := lt_some hf
        refine g_istore (pc := 48) (L' := [(5, .int x6), (4, .int x4), (3, .int v1), (0, rf X a0), (1, .int a1), (2, .int a2)]) dX3_loaded_48 (by decide) ex6 rfl ?_
        refine g_aload_n (pc := 50) 3 dX3_loaded_50 rfl rfl ?_
        refine g_iload_n (pc := 51) 5 dX3_loaded_51 rfl rfl ?_
        refine g_iload (pc := 52) 0 dX3_loaded_52 rfl ?_
        refine g_isub (pc := 54) dX3_loaded_54 ?_
        refine g_iconst (pc := 55) (v := (1 : Int32)) dX3_loaded_55 (by decide) ?_
        refine g_iload (pc := 56) 1 dX3_loaded_56 rfl ?_
        refine g_ishl (pc := 58) dX3_loaded_58 ?_
        refine g_iconst (pc := 59) (v := (1 : Int32)) dX3_loaded_59 (by decide) ?_
        refine g_isub (pc := 60) dX3_loaded_60 ?_
        refine g_iload (pc := 61) 0 dX3_loaded_61 rfl ?_
        refine g_ishl (pc := 63) dX3_loaded_63 ?_
        obtain ⟨g7, hf⟩ := gs_some hf
        obtain ⟨q8, hcq8, hf⟩ := bd_some hf
        refine g_cVI (pc := 64) (k2 := k_X3_reads) (av := [.int (a2 - x6), .int ((((1 : Int32) <<< (x4 &&& 31)) - (1 : Int32)) <<< (x6 &&& 31))]) (q := q8) rfl dX3_loaded_64 ck_X3_reads m_1011 m_1013 m_41 (ci := 2) rfl (by decide) g7 (by decide) (by decide) rfl (by simp [rf_cat, rq_cat, ca_i, ca_l, ca_r]) (ct_X3_reads l X hcq8) ?_
        rcases it_some hf with ⟨c9, hf⟩ | ⟨c9, hf⟩
        · refine g_ifne_t (pc := 67) (tgt := 72) dX3_loaded_67 (by decide) c9 ?_
          refine g_aload_n (pc := 72) 3 dX3_loaded_72 rfl rfl ?_
          obtain ⟨g10, hf⟩ := gs_some hf
          refine g_getI (pc := 73) fl_X3_110 dX3_loaded_73 g10 ?_
          refine g_bipush (pc := 76) (v := (8 : Int32)) dX3_loaded_76 (by decide) ?_
          refine g_iload (pc := 78) 0 dX3_loaded_78 rfl ?_
          refine g_imul (pc := 80) dX3_loaded_80 ?_
          refine g_iushr (pc := 81) dX3_loaded_81 ?_
          refine g_iload_n (pc := 82) 2 dX3_loaded_82 rfl rfl ?_
          obtain ⟨v11, hcv11, hf⟩ := bd_some hf
          refine g_cSI (pc := 83) (k2 := k_X0_extend) (av := [.int (jushr (hI q8.2 a0 16) ((8 : Int32) * x6)), .int v1]) (q := (v11, q8.2)) rfl dX3_loaded_83 ck_X0_extend m_1092 m_1093 (by decide) (by decide) rfl (by simp [rf_cat, rq_cat, ca_i, ca_l, ca_r]) (ct_X0_extend l X hcv11) ?_
          refine g_istore (pc := 86) (L' := [(6, .int v11), (5, .int x6), (4, .int x4), (3, .int v1), (0, rf X a0), (1, .int a1), (2, .int a2)]) dX3_loaded_86 (by decide) rfl rfl ?_
          refine g_aload_n (pc := 88) 4 dX3_loaded_88 rfl rfl ?_
          refine g_iload_n (pc := 89) 5 dX3_loaded_89 rfl rfl ?_
          refine g_iload_n (pc := 90) 5 dX3_loaded_90 rfl rfl ?_
          refine g_bipush (pc := 91) (v := (7 : Int32)) dX3_loaded_91 (by decide) ?_
          refine g_iushr (pc := 93) dX3_loaded_93 ?_
          refine g_bipush (pc := 94) (v := (31 : Int32)) dX3_loaded_94 (by decide) ?_
          refine g_iand (pc := 96) dX3_loaded_96 ?_
          refine g_iload (pc := 97) 0 dX3_loaded_97 rfl ?_
          refine g_iload_n (pc := 99) 6 dX3_loaded_99 rfl rfl ?_
          refine g_iload (pc := 100) 0 dX3_loaded_100 rfl ?_
          refine g_iconst (pc := 102) (v := (0 : Int32)) dX3_loaded_102 (by decide) ?_
          refine g_aload_n (pc := 103) 4 dX3_loaded_103 rfl rfl ?_
          refine g_getI (pc := 104) fl_X3_57 dX3_loaded_104 g10 ?_
          refine g_iconst (pc := 107) (v := (4 : Int32)) dX3_loaded_107 (by decide) ?_
          refine g_iadd (pc := 108) dX3_loaded_108 ?_
          obtain ⟨q12, hcq12, hf⟩ := bd_some hf
          refine g_cVI (pc := 109) (k2 := k_X3_finish) (av := [.int a1, .int ((jushr a1 (7 : Int32)) &&& (31 : Int32)), .int v11, .int a2, .int v11, .int (0 : Int32), .int ((hI q8.2 a0 3) + (4 : Int32))]) (q := q12) rfl dX3_loaded_109 ck_X3_finish m_1047 m_1049 m_45 (ci := 2) rfl (by decide) g10 (by decide) (by decide) rfl (by simp [rf_cat, rq_cat, ca_i, ca_l, ca_r]) (ct_X3_finish l X hcq12) ?_
          refine g_sub [] rfl ?_
          exact ok_X3_loaded_L112 l X q12.2 q12.1 q hf
        · refine g_ifne_f (pc := 67) (tgt := 72) dX3_loaded_67 (by decide) (Decidable.of_not_not c9) ?_
          refine g_iconst (pc := 70) (v := (3 : Int32)) dX3_loaded_70 (by decide) ?_
          obtain rfl := Option.some.inj hf
          exact g_iret (pc := 71) rfl dX3_loaded_71
      · refine g_ifeq_f (pc := 35) (tgt := 45) dX3_loaded_35 (by decide) c5 ?_
        refine g_aload_n (pc := 38) 2 dX3_loaded_38 rfl rfl ?_
        refine g_iload_n (pc := 39) 3 dX3_loaded_39 rfl rfl ?_
        refine g_iconst (pc := 40) (v := (4 : Int32)) dX3_loaded_40 (by decide) ?_
        obtain ⟨g13, hf⟩ := gs_some hf
        obtain ⟨q14, hcq14, hf⟩ := bd_some hf
        refine g_cVI (pc := 41) (k2 := k_X3_stopped) (av := [.int a1, .int (4 : Int32)]) (q := q14) rfl dX3_loaded_41 ck_X3_stopped m_1066 m_1068 m_47 (ci := 2) rfl (by decide) g13 (by decide) (by decide) rfl (by simp [rf_cat, rq_cat, ca_i, ca_l, ca_r]) (ct_X3_stopped l X hcq14) ?_
        obtain rfl := Option.some.inj hf
        exact g_iret (pc := 44) rfl dX3_loaded_44
    · refine g_icle_f (pc := 12) (tgt := 22) dX3_loaded_12 (by decide) c3 ?_
      refine g_sub [1, 2] rfl ?_
      exact ok_X3_loaded_L15 l X h a0 a1 q hf
theorem ct_X3_loaded (l : Launch) (X : Cx) {h : AH} {a0 : Nat} {a1 : Int32} {a2 : Int32} {q : Int32 × AH} (hf : f_X3_loaded h a0 a1 a2 = some q) : Ct l X k_X3_loaded [rf X a0, .int a1, .int a2] h (rI q) := ct_of ck_X3_loaded (by simp [lg_sl, rf_cat, rq_cat, ca_i, ca_l, ca_r]) (by simp [lv_args, rf_cat, rq_cat, ca_i, ca_l, ca_r]) (ok_X3_loaded l X hf)
def f_X7_isFull (h : AH) (a0 : Nat) : Option (Int32) :=
  gs h a0 6 <|
  if (hI h a0 1) < (hI h a0 2) then
    some (0 : Int32)
  else
    some (1 : Int32)
set_option maxRecDepth 100000 in
set_option maxHeartbeats 4000000 in
theorem ok_X7_isFull (l : Launch) (X : Cx) {h : AH} {a0 : Nat} {q : Int32} (hf : f_X7_isFull h a0 = some q) : Go l X k_X7_isFull 0 [(0, rf X a0)] [] h (rI (q, h)) := by
  unfold f_X7_isFull at hf
  refine g_aload_n (pc := 0) 0 dX7_isFull_0 rfl rfl ?_
  obtain ⟨g1, hf⟩ := gs_some hf
  refine g_getI (pc := 1) fl_X7_19 dX7_isFull_1 g1 ?_
  refine g_aload_n (pc := 4) 0 dX7_isFull_4 rfl rfl ?_
  refine g_getI (pc := 5) fl_X7_15 dX7_isFull_5 g1 ?_
  rcases it_some hf with ⟨c2, hf⟩ | ⟨c2, hf⟩
  · refine g_iclt_t (pc := 8) (tgt := 15) dX7_isFull_8 (by decide) c2 ?_
    refine g_iconst (pc := 15) (v := (0 : Int32)) dX7_isFull_15 (by decide) ?_
    obtain rfl := Option.some.inj hf
    exact g_zret (pc := 16) rfl rfl dX7_isFull_16
  · refine g_iclt_f (pc := 8) (tgt := 15) dX7_isFull_8 (by decide) c2 ?_
    refine g_iconst (pc := 11) (v := (1 : Int32)) dX7_isFull_11 (by decide) ?_
    refine g_goto (pc := 12) (tgt := 16) dX7_isFull_12 (by decide) ?_
    obtain rfl := Option.some.inj hf
    exact g_zret (pc := 16) rfl rfl dX7_isFull_16
theorem ct_X7_isFull (l : Launch) (X : Cx) {h : AH} {a0 : Nat} {q : Int32} (hf : f_X7_isFull h a0 = some q) : Ct l X k_X7_isFull [rf X a0] h (rI (q, h)) := ct_of ck_X7_isFull (by simp [lg_sl, rf_cat, rq_cat, ca_i, ca_l, ca_r]) (by simp [lv_args, rf_cat, rq_cat, ca_i, ca_l, ca_r]) (ok_X7_isFull l X hf)
def f_X7_add (h : AH) (a0 : Nat) (a1 : Int32) (a2 : Int32) (a3 : Int32) : Option (AH) :=
  gs h a0 6 <|
  gs h (hR h a0 0) 21 <|
  gb (ib (((hI h a0 1) * (3 : Int32)) + (0 : Int32)) (hN h (hR h a0 0))) <|
  lt (sI h (hR h a0 0) (((hI h a0 1) * (3 : Int32)) + (0 : Int32)).toNatClampNeg a1) fun h4 =>
  gs h4 (hR h4 a0 0) 21 <|
  gb (ib (((hI h4 a0 1) * (3 : Int32)) + (1 : Int32)) (hN h4 (hR h4 a0 0))) <|
  lt (sI h4 (hR h4 a0 0) (((hI h4 a0 1) * (3 : Int32)) + (1 : Int32)).toNatClampNeg a2) fun h8 =>
  gs h8 (hR h8 a0 0) 21 <|
  gb (ib (((hI h8 a0 1) * (3 : Int32)) + (2 : Int32)) (hN h8 (hR h8 a0 0))) <|
  lt (sI h8 (hR h8 a0 0) (((hI h8 a0 1) * (3 : Int32)) + (2 : Int32)).toNatClampNeg a3) fun h12 =>
  lt (sI h12 a0 1 ((hI h12 a0 1) + (1 : Int32))) fun h14 =>
  some h14
set_option maxRecDepth 100000 in
set_option maxHeartbeats 4000000 in
theorem ok_X7_add (l : Launch) (X : Cx) {h : AH} {a0 : Nat} {a1 : Int32} {a2 : Int32} {a3 : Int32} {q : AH} (hf : f_X7_add h a0 a1 a2 a3 = some q) : Go l X k_X7_add 0 [(0, rf X a0), (1, .int a1), (2, .int a2), (3, .int a3)] [] h (rV q) := by
  unfold f_X7_add at hf
  refine g_aload_n (pc := 0) 0 dX7_add_0 rfl rfl ?_
  obtain ⟨g1, hf⟩ := gs_some hf
  refine g_getR (pc := 1) fl_X7_11 dX7_add_1 g1 ?_
  refine g_aload_n (pc := 4) 0 dX7_add_4 rfl rfl ?_
  refine g_getI (pc := 5) fl_X7_19 dX7_add_5 g1 ?_
  refine g_iconst (pc := 8) (v := (3 : Int32)) dX7_add_8 (by decide) ?_
  refine g_imul (pc := 9) dX7_add_9 ?_
  refine g_iconst (pc := 10) (v := (0 : Int32)) dX7_add_10 (by decide) ?_
  refine g_iadd (pc := 11) dX7_add_11 ?_
  refine g_iload_n (pc := 12) 1 dX7_add_12 rfl rfl ?_
  obtain ⟨g2, hf⟩ := gs_some hf
  obtain ⟨b3, hf⟩ := gb_some hf
  obtain ⟨h4, eh4, hf⟩ := lt_some hf
  refine g_iast (pc := 13) g2 b3 dX7_add_13 eh4 ?_
  refine g_aload_n (pc := 14) 0 dX7_add_14 rfl rfl ?_
  have g5 : hS h4 a0 = 6 := (hS_tI eh4 g1)
  refine g_getR (pc := 15) fl_X7_11 dX7_add_15 g5 ?_
  refine g_aload_n (pc := 18) 0 dX7_add_18 rfl rfl ?_
  refine g_getI (pc := 19) fl_X7_19 dX7_add_19 g5 ?_
  refine g_iconst (pc := 22) (v := (3 : Int32)) dX7_add_22 (by decide) ?_
  refine g_imul (pc := 23) dX7_add_23 ?_
  refine g_iconst (pc := 24) (v := (1 : Int32)) dX7_add_24 (by decide) ?_
  refine g_iadd (pc := 25) dX7_add_25 ?_
  refine g_iload_n (pc := 26) 2 dX7_add_26 rfl rfl ?_
  obtain ⟨g6, hf⟩ := gs_some hf
  obtain ⟨b7, hf⟩ := gb_some hf
  obtain ⟨h8, eh8, hf⟩ := lt_some hf
  refine g_iast (pc := 27) g6 b7 dX7_add_27 eh8 ?_
  refine g_aload_n (pc := 28) 0 dX7_add_28 rfl rfl ?_
  have g9 : hS h8 a0 = 6 := (hS_tI eh8 g5)
  refine g_getR (pc := 29) fl_X7_11 dX7_add_29 g9 ?_
  refine g_aload_n (pc := 32) 0 dX7_add_32 rfl rfl ?_
  refine g_getI (pc := 33) fl_X7_19 dX7_add_33 g9 ?_
  refine g_iconst (pc := 36) (v := (3 : Int32)) dX7_add_36 (by decide) ?_
  refine g_imul (pc := 37) dX7_add_37 ?_
  refine g_iconst (pc := 38) (v := (2 : Int32)) dX7_add_38 (by decide) ?_
  refine g_iadd (pc := 39) dX7_add_39 ?_
  refine g_iload_n (pc := 40) 3 dX7_add_40 rfl rfl ?_
  obtain ⟨g10, hf⟩ := gs_some hf
  obtain ⟨b11, hf⟩ := gb_some hf
  obtain ⟨h12, eh12, hf⟩ := lt_some hf
  refine g_iast (pc := 41) g10 b11 dX7_add_41 eh12 ?_
  refine g_aload_n (pc := 42) 0 dX7_add_42 rfl rfl ?_
  refine g_dup (pc := 43) dX7_add_43 (rf_cat X _) ?_
  have g13 : hS h12 a0 = 6 := (hS_tI eh12 g9)
  refine g_getI (pc := 44) fl_X7_19 dX7_add_44 g13 ?_
  refine g_iconst (pc := 47) (v := (1 : Int32)) dX7_add_47 (by decide) ?_
  refine g_iadd (pc := 48) dX7_add_48 ?_
  obtain ⟨h14, eh14, hf⟩ := lt_some hf
  refine g_putI (pc := 49) fl_X7_19 dX7_add_49 g13 eh14 ?_
  obtain rfl := Option.some.inj hf
  exact g_vret (pc := 52) rfl dX7_add_52
theorem ct_X7_add (l : Launch) (X : Cx) {h : AH} {a0 : Nat} {a1 : Int32} {a2 : Int32} {a3 : Int32} {q : AH} (hf : f_X7_add h a0 a1 a2 a3 = some q) : Ct l X k_X7_add [rf X a0, .int a1, .int a2, .int a3] h (rV q) := ct_of ck_X7_add (by simp [lg_sl, rf_cat, rq_cat, ca_i, ca_l, ca_r]) (by simp [lv_args, rf_cat, rq_cat, ca_i, ca_l, ca_r]) (ok_X7_add l X hf)
def f_X3_stored_L100 (h : AH) (a0 : Nat) (a1 : Int32) (a2 : Int32) (a8 : Int32) : Option (Int32 × AH) :=
  gs h a0 3 <|
  bd (f_X3_finish h a0 a1 (0 : Int32) (0 : Int32) a2 (0 : Int32) a8 ((hI h a0 3) + (4 : Int32))) fun q2 =>
  some (q2.1, q2.2)
set_option maxRecDepth 100000 in
set_option maxHeartbeats 4000000 in
theorem ok_X3_stored_L100 (l : Launch) (X : Cx) (h : AH) (a0 : Nat) (a1 : Int32) (a2 : Int32) (a8 : Int32) (q : Int32 × AH) (hf : f_X3_stored_L100 h a0 a1 a2 a8 = some q) : Go l X k_X3_stored 100 [(0, rf X a0), (1, .int a1), (2, .int a2), (8, .int a8)] [] h (rI q) := by
  unfold f_X3_stored_L100 at hf
  refine g_aload_n (pc := 100) 0 dX3_stored_100 rfl rfl ?_
  refine g_iload_n (pc := 101) 1 dX3_stored_101 rfl rfl ?_
  refine g_iconst (pc := 102) (v := (0 : Int32)) dX3_stored_102 (by decide) ?_
  refine g_iconst (pc := 103) (v := (0 : Int32)) dX3_stored_103 (by decide) ?_
  refine g_iload_n (pc := 104) 2 dX3_stored_104 rfl rfl ?_
  refine g_iconst (pc := 105) (v := (0 : Int32)) dX3_stored_105 (by decide) ?_
  refine g_iload (pc := 106) 3 dX3_stored_106 rfl ?_
  refine g_aload_n (pc := 108) 0 dX3_stored_108 rfl rfl ?_
  obtain ⟨g1, hf⟩ := gs_some hf
  refine g_getI (pc := 109) fl_X3_57 dX3_stored_109 g1 ?_
  refine g_iconst (pc := 112) (v := (4 : Int32)) dX3_stored_112 (by decide) ?_
  refine g_iadd (pc := 113) dX3_stored_113 ?_
  obtain ⟨q2, hcq2, hf⟩ := bd_some hf
  refine g_cVI (pc := 114) (k2 := k_X3_finish) (av := [.int a1, .int (0 : Int32), .int (0 : Int32), .int a2, .int (0 : Int32), .int a8, .int ((hI h a0 3) + (4 : Int32))]) (q := q2) rfl dX3_stored_114 ck_X3_finish m_1047 m_1049 m_45 (ci := 2) rfl (by decide) g1 (by decide) (by decide) rfl (by simp [rf_cat, rq_cat, ca_i, ca_l, ca_r]) (ct_X3_finish l X hcq2) ?_
  obtain rfl := Option.some.inj hf
  exact g_iret (pc := 117) rfl dX3_stored_117
def f_X3_stored (h : AH) (a0 : Nat) (a1 : Int32) (a2 : Int32) (a3 : Int32) : Option (Int32 × AH) :=
  bd (f_X0_variant h a1) fun v1 =>
  if v1 ≤ (2 : Int32) then
    lt (((1 : Int32) <<< (v1 &&& 31))) fun x3 =>
    if (a2 &&& (x3 - (1 : Int32))) = 0 then
      gs h a0 3 <|
      gs h (hR h a0 5) 6 <|
      bd (f_X7_isFull h (hR h a0 5)) fun v7 =>
      if v7 = 0 then
        lt ((a2 &&& (3 : Int32))) fun x9 =>
        lt ((((1 : Int32) <<< (x3 &&& 31)) - (1 : Int32))) fun x10 =>
        gb (ib x10 16) <|
        lt ((a3 &&& (tBB.getD x10.toNatClampNeg 0))) fun x12 =>
        bd (f_X7_add h (hR h a0 5) (a2 - x9) (x10 <<< (x9 &&& 31)) (x12 <<< (((8 : Int32) * x9) &&& 31))) fun q13 =>
        f_X3_stored_L100 q13 a0 a1 a2 x12
      else
        some ((4 : Int32), h)
    else
      gs h a0 3 <|
      bd (f_X3_stopped h a0 a1 (4 : Int32)) fun q15 =>
      some (q15.1, q15.2)
  else
    gs h a0 3 <|
    bd (f_X3_stopped h a0 a1 (2 : Int32)) fun q17 =>
    some (q17.1, q17.2)
set_option maxRecDepth 100000 in
set_option maxHeartbeats 4000000 in
theorem ok_X3_stored (l : Launch) (X : Cx) {h : AH} {a0 : Nat} {a1 : Int32} {a2 : Int32} {a3 : Int32} {q : Int32 × AH} (hf : f_X3_stored h a0 a1 a2 a3 = some q) : Go l X k_X3_stored 0 [(0, rf X a0), (1, .int a1), (2, .int a2), (3, .int a3)] [] h (rI q) := by
  unfold f_X3_stored at hf
  refine g_iload_n (pc := 0) 1 dX3_stored_0 rfl rfl ?_
  obtain ⟨v1, hcv1, hf⟩ := bd_some hf
  refine g_cSI (pc := 1) (k2 := k_X0_variant) (av := [.int a1]) (q := (v1, h)) rfl dX3_stored_1 ck_X0_variant m_1063 m_1064 (by decide) (by decide) rfl (by simp [rf_cat, rq_cat, ca_i, ca_l, ca_r]) (ct_X0_variant l X hcv1) ?_
  refine g_istore (pc := 4) (L' := [(4, .int v1), (0, rf X a0), (1, .int a1), (2, .int a2), (3, .int a3)]) dX3_stored_4 (by decide) rfl rfl ?_
  refine g_iload (pc := 6) 0 dX3_stored_6 rfl ?_
  refine g_iconst (pc := 8) (v := (2 : Int32)) dX3_stored_8 (by decide) ?_
  rcases it_some hf with ⟨c2, hf⟩ | ⟨c2, hf⟩
  · refine g_icle_t (pc := 9) (tgt := 19) dX3_stored_9 (by decide) c2 ?_
    refine g_iconst (pc := 19) (v := (1 : Int32)) dX3_stored_19 (by decide) ?_
    refine g_iload (pc := 20) 0 dX3_stored_20 rfl ?_
    refine g_ishl (pc := 22) dX3_stored_22 ?_
    obtain ⟨x3, ex3, hf⟩ := lt_some hf
    refine g_istore (pc := 23) (L' := [(5, .int x3), (4, .int v1), (0, rf X a0), (1, .int a1), (2, .int a2), (3, .int a3)]) dX3_stored_23 (by decide) ex3 rfl ?_
    refine g_iload_n (pc := 25) 4 dX3_stored_25 rfl rfl ?_
    refine g_iload (pc := 26) 0 dX3_stored_26 rfl ?_
    refine g_iconst (pc := 28) (v := (1 : Int32)) dX3_stored_28 (by decide) ?_
    refine g_isub (pc := 29) dX3_stored_29 ?_
    refine g_iand (pc := 30) dX3_stored_30 ?_
    rcases it_some hf with ⟨c4, hf⟩ | ⟨c4, hf⟩
    · refine g_ifeq_t (pc := 31) (tgt := 41) dX3_stored_31 (by decide) c4 ?_
      refine g_aload_n (pc := 41) 2 dX3_stored_41 rfl rfl ?_
      obtain ⟨g5, hf⟩ := gs_some hf
      refine g_getR (pc := 42) fl_X3_18 dX3_stored_42 g5 ?_
      obtain ⟨g6, hf⟩ := gs_some hf
      obtain ⟨v7, hcv7, hf⟩ := bd_some hf
      refine g_cVI (pc := 45) (k2 := k_X7_isFull) (av := []) (q := (v7, h)) rfl dX3_stored_45 ck_X7_isFull m_1103 m_1104 m_1105 (ci := 5) rfl (by decide) g6 (by decide) (by decide) rfl (by simp [rf_cat, rq_cat, ca_i, ca_l, ca_r]) (ct_X7_isFull l X hcv7) ?_
      rcases it_some hf with ⟨c8, hf⟩ | ⟨c8, hf⟩
      · refine g_ifeq_t (pc := 48) (tgt := 53) dX3_stored_48 (by decide) c8 ?_
        refine g_iload_n (pc := 53) 4 dX3_stored_53 rfl rfl ?_
        refine g_iconst (pc := 54) (v := (3 : Int32)) dX3_stored_54 (by decide) ?_
        refine g_iand (pc := 55) dX3_stored_55 ?_
        obtain ⟨x9, ex9, hf⟩ := lt_some hf
        refine g_istore (pc := 56) (L' := [(6, .int x9), (5, .int x3), (4, .int v1), (0, rf X a0), (1, .int a1), (2, .int a2), (3, .int a3)]) dX3_stored_56 (by decide) ex9 rfl ?_
        refine g_iconst (pc := 58) (v := (1 : Int32)) dX3_stored_58 (by decide) ?_
        refine g_iload (pc := 59) 1 dX3_stored_59 rfl ?_
        refine g_ishl (pc := 61) dX3_stored_61 ?_
        refine g_iconst (pc := 62) (v := (1 : Int32)) dX3_stored_62 (by decide) ?_
        refine g_isub (pc := 63) dX3_stored_63 ?_
        obtain ⟨x10, ex10, hf⟩ := lt_some hf
        refine g_istore (pc := 64) (L' := [(7, .int x10), (6, .int x9), (5, .int x3), (4, .int v1), (0, rf X a0), (1, .int a1), (2, .int a2), (3, .int a3)]) dX3_stored_64 (by decide) ex10 rfl ?_
        refine g_iload_n (pc := 66) 7 dX3_stored_66 rfl rfl ?_
        refine g_sBBN (pc := 67) 3 rfl dX3_stored_67 ?_
        refine g_iload (pc := 70) 0 dX3_stored_70 rfl ?_
        obtain ⟨b11, hf⟩ := gb_some hf
        refine g_tBB (pc := 72) b11 dX3_stored_72 ?_
        refine g_iand (pc := 73) dX3_stored_73 ?_
        obtain ⟨x12, ex12, hf⟩ := lt_some hf
        refine g_istore (pc := 74) (L' := [(8, .int x12), (7, .int x10), (6, .int x9), (5, .int x3), (4, .int v1), (0, rf X a0), (1, .int a1), (2, .int a2), (3, .int a3)]) dX3_stored_74 (by decide) ex12 rfl ?_
        refine g_aload_n (pc := 76) 5 dX3_stored_76 rfl rfl ?_
        refine g_getR (pc := 77) fl_X3_18 dX3_stored_77 g5 ?_
        refine g_iload_n (pc := 80) 7 dX3_stored_80 rfl rfl ?_
        refine g_iload (pc := 81) 2 dX3_stored_81 rfl ?_
        refine g_isub (pc := 83) dX3_stored_83 ?_
        refine g_iload (pc := 84) 1 dX3_stored_84 rfl ?_
        refine g_iload (pc := 86) 2 dX3_stored_86 rfl ?_
        refine g_ishl (pc := 88) dX3_stored_88 ?_
        refine g_iload (pc := 89) 0 dX3_stored_89 rfl ?_
        refine g_bipush (pc := 91) (v := (8 : Int32)) dX3_stored_91 (by decide) ?_
        refine g_iload (pc := 93) 2 dX3_stored_93 rfl ?_
        refine g_imul (pc := 95) dX3_stored_95 ?_
        refine g_ishl (pc := 96) dX3_stored_96 ?_
        obtain ⟨q13, hcq13, hf⟩ := bd_some hf
        refine g_cVV (pc := 97) (k2 := k_X7_add) (av := [.int (a2 - x9), .int (x10 <<< (x9 &&& 31)), .int (x12 <<< (((8 : Int32) * x9) &&& 31))]) (q := q13) rfl dX3_stored_97 ck_X7_add m_1108 m_1109 m_1110 (ci := 5) rfl (by decide) g6 (by decide) (by decide) rfl (by simp [rf_cat, rq_cat, ca_i, ca_l, ca_r]) (ct_X7_add l X hcq13) ?_
        refine g_sub [5, 6, 7, 0] rfl ?_
        exact ok_X3_stored_L100 l X q13 a0 a1 a2 x12 q hf
      · refine g_ifeq_f (pc := 48) (tgt := 53) dX3_stored_48 (by decide) c8 ?_
        refine g_iconst (pc := 51) (v := (4 : Int32)) dX3_stored_51 (by decide) ?_
        obtain rfl := Option.some.inj hf
        exact g_iret (pc := 52) rfl dX3_stored_52
    · refine g_ifeq_f (pc := 31) (tgt := 41) dX3_stored_31 (by decide) c4 ?_
      refine g_aload_n (pc := 34) 2 dX3_stored_34 rfl rfl ?_
      refine g_iload_n (pc := 35) 3 dX3_stored_35 rfl rfl ?_
      refine g_iconst (pc := 36) (v := (4 : Int32)) dX3_stored_36 (by decide) ?_
      obtain ⟨g14, hf⟩ := gs_some hf
      obtain ⟨q15, hcq15, hf⟩ := bd_some hf
      refine g_cVI (pc := 37) (k2 := k_X3_stopped) (av := [.int a1, .int (4 : Int32)]) (q := q15) rfl dX3_stored_37 ck_X3_stopped m_1066 m_1068 m_47 (ci := 2) rfl (by decide) g14 (by decide) (by decide) rfl (by simp [rf_cat, rq_cat, ca_i, ca_l, ca_r]) (ct_X3_stopped l X hcq15) ?_
      obtain rfl := Option.some.inj hf
      exact g_iret (pc := 40) rfl dX3_stored_40
  · refine g_icle_f (pc := 9) (tgt := 19) dX3_stored_9 (by decide) c2 ?_
    refine g_aload_n (pc := 12) 1 dX3_stored_12 rfl rfl ?_
    refine g_iload_n (pc := 13) 2 dX3_stored_13 rfl rfl ?_
    refine g_iconst (pc := 14) (v := (2 : Int32)) dX3_stored_14 (by decide) ?_
    obtain ⟨g16, hf⟩ := gs_some hf
    obtain ⟨q17, hcq17, hf⟩ := bd_some hf
    refine g_cVI (pc := 15) (k2 := k_X3_stopped) (av := [.int a1, .int (2 : Int32)]) (q := q17) rfl dX3_stored_15 ck_X3_stopped m_1066 m_1068 m_47 (ci := 2) rfl (by decide) g16 (by decide) (by decide) rfl (by simp [rf_cat, rq_cat, ca_i, ca_l, ca_r]) (ct_X3_stopped l X hcq17) ?_
    obtain rfl := Option.some.inj hf
    exact g_iret (pc := 18) rfl dX3_stored_18
theorem ct_X3_stored (l : Launch) (X : Cx) {h : AH} {a0 : Nat} {a1 : Int32} {a2 : Int32} {a3 : Int32} {q : Int32 × AH} (hf : f_X3_stored h a0 a1 a2 a3 = some q) : Ct l X k_X3_stored [rf X a0, .int a1, .int a2, .int a3] h (rI q) := ct_of ck_X3_stored (by simp [lg_sl, rf_cat, rq_cat, ca_i, ca_l, ca_r]) (by simp [lv_args, rf_cat, rq_cat, ca_i, ca_l, ca_r]) (ok_X3_stored l X hf)
def f_X3_wordToChange_L28 (h : AH) (a0 : Nat) (a1 : Int32) : Option (Int32 × AH) :=
  gs h a0 3 <|
  bd (f_X3_miss h a0 (a1 >>> ((4 : Int32) &&& 31)) (1 : Int32)) fun q2 =>
  some ((-1 : Int32), q2)
set_option maxRecDepth 100000 in
set_option maxHeartbeats 4000000 in
theorem ok_X3_wordToChange_L28 (l : Launch) (X : Cx) (h : AH) (a0 : Nat) (a1 : Int32) (q : Int32 × AH) (hf : f_X3_wordToChange_L28 h a0 a1 = some q) : Go l X k_X3_wordToChange 28 [(0, rf X a0), (1, .int a1)] [] h (rI q) := by
  unfold f_X3_wordToChange_L28 at hf
  refine g_aload_n (pc := 28) 0 dX3_wordToChange_28 rfl rfl ?_
  refine g_iload_n (pc := 29) 1 dX3_wordToChange_29 rfl rfl ?_
  refine g_iconst (pc := 30) (v := (4 : Int32)) dX3_wordToChange_30 (by decide) ?_
  refine g_ishr (pc := 31) dX3_wordToChange_31 ?_
  refine g_iconst (pc := 32) (v := (1 : Int32)) dX3_wordToChange_32 (by decide) ?_
  obtain ⟨g1, hf⟩ := gs_some hf
  obtain ⟨q2, hcq2, hf⟩ := bd_some hf
  refine g_cVV (pc := 33) (k2 := k_X3_miss) (av := [.int (a1 >>> ((4 : Int32) &&& 31)), .int (1 : Int32)]) (q := q2) rfl dX3_wordToChange_33 ck_X3_miss m_1023 m_1025 m_42 (ci := 2) rfl (by decide) g1 (by decide) (by decide) rfl (by simp [rf_cat, rq_cat, ca_i, ca_l, ca_r]) (ct_X3_miss l X hcq2) ?_
  refine g_iconst (pc := 36) (v := (-1 : Int32)) dX3_wordToChange_36 (by decide) ?_
  obtain rfl := Option.some.inj hf
  exact g_iret (pc := 37) rfl dX3_wordToChange_37
def f_X3_wordToChange (h : AH) (a0 : Nat) (a1 : Int32) : Option (Int32 × AH) :=
  gs h a0 3 <|
  gs h (hR h a0 6) 2 <|
  bd (f_X2_find h (hR h a0 6) (a1 >>> ((4 : Int32) &&& 31))) fun v3 =>
  if v3 < 0 then
    f_X3_wordToChange_L28 h a0 a1
  else
    gs h (hR h (hR h a0 6) 1) 21 <|
    gb (ib v3 (hN h (hR h (hR h a0 6) 1))) <|
    if (2 : Int32) ≤ (hI h (hR h (hR h a0 6) 1) v3.toNatClampNeg) then
      bd (f_X2_use h (hR h a0 6) v3) fun q8 =>
      gs q8 a0 3 <|
      gs q8 (hR q8 a0 6) 2 <|
      gs q8 (hR q8 (hR q8 a0 6) 1) 21 <|
      gb (ib v3 (hN q8 (hR q8 (hR q8 a0 6) 1))) <|
      lt (sI q8 (hR q8 (hR q8 a0 6) 1) v3.toNatClampNeg (3 : Int32)) fun h13 =>
      lt (sI h13 a0 15 ((hI h13 a0 15) + (1 : Int32))) fun h15 =>
      bd (f_X10_wordOf h15 v3 a1) fun v16 =>
      some (v16, h15)
    else
      f_X3_wordToChange_L28 h a0 a1
set_option maxRecDepth 100000 in
set_option maxHeartbeats 4000000 in
theorem ok_X3_wordToChange (l : Launch) (X : Cx) {h : AH} {a0 : Nat} {a1 : Int32} {q : Int32 × AH} (hf : f_X3_wordToChange h a0 a1 = some q) : Go l X k_X3_wordToChange 0 [(0, rf X a0), (1, .int a1)] [] h (rI q) := by
  unfold f_X3_wordToChange at hf
  refine g_aload_n (pc := 0) 0 dX3_wordToChange_0 rfl rfl ?_
  obtain ⟨g1, hf⟩ := gs_some hf
  refine g_getR (pc := 1) fl_X3_25 dX3_wordToChange_1 g1 ?_
  refine g_iload_n (pc := 4) 1 dX3_wordToChange_4 rfl rfl ?_
  refine g_iconst (pc := 5) (v := (4 : Int32)) dX3_wordToChange_5 (by decide) ?_
  refine g_ishr (pc := 6) dX3_wordToChange_6 ?_
  obtain ⟨g2, hf⟩ := gs_some hf
  obtain ⟨v3, hcv3, hf⟩ := bd_some hf
  refine g_cVI (pc := 7) (k2 := k_X2_find) (av := [.int (a1 >>> ((4 : Int32) &&& 31))]) (q := (v3, h)) rfl dX3_wordToChange_7 ck_X2_find m_651 m_652 m_653 (ci := 1) rfl (by decide) g2 (by decide) (by decide) rfl (by simp [rf_cat, rq_cat, ca_i, ca_l, ca_r]) (ct_X2_find l X hcv3) ?_
  refine g_istore_n (pc := 10) (L' := [(2, .int v3), (0, rf X a0), (1, .int a1)]) dX3_wordToChange_10 rfl (by decide) rfl rfl ?_
  refine g_iload_n (pc := 11) 0 dX3_wordToChange_11 rfl rfl ?_
  rcases it_some hf with ⟨c4, hf⟩ | ⟨c4, hf⟩
  · refine g_iflt_t (pc := 12) (tgt := 28) dX3_wordToChange_12 (by decide) c4 ?_
    refine g_sub [1, 2] rfl ?_
    exact ok_X3_wordToChange_L28 l X h a0 a1 q hf
  · refine g_iflt_f (pc := 12) (tgt := 28) dX3_wordToChange_12 (by decide) c4 ?_
    refine g_aload_n (pc := 15) 1 dX3_wordToChange_15 rfl rfl ?_
    refine g_getR (pc := 16) fl_X3_25 dX3_wordToChange_16 g1 ?_
    refine g_getR (pc := 19) fl_X3_226 dX3_wordToChange_19 g2 ?_
    refine g_iload_n (pc := 22) 0 dX3_wordToChange_22 rfl rfl ?_
    obtain ⟨g5, hf⟩ := gs_some hf
    obtain ⟨b6, hf⟩ := gb_some hf
    refine g_iald (pc := 23) g5 b6 dX3_wordToChange_23 ?_
    refine g_iconst (pc := 24) (v := (2 : Int32)) dX3_wordToChange_24 (by decide) ?_
    rcases it_some hf with ⟨c7, hf⟩ | ⟨c7, hf⟩
    · refine g_icge_t (pc := 25) (tgt := 38) dX3_wordToChange_25 (by decide) c7 ?_
      refine g_aload_n (pc := 38) 1 dX3_wordToChange_38 rfl rfl ?_
      refine g_getR (pc := 39) fl_X3_25 dX3_wordToChange_39 g1 ?_
      refine g_iload_n (pc := 42) 0 dX3_wordToChange_42 rfl rfl ?_
      obtain ⟨q8, hcq8, hf⟩ := bd_some hf
      refine g_cVV (pc := 43) (k2 := k_X2_use) (av := [.int v3]) (q := q8) rfl dX3_wordToChange_43 ck_X2_use m_1033 m_668 m_669 (ci := 1) rfl (by decide) g2 (by decide) (by decide) rfl (by simp [rf_cat, rq_cat, ca_i, ca_l, ca_r]) (ct_X2_use l X hcq8) ?_
      refine g_aload_n (pc := 46) 1 dX3_wordToChange_46 rfl rfl ?_
      obtain ⟨g9, hf⟩ := gs_some hf
      refine g_getR (pc := 47) fl_X3_25 dX3_wordToChange_47 g9 ?_
      obtain ⟨g10, hf⟩ := gs_some hf
      refine g_getR (pc := 50) fl_X3_226 dX3_wordToChange_50 g10 ?_
      refine g_iload_n (pc := 53) 0 dX3_wordToChange_53 rfl rfl ?_
      refine g_iconst (pc := 54) (v := (3 : Int32)) dX3_wordToChange_54 (by decide) ?_
      obtain ⟨g11, hf⟩ := gs_some hf
      obtain ⟨b12, hf⟩ := gb_some hf
      obtain ⟨h13, eh13, hf⟩ := lt_some hf
      refine g_iast (pc := 55) g11 b12 dX3_wordToChange_55 eh13 ?_
      refine g_aload_n (pc := 56) 1 dX3_wordToChange_56 rfl rfl ?_
      refine g_dup (pc := 57) dX3_wordToChange_57 (rf_cat X _) ?_
      have g14 : hS h13 a0 = 3 := (hS_tI eh13 g9)
      refine g_getI (pc := 58) fl_X3_91 dX3_wordToChange_58 g14 ?_
      refine g_iconst (pc := 61) (v := (1 : Int32)) dX3_wordToChange_61 (by decide) ?_
      refine g_iadd (pc := 62) dX3_wordToChange_62 ?_
      obtain ⟨h15, eh15, hf⟩ := lt_some hf
      refine g_putI (pc := 63) fl_X3_91 dX3_wordToChange_63 g14 eh15 ?_
      refine g_iload_n (pc := 66) 0 dX3_wordToChange_66 rfl rfl ?_
      refine g_iload_n (pc := 67) 2 dX3_wordToChange_67 rfl rfl ?_
      obtain ⟨v16, hcv16, hf⟩ := bd_some hf
      refine g_nSI (pc := 68) (k2 := k_X10_wordOf) (av := [.int v3, .int a1]) (q := (v16, h15)) rfl dX3_wordToChange_68 ck_X10_wordOf 7 rfl m_1035 (by decide) (by decide) rfl (by simp [rf_cat, rq_cat, ca_i, ca_l, ca_r]) (ct_X10_wordOf l X hcv16) ?_
      obtain rfl := Option.some.inj hf
      exact g_iret (pc := 71) rfl dX3_wordToChange_71
    · refine g_icge_f (pc := 25) (tgt := 38) dX3_wordToChange_25 (by decide) c7 ?_
      refine g_sub [1, 2] rfl ?_
      exact ok_X3_wordToChange_L28 l X h a0 a1 q hf
theorem ct_X3_wordToChange (l : Launch) (X : Cx) {h : AH} {a0 : Nat} {a1 : Int32} {q : Int32 × AH} (hf : f_X3_wordToChange h a0 a1 = some q) : Ct l X k_X3_wordToChange [rf X a0, .int a1] h (rI q) := ct_of ck_X3_wordToChange (by simp [lg_sl, rf_cat, rq_cat, ca_i, ca_l, ca_r]) (by simp [lv_args, rf_cat, rq_cat, ca_i, ca_l, ca_r]) (ok_X3_wordToChange l X hf)
def f_X3_swapped (h : AH) (a0 : Nat) (a1 : Int32) (a2 : Int32) (a3 : Int32) : Option (Int32 × AH) :=
  if (a2 &&& (3 : Int32)) = 0 then
    gs h a0 3 <|
    gs h (hR h a0 5) 6 <|
    if (hI h (hR h a0 5) 1) ≤ 0 then
      bd (f_X3_wordToChange h a0 a2) fun q5 =>
      lt (q5.1) fun x6 =>
      if 0 ≤ x6 then
        gs q5.2 a0 3 <|
        gs q5.2 (hR q5.2 a0 6) 2 <|
        gs q5.2 (hR q5.2 (hR q5.2 a0 6) 3) 21 <|
        gb (ib x6 (hN q5.2 (hR q5.2 (hR q5.2 a0 6) 3))) <|
        lt ((hI q5.2 (hR q5.2 (hR q5.2 a0 6) 3) x6.toNatClampNeg)) fun x12 =>
        bd (f_X0_atomic q5.2 a1 x12 a3) fun v13 =>
        gb (ib x6 (hN q5.2 (hR q5.2 (hR q5.2 a0 6) 3))) <|
        lt (sI q5.2 (hR q5.2 (hR q5.2 a0 6) 3) x6.toNatClampNeg v13) fun h15 =>
        bd (f_X3_finish h15 a0 a1 ((jushr a1 (7 : Int32)) &&& (31 : Int32)) x12 a2 x12 v13 ((hI h15 a0 3) + (4 : Int32))) fun q17 =>
        some (q17.1, q17.2)
      else
        some ((6 : Int32), q5.2)
    else
      some ((5 : Int32), h)
  else
    gs h a0 3 <|
    bd (f_X3_stopped h a0 a1 (4 : Int32)) fun q19 =>
    some (q19.1, q19.2)
set_option maxRecDepth 100000 in
set_option maxHeartbeats 4000000 in
theorem ok_X3_swapped (l : Launch) (X : Cx) {h : AH} {a0 : Nat} {a1 : Int32} {a2 : Int32} {a3 : Int32} {q : Int32 × AH} (hf : f_X3_swapped h a0 a1 a2 a3 = some q) : Go l X k_X3_swapped 0 [(0, rf X a0), (1, .int a1), (2, .int a2), (3, .int a3)] [] h (rI q) := by
  unfold f_X3_swapped at hf
  refine g_iload_n (pc := 0) 2 dX3_swapped_0 rfl rfl ?_
  refine g_iconst (pc := 1) (v := (3 : Int32)) dX3_swapped_1 (by decide) ?_
  refine g_iand (pc := 2) dX3_swapped_2 ?_
  rcases it_some hf with ⟨c1, hf⟩ | ⟨c1, hf⟩
  · refine g_ifeq_t (pc := 3) (tgt := 13) dX3_swapped_3 (by decide) c1 ?_
    refine g_aload_n (pc := 13) 0 dX3_swapped_13 rfl rfl ?_
    obtain ⟨g2, hf⟩ := gs_some hf
    refine g_getR (pc := 14) fl_X3_18 dX3_swapped_14 g2 ?_
    obtain ⟨g3, hf⟩ := gs_some hf
    refine g_getI (pc := 17) fl_X3_100 dX3_swapped_17 g3 ?_
    rcases it_some hf with ⟨c4, hf⟩ | ⟨c4, hf⟩
    · refine g_ifle_t (pc := 20) (tgt := 25) dX3_swapped_20 (by decide) c4 ?_
      refine g_aload_n (pc := 25) 0 dX3_swapped_25 rfl rfl ?_
      refine g_iload_n (pc := 26) 2 dX3_swapped_26 rfl rfl ?_
      obtain ⟨q5, hcq5, hf⟩ := bd_some hf
      refine g_cVI (pc := 27) (k2 := k_X3_wordToChange) (av := [.int a2]) (q := q5) rfl dX3_swapped_27 ck_X3_wordToChange m_1128 m_1130 m_52 (ci := 2) rfl (by decide) g2 (by decide) (by decide) rfl (by simp [rf_cat, rq_cat, ca_i, ca_l, ca_r]) (ct_X3_wordToChange l X hcq5) ?_
      obtain ⟨x6, ex6, hf⟩ := lt_some hf
      refine g_istore (pc := 30) (L' := [(4, .int x6), (0, rf X a0), (1, .int a1), (2, .int a2), (3, .int a3)]) dX3_swapped_30 (by decide) ex6 rfl ?_
      refine g_iload (pc := 32) 0 dX3_swapped_32 rfl ?_
      rcases it_some hf with ⟨c7, hf⟩ | ⟨c7, hf⟩
      · refine g_ifge_t (pc := 34) (tgt := 40) dX3_swapped_34 (by decide) c7 ?_
        refine g_aload_n (pc := 40) 1 dX3_swapped_40 rfl rfl ?_
        obtain ⟨g8, hf⟩ := gs_some hf
        refine g_getR (pc := 41) fl_X3_25 dX3_swapped_41 g8 ?_
        obtain ⟨g9, hf⟩ := gs_some hf
        refine g_getR (pc := 44) fl_X3_199 dX3_swapped_44 g9 ?_
        refine g_iload (pc := 47) 0 dX3_swapped_47 rfl ?_
        obtain ⟨g10, hf⟩ := gs_some hf
        obtain ⟨b11, hf⟩ := gb_some hf
        refine g_iald (pc := 49) g10 b11 dX3_swapped_49 ?_
        obtain ⟨x12, ex12, hf⟩ := lt_some hf
        refine g_istore (pc := 50) (L' := [(5, .int x12), (4, .int x6), (0, rf X a0), (1, .int a1), (2, .int a2), (3, .int a3)]) dX3_swapped_50 (by decide) ex12 rfl ?_
        refine g_iload_n (pc := 52) 3 dX3_swapped_52 rfl rfl ?_
        refine g_iload (pc := 53) 0 dX3_swapped_53 rfl ?_
        refine g_iload_n (pc := 55) 5 dX3_swapped_55 rfl rfl ?_
        obtain ⟨v13, hcv13, hf⟩ := bd_some hf
        refine g_cSI (pc := 56) (k2 := k_X0_atomic) (av := [.int a1, .int x12, .int a3]) (q := (v13, q5.2)) rfl dX3_swapped_56 ck_X0_atomic m_1132 m_1133 (by decide) (by decide) rfl (by simp [rf_cat, rq_cat, ca_i, ca_l, ca_r]) (ct_X0_atomic l X hcv13) ?_
        refine g_istore (pc := 59) (L' := [(6, .int v13), (5, .int x12), (4, .int x6), (0, rf X a0), (1, .int a1), (2, .int a2), (3, .int a3)]) dX3_swapped_59 (by decide) rfl rfl ?_
        refine g_aload_n (pc := 61) 3 dX3_swapped_61 rfl rfl ?_
        refine g_getR (pc := 62) fl_X3_25 dX3_swapped_62 g8 ?_
        refine g_getR (pc := 65) fl_X3_199 dX3_swapped_65 g9 ?_
        refine g_iload (pc := 68) 2 dX3_swapped_68 rfl ?_
        refine g_iload (pc := 70) 0 dX3_swapped_70 rfl ?_
        obtain ⟨b14, hf⟩ := gb_some hf
        obtain ⟨h15, eh15, hf⟩ := lt_some hf
        refine g_iast (pc := 72) g10 b14 dX3_swapped_72 eh15 ?_
        refine g_aload_n (pc := 73) 3 dX3_swapped_73 rfl rfl ?_
        refine g_iload_n (pc := 74) 4 dX3_swapped_74 rfl rfl ?_
        refine g_iload_n (pc := 75) 4 dX3_swapped_75 rfl rfl ?_
        refine g_bipush (pc := 76) (v := (7 : Int32)) dX3_swapped_76 (by decide) ?_
        refine g_iushr (pc := 78) dX3_swapped_78 ?_
        refine g_bipush (pc := 79) (v := (31 : Int32)) dX3_swapped_79 (by decide) ?_
        refine g_iand (pc := 81) dX3_swapped_81 ?_
        refine g_iload (pc := 82) 1 dX3_swapped_82 rfl ?_
        refine g_iload_n (pc := 84) 5 dX3_swapped_84 rfl rfl ?_
        refine g_iload (pc := 85) 1 dX3_swapped_85 rfl ?_
        refine g_iload (pc := 87) 0 dX3_swapped_87 rfl ?_
        refine g_aload_n (pc := 89) 3 dX3_swapped_89 rfl rfl ?_
        have g16 : hS h15 a0 = 3 := (hS_tI eh15 g8)
        refine g_getI (pc := 90) fl_X3_57 dX3_swapped_90 g16 ?_
        refine g_iconst (pc := 93) (v := (4 : Int32)) dX3_swapped_93 (by decide) ?_
        refine g_iadd (pc := 94) dX3_swapped_94 ?_
        obtain ⟨q17, hcq17, hf⟩ := bd_some hf
        refine g_cVI (pc := 95) (k2 := k_X3_finish) (av := [.int a1, .int ((jushr a1 (7 : Int32)) &&& (31 : Int32)), .int x12, .int a2, .int x12, .int v13, .int ((hI h15 a0 3) + (4 : Int32))]) (q := q17) rfl dX3_swapped_95 ck_X3_finish m_1047 m_1049 m_45 (ci := 2) rfl (by decide) g16 (by decide) (by decide) rfl (by simp [rf_cat, rq_cat, ca_i, ca_l, ca_r]) (ct_X3_finish l X hcq17) ?_
        obtain rfl := Option.some.inj hf
        exact g_iret (pc := 98) rfl dX3_swapped_98
      · refine g_ifge_f (pc := 34) (tgt := 40) dX3_swapped_34 (by decide) c7 ?_
        refine g_bipush (pc := 37) (v := (6 : Int32)) dX3_swapped_37 (by decide) ?_
        obtain rfl := Option.some.inj hf
        exact g_iret (pc := 39) rfl dX3_swapped_39
    · refine g_ifle_f (pc := 20) (tgt := 25) dX3_swapped_20 (by decide) c4 ?_
      refine g_iconst (pc := 23) (v := (5 : Int32)) dX3_swapped_23 (by decide) ?_
      obtain rfl := Option.some.inj hf
      exact g_iret (pc := 24) rfl dX3_swapped_24
  · refine g_ifeq_f (pc := 3) (tgt := 13) dX3_swapped_3 (by decide) c1 ?_
    refine g_aload_n (pc := 6) 0 dX3_swapped_6 rfl rfl ?_
    refine g_iload_n (pc := 7) 1 dX3_swapped_7 rfl rfl ?_
    refine g_iconst (pc := 8) (v := (4 : Int32)) dX3_swapped_8 (by decide) ?_
    obtain ⟨g18, hf⟩ := gs_some hf
    obtain ⟨q19, hcq19, hf⟩ := bd_some hf
    refine g_cVI (pc := 9) (k2 := k_X3_stopped) (av := [.int a1, .int (4 : Int32)]) (q := q19) rfl dX3_swapped_9 ck_X3_stopped m_1066 m_1068 m_47 (ci := 2) rfl (by decide) g18 (by decide) (by decide) rfl (by simp [rf_cat, rq_cat, ca_i, ca_l, ca_r]) (ct_X3_stopped l X hcq19) ?_
    obtain rfl := Option.some.inj hf
    exact g_iret (pc := 12) rfl dX3_swapped_12
theorem ct_X3_swapped (l : Launch) (X : Cx) {h : AH} {a0 : Nat} {a1 : Int32} {a2 : Int32} {a3 : Int32} {q : Int32 × AH} (hf : f_X3_swapped h a0 a1 a2 a3 = some q) : Ct l X k_X3_swapped [rf X a0, .int a1, .int a2, .int a3] h (rI q) := ct_of ck_X3_swapped (by simp [lg_sl, rf_cat, rq_cat, ca_i, ca_l, ca_r]) (by simp [lv_args, rf_cat, rq_cat, ca_i, ca_l, ca_r]) (ok_X3_swapped l X hf)
def f_X3_fenced (h : AH) (a0 : Nat) (a1 : Int32) : Option (Int32 × AH) :=
  bd (f_X0_variant h a1) fun v1 =>
  if v1 = 0 then
    gs h a0 3 <|
    gs h (hR h a0 5) 6 <|
    if (hI h (hR h a0 5) 1) ≤ 0 then
      bd (f_X3_finish h a0 a1 (0 : Int32) (0 : Int32) (-1 : Int32) (0 : Int32) (0 : Int32) ((hI h a0 3) + (4 : Int32))) fun q6 =>
      some (q6.1, q6.2)
    else
      some ((5 : Int32), h)
  else
    gs h a0 3 <|
    bd (f_X3_stopped h a0 a1 (2 : Int32)) fun q8 =>
    some (q8.1, q8.2)
set_option maxRecDepth 100000 in
set_option maxHeartbeats 4000000 in
theorem ok_X3_fenced (l : Launch) (X : Cx) {h : AH} {a0 : Nat} {a1 : Int32} {q : Int32 × AH} (hf : f_X3_fenced h a0 a1 = some q) : Go l X k_X3_fenced 0 [(0, rf X a0), (1, .int a1)] [] h (rI q) := by
  unfold f_X3_fenced at hf
  refine g_iload_n (pc := 0) 1 dX3_fenced_0 rfl rfl ?_
  obtain ⟨v1, hcv1, hf⟩ := bd_some hf
  refine g_cSI (pc := 1) (k2 := k_X0_variant) (av := [.int a1]) (q := (v1, h)) rfl dX3_fenced_1 ck_X0_variant m_1063 m_1064 (by decide) (by decide) rfl (by simp [rf_cat, rq_cat, ca_i, ca_l, ca_r]) (ct_X0_variant l X hcv1) ?_
  rcases it_some hf with ⟨c2, hf⟩ | ⟨c2, hf⟩
  · refine g_ifeq_t (pc := 4) (tgt := 14) dX3_fenced_4 (by decide) c2 ?_
    refine g_aload_n (pc := 14) 0 dX3_fenced_14 rfl rfl ?_
    obtain ⟨g3, hf⟩ := gs_some hf
    refine g_getR (pc := 15) fl_X3_18 dX3_fenced_15 g3 ?_
    obtain ⟨g4, hf⟩ := gs_some hf
    refine g_getI (pc := 18) fl_X3_100 dX3_fenced_18 g4 ?_
    rcases it_some hf with ⟨c5, hf⟩ | ⟨c5, hf⟩
    · refine g_ifle_t (pc := 21) (tgt := 28) dX3_fenced_21 (by decide) c5 ?_
      refine g_aload_n (pc := 28) 0 dX3_fenced_28 rfl rfl ?_
      refine g_iload_n (pc := 29) 1 dX3_fenced_29 rfl rfl ?_
      refine g_iconst (pc := 30) (v := (0 : Int32)) dX3_fenced_30 (by decide) ?_
      refine g_iconst (pc := 31) (v := (0 : Int32)) dX3_fenced_31 (by decide) ?_
      refine g_iconst (pc := 32) (v := (-1 : Int32)) dX3_fenced_32 (by decide) ?_
      refine g_iconst (pc := 33) (v := (0 : Int32)) dX3_fenced_33 (by decide) ?_
      refine g_iconst (pc := 34) (v := (0 : Int32)) dX3_fenced_34 (by decide) ?_
      refine g_aload_n (pc := 35) 0 dX3_fenced_35 rfl rfl ?_
      refine g_getI (pc := 36) fl_X3_57 dX3_fenced_36 g3 ?_
      refine g_iconst (pc := 39) (v := (4 : Int32)) dX3_fenced_39 (by decide) ?_
      refine g_iadd (pc := 40) dX3_fenced_40 ?_
      obtain ⟨q6, hcq6, hf⟩ := bd_some hf
      refine g_cVI (pc := 41) (k2 := k_X3_finish) (av := [.int a1, .int (0 : Int32), .int (0 : Int32), .int (-1 : Int32), .int (0 : Int32), .int (0 : Int32), .int ((hI h a0 3) + (4 : Int32))]) (q := q6) rfl dX3_fenced_41 ck_X3_finish m_1047 m_1049 m_45 (ci := 2) rfl (by decide) g3 (by decide) (by decide) rfl (by simp [rf_cat, rq_cat, ca_i, ca_l, ca_r]) (ct_X3_finish l X hcq6) ?_
      obtain rfl := Option.some.inj hf
      exact g_iret (pc := 44) rfl dX3_fenced_44
    · refine g_ifle_f (pc := 21) (tgt := 28) dX3_fenced_21 (by decide) c5 ?_
      refine g_iconst (pc := 24) (v := (5 : Int32)) dX3_fenced_24 (by decide) ?_
      refine g_goto (pc := 25) (tgt := 44) dX3_fenced_25 (by decide) ?_
      obtain rfl := Option.some.inj hf
      exact g_iret (pc := 44) rfl dX3_fenced_44
  · refine g_ifeq_f (pc := 4) (tgt := 14) dX3_fenced_4 (by decide) c2 ?_
    refine g_aload_n (pc := 7) 0 dX3_fenced_7 rfl rfl ?_
    refine g_iload_n (pc := 8) 1 dX3_fenced_8 rfl rfl ?_
    refine g_iconst (pc := 9) (v := (2 : Int32)) dX3_fenced_9 (by decide) ?_
    obtain ⟨g7, hf⟩ := gs_some hf
    obtain ⟨q8, hcq8, hf⟩ := bd_some hf
    refine g_cVI (pc := 10) (k2 := k_X3_stopped) (av := [.int a1, .int (2 : Int32)]) (q := q8) rfl dX3_fenced_10 ck_X3_stopped m_1066 m_1068 m_47 (ci := 2) rfl (by decide) g7 (by decide) (by decide) rfl (by simp [rf_cat, rq_cat, ca_i, ca_l, ca_r]) (ct_X3_stopped l X hcq8) ?_
    obtain rfl := Option.some.inj hf
    exact g_iret (pc := 13) rfl dX3_fenced_13
theorem ct_X3_fenced (l : Launch) (X : Cx) {h : AH} {a0 : Nat} {a1 : Int32} {q : Int32 × AH} (hf : f_X3_fenced h a0 a1 = some q) : Ct l X k_X3_fenced [rf X a0, .int a1] h (rI q) := ct_of ck_X3_fenced (by simp [lg_sl, rf_cat, rq_cat, ca_i, ca_l, ca_r]) (by simp [lv_args, rf_cat, rq_cat, ca_i, ca_l, ca_r]) (ok_X3_fenced l X hf)
def f_X3_advance_L307 (h : AH) (s0 : Int32) : Option (Int32 × AH) :=
  some (s0, h)
set_option maxRecDepth 100000 in
set_option maxHeartbeats 4000000 in
theorem ok_X3_advance_L307 (l : Launch) (X : Cx) (h : AH) (s0 : Int32) (q : Int32 × AH) (hf : f_X3_advance_L307 h s0 = some q) : Go l X k_X3_advance 307 [] [.int s0] h (rI q) := by
  unfold f_X3_advance_L307 at hf
  refine g_goto (pc := 307) (tgt := 316) dX3_advance_307 (by decide) ?_
  obtain rfl := Option.some.inj hf
  exact g_iret (pc := 316) rfl dX3_advance_316
def f_X3_advance_L198 (h : AH) (s0 : Int32) : Option (Int32 × AH) :=
  some (s0, h)
set_option maxRecDepth 100000 in
set_option maxHeartbeats 4000000 in
theorem ok_X3_advance_L198 (l : Launch) (X : Cx) (h : AH) (s0 : Int32) (q : Int32 × AH) (hf : f_X3_advance_L198 h s0 = some q) : Go l X k_X3_advance 198 [] [.int s0] h (rI q) := by
  unfold f_X3_advance_L198 at hf
  obtain rfl := Option.some.inj hf
  exact g_iret (pc := 198) rfl dX3_advance_198
def f_X3_advance_L398 (h : AH) (s0 : Nat) (s1 : Int32) (s2 : Int32) : Option (Int32 × AH) :=
  gs h s0 3 <|
  bd (f_X3_stopped h s0 s1 s2) fun q2 =>
  some (q2.1, q2.2)
set_option maxRecDepth 100000 in
set_option maxHeartbeats 4000000 in
theorem ok_X3_advance_L398 (l : Launch) (X : Cx) (h : AH) (s0 : Nat) (s1 : Int32) (s2 : Int32) (q : Int32 × AH) (hf : f_X3_advance_L398 h s0 s1 s2 = some q) : Go l X k_X3_advance 398 [] [.int s2, .int s1, rf X s0] h (rI q) := by
  unfold f_X3_advance_L398 at hf
  obtain ⟨g1, hf⟩ := gs_some hf
  obtain ⟨q2, hcq2, hf⟩ := bd_some hf
  refine g_cVI (pc := 398) (k2 := k_X3_stopped) (av := [.int s1, .int s2]) (q := q2) rfl dX3_advance_398 ck_X3_stopped m_1066 m_1068 m_47 (ci := 2) rfl (by decide) g1 (by decide) (by decide) rfl (by simp [rf_cat, rq_cat, ca_i, ca_l, ca_r]) (ct_X3_stopped l X hcq2) ?_
  obtain rfl := Option.some.inj hf
  exact g_iret (pc := 401) rfl dX3_advance_401
def f_X3_advance_L393 (h : AH) (s0 : Nat) (s1 : Int32) : Option (Int32 × AH) :=
  f_X3_advance_L398 h s0 s1 (1 : Int32)
set_option maxRecDepth 100000 in
set_option maxHeartbeats 4000000 in
theorem ok_X3_advance_L393 (l : Launch) (X : Cx) (h : AH) (s0 : Nat) (s1 : Int32) (q : Int32 × AH) (hf : f_X3_advance_L393 h s0 s1 = some q) : Go l X k_X3_advance 393 [] [.int s1, rf X s0] h (rI q) := by
  unfold f_X3_advance_L393 at hf
  refine g_iconst (pc := 393) (v := (1 : Int32)) dX3_advance_393 (by decide) ?_
  refine g_goto (pc := 394) (tgt := 398) dX3_advance_394 (by decide) ?_
  exact ok_X3_advance_L398 l X h s0 s1 (1 : Int32) q hf
def f_X3_advance (h : AH) (a0 : Nat) : Option (Int32 × AH) :=
  gs h a0 3 <|
  if (hI h a0 4) = 0 then
    if ((hI h a0 3) &&& (3 : Int32)) = 0 then
      bd (f_X3_reads h a0 (hI h a0 3) (15 : Int32)) fun q4 =>
      if ¬ q4.1 = 0 then
        gs q4.2 a0 3 <|
        lt ((hI q4.2 a0 16)) fun x7 =>
        gs q4.2 (hR q4.2 a0 2) 21 <|
        gb (ib ((jushr x7 (15 : Int32)) &&& (31 : Int32)) (hN q4.2 (hR q4.2 a0 2))) <|
        lt ((hI q4.2 (hR q4.2 a0 2) ((jushr x7 (15 : Int32)) &&& (31 : Int32)).toNatClampNeg)) fun x10 =>
        gb (ib ((jushr x7 (20 : Int32)) &&& (31 : Int32)) (hN q4.2 (hR q4.2 a0 2))) <|
        lt ((hI q4.2 (hR q4.2 a0 2) ((jushr x7 (20 : Int32)) &&& (31 : Int32)).toNatClampNeg)) fun x12 =>
        if (x7 &&& (127 : Int32)) = (3 : Int32) then
          bd (f_X3_loaded q4.2 a0 x7 ((x10 + (x7 >>> ((20 : Int32) &&& 31))) &&& (8191 : Int32))) fun q14 =>
          some (q14.1, q14.2)
        else
          if (x7 &&& (127 : Int32)) = (15 : Int32) then
            bd (f_X3_fenced q4.2 a0 x7) fun q16 =>
            some (q16.1, q16.2)
          else
            if (x7 &&& (127 : Int32)) = (19 : Int32) then
              bd (f_X0_knowsShift q4.2 x7) fun v18 =>
              if v18 = 0 then
                bd (f_X3_stopped q4.2 a0 x7 (2 : Int32)) fun q20 =>
                some (q20.1, q20.2)
              else
                bd (f_X0_reckon q4.2 x7 x10 (x7 >>> ((20 : Int32) &&& 31))) fun v21 =>
                bd (f_X3_reckoned q4.2 a0 x7 v21) fun q22 =>
                f_X3_advance_L307 q22.2 q22.1
            else
              if (x7 &&& (127 : Int32)) = (23 : Int32) then
                bd (f_X3_reckoned q4.2 a0 x7 ((hI q4.2 a0 3) + (x7 &&& (-4096 : Int32)))) fun q24 =>
                f_X3_advance_L198 q24.2 q24.1
              else
                if (x7 &&& (127 : Int32)) = (35 : Int32) then
                  bd (f_X0_storeDistance q4.2 x7) fun v26 =>
                  bd (f_X3_stored q4.2 a0 x7 ((x10 + v26) &&& (8191 : Int32)) x12) fun q27 =>
                  some (q27.1, q27.2)
                else
                  if (x7 &&& (127 : Int32)) = (47 : Int32) then
                    bd (f_X0_knowsAtomic q4.2 x7) fun v29 =>
                    if v29 = 0 then
                      bd (f_X3_stopped q4.2 a0 x7 (2 : Int32)) fun q31 =>
                      some (q31.1, q31.2)
                    else
                      bd (f_X3_swapped q4.2 a0 x7 (x10 &&& (8191 : Int32)) x12) fun q32 =>
                      some (q32.1, q32.2)
                  else
                    if (x7 &&& (127 : Int32)) = (51 : Int32) then
                      bd (f_X0_knows q4.2 x7) fun v34 =>
                      if v34 = 0 then
                        bd (f_X3_stopped q4.2 a0 x7 (2 : Int32)) fun q36 =>
                        some (q36.1, q36.2)
                      else
                        bd (f_X0_reckon q4.2 x7 x10 x12) fun v37 =>
                        bd (f_X3_reckoned q4.2 a0 x7 v37) fun q38 =>
                        some (q38.1, q38.2)
                    else
                      if (x7 &&& (127 : Int32)) = (55 : Int32) then
                        bd (f_X3_reckoned q4.2 a0 x7 (x7 &&& (-4096 : Int32))) fun q40 =>
                        some (q40.1, q40.2)
                      else
                        if (x7 &&& (127 : Int32)) = (99 : Int32) then
                          bd (f_X3_branched q4.2 a0 x7 x10 x12) fun q42 =>
                          some (q42.1, q42.2)
                        else
                          if (x7 &&& (127 : Int32)) = (103 : Int32) then
                            bd (f_X0_variant q4.2 x7) fun v44 =>
                            if ¬ v44 = 0 then
                              bd (f_X3_stopped q4.2 a0 x7 (2 : Int32)) fun q46 =>
                              some (q46.1, q46.2)
                            else
                              bd (f_X3_jumped q4.2 a0 x7 ((x10 + (x7 >>> ((20 : Int32) &&& 31))) &&& (-2 : Int32))) fun q47 =>
                              some (q47.1, q47.2)
                          else
                            if (x7 &&& (127 : Int32)) = (111 : Int32) then
                              bd (f_X0_jumpDistance q4.2 x7) fun v49 =>
                              bd (f_X3_jumped q4.2 a0 x7 ((hI q4.2 a0 3) + v49)) fun q50 =>
                              some (q50.1, q50.2)
                            else
                              if x7 = (115 : Int32) then
                                f_X3_advance_L393 q4.2 a0 x7
                              else
                                if ¬ x7 = (1048691 : Int32) then
                                  f_X3_advance_L398 q4.2 a0 x7 (2 : Int32)
                                else
                                  f_X3_advance_L393 q4.2 a0 x7
      else
        some ((2 : Int32), q4.2)
    else
      lt (sI h a0 4 (3 : Int32)) fun h53 =>
      some ((1 : Int32), h53)
  else
    some ((0 : Int32), h)
set_option maxRecDepth 100000 in
set_option maxHeartbeats 4000000 in
theorem ok_X3_advance (l : Launch) (X : Cx) {h : AH} {a0 : Nat} {q : Int32 × AH} (hf : f_X3_advance h a0 = some q) : Go l X k_X3_advance 0 [(0, rf X a0)] [] h (rI q) := by
  unfold f_X3_advance at hf
  refine g_aload_n (pc := 0) 0 dX3_advance_0 rfl rfl ?_
  obtain ⟨g1, hf⟩ := gs_some hf
  refine g_getI (pc := 1) fl_X3_60 dX3_advance_1 g1 ?_
  rcases it_some hf with ⟨c2, hf⟩ | ⟨c2, hf⟩
  · refine g_ifeq_t (pc := 4) (tgt := 9) dX3_advance_4 (by decide) c2 ?_
    refine g_aload_n (pc := 9) 0 dX3_advance_9 rfl rfl ?_
    refine g_getI (pc := 10) fl_X3_57 dX3_advance_10 g1 ?_
    refine g_iconst (pc := 13) (v := (3 : Int32)) dX3_advance_13 (by decide) ?_
    refine g_iand (pc := 14) dX3_advance_14 ?_
    rcases it_some hf with ⟨c3, hf⟩ | ⟨c3, hf⟩
    · refine g_ifeq_t (pc := 15) (tgt := 25) dX3_advance_15 (by decide) c3 ?_
      refine g_aload_n (pc := 25) 0 dX3_advance_25 rfl rfl ?_
      refine g_aload_n (pc := 26) 0 dX3_advance_26 rfl rfl ?_
      refine g_getI (pc := 27) fl_X3_57 dX3_advance_27 g1 ?_
      refine g_bipush (pc := 30) (v := (15 : Int32)) dX3_advance_30 (by decide) ?_
      obtain ⟨q4, hcq4, hf⟩ := bd_some hf
      refine g_cVI (pc := 32) (k2 := k_X3_reads) (av := [.int (hI h a0 3), .int (15 : Int32)]) (q := q4) rfl dX3_advance_32 ck_X3_reads m_1011 m_1013 m_41 (ci := 2) rfl (by decide) g1 (by decide) (by decide) rfl (by simp [rf_cat, rq_cat, ca_i, ca_l, ca_r]) (ct_X3_reads l X hcq4) ?_
      rcases it_some hf with ⟨c5, hf⟩ | ⟨c5, hf⟩
      · refine g_ifne_t (pc := 35) (tgt := 40) dX3_advance_35 (by decide) c5 ?_
        refine g_aload_n (pc := 40) 0 dX3_advance_40 rfl rfl ?_
        obtain ⟨g6, hf⟩ := gs_some hf
        refine g_getI (pc := 41) fl_X3_110 dX3_advance_41 g6 ?_
        obtain ⟨x7, ex7, hf⟩ := lt_some hf
        refine g_istore_n (pc := 44) (L' := [(1, .int x7), (0, rf X a0)]) dX3_advance_44 rfl (by decide) ex7 (by simp [rf_cat, rq_cat]) ?_
        refine g_aload_n (pc := 45) 1 dX3_advance_45 rfl rfl ?_
        refine g_getR (pc := 46) fl_X3_9 dX3_advance_46 g6 ?_
        refine g_iload_n (pc := 49) 0 dX3_advance_49 rfl rfl ?_
        refine g_bipush (pc := 50) (v := (15 : Int32)) dX3_advance_50 (by decide) ?_
        refine g_iushr (pc := 52) dX3_advance_52 ?_
        refine g_bipush (pc := 53) (v := (31 : Int32)) dX3_advance_53 (by decide) ?_
        refine g_iand (pc := 55) dX3_advance_55 ?_
        obtain ⟨g8, hf⟩ := gs_some hf
        obtain ⟨b9, hf⟩ := gb_some hf
        refine g_iald (pc := 56) g8 b9 dX3_advance_56 ?_
        obtain ⟨x10, ex10, hf⟩ := lt_some hf
        refine g_istore_n (pc := 57) (L' := [(2, .int x10), (1, .int x7), (0, rf X a0)]) dX3_advance_57 rfl (by decide) ex10 rfl ?_
        refine g_aload_n (pc := 58) 2 dX3_advance_58 rfl rfl ?_
        refine g_getR (pc := 59) fl_X3_9 dX3_advance_59 g6 ?_
        refine g_iload_n (pc := 62) 1 dX3_advance_62 rfl rfl ?_
        refine g_bipush (pc := 63) (v := (20 : Int32)) dX3_advance_63 (by decide) ?_
        refine g_iushr (pc := 65) dX3_advance_65 ?_
        refine g_bipush (pc := 66) (v := (31 : Int32)) dX3_advance_66 (by decide) ?_
        refine g_iand (pc := 68) dX3_advance_68 ?_
        obtain ⟨b11, hf⟩ := gb_some hf
        refine g_iald (pc := 69) g8 b11 dX3_advance_69 ?_
        obtain ⟨x12, ex12, hf⟩ := lt_some hf
        refine g_istore_n (pc := 70) (L' := [(3, .int x12), (2, .int x10), (1, .int x7), (0, rf X a0)]) dX3_advance_70 rfl (by decide) ex12 rfl ?_
        refine g_iload_n (pc := 71) 2 dX3_advance_71 rfl rfl ?_
        refine g_bipush (pc := 72) (v := (127 : Int32)) dX3_advance_72 (by decide) ?_
        refine g_iand (pc := 74) dX3_advance_74 ?_
        rcases it_some hf with ⟨c13, hf⟩ | ⟨c13, hf⟩
        · refine g_lsw (pc := 75) (tgt := 253) (3 : Int32) dX3_advance_75 (by decide +kernel) c13 (off := 178) (by decide +kernel) (by decide) ?_
          refine g_aload_n (pc := 253) 3 dX3_advance_253 rfl rfl ?_
          refine g_iload_n (pc := 254) 2 dX3_advance_254 rfl rfl ?_
          refine g_iload_n (pc := 255) 1 dX3_advance_255 rfl rfl ?_
          refine g_iload_n (pc := 256) 2 dX3_advance_256 rfl rfl ?_
          refine g_bipush (pc := 257) (v := (20 : Int32)) dX3_advance_257 (by decide) ?_
          refine g_ishr (pc := 259) dX3_advance_259 ?_
          refine g_iadd (pc := 260) dX3_advance_260 ?_
          refine g_sipush (pc := 261) (v := (8191 : Int32)) dX3_advance_261 (by decide) ?_
          refine g_iand (pc := 264) dX3_advance_264 ?_
          obtain ⟨q14, hcq14, hf⟩ := bd_some hf
          refine g_cVI (pc := 265) (k2 := k_X3_loaded) (av := [.int x7, .int ((x10 + (x7 >>> ((20 : Int32) &&& 31))) &&& (8191 : Int32))]) (q := q14) rfl dX3_advance_265 ck_X3_loaded m_1088 m_1090 m_49 (ci := 2) rfl (by decide) g6 (by decide) (by decide) rfl (by simp [rf_cat, rq_cat, ca_i, ca_l, ca_r]) (ct_X3_loaded l X hcq14) ?_
          obtain rfl := Option.some.inj hf
          exact g_iret (pc := 268) rfl dX3_advance_268
        ·
          rcases it_some hf with ⟨c15, hf⟩ | ⟨c15, hf⟩
          · refine g_lsw (pc := 75) (tgt := 373) (15 : Int32) dX3_advance_75 (by decide +kernel) c15 (off := 298) (by decide +kernel) (by decide) ?_
            refine g_aload_n (pc := 373) 3 dX3_advance_373 rfl rfl ?_
            refine g_iload_n (pc := 374) 2 dX3_advance_374 rfl rfl ?_
            obtain ⟨q16, hcq16, hf⟩ := bd_some hf
            refine g_cVI (pc := 375) (k2 := k_X3_fenced) (av := [.int x7]) (q := q16) rfl dX3_advance_375 ck_X3_fenced m_1139 m_1141 m_53 (ci := 2) rfl (by decide) g6 (by decide) (by decide) rfl (by simp [rf_cat, rq_cat, ca_i, ca_l, ca_r]) (ct_X3_fenced l X hcq16) ?_
            obtain rfl := Option.some.inj hf
            exact g_iret (pc := 378) rfl dX3_advance_378
          ·
            rcases it_some hf with ⟨c17, hf⟩ | ⟨c17, hf⟩
            · refine g_lsw (pc := 75) (tgt := 286) (19 : Int32) dX3_advance_75 (by decide +kernel) c17 (off := 211) (by decide +kernel) (by decide) ?_
              refine g_iload_n (pc := 286) 2 dX3_advance_286 rfl rfl ?_
              obtain ⟨v18, hcv18, hf⟩ := bd_some hf
              refine g_cSI (pc := 287) (k2 := k_X0_knowsShift) (av := [.int x7]) (q := (v18, q4.2)) rfl dX3_advance_287 ck_X0_knowsShift m_1112 m_1113 (by decide) (by decide) rfl (by simp [rf_cat, rq_cat, ca_i, ca_l, ca_r]) (ct_X0_knowsShift l X hcv18) ?_
              rcases it_some hf with ⟨c19, hf⟩ | ⟨c19, hf⟩
              · refine g_ifeq_t (pc := 290) (tgt := 310) dX3_advance_290 (by decide) c19 ?_
                refine g_aload_n (pc := 310) 3 dX3_advance_310 rfl rfl ?_
                refine g_iload_n (pc := 311) 2 dX3_advance_311 rfl rfl ?_
                refine g_iconst (pc := 312) (v := (2 : Int32)) dX3_advance_312 (by decide) ?_
                obtain ⟨q20, hcq20, hf⟩ := bd_some hf
                refine g_cVI (pc := 313) (k2 := k_X3_stopped) (av := [.int x7, .int (2 : Int32)]) (q := q20) rfl dX3_advance_313 ck_X3_stopped m_1066 m_1068 m_47 (ci := 2) rfl (by decide) g6 (by decide) (by decide) rfl (by simp [rf_cat, rq_cat, ca_i, ca_l, ca_r]) (ct_X3_stopped l X hcq20) ?_
                obtain rfl := Option.some.inj hf
                exact g_iret (pc := 316) rfl dX3_advance_316
              · refine g_ifeq_f (pc := 290) (tgt := 310) dX3_advance_290 (by decide) c19 ?_
                refine g_aload_n (pc := 293) 3 dX3_advance_293 rfl rfl ?_
                refine g_iload_n (pc := 294) 2 dX3_advance_294 rfl rfl ?_
                refine g_iload_n (pc := 295) 2 dX3_advance_295 rfl rfl ?_
                refine g_iload_n (pc := 296) 1 dX3_advance_296 rfl rfl ?_
                refine g_iload_n (pc := 297) 2 dX3_advance_297 rfl rfl ?_
                refine g_bipush (pc := 298) (v := (20 : Int32)) dX3_advance_298 (by decide) ?_
                refine g_ishr (pc := 300) dX3_advance_300 ?_
                obtain ⟨v21, hcv21, hf⟩ := bd_some hf
                refine g_cSI (pc := 301) (k2 := k_X0_reckon) (av := [.int x7, .int x10, .int (x7 >>> ((20 : Int32) &&& 31))]) (q := (v21, q4.2)) rfl dX3_advance_301 ck_X0_reckon m_1115 m_1116 (by decide) (by decide) rfl (by simp [rf_cat, rq_cat, ca_i, ca_l, ca_r]) (ct_X0_reckon l X hcv21) ?_
                obtain ⟨q22, hcq22, hf⟩ := bd_some hf
                refine g_cVI (pc := 304) (k2 := k_X3_reckoned) (av := [.int x7, .int v21]) (q := q22) rfl dX3_advance_304 ck_X3_reckoned m_1043 m_1045 m_44 (ci := 2) rfl (by decide) g6 (by decide) (by decide) rfl (by simp [rf_cat, rq_cat, ca_i, ca_l, ca_r]) (ct_X3_reckoned l X hcq22) ?_
                refine g_sub [] rfl ?_
                exact ok_X3_advance_L307 l X q22.2 q22.1 q hf
            ·
              rcases it_some hf with ⟨c23, hf⟩ | ⟨c23, hf⟩
              · refine g_lsw (pc := 75) (tgt := 183) (23 : Int32) dX3_advance_75 (by decide +kernel) c23 (off := 108) (by decide +kernel) (by decide) ?_
                refine g_aload_n (pc := 183) 3 dX3_advance_183 rfl rfl ?_
                refine g_iload_n (pc := 184) 2 dX3_advance_184 rfl rfl ?_
                refine g_aload_n (pc := 185) 3 dX3_advance_185 rfl rfl ?_
                refine g_getI (pc := 186) fl_X3_57 dX3_advance_186 g6 ?_
                refine g_iload_n (pc := 189) 2 dX3_advance_189 rfl rfl ?_
                refine g_sipush (pc := 190) (v := (-4096 : Int32)) dX3_advance_190 (by decide) ?_
                refine g_iand (pc := 193) dX3_advance_193 ?_
                refine g_iadd (pc := 194) dX3_advance_194 ?_
                obtain ⟨q24, hcq24, hf⟩ := bd_some hf
                refine g_cVI (pc := 195) (k2 := k_X3_reckoned) (av := [.int x7, .int ((hI q4.2 a0 3) + (x7 &&& (-4096 : Int32)))]) (q := q24) rfl dX3_advance_195 ck_X3_reckoned m_1043 m_1045 m_44 (ci := 2) rfl (by decide) g6 (by decide) (by decide) rfl (by simp [rf_cat, rq_cat, ca_i, ca_l, ca_r]) (ct_X3_reckoned l X hcq24) ?_
                refine g_sub [] rfl ?_
                exact ok_X3_advance_L198 l X q24.2 q24.1 q hf
              ·
                rcases it_some hf with ⟨c25, hf⟩ | ⟨c25, hf⟩
                · refine g_lsw (pc := 75) (tgt := 269) (35 : Int32) dX3_advance_75 (by decide +kernel) c25 (off := 194) (by decide +kernel) (by decide) ?_
                  refine g_aload_n (pc := 269) 3 dX3_advance_269 rfl rfl ?_
                  refine g_iload_n (pc := 270) 2 dX3_advance_270 rfl rfl ?_
                  refine g_iload_n (pc := 271) 1 dX3_advance_271 rfl rfl ?_
                  refine g_iload_n (pc := 272) 2 dX3_advance_272 rfl rfl ?_
                  obtain ⟨v26, hcv26, hf⟩ := bd_some hf
                  refine g_cSI (pc := 273) (k2 := k_X0_storeDistance) (av := [.int x7]) (q := (v26, q4.2)) rfl dX3_advance_273 ck_X0_storeDistance m_1096 m_1097 (by decide) (by decide) rfl (by simp [rf_cat, rq_cat, ca_i, ca_l, ca_r]) (ct_X0_storeDistance l X hcv26) ?_
                  refine g_iadd (pc := 276) dX3_advance_276 ?_
                  refine g_sipush (pc := 277) (v := (8191 : Int32)) dX3_advance_277 (by decide) ?_
                  refine g_iand (pc := 280) dX3_advance_280 ?_
                  refine g_iload_n (pc := 281) 0 dX3_advance_281 rfl rfl ?_
                  obtain ⟨q27, hcq27, hf⟩ := bd_some hf
                  refine g_cVI (pc := 282) (k2 := k_X3_stored) (av := [.int x7, .int ((x10 + v26) &&& (8191 : Int32)), .int x12]) (q := q27) rfl dX3_advance_282 ck_X3_stored m_1099 m_1101 m_50 (ci := 2) rfl (by decide) g6 (by decide) (by decide) rfl (by simp [rf_cat, rq_cat, ca_i, ca_l, ca_r]) (ct_X3_stored l X hcq27) ?_
                  obtain rfl := Option.some.inj hf
                  exact g_iret (pc := 285) rfl dX3_advance_285
                ·
                  rcases it_some hf with ⟨c28, hf⟩ | ⟨c28, hf⟩
                  · refine g_lsw (pc := 75) (tgt := 345) (47 : Int32) dX3_advance_75 (by decide +kernel) c28 (off := 270) (by decide +kernel) (by decide) ?_
                    refine g_iload_n (pc := 345) 2 dX3_advance_345 rfl rfl ?_
                    obtain ⟨v29, hcv29, hf⟩ := bd_some hf
                    refine g_cSI (pc := 346) (k2 := k_X0_knowsAtomic) (av := [.int x7]) (q := (v29, q4.2)) rfl dX3_advance_346 ck_X0_knowsAtomic m_1121 m_1122 (by decide) (by decide) rfl (by simp [rf_cat, rq_cat, ca_i, ca_l, ca_r]) (ct_X0_knowsAtomic l X hcv29) ?_
                    rcases it_some hf with ⟨c30, hf⟩ | ⟨c30, hf⟩
                    · refine g_ifeq_t (pc := 349) (tgt := 366) dX3_advance_349 (by decide) c30 ?_
                      refine g_aload_n (pc := 366) 3 dX3_advance_366 rfl rfl ?_
                      refine g_iload_n (pc := 367) 2 dX3_advance_367 rfl rfl ?_
                      refine g_iconst (pc := 368) (v := (2 : Int32)) dX3_advance_368 (by decide) ?_
                      obtain ⟨q31, hcq31, hf⟩ := bd_some hf
                      refine g_cVI (pc := 369) (k2 := k_X3_stopped) (av := [.int x7, .int (2 : Int32)]) (q := q31) rfl dX3_advance_369 ck_X3_stopped m_1066 m_1068 m_47 (ci := 2) rfl (by decide) g6 (by decide) (by decide) rfl (by simp [rf_cat, rq_cat, ca_i, ca_l, ca_r]) (ct_X3_stopped l X hcq31) ?_
                      obtain rfl := Option.some.inj hf
                      exact g_iret (pc := 372) rfl dX3_advance_372
                    · refine g_ifeq_f (pc := 349) (tgt := 366) dX3_advance_349 (by decide) c30 ?_
                      refine g_aload_n (pc := 352) 3 dX3_advance_352 rfl rfl ?_
                      refine g_iload_n (pc := 353) 2 dX3_advance_353 rfl rfl ?_
                      refine g_iload_n (pc := 354) 1 dX3_advance_354 rfl rfl ?_
                      refine g_sipush (pc := 355) (v := (8191 : Int32)) dX3_advance_355 (by decide) ?_
                      refine g_iand (pc := 358) dX3_advance_358 ?_
                      refine g_iload_n (pc := 359) 0 dX3_advance_359 rfl rfl ?_
                      obtain ⟨q32, hcq32, hf⟩ := bd_some hf
                      refine g_cVI (pc := 360) (k2 := k_X3_swapped) (av := [.int x7, .int (x10 &&& (8191 : Int32)), .int x12]) (q := q32) rfl dX3_advance_360 ck_X3_swapped m_1124 m_1126 m_51 (ci := 2) rfl (by decide) g6 (by decide) (by decide) rfl (by simp [rf_cat, rq_cat, ca_i, ca_l, ca_r]) (ct_X3_swapped l X hcq32) ?_
                      refine g_goto (pc := 363) (tgt := 372) dX3_advance_363 (by decide) ?_
                      obtain rfl := Option.some.inj hf
                      exact g_iret (pc := 372) rfl dX3_advance_372
                  ·
                    rcases it_some hf with ⟨c33, hf⟩ | ⟨c33, hf⟩
                    · refine g_lsw (pc := 75) (tgt := 317) (51 : Int32) dX3_advance_75 (by decide +kernel) c33 (off := 242) (by decide +kernel) (by decide) ?_
                      refine g_iload_n (pc := 317) 2 dX3_advance_317 rfl rfl ?_
                      obtain ⟨v34, hcv34, hf⟩ := bd_some hf
                      refine g_cSI (pc := 318) (k2 := k_X0_knows) (av := [.int x7]) (q := (v34, q4.2)) rfl dX3_advance_318 ck_X0_knows m_1118 m_1119 (by decide) (by decide) rfl (by simp [rf_cat, rq_cat, ca_i, ca_l, ca_r]) (ct_X0_knows l X hcv34) ?_
                      rcases it_some hf with ⟨c35, hf⟩ | ⟨c35, hf⟩
                      · refine g_ifeq_t (pc := 321) (tgt := 338) dX3_advance_321 (by decide) c35 ?_
                        refine g_aload_n (pc := 338) 3 dX3_advance_338 rfl rfl ?_
                        refine g_iload_n (pc := 339) 2 dX3_advance_339 rfl rfl ?_
                        refine g_iconst (pc := 340) (v := (2 : Int32)) dX3_advance_340 (by decide) ?_
                        obtain ⟨q36, hcq36, hf⟩ := bd_some hf
                        refine g_cVI (pc := 341) (k2 := k_X3_stopped) (av := [.int x7, .int (2 : Int32)]) (q := q36) rfl dX3_advance_341 ck_X3_stopped m_1066 m_1068 m_47 (ci := 2) rfl (by decide) g6 (by decide) (by decide) rfl (by simp [rf_cat, rq_cat, ca_i, ca_l, ca_r]) (ct_X3_stopped l X hcq36) ?_
                        obtain rfl := Option.some.inj hf
                        exact g_iret (pc := 344) rfl dX3_advance_344
                      · refine g_ifeq_f (pc := 321) (tgt := 338) dX3_advance_321 (by decide) c35 ?_
                        refine g_aload_n (pc := 324) 3 dX3_advance_324 rfl rfl ?_
                        refine g_iload_n (pc := 325) 2 dX3_advance_325 rfl rfl ?_
                        refine g_iload_n (pc := 326) 2 dX3_advance_326 rfl rfl ?_
                        refine g_iload_n (pc := 327) 1 dX3_advance_327 rfl rfl ?_
                        refine g_iload_n (pc := 328) 0 dX3_advance_328 rfl rfl ?_
                        obtain ⟨v37, hcv37, hf⟩ := bd_some hf
                        refine g_cSI (pc := 329) (k2 := k_X0_reckon) (av := [.int x7, .int x10, .int x12]) (q := (v37, q4.2)) rfl dX3_advance_329 ck_X0_reckon m_1115 m_1116 (by decide) (by decide) rfl (by simp [rf_cat, rq_cat, ca_i, ca_l, ca_r]) (ct_X0_reckon l X hcv37) ?_
                        obtain ⟨q38, hcq38, hf⟩ := bd_some hf
                        refine g_cVI (pc := 332) (k2 := k_X3_reckoned) (av := [.int x7, .int v37]) (q := q38) rfl dX3_advance_332 ck_X3_reckoned m_1043 m_1045 m_44 (ci := 2) rfl (by decide) g6 (by decide) (by decide) rfl (by simp [rf_cat, rq_cat, ca_i, ca_l, ca_r]) (ct_X3_reckoned l X hcq38) ?_
                        refine g_goto (pc := 335) (tgt := 344) dX3_advance_335 (by decide) ?_
                        obtain rfl := Option.some.inj hf
                        exact g_iret (pc := 344) rfl dX3_advance_344
                    ·
                      rcases it_some hf with ⟨c39, hf⟩ | ⟨c39, hf⟩
                      · refine g_lsw (pc := 75) (tgt := 172) (55 : Int32) dX3_advance_75 (by decide +kernel) c39 (off := 97) (by decide +kernel) (by decide) ?_
                        refine g_aload_n (pc := 172) 3 dX3_advance_172 rfl rfl ?_
                        refine g_iload_n (pc := 173) 2 dX3_advance_173 rfl rfl ?_
                        refine g_iload_n (pc := 174) 2 dX3_advance_174 rfl rfl ?_
                        refine g_sipush (pc := 175) (v := (-4096 : Int32)) dX3_advance_175 (by decide) ?_
                        refine g_iand (pc := 178) dX3_advance_178 ?_
                        obtain ⟨q40, hcq40, hf⟩ := bd_some hf
                        refine g_cVI (pc := 179) (k2 := k_X3_reckoned) (av := [.int x7, .int (x7 &&& (-4096 : Int32))]) (q := q40) rfl dX3_advance_179 ck_X3_reckoned m_1043 m_1045 m_44 (ci := 2) rfl (by decide) g6 (by decide) (by decide) rfl (by simp [rf_cat, rq_cat, ca_i, ca_l, ca_r]) (ct_X3_reckoned l X hcq40) ?_
                        obtain rfl := Option.some.inj hf
                        exact g_iret (pc := 182) rfl dX3_advance_182
                      ·
                        rcases it_some hf with ⟨c41, hf⟩ | ⟨c41, hf⟩
                        · refine g_lsw (pc := 75) (tgt := 245) (99 : Int32) dX3_advance_75 (by decide +kernel) c41 (off := 170) (by decide +kernel) (by decide) ?_
                          refine g_aload_n (pc := 245) 3 dX3_advance_245 rfl rfl ?_
                          refine g_iload_n (pc := 246) 2 dX3_advance_246 rfl rfl ?_
                          refine g_iload_n (pc := 247) 1 dX3_advance_247 rfl rfl ?_
                          refine g_iload_n (pc := 248) 0 dX3_advance_248 rfl rfl ?_
                          obtain ⟨q42, hcq42, hf⟩ := bd_some hf
                          refine g_cVI (pc := 249) (k2 := k_X3_branched) (av := [.int x7, .int x10, .int x12]) (q := q42) rfl dX3_advance_249 ck_X3_branched m_1070 m_1072 m_48 (ci := 2) rfl (by decide) g6 (by decide) (by decide) rfl (by simp [rf_cat, rq_cat, ca_i, ca_l, ca_r]) (ct_X3_branched l X hcq42) ?_
                          obtain rfl := Option.some.inj hf
                          exact g_iret (pc := 252) rfl dX3_advance_252
                        ·
                          rcases it_some hf with ⟨c43, hf⟩ | ⟨c43, hf⟩
                          · refine g_lsw (pc := 75) (tgt := 214) (103 : Int32) dX3_advance_75 (by decide +kernel) c43 (off := 139) (by decide +kernel) (by decide) ?_
                            refine g_iload_n (pc := 214) 2 dX3_advance_214 rfl rfl ?_
                            obtain ⟨v44, hcv44, hf⟩ := bd_some hf
                            refine g_cSI (pc := 215) (k2 := k_X0_variant) (av := [.int x7]) (q := (v44, q4.2)) rfl dX3_advance_215 ck_X0_variant m_1063 m_1064 (by decide) (by decide) rfl (by simp [rf_cat, rq_cat, ca_i, ca_l, ca_r]) (ct_X0_variant l X hcv44) ?_
                            rcases it_some hf with ⟨c45, hf⟩ | ⟨c45, hf⟩
                            · refine g_ifne_t (pc := 218) (tgt := 238) dX3_advance_218 (by decide) c45 ?_
                              refine g_aload_n (pc := 238) 3 dX3_advance_238 rfl rfl ?_
                              refine g_iload_n (pc := 239) 2 dX3_advance_239 rfl rfl ?_
                              refine g_iconst (pc := 240) (v := (2 : Int32)) dX3_advance_240 (by decide) ?_
                              obtain ⟨q46, hcq46, hf⟩ := bd_some hf
                              refine g_cVI (pc := 241) (k2 := k_X3_stopped) (av := [.int x7, .int (2 : Int32)]) (q := q46) rfl dX3_advance_241 ck_X3_stopped m_1066 m_1068 m_47 (ci := 2) rfl (by decide) g6 (by decide) (by decide) rfl (by simp [rf_cat, rq_cat, ca_i, ca_l, ca_r]) (ct_X3_stopped l X hcq46) ?_
                              obtain rfl := Option.some.inj hf
                              exact g_iret (pc := 244) rfl dX3_advance_244
                            · refine g_ifne_f (pc := 218) (tgt := 238) dX3_advance_218 (by decide) (Decidable.of_not_not c45) ?_
                              refine g_aload_n (pc := 221) 3 dX3_advance_221 rfl rfl ?_
                              refine g_iload_n (pc := 222) 2 dX3_advance_222 rfl rfl ?_
                              refine g_iload_n (pc := 223) 1 dX3_advance_223 rfl rfl ?_
                              refine g_iload_n (pc := 224) 2 dX3_advance_224 rfl rfl ?_
                              refine g_bipush (pc := 225) (v := (20 : Int32)) dX3_advance_225 (by decide) ?_
                              refine g_ishr (pc := 227) dX3_advance_227 ?_
                              refine g_iadd (pc := 228) dX3_advance_228 ?_
                              refine g_bipush (pc := 229) (v := (-2 : Int32)) dX3_advance_229 (by decide) ?_
                              refine g_iand (pc := 231) dX3_advance_231 ?_
                              obtain ⟨q47, hcq47, hf⟩ := bd_some hf
                              refine g_cVI (pc := 232) (k2 := k_X3_jumped) (av := [.int x7, .int ((x10 + (x7 >>> ((20 : Int32) &&& 31))) &&& (-2 : Int32))]) (q := q47) rfl dX3_advance_232 ck_X3_jumped m_1059 m_1061 m_46 (ci := 2) rfl (by decide) g6 (by decide) (by decide) rfl (by simp [rf_cat, rq_cat, ca_i, ca_l, ca_r]) (ct_X3_jumped l X hcq47) ?_
                              refine g_goto (pc := 235) (tgt := 244) dX3_advance_235 (by decide) ?_
                              obtain rfl := Option.some.inj hf
                              exact g_iret (pc := 244) rfl dX3_advance_244
                          ·
                            rcases it_some hf with ⟨c48, hf⟩ | ⟨c48, hf⟩
                            · refine g_lsw (pc := 75) (tgt := 199) (111 : Int32) dX3_advance_75 (by decide +kernel) c48 (off := 124) (by decide +kernel) (by decide) ?_
                              refine g_aload_n (pc := 199) 3 dX3_advance_199 rfl rfl ?_
                              refine g_iload_n (pc := 200) 2 dX3_advance_200 rfl rfl ?_
                              refine g_aload_n (pc := 201) 3 dX3_advance_201 rfl rfl ?_
                              refine g_getI (pc := 202) fl_X3_57 dX3_advance_202 g6 ?_
                              refine g_iload_n (pc := 205) 2 dX3_advance_205 rfl rfl ?_
                              obtain ⟨v49, hcv49, hf⟩ := bd_some hf
                              refine g_cSI (pc := 206) (k2 := k_X0_jumpDistance) (av := [.int x7]) (q := (v49, q4.2)) rfl dX3_advance_206 ck_X0_jumpDistance m_1055 m_1056 (by decide) (by decide) rfl (by simp [rf_cat, rq_cat, ca_i, ca_l, ca_r]) (ct_X0_jumpDistance l X hcv49) ?_
                              refine g_iadd (pc := 209) dX3_advance_209 ?_
                              obtain ⟨q50, hcq50, hf⟩ := bd_some hf
                              refine g_cVI (pc := 210) (k2 := k_X3_jumped) (av := [.int x7, .int ((hI q4.2 a0 3) + v49)]) (q := q50) rfl dX3_advance_210 ck_X3_jumped m_1059 m_1061 m_46 (ci := 2) rfl (by decide) g6 (by decide) (by decide) rfl (by simp [rf_cat, rq_cat, ca_i, ca_l, ca_r]) (ct_X3_jumped l X hcq50) ?_
                              obtain rfl := Option.some.inj hf
                              exact g_iret (pc := 213) rfl dX3_advance_213
                            ·
                              refine g_lswD (pc := 75) (tgt := 379) [(3 : Int32), (15 : Int32), (19 : Int32), (23 : Int32), (35 : Int32), (47 : Int32), (51 : Int32), (55 : Int32), (99 : Int32), (103 : Int32), (111 : Int32)] dX3_advance_75 (by decide +kernel) (by decide +kernel) (cons_ne c13 (cons_ne c15 (cons_ne c17 (cons_ne c23 (cons_ne c25 (cons_ne c28 (cons_ne c33 (cons_ne c39 (cons_ne c41 (cons_ne c43 (cons_ne c48 nil_ne))))))))))) (by decide) ?_
                              refine g_aload_n (pc := 379) 3 dX3_advance_379 rfl rfl ?_
                              refine g_iload_n (pc := 380) 2 dX3_advance_380 rfl rfl ?_
                              refine g_iload_n (pc := 381) 2 dX3_advance_381 rfl rfl ?_
                              refine g_bipush (pc := 382) (v := (115 : Int32)) dX3_advance_382 (by decide) ?_
                              rcases it_some hf with ⟨c51, hf⟩ | ⟨c51, hf⟩
                              · refine g_iceq_t (pc := 384) (tgt := 393) dX3_advance_384 (by decide) c51 ?_
                                refine g_sub [] rfl ?_
                                exact ok_X3_advance_L393 l X q4.2 a0 x7 q hf
                              · refine g_iceq_f (pc := 384) (tgt := 393) dX3_advance_384 (by decide) c51 ?_
                                refine g_iload_n (pc := 387) 2 dX3_advance_387 rfl rfl ?_
                                refine g_ldc (pc := 388) (v := (1048691 : Int32)) m_1143 dX3_advance_388 ?_
                                rcases it_some hf with ⟨c52, hf⟩ | ⟨c52, hf⟩
                                · refine g_icne_t (pc := 390) (tgt := 397) dX3_advance_390 (by decide) c52 ?_
                                  refine g_iconst (pc := 397) (v := (2 : Int32)) dX3_advance_397 (by decide) ?_
                                  refine g_sub [] rfl ?_
                                  exact ok_X3_advance_L398 l X q4.2 a0 x7 (2 : Int32) q hf
                                · refine g_icne_f (pc := 390) (tgt := 397) dX3_advance_390 (by decide) (Decidable.of_not_not c52) ?_
                                  refine g_sub [] rfl ?_
                                  exact ok_X3_advance_L393 l X q4.2 a0 x7 q hf
      · refine g_ifne_f (pc := 35) (tgt := 40) dX3_advance_35 (by decide) (Decidable.of_not_not c5) ?_
        refine g_iconst (pc := 38) (v := (2 : Int32)) dX3_advance_38 (by decide) ?_
        obtain rfl := Option.some.inj hf
        exact g_iret (pc := 39) rfl dX3_advance_39
    · refine g_ifeq_f (pc := 15) (tgt := 25) dX3_advance_15 (by decide) c3 ?_
      refine g_aload_n (pc := 18) 0 dX3_advance_18 rfl rfl ?_
      refine g_iconst (pc := 19) (v := (3 : Int32)) dX3_advance_19 (by decide) ?_
      obtain ⟨h53, eh53, hf⟩ := lt_some hf
      refine g_putI (pc := 20) fl_X3_60 dX3_advance_20 g1 eh53 ?_
      refine g_iconst (pc := 23) (v := (1 : Int32)) dX3_advance_23 (by decide) ?_
      obtain rfl := Option.some.inj hf
      exact g_iret (pc := 24) rfl dX3_advance_24
  · refine g_ifeq_f (pc := 4) (tgt := 9) dX3_advance_4 (by decide) c2 ?_
    refine g_iconst (pc := 7) (v := (0 : Int32)) dX3_advance_7 (by decide) ?_
    obtain rfl := Option.some.inj hf
    exact g_iret (pc := 8) rfl dX3_advance_8
theorem ct_X3_advance (l : Launch) (X : Cx) {h : AH} {a0 : Nat} {q : Int32 × AH} (hf : f_X3_advance h a0 = some q) : Ct l X k_X3_advance [rf X a0] h (rI q) := ct_of ck_X3_advance (by simp [lg_sl, rf_cat, rq_cat, ca_i, ca_l, ca_r]) (by simp [lv_args, rf_cat, rq_cat, ca_i, ca_l, ca_r]) (ok_X3_advance l X hf)
