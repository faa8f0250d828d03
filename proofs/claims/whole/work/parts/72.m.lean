set_option maxRecDepth 100000 in
set_option maxHeartbeats 4000000 in
theorem ok_X11_homeSet (l : Launch) (X : Cx) {h : AH} {a0 : Nat} {a1 : Int32} {q : Int32} (hf : f_X11_homeSet h a0 a1 = some q) : Go l X k_X11_homeSet 0 [(0, rf X a0), (1, .int a1)] [] h (rI (q, h)) := by
  unfold f_X11_homeSet at hf
  refine g_bipush (pc := 0) (v := (8 : Int32)) dX11_homeSet_0 (by decide) ?_
  refine g_iload_n (pc := 2) 1 dX11_homeSet_2 rfl rfl ?_
  refine g_aload_n (pc := 3) 0 dX11_homeSet_3 rfl rfl ?_
  obtain ⟨g1, hf⟩ := gs_some hf
  refine g_getR (pc := 4) fl_X11_47 dX11_homeSet_4 g1 ?_
  refine g_iconst (pc := 7) (v := (4 : Int32)) dX11_homeSet_7 (by decide) ?_
  obtain ⟨g2, hf⟩ := gs_some hf
  obtain ⟨b3, hf⟩ := gb_some hf
  refine g_iald (pc := 8) g2 b3 dX11_homeSet_8 ?_
  obtain ⟨b4, hf⟩ := gb_some hf
  refine g_irem (pc := 9) (of_decide_eq_true b4) dX11_homeSet_9 ?_
  refine g_imul (pc := 10) dX11_homeSet_10 ?_
  obtain rfl := Option.some.inj hf
  exact g_iret (pc := 11) rfl dX11_homeSet_11
theorem ct_X11_homeSet (l : Launch) (X : Cx) {h : AH} {a0 : Nat} {a1 : Int32} {q : Int32} (hf : f_X11_homeSet h a0 a1 = some q) : Ct l X k_X11_homeSet [rf X a0, .int a1] h (rI (q, h)) := ct_of ck_X11_homeSet (by simp [lg_sl, rf_cat, rq_cat, ca_i, ca_l, ca_r]) (by simp [lv_args, rf_cat, rq_cat, ca_i, ca_l, ca_r]) (ok_X11_homeSet l X hf)
set_option maxRecDepth 100000 in
set_option maxHeartbeats 4000000 in
theorem ok_X11_homeWay_L6 (l : Launch) (X : Cx) (h : AH) : ∀ (n : Nat) (a0 : Nat) (a1 : Int32) (a2 : Int32) (q : Int32), f_X11_homeWay_L6 h n a0 a1 a2 = some q → Go l X k_X11_homeWay 6 [(0, rf X a0), (1, .int a1), (2, .int a2)] [] h (rI (q, h)) := by
  intro n
  induction n with
  | zero =>
    intro a0 a1 a2 q hf
    unfold f_X11_homeWay_L6 at hf
    cases hf
  | succ n ih =>
    intro a0 a1 a2 q hf
    unfold f_X11_homeWay_L6 at hf
    refine g_iload_n (pc := 6) 2 dX11_homeWay_6 rfl rfl ?_
    refine g_aload_n (pc := 7) 0 dX11_homeWay_7 rfl rfl ?_
    refine g_iload_n (pc := 8) 1 dX11_homeWay_8 rfl rfl ?_
    obtain ⟨g1, hf⟩ := gs_some hf
    obtain ⟨v2, hcv2, hf⟩ := bd_some hf
    refine g_cVI (pc := 9) (k2 := k_X11_homeSet) (av := [.int a1]) (q := (v2, h)) rfl dX11_homeWay_9 ck_X11_homeSet m_1923 m_1925 m_107 (ci := 9) rfl (by decide) g1 (by decide) (by decide) rfl (by simp [rf_cat, rq_cat, ca_i, ca_l, ca_r]) (ct_X11_homeSet l X hcv2) ?_
    refine g_aload_n (pc := 12) 0 dX11_homeWay_12 rfl rfl ?_
    refine g_getR (pc := 13) fl_X11_47 dX11_homeWay_13 g1 ?_
    refine g_iconst (pc := 16) (v := (5 : Int32)) dX11_homeWay_16 (by decide) ?_
    obtain ⟨g3, hf⟩ := gs_some hf
    obtain ⟨b4, hf⟩ := gb_some hf
    refine g_iald (pc := 17) g3 b4 dX11_homeWay_17 ?_
    refine g_iadd (pc := 18) dX11_homeWay_18 ?_
    rcases it_some hf with ⟨c5, hf⟩ | ⟨c5, hf⟩
    · refine g_icge_t (pc := 19) (tgt := 40) dX11_homeWay_19 (by decide) c5 ?_
      refine g_iconst (pc := 40) (v := (-1 : Int32)) dX11_homeWay_40 (by decide) ?_
      obtain rfl := Option.some.inj hf
      exact g_iret (pc := 41) rfl dX11_homeWay_41
    · refine g_icge_f (pc := 19) (tgt := 40) dX11_homeWay_19 (by decide) c5 ?_
      refine g_aload_n (pc := 22) 0 dX11_homeWay_22 rfl rfl ?_
      refine g_getR (pc := 23) fl_X11_114 dX11_homeWay_23 g1 ?_
      refine g_iload_n (pc := 26) 2 dX11_homeWay_26 rfl rfl ?_
      obtain ⟨g6, hf⟩ := gs_some hf
      obtain ⟨b7, hf⟩ := gb_some hf
      refine g_iald (pc := 27) g6 b7 dX11_homeWay_27 ?_
      refine g_iload_n (pc := 28) 1 dX11_homeWay_28 rfl rfl ?_
      rcases it_some hf with ⟨c8, hf⟩ | ⟨c8, hf⟩
      · refine g_icne_t (pc := 29) (tgt := 34) dX11_homeWay_29 (by decide) c8 ?_
        obtain ⟨x9, ex9, hf⟩ := lt_some hf
        refine g_iinc (pc := 34) (y := x9) (L' := [(2, .int x9), (0, rf X a0), (1, .int a1)]) 2 dX11_homeWay_34 rfl (by decide) (ex9.trans rfl) rfl ?_
        refine g_goto (pc := 37) (tgt := 6) dX11_homeWay_37 (by decide) ?_
        refine g_sub [1, 2, 0] rfl ?_
        exact ih a0 a1 x9 q hf
      · refine g_icne_f (pc := 29) (tgt := 34) dX11_homeWay_29 (by decide) (Decidable.of_not_not c8) ?_
        refine g_iload_n (pc := 32) 2 dX11_homeWay_32 rfl rfl ?_
        obtain rfl := Option.some.inj hf
        exact g_iret (pc := 33) rfl dX11_homeWay_33
set_option maxRecDepth 100000 in
set_option maxHeartbeats 4000000 in
theorem ok_X11_homeWay (l : Launch) (X : Cx) {h : AH} {a0 : Nat} {a1 : Int32} {q : Int32} (hf : f_X11_homeWay h a0 a1 = some q) : Go l X k_X11_homeWay 0 [(0, rf X a0), (1, .int a1)] [] h (rI (q, h)) := by
  unfold f_X11_homeWay at hf
  refine g_aload_n (pc := 0) 0 dX11_homeWay_0 rfl rfl ?_
  refine g_iload_n (pc := 1) 1 dX11_homeWay_1 rfl rfl ?_
  obtain ⟨g1, hf⟩ := gs_some hf
  obtain ⟨v2, hcv2, hf⟩ := bd_some hf
  refine g_cVI (pc := 2) (k2 := k_X11_homeSet) (av := [.int a1]) (q := (v2, h)) rfl dX11_homeWay_2 ck_X11_homeSet m_1923 m_1925 m_107 (ci := 9) rfl (by decide) g1 (by decide) (by decide) rfl (by simp [rf_cat, rq_cat, ca_i, ca_l, ca_r]) (ct_X11_homeSet l X hcv2) ?_
  refine g_istore_n (pc := 5) (L' := [(2, .int v2), (0, rf X a0), (1, .int a1)]) dX11_homeWay_5 rfl (by decide) rfl rfl ?_
  refine g_sub [1, 2, 0] rfl ?_
  exact ok_X11_homeWay_L6 l X h FU a0 a1 v2 q hf
theorem ct_X11_homeWay (l : Launch) (X : Cx) {h : AH} {a0 : Nat} {a1 : Int32} {q : Int32} (hf : f_X11_homeWay h a0 a1 = some q) : Ct l X k_X11_homeWay [rf X a0, .int a1] h (rI (q, h)) := ct_of ck_X11_homeWay (by simp [lg_sl, rf_cat, rq_cat, ca_i, ca_l, ca_r]) (by simp [lv_args, rf_cat, rq_cat, ca_i, ca_l, ca_r]) (ok_X11_homeWay l X hf)
set_option maxRecDepth 100000 in
set_option maxHeartbeats 4000000 in
theorem ok_X11_give (l : Launch) (X : Cx) {h : AH} {a0 : Nat} {a1 : Int32} {a2 : Int32} {a3 : Int32} {q : AH} (hf : f_X11_give h a0 a1 a2 a3 = some q) : Go l X k_X11_give 0 [(0, rf X a0), (1, .int a1), (2, .int a2), (3, .int a3)] [] h (rV q) := by
  unfold f_X11_give at hf
  refine g_aload_n (pc := 0) 0 dX11_give_0 rfl rfl ?_
  refine g_iload_n (pc := 1) 1 dX11_give_1 rfl rfl ?_
  refine g_bipush (pc := 2) (v := (16 : Int32)) dX11_give_2 (by decide) ?_
  refine g_iload_n (pc := 4) 2 dX11_give_4 rfl rfl ?_
  refine g_iload_n (pc := 5) 3 dX11_give_5 rfl rfl ?_
  obtain ⟨g1, hf⟩ := gs_some hf
  obtain ⟨q2, hcq2, hf⟩ := bd_some hf
  refine g_cVV (pc := 6) (k2 := k_X11_blank) (av := [.int a1, .int (16 : Int32), .int a2, .int a3]) (q := q2) rfl dX11_give_6 ck_X11_blank m_1827 m_1829 m_86 (ci := 9) rfl (by decide) g1 (by decide) (by decide) rfl (by simp [rf_cat, rq_cat, ca_i, ca_l, ca_r]) (ct_X11_blank l X hcq2) ?_
  refine g_aload_n (pc := 9) 0 dX11_give_9 rfl rfl ?_
  refine g_iload_n (pc := 10) 3 dX11_give_10 rfl rfl ?_
  obtain ⟨g3, hf⟩ := gs_some hf
  obtain ⟨q4, hcq4, hf⟩ := bd_some hf
  refine g_cVV (pc := 11) (k2 := k_X11_withWords) (av := [.int a3]) (q := q4) rfl dX11_give_11 ck_X11_withWords m_1831 m_1833 m_87 (ci := 9) rfl (by decide) g3 (by decide) (by decide) rfl (by simp [rf_cat, rq_cat, ca_i, ca_l, ca_r]) (ct_X11_withWords l X hcq4) ?_
  refine g_aload_n (pc := 14) 0 dX11_give_14 rfl rfl ?_
  obtain ⟨g5, hf⟩ := gs_some hf
  obtain ⟨q6, hcq6, hf⟩ := bd_some hf
  refine g_cVV (pc := 15) (k2 := k_X11_post) (av := []) (q := q6) rfl dX11_give_15 ck_X11_post m_1835 m_1837 m_88 (ci := 9) rfl (by decide) g5 (by decide) (by decide) rfl (by simp [rf_cat, rq_cat, ca_i, ca_l, ca_r]) (ct_X11_post l X hcq6) ?_
  obtain rfl := Option.some.inj hf
  exact g_vret (pc := 18) rfl dX11_give_18
theorem ct_X11_give (l : Launch) (X : Cx) {h : AH} {a0 : Nat} {a1 : Int32} {a2 : Int32} {a3 : Int32} {q : AH} (hf : f_X11_give h a0 a1 a2 a3 = some q) : Ct l X k_X11_give [rf X a0, .int a1, .int a2, .int a3] h (rV q) := ct_of ck_X11_give (by simp [lg_sl, rf_cat, rq_cat, ca_i, ca_l, ca_r]) (by simp [lv_args, rf_cat, rq_cat, ca_i, ca_l, ca_r]) (ok_X11_give l X hf)
set_option maxRecDepth 100000 in
set_option maxHeartbeats 4000000 in
theorem ok_X11_writeBack_L47 (l : Launch) (X : Cx) (h : AH) (a0 : Nat) (a1 : Int32) (q : AH) (hf : f_X11_writeBack_L47 h a0 a1 = some q) : Go l X k_X11_writeBack 47 [(0, rf X a0), (1, .int a1)] [] h (rV q) := by
  unfold f_X11_writeBack_L47 at hf
  refine g_aload_n (pc := 47) 0 dX11_writeBack_47 rfl rfl ?_
  obtain ⟨g1, hf⟩ := gs_some hf
  refine g_getR (pc := 48) fl_X11_120 dX11_writeBack_48 g1 ?_
  refine g_iload_n (pc := 51) 1 dX11_writeBack_51 rfl rfl ?_
  refine g_iconst (pc := 52) (v := (0 : Int32)) dX11_writeBack_52 (by decide) ?_
  obtain ⟨g2, hf⟩ := gs_some hf
  obtain ⟨b3, hf⟩ := gb_some hf
  obtain ⟨h4, eh4, hf⟩ := lt_some hf
  refine g_zast (pc := 53) g2 b3 dX11_writeBack_53 eh4 ?_
  obtain rfl := Option.some.inj hf
  exact g_vret (pc := 54) rfl dX11_writeBack_54
set_option maxRecDepth 100000 in
set_option maxHeartbeats 4000000 in
theorem ok_X11_writeBack_L2 (l : Launch) (X : Cx) : ∀ (n : Nat) (h : AH) (a0 : Nat) (a1 : Int32) (a2 : Int32) (q : AH), f_X11_writeBack_L2 n h a0 a1 a2 = some q → Go l X k_X11_writeBack 2 [(0, rf X a0), (1, .int a1), (2, .int a2)] [] h (rV q) := by
  intro n
  induction n with
  | zero =>
    intro h a0 a1 a2 q hf
    unfold f_X11_writeBack_L2 at hf
    cases hf
  | succ n ih =>
    intro h a0 a1 a2 q hf
    unfold f_X11_writeBack_L2 at hf
    refine g_aload_n (pc := 2) 0 dX11_writeBack_2 rfl rfl ?_
    obtain ⟨g1, hf⟩ := gs_some hf
    refine g_getR (pc := 3) fl_X11_120 dX11_writeBack_3 g1 ?_
    refine g_iload_n (pc := 6) 1 dX11_writeBack_6 rfl rfl ?_
    obtain ⟨g2, hf⟩ := gs_some hf
    obtain ⟨b3, hf⟩ := gb_some hf
    refine g_zald (pc := 7) g2 b3 dX11_writeBack_7 ?_
    rcases it_some hf with ⟨c4, hf⟩ | ⟨c4, hf⟩
    · refine g_ifeq_t (pc := 8) (tgt := 47) dX11_writeBack_8 (by decide) c4 ?_
      refine g_sub [0, 1] rfl ?_
      exact ok_X11_writeBack_L47 l X h a0 a1 q hf
    · refine g_ifeq_f (pc := 8) (tgt := 47) dX11_writeBack_8 (by decide) c4 ?_
      refine g_iload_n (pc := 11) 2 dX11_writeBack_11 rfl rfl ?_
      refine g_iconst (pc := 12) (v := (4 : Int32)) dX11_writeBack_12 (by decide) ?_
      rcases it_some hf with ⟨c5, hf⟩ | ⟨c5, hf⟩
      · refine g_icge_t (pc := 13) (tgt := 47) dX11_writeBack_13 (by decide) c5 ?_
        refine g_sub [0, 1] rfl ?_
        exact ok_X11_writeBack_L47 l X h a0 a1 q hf
      · refine g_icge_f (pc := 13) (tgt := 47) dX11_writeBack_13 (by decide) c5 ?_
        refine g_aload_n (pc := 16) 0 dX11_writeBack_16 rfl rfl ?_
        refine g_getR (pc := 17) fl_X11_56 dX11_writeBack_17 g1 ?_
        refine g_iconst (pc := 20) (v := (4 : Int32)) dX11_writeBack_20 (by decide) ?_
        refine g_aload_n (pc := 21) 0 dX11_writeBack_21 rfl rfl ?_
        refine g_getR (pc := 22) fl_X11_114 dX11_writeBack_22 g1 ?_
        refine g_iload_n (pc := 25) 1 dX11_writeBack_25 rfl rfl ?_
        obtain ⟨g6, hf⟩ := gs_some hf
        obtain ⟨b7, hf⟩ := gb_some hf
        refine g_iald (pc := 26) g6 b7 dX11_writeBack_26 ?_
        refine g_imul (pc := 27) dX11_writeBack_27 ?_
        refine g_iload_n (pc := 28) 2 dX11_writeBack_28 rfl rfl ?_
        refine g_iadd (pc := 29) dX11_writeBack_29 ?_
        refine g_aload_n (pc := 30) 0 dX11_writeBack_30 rfl rfl ?_
        refine g_getR (pc := 31) fl_X11_117 dX11_writeBack_31 g1 ?_
        refine g_iconst (pc := 34) (v := (4 : Int32)) dX11_writeBack_34 (by decide) ?_
        refine g_iload_n (pc := 35) 1 dX11_writeBack_35 rfl rfl ?_
        refine g_imul (pc := 36) dX11_writeBack_36 ?_
        refine g_iload_n (pc := 37) 2 dX11_writeBack_37 rfl rfl ?_
        refine g_iadd (pc := 38) dX11_writeBack_38 ?_
        obtain ⟨g8, hf⟩ := gs_some hf
        obtain ⟨b9, hf⟩ := gb_some hf
        refine g_iald (pc := 39) g8 b9 dX11_writeBack_39 ?_
        obtain ⟨g10, hf⟩ := gs_some hf
        obtain ⟨b11, hf⟩ := gb_some hf
        obtain ⟨h12, eh12, hf⟩ := lt_some hf
        refine g_iast (pc := 40) g10 b11 dX11_writeBack_40 eh12 ?_
        obtain ⟨x13, ex13, hf⟩ := lt_some hf
        refine g_iinc (pc := 41) (y := x13) (L' := [(2, .int x13), (0, rf X a0), (1, .int a1)]) 2 dX11_writeBack_41 rfl (by decide) (ex13.trans rfl) rfl ?_
        refine g_goto (pc := 44) (tgt := 2) dX11_writeBack_44 (by decide) ?_
        refine g_sub [1, 2, 0] rfl ?_
        exact ih h12 a0 a1 x13 q hf
set_option maxRecDepth 100000 in
set_option maxHeartbeats 4000000 in
theorem ok_X11_writeBack (l : Launch) (X : Cx) {h : AH} {a0 : Nat} {a1 : Int32} {q : AH} (hf : f_X11_writeBack h a0 a1 = some q) : Go l X k_X11_writeBack 0 [(0, rf X a0), (1, .int a1)] [] h (rV q) := by
  unfold f_X11_writeBack at hf
  refine g_iconst (pc := 0) (v := (0 : Int32)) dX11_writeBack_0 (by decide) ?_
  obtain ⟨x1, ex1, hf⟩ := lt_some hf
  refine g_istore_n (pc := 1) (L' := [(2, .int x1), (0, rf X a0), (1, .int a1)]) dX11_writeBack_1 rfl (by decide) ex1 rfl ?_
  refine g_sub [1, 2, 0] rfl ?_
  exact ok_X11_writeBack_L2 l X FU h a0 a1 x1 q hf
theorem ct_X11_writeBack (l : Launch) (X : Cx) {h : AH} {a0 : Nat} {a1 : Int32} {q : AH} (hf : f_X11_writeBack h a0 a1 = some q) : Ct l X k_X11_writeBack [rf X a0, .int a1] h (rV q) := ct_of ck_X11_writeBack (by simp [lg_sl, rf_cat, rq_cat, ca_i, ca_l, ca_r]) (by simp [lv_args, rf_cat, rq_cat, ca_i, ca_l, ca_r]) (ok_X11_writeBack l X hf)
set_option maxRecDepth 100000 in
set_option maxHeartbeats 4000000 in
theorem ok_X11_fill_L44 (l : Launch) (X : Cx) : ∀ (n : Nat) (h : AH) (a0 : Nat) (a1 : Int32) (a2 : Int32) (a3 : Int32) (q : AH), f_X11_fill_L44 n h a0 a1 a2 a3 = some q → Go l X k_X11_fill 44 [(0, rf X a0), (1, .int a1), (2, .int a2), (3, .int a3)] [] h (rV q) := by
  intro n
  induction n with
  | zero =>
    intro h a0 a1 a2 a3 q hf
    unfold f_X11_fill_L44 at hf
    cases hf
  | succ n ih =>
    intro h a0 a1 a2 a3 q hf
    unfold f_X11_fill_L44 at hf
    refine g_iload_n (pc := 44) 3 dX11_fill_44 rfl rfl ?_
    refine g_iconst (pc := 45) (v := (4 : Int32)) dX11_fill_45 (by decide) ?_
    rcases it_some hf with ⟨c1, hf⟩ | ⟨c1, hf⟩
    · refine g_icge_t (pc := 46) (tgt := 75) dX11_fill_46 (by decide) c1 ?_
      obtain rfl := Option.some.inj hf
      exact g_vret (pc := 75) rfl dX11_fill_75
    · refine g_icge_f (pc := 46) (tgt := 75) dX11_fill_46 (by decide) c1 ?_
      refine g_aload_n (pc := 49) 0 dX11_fill_49 rfl rfl ?_
      obtain ⟨g2, hf⟩ := gs_some hf
      refine g_getR (pc := 50) fl_X11_117 dX11_fill_50 g2 ?_
      refine g_iconst (pc := 53) (v := (4 : Int32)) dX11_fill_53 (by decide) ?_
      refine g_iload_n (pc := 54) 1 dX11_fill_54 rfl rfl ?_
      refine g_imul (pc := 55) dX11_fill_55 ?_
      refine g_iload_n (pc := 56) 3 dX11_fill_56 rfl rfl ?_
      refine g_iadd (pc := 57) dX11_fill_57 ?_
      refine g_aload_n (pc := 58) 0 dX11_fill_58 rfl rfl ?_
      refine g_getR (pc := 59) fl_X11_56 dX11_fill_59 g2 ?_
      refine g_iconst (pc := 62) (v := (4 : Int32)) dX11_fill_62 (by decide) ?_
      refine g_iload_n (pc := 63) 2 dX11_fill_63 rfl rfl ?_
      refine g_imul (pc := 64) dX11_fill_64 ?_
      refine g_iload_n (pc := 65) 3 dX11_fill_65 rfl rfl ?_
      refine g_iadd (pc := 66) dX11_fill_66 ?_
      obtain ⟨g3, hf⟩ := gs_some hf
      obtain ⟨b4, hf⟩ := gb_some hf
      refine g_iald (pc := 67) g3 b4 dX11_fill_67 ?_
      obtain ⟨g5, hf⟩ := gs_some hf
      obtain ⟨b6, hf⟩ := gb_some hf
      obtain ⟨h7, eh7, hf⟩ := lt_some hf
      refine g_iast (pc := 68) g5 b6 dX11_fill_68 eh7 ?_
      obtain ⟨x8, ex8, hf⟩ := lt_some hf
      refine g_iinc (pc := 69) (y := x8) (L' := [(3, .int x8), (0, rf X a0), (1, .int a1), (2, .int a2)]) 3 dX11_fill_69 rfl (by decide) (ex8.trans rfl) rfl ?_
      refine g_goto (pc := 72) (tgt := 44) dX11_fill_72 (by decide) ?_
      refine g_sub [1, 2, 3, 0] rfl ?_
      exact ih h7 a0 a1 a2 x8 q hf
set_option maxRecDepth 100000 in
set_option maxHeartbeats 4000000 in
theorem ok_X11_fill (l : Launch) (X : Cx) {h : AH} {a0 : Nat} {a1 : Int32} {a2 : Int32} {q : AH} (hf : f_X11_fill h a0 a1 a2 = some q) : Go l X k_X11_fill 0 [(0, rf X a0), (1, .int a1), (2, .int a2)] [] h (rV q) := by
  unfold f_X11_fill at hf
  refine g_aload_n (pc := 0) 0 dX11_fill_0 rfl rfl ?_
  obtain ⟨g1, hf⟩ := gs_some hf
  refine g_getR (pc := 1) fl_X11_114 dX11_fill_1 g1 ?_
  refine g_iload_n (pc := 4) 1 dX11_fill_4 rfl rfl ?_
  refine g_iload_n (pc := 5) 2 dX11_fill_5 rfl rfl ?_
  obtain ⟨g2, hf⟩ := gs_some hf
  obtain ⟨b3, hf⟩ := gb_some hf
  obtain ⟨h4, eh4, hf⟩ := lt_some hf
  refine g_iast (pc := 6) g2 b3 dX11_fill_6 eh4 ?_
  refine g_aload_n (pc := 7) 0 dX11_fill_7 rfl rfl ?_
  have g5 : hS h4 a0 = 10 := (hS_tI eh4 g1)
  refine g_getR (pc := 8) fl_X11_120 dX11_fill_8 g5 ?_
  refine g_iload_n (pc := 11) 1 dX11_fill_11 rfl rfl ?_
  refine g_iconst (pc := 12) (v := (0 : Int32)) dX11_fill_12 (by decide) ?_
  obtain ⟨g6, hf⟩ := gs_some hf
  obtain ⟨b7, hf⟩ := gb_some hf
  obtain ⟨h8, eh8, hf⟩ := lt_some hf
  refine g_zast (pc := 13) g6 b7 dX11_fill_13 eh8 ?_
  refine g_aload_n (pc := 14) 0 dX11_fill_14 rfl rfl ?_
  have g9 : hS h8 a0 = 10 := (hS_tI eh8 g5)
  refine g_getR (pc := 15) fl_X11_123 dX11_fill_15 g9 ?_
  refine g_iload_n (pc := 18) 1 dX11_fill_18 rfl rfl ?_
  refine g_iconst (pc := 19) (v := (-1 : Int32)) dX11_fill_19 (by decide) ?_
  obtain ⟨g10, hf⟩ := gs_some hf
  obtain ⟨b11, hf⟩ := gb_some hf
  obtain ⟨h12, eh12, hf⟩ := lt_some hf
  refine g_iast (pc := 20) g10 b11 dX11_fill_20 eh12 ?_
  refine g_aload_n (pc := 21) 0 dX11_fill_21 rfl rfl ?_
  have g13 : hS h12 a0 = 10 := (hS_tI eh12 g9)
  refine g_getR (pc := 22) fl_X11_126 dX11_fill_22 g13 ?_
  refine g_iload_n (pc := 25) 1 dX11_fill_25 rfl rfl ?_
  refine g_iconst (pc := 26) (v := (0 : Int32)) dX11_fill_26 (by decide) ?_
  obtain ⟨g14, hf⟩ := gs_some hf
  obtain ⟨b15, hf⟩ := gb_some hf
  obtain ⟨h16, eh16, hf⟩ := lt_some hf
  refine g_iast (pc := 27) g14 b15 dX11_fill_27 eh16 ?_
  refine g_aload_n (pc := 28) 0 dX11_fill_28 rfl rfl ?_
  have g17 : hS h16 a0 = 10 := (hS_tI eh16 g13)
  refine g_getR (pc := 29) fl_X11_129 dX11_fill_29 g17 ?_
  refine g_iload_n (pc := 32) 1 dX11_fill_32 rfl rfl ?_
  refine g_iconst (pc := 33) (v := (-1 : Int32)) dX11_fill_33 (by decide) ?_
  obtain ⟨g18, hf⟩ := gs_some hf
  obtain ⟨b19, hf⟩ := gb_some hf
  obtain ⟨h20, eh20, hf⟩ := lt_some hf
  refine g_iast (pc := 34) g18 b19 dX11_fill_34 eh20 ?_
  refine g_aload_n (pc := 35) 0 dX11_fill_35 rfl rfl ?_
  have g21 : hS h20 a0 = 10 := (hS_tI eh20 g17)
  refine g_getR (pc := 36) fl_X11_135 dX11_fill_36 g21 ?_
  refine g_iload_n (pc := 39) 1 dX11_fill_39 rfl rfl ?_
  refine g_iconst (pc := 40) (v := (0 : Int32)) dX11_fill_40 (by decide) ?_
  obtain ⟨g22, hf⟩ := gs_some hf
  obtain ⟨b23, hf⟩ := gb_some hf
  obtain ⟨h24, eh24, hf⟩ := lt_some hf
  refine g_iast (pc := 41) g22 b23 dX11_fill_41 eh24 ?_
  refine g_iconst (pc := 42) (v := (0 : Int32)) dX11_fill_42 (by decide) ?_
  obtain ⟨x25, ex25, hf⟩ := lt_some hf
  refine g_istore_n (pc := 43) (L' := [(3, .int x25), (0, rf X a0), (1, .int a1), (2, .int a2)]) dX11_fill_43 rfl (by decide) ex25 rfl ?_
  refine g_sub [1, 2, 3, 0] rfl ?_
  exact ok_X11_fill_L44 l X FU h24 a0 a1 a2 x25 q hf
theorem ct_X11_fill (l : Launch) (X : Cx) {h : AH} {a0 : Nat} {a1 : Int32} {a2 : Int32} {q : AH} (hf : f_X11_fill h a0 a1 a2 = some q) : Ct l X k_X11_fill [rf X a0, .int a1, .int a2] h (rV q) := ct_of ck_X11_fill (by simp [lg_sl, rf_cat, rq_cat, ca_i, ca_l, ca_r]) (by simp [lv_args, rf_cat, rq_cat, ca_i, ca_l, ca_r]) (ok_X11_fill l X hf)
set_option maxRecDepth 100000 in
set_option maxHeartbeats 4000000 in
theorem ok_X11_findWay_L239 (l : Launch) (X : Cx) (k175 : AH → Nat → Int32 → Int32 → Option (Int32 × AH)) (hk175 : ∀ (h : AH) (a0 : Nat) (a3 : Int32) (a4 : Int32) (q : Int32 × AH), k175 h a0 a3 a4 = some q → Go l X k_X11_findWay 175 [(0, rf X a0), (3, .int a3), (4, .int a4)] [] h (rI q)) (h : AH) (a0 : Nat) (a3 : Int32) (a4 : Int32) (q : Int32 × AH) (hf : f_X11_findWay_L239 k175 h a0 a3 a4 = some q) : Go l X k_X11_findWay 239 [(0, rf X a0), (3, .int a3), (4, .int a4)] [] h (rI q) := by
  unfold f_X11_findWay_L239 at hf
  obtain ⟨x1, ex1, hf⟩ := lt_some hf
  refine g_iinc (pc := 239) (y := x1) (L' := [(4, .int x1), (0, rf X a0), (3, .int a3)]) 2 dX11_findWay_239 rfl (by decide) (ex1.trans rfl) rfl ?_
  refine g_goto (pc := 242) (tgt := 175) dX11_findWay_242 (by decide) ?_
  refine g_sub [1, 2, 0] rfl ?_
  exact hk175 h a0 a3 x1 q hf
set_option maxRecDepth 100000 in
set_option maxHeartbeats 4000000 in
theorem ok_X11_findWay_L214 (l : Launch) (X : Cx) (k175 : AH → Nat → Int32 → Int32 → Option (Int32 × AH)) (hk175 : ∀ (h : AH) (a0 : Nat) (a3 : Int32) (a4 : Int32) (q : Int32 × AH), k175 h a0 a3 a4 = some q → Go l X k_X11_findWay 175 [(0, rf X a0), (3, .int a3), (4, .int a4)] [] h (rI q)) (h : AH) (a0 : Nat) (a3 : Int32) (a4 : Int32) (q : Int32 × AH) (hf : f_X11_findWay_L214 k175 h a0 a3 a4 = some q) : Go l X k_X11_findWay 214 [(0, rf X a0), (3, .int a3), (4, .int a4)] [] h (rI q) := by
  unfold f_X11_findWay_L214 at hf
  refine g_aload_n (pc := 214) 0 dX11_findWay_214 rfl rfl ?_
  refine g_iconst (pc := 215) (v := (3 : Int32)) dX11_findWay_215 (by decide) ?_
  refine g_bipush (pc := 216) (v := (16 : Int32)) dX11_findWay_216 (by decide) ?_
  refine g_iload (pc := 218) 2 dX11_findWay_218 rfl ?_
  refine g_aload_n (pc := 220) 0 dX11_findWay_220 rfl rfl ?_
  obtain ⟨g1, hf⟩ := gs_some hf
  refine g_getR (pc := 221) fl_X11_114 dX11_findWay_221 g1 ?_
  refine g_iload_n (pc := 224) 1 dX11_findWay_224 rfl rfl ?_
  obtain ⟨g2, hf⟩ := gs_some hf
  obtain ⟨b3, hf⟩ := gb_some hf
  refine g_iald (pc := 225) g2 b3 dX11_findWay_225 ?_
  obtain ⟨q4, hcq4, hf⟩ := bd_some hf
  refine g_cVV (pc := 226) (k2 := k_X11_send) (av := [.int (3 : Int32), .int (16 : Int32), .int a4, .int (hI h (hR h a0 48) a3.toNatClampNeg)]) (q := q4) rfl dX11_findWay_226 ck_X11_send m_1839 m_1841 m_89 (ci := 9) rfl (by decide) g1 (by decide) (by decide) rfl (by simp [rf_cat, rq_cat, ca_i, ca_l, ca_r]) (ct_X11_send l X hcq4) ?_
  refine g_aload_n (pc := 229) 0 dX11_findWay_229 rfl rfl ?_
  obtain ⟨g5, hf⟩ := gs_some hf
  refine g_getR (pc := 230) fl_X11_135 dX11_findWay_230 g5 ?_
  refine g_iload_n (pc := 233) 1 dX11_findWay_233 rfl rfl ?_
  refine g_dup2 (pc := 234) dX11_findWay_234 rfl (rf_cat X _) ?_
  obtain ⟨g6, hf⟩ := gs_some hf
  obtain ⟨b7, hf⟩ := gb_some hf
  refine g_iald (pc := 235) g6 b7 dX11_findWay_235 ?_
  refine g_iconst (pc := 236) (v := (1 : Int32)) dX11_findWay_236 (by decide) ?_
  refine g_iadd (pc := 237) dX11_findWay_237 ?_
  obtain ⟨b8, hf⟩ := gb_some hf
  obtain ⟨h9, eh9, hf⟩ := lt_some hf
  refine g_iast (pc := 238) g6 b8 dX11_findWay_238 eh9 ?_
  exact ok_X11_findWay_L239 l X k175 hk175 h9 a0 a3 a4 q hf
set_option maxRecDepth 100000 in
set_option maxHeartbeats 4000000 in
theorem ok_X11_findWay_L175 (l : Launch) (X : Cx) : ∀ (n : Nat) (h : AH) (a0 : Nat) (a3 : Int32) (a4 : Int32) (q : Int32 × AH), f_X11_findWay_L175 n h a0 a3 a4 = some q → Go l X k_X11_findWay 175 [(0, rf X a0), (3, .int a3), (4, .int a4)] [] h (rI q) := by
  intro n
  induction n with
  | zero =>
    intro h a0 a3 a4 q hf
    unfold f_X11_findWay_L175 at hf
    cases hf
  | succ n ih =>
    intro h a0 a3 a4 q hf
    unfold f_X11_findWay_L175 at hf
    refine g_iload (pc := 175) 2 dX11_findWay_175 rfl ?_
    refine g_aload_n (pc := 177) 0 dX11_findWay_177 rfl rfl ?_
    obtain ⟨g1, hf⟩ := gs_some hf
    refine g_getR (pc := 178) fl_X11_47 dX11_findWay_178 g1 ?_
    refine g_iconst (pc := 181) (v := (0 : Int32)) dX11_findWay_181 (by decide) ?_
    obtain ⟨g2, hf⟩ := gs_some hf
    obtain ⟨b3, hf⟩ := gb_some hf
    refine g_iald (pc := 182) g2 b3 dX11_findWay_182 ?_
    rcases it_some hf with ⟨c4, hf⟩ | ⟨c4, hf⟩
    · refine g_icge_t (pc := 183) (tgt := 245) dX11_findWay_183 (by decide) c4 ?_
      refine g_iconst (pc := 245) (v := (-1 : Int32)) dX11_findWay_245 (by decide) ?_
      obtain rfl := Option.some.inj hf
      exact g_iret (pc := 246) rfl dX11_findWay_246
    · refine g_icge_f (pc := 183) (tgt := 245) dX11_findWay_183 (by decide) c4 ?_
      refine g_aload_n (pc := 186) 0 dX11_findWay_186 rfl rfl ?_
      refine g_getR (pc := 187) fl_X11_123 dX11_findWay_187 g1 ?_
      refine g_iload_n (pc := 190) 1 dX11_findWay_190 rfl rfl ?_
      obtain ⟨g5, hf⟩ := gs_some hf
      obtain ⟨b6, hf⟩ := gb_some hf
      refine g_iald (pc := 191) g5 b6 dX11_findWay_191 ?_
      refine g_iload (pc := 192) 2 dX11_findWay_192 rfl ?_
      rcases it_some hf with ⟨c7, hf⟩ | ⟨c7, hf⟩
      · refine g_iceq_t (pc := 194) (tgt := 214) dX11_findWay_194 (by decide) c7 ?_
        exact ok_X11_findWay_L214 l X (f_X11_findWay_L175 n) ih h a0 a3 a4 q hf
      · refine g_iceq_f (pc := 194) (tgt := 214) dX11_findWay_194 (by decide) c7 ?_
        refine g_aload_n (pc := 197) 0 dX11_findWay_197 rfl rfl ?_
        refine g_getR (pc := 198) fl_X11_126 dX11_findWay_198 g1 ?_
        refine g_iload_n (pc := 201) 1 dX11_findWay_201 rfl rfl ?_
        obtain ⟨g8, hf⟩ := gs_some hf
        obtain ⟨b9, hf⟩ := gb_some hf
        refine g_iald (pc := 202) g8 b9 dX11_findWay_202 ?_
        refine g_iload (pc := 203) 2 dX11_findWay_203 rfl ?_
        refine g_ishr (pc := 205) dX11_findWay_205 ?_
        refine g_iconst (pc := 206) (v := (1 : Int32)) dX11_findWay_206 (by decide) ?_
        refine g_iand (pc := 207) dX11_findWay_207 ?_
        rcases it_some hf with ⟨c10, hf⟩ | ⟨c10, hf⟩
        · refine g_ifne_t (pc := 208) (tgt := 214) dX11_findWay_208 (by decide) c10 ?_
          exact ok_X11_findWay_L214 l X (f_X11_findWay_L175 n) ih h a0 a3 a4 q hf
        · refine g_ifne_f (pc := 208) (tgt := 214) dX11_findWay_208 (by decide) (Decidable.of_not_not c10) ?_
          refine g_goto (pc := 211) (tgt := 239) dX11_findWay_211 (by decide) ?_
          exact ok_X11_findWay_L239 l X (f_X11_findWay_L175 n) ih h a0 a3 a4 q hf
set_option maxRecDepth 100000 in
set_option maxHeartbeats 4000000 in
theorem ok_X11_findWay_L147 (l : Launch) (X : Cx) (h : AH) (a0 : Nat) (a3 : Int32) (q : Int32 × AH) (hf : f_X11_findWay_L147 h a0 a3 = some q) : Go l X k_X11_findWay 147 [(0, rf X a0), (3, .int a3)] [] h (rI q) := by
  unfold f_X11_findWay_L147 at hf
  refine g_aload_n (pc := 147) 0 dX11_findWay_147 rfl rfl ?_
  refine g_dup (pc := 148) dX11_findWay_148 (rf_cat X _) ?_
  obtain ⟨g1, hf⟩ := gs_some hf
  refine g_getI (pc := 149) fl_X11_328 dX11_findWay_149 g1 ?_
  refine g_iconst (pc := 152) (v := (1 : Int32)) dX11_findWay_152 (by decide) ?_
  refine g_iadd (pc := 153) dX11_findWay_153 ?_
  obtain ⟨h2, eh2, hf⟩ := lt_some hf
  refine g_putI (pc := 154) fl_X11_328 dX11_findWay_154 g1 eh2 ?_
  refine g_aload_n (pc := 157) 0 dX11_findWay_157 rfl rfl ?_
  have g3 : hS h2 a0 = 10 := (hS_tI eh2 g1)
  refine g_getR (pc := 158) fl_X11_129 dX11_findWay_158 g3 ?_
  refine g_iload_n (pc := 161) 1 dX11_findWay_161 rfl rfl ?_
  refine g_bipush (pc := 162) (v := (16 : Int32)) dX11_findWay_162 (by decide) ?_
  obtain ⟨g4, hf⟩ := gs_some hf
  obtain ⟨b5, hf⟩ := gb_some hf
  obtain ⟨h6, eh6, hf⟩ := lt_some hf
  refine g_iast (pc := 164) g4 b5 dX11_findWay_164 eh6 ?_
  refine g_aload_n (pc := 165) 0 dX11_findWay_165 rfl rfl ?_
  have g7 : hS h6 a0 = 10 := (hS_tI eh6 g3)
  refine g_getR (pc := 166) fl_X11_135 dX11_findWay_166 g7 ?_
  refine g_iload_n (pc := 169) 1 dX11_findWay_169 rfl rfl ?_
  refine g_iconst (pc := 170) (v := (0 : Int32)) dX11_findWay_170 (by decide) ?_
  obtain ⟨g8, hf⟩ := gs_some hf
  obtain ⟨b9, hf⟩ := gb_some hf
  obtain ⟨h10, eh10, hf⟩ := lt_some hf
  refine g_iast (pc := 171) g8 b9 dX11_findWay_171 eh10 ?_
  refine g_iconst (pc := 172) (v := (0 : Int32)) dX11_findWay_172 (by decide) ?_
  obtain ⟨x11, ex11, hf⟩ := lt_some hf
  refine g_istore (pc := 173) (L' := [(4, .int x11), (0, rf X a0), (3, .int a3)]) dX11_findWay_173 (by decide) ex11 rfl ?_
  refine g_sub [1, 2, 0] rfl ?_
  exact ok_X11_findWay_L175 l X FU h10 a0 a3 x11 q hf
set_option maxRecDepth 100000 in
set_option maxHeartbeats 4000000 in
theorem ok_X11_findWay_L102 (l : Launch) (X : Cx) (k54 : AH → Nat → Int32 → Int32 → Int32 → Int32 → Option (Int32 × AH)) (hk54 : ∀ (h : AH) (a0 : Nat) (a1 : Int32) (a2 : Int32) (a3 : Int32) (a4 : Int32) (q : Int32 × AH), k54 h a0 a1 a2 a3 a4 = some q → Go l X k_X11_findWay 54 [(0, rf X a0), (1, .int a1), (2, .int a2), (3, .int a3), (4, .int a4)] [] h (rI q)) (h : AH) (a0 : Nat) (a1 : Int32) (a2 : Int32) (a3 : Int32) (a4 : Int32) (q : Int32 × AH) (hf : f_X11_findWay_L102 k54 h a0 a1 a2 a3 a4 = some q) : Go l X k_X11_findWay 102 [(0, rf X a0), (1, .int a1), (2, .int a2), (3, .int a3), (4, .int a4)] [] h (rI q) := by
  unfold f_X11_findWay_L102 at hf
  obtain ⟨x1, ex1, hf⟩ := lt_some hf
  refine g_iinc (pc := 102) (y := x1) (L' := [(4, .int x1), (0, rf X a0), (1, .int a1), (2, .int a2), (3, .int a3)]) 4 dX11_findWay_102 rfl (by decide) (ex1.trans rfl) rfl ?_
  refine g_goto (pc := 105) (tgt := 54) dX11_findWay_105 (by decide) ?_
  refine g_sub [1, 2, 3, 4, 0] rfl ?_
  exact hk54 h a0 a1 a2 a3 x1 q hf
set_option maxRecDepth 100000 in
set_option maxHeartbeats 4000000 in
theorem ok_X11_findWay_L99 (l : Launch) (X : Cx) (k54 : AH → Nat → Int32 → Int32 → Int32 → Int32 → Option (Int32 × AH)) (hk54 : ∀ (h : AH) (a0 : Nat) (a1 : Int32) (a2 : Int32) (a3 : Int32) (a4 : Int32) (q : Int32 × AH), k54 h a0 a1 a2 a3 a4 = some q → Go l X k_X11_findWay 54 [(0, rf X a0), (1, .int a1), (2, .int a2), (3, .int a3), (4, .int a4)] [] h (rI q)) (h : AH) (a0 : Nat) (a1 : Int32) (a2 : Int32) (a4 : Int32) (q : Int32 × AH) (hf : f_X11_findWay_L99 k54 h a0 a1 a2 a4 = some q) : Go l X k_X11_findWay 99 [(0, rf X a0), (1, .int a1), (2, .int a2), (4, .int a4)] [] h (rI q) := by
  unfold f_X11_findWay_L99 at hf
  refine g_iload (pc := 99) 3 dX11_findWay_99 rfl ?_
  refine g_istore_n (pc := 101) (L' := [(3, .int a4), (0, rf X a0), (1, .int a1), (2, .int a2), (4, .int a4)]) dX11_findWay_101 rfl (by decide) rfl rfl ?_
  refine g_sub [1, 2, 3, 0, 4] rfl ?_
  exact ok_X11_findWay_L102 l X k54 hk54 h a0 a1 a2 a4 a4 q hf
set_option maxRecDepth 100000 in
set_option maxHeartbeats 4000000 in
theorem ok_X11_findWay_L54 (l : Launch) (X : Cx) : ∀ (n : Nat) (h : AH) (a0 : Nat) (a1 : Int32) (a2 : Int32) (a3 : Int32) (a4 : Int32) (q : Int32 × AH), f_X11_findWay_L54 n h a0 a1 a2 a3 a4 = some q → Go l X k_X11_findWay 54 [(0, rf X a0), (1, .int a1), (2, .int a2), (3, .int a3), (4, .int a4)] [] h (rI q) := by
  intro n
  induction n with
  | zero =>
    intro h a0 a1 a2 a3 a4 q hf
    unfold f_X11_findWay_L54 at hf
    cases hf
  | succ n ih =>
    intro h a0 a1 a2 a3 a4 q hf
    unfold f_X11_findWay_L54 at hf
    refine g_iload (pc := 54) 4 dX11_findWay_54 rfl ?_
    refine g_iload_n (pc := 56) 2 dX11_findWay_56 rfl rfl ?_
    refine g_aload_n (pc := 57) 0 dX11_findWay_57 rfl rfl ?_
    obtain ⟨g1, hf⟩ := gs_some hf
    refine g_getR (pc := 58) fl_X11_47 dX11_findWay_58 g1 ?_
    refine g_iconst (pc := 61) (v := (5 : Int32)) dX11_findWay_61 (by decide) ?_
    obtain ⟨g2, hf⟩ := gs_some hf
    obtain ⟨b3, hf⟩ := gb_some hf
    refine g_iald (pc := 62) g2 b3 dX11_findWay_62 ?_
    refine g_iadd (pc := 63) dX11_findWay_63 ?_
    rcases it_some hf with ⟨c4, hf⟩ | ⟨c4, hf⟩
    · refine g_icge_t (pc := 64) (tgt := 108) dX11_findWay_64 (by decide) c4 ?_
      refine g_iload_n (pc := 108) 3 dX11_findWay_108 rfl rfl ?_
      refine g_iconst (pc := 109) (v := (-1 : Int32)) dX11_findWay_109 (by decide) ?_
      rcases it_some hf with ⟨c5, hf⟩ | ⟨c5, hf⟩
      · refine g_icne_t (pc := 110) (tgt := 115) dX11_findWay_110 (by decide) c5 ?_
        refine g_aload_n (pc := 115) 0 dX11_findWay_115 rfl rfl ?_
        refine g_getR (pc := 116) fl_X11_123 dX11_findWay_116 g1 ?_
        refine g_iload_n (pc := 119) 3 dX11_findWay_119 rfl rfl ?_
        obtain ⟨g6, hf⟩ := gs_some hf
        obtain ⟨b7, hf⟩ := gb_some hf
        refine g_iald (pc := 120) g6 b7 dX11_findWay_120 ?_
        refine g_iconst (pc := 121) (v := (-1 : Int32)) dX11_findWay_121 (by decide) ?_
        rcases it_some hf with ⟨c8, hf⟩ | ⟨c8, hf⟩
        · refine g_icne_t (pc := 122) (tgt := 147) dX11_findWay_122 (by decide) c8 ?_
          refine g_sub [0, 3] rfl ?_
          exact ok_X11_findWay_L147 l X h a0 a3 q hf
        · refine g_icne_f (pc := 122) (tgt := 147) dX11_findWay_122 (by decide) (Decidable.of_not_not c8) ?_
          refine g_aload_n (pc := 125) 0 dX11_findWay_125 rfl rfl ?_
          refine g_getR (pc := 126) fl_X11_126 dX11_findWay_126 g1 ?_
          refine g_iload_n (pc := 129) 3 dX11_findWay_129 rfl rfl ?_
          obtain ⟨g9, hf⟩ := gs_some hf
          obtain ⟨b10, hf⟩ := gb_some hf
          refine g_iald (pc := 130) g9 b10 dX11_findWay_130 ?_
          rcases it_some hf with ⟨c11, hf⟩ | ⟨c11, hf⟩
          · refine g_ifne_t (pc := 131) (tgt := 147) dX11_findWay_131 (by decide) c11 ?_
            refine g_sub [0, 3] rfl ?_
            exact ok_X11_findWay_L147 l X h a0 a3 q hf
          · refine g_ifne_f (pc := 131) (tgt := 147) dX11_findWay_131 (by decide) (Decidable.of_not_not c11) ?_
            refine g_aload_n (pc := 134) 0 dX11_findWay_134 rfl rfl ?_
            refine g_iload_n (pc := 135) 3 dX11_findWay_135 rfl rfl ?_
            obtain ⟨q12, hcq12, hf⟩ := bd_some hf
            refine g_cVV (pc := 136) (k2 := k_X11_writeBack) (av := [.int a3]) (q := q12) rfl dX11_findWay_136 ck_X11_writeBack m_1927 m_1929 m_108 (ci := 9) rfl (by decide) g1 (by decide) (by decide) rfl (by simp [rf_cat, rq_cat, ca_i, ca_l, ca_r]) (ct_X11_writeBack l X hcq12) ?_
            refine g_aload_n (pc := 139) 0 dX11_findWay_139 rfl rfl ?_
            refine g_iload_n (pc := 140) 3 dX11_findWay_140 rfl rfl ?_
            refine g_iload_n (pc := 141) 1 dX11_findWay_141 rfl rfl ?_
            obtain ⟨g13, hf⟩ := gs_some hf
            obtain ⟨q14, hcq14, hf⟩ := bd_some hf
            refine g_cVV (pc := 142) (k2 := k_X11_fill) (av := [.int a3, .int a1]) (q := q14) rfl dX11_findWay_142 ck_X11_fill m_1943 m_1945 m_112 (ci := 9) rfl (by decide) g13 (by decide) (by decide) rfl (by simp [rf_cat, rq_cat, ca_i, ca_l, ca_r]) (ct_X11_fill l X hcq14) ?_
            refine g_iload_n (pc := 145) 3 dX11_findWay_145 rfl rfl ?_
            obtain rfl := Option.some.inj hf
            exact g_iret (pc := 146) rfl dX11_findWay_146
      · refine g_icne_f (pc := 110) (tgt := 115) dX11_findWay_110 (by decide) (Decidable.of_not_not c5) ?_
        refine g_iconst (pc := 113) (v := (-1 : Int32)) dX11_findWay_113 (by decide) ?_
        obtain rfl := Option.some.inj hf
        exact g_iret (pc := 114) rfl dX11_findWay_114
    · refine g_icge_f (pc := 64) (tgt := 108) dX11_findWay_64 (by decide) c4 ?_
      refine g_aload_n (pc := 67) 0 dX11_findWay_67 rfl rfl ?_
      refine g_getR (pc := 68) fl_X11_129 dX11_findWay_68 g1 ?_
      refine g_iload (pc := 71) 4 dX11_findWay_71 rfl ?_
      obtain ⟨g15, hf⟩ := gs_some hf
      obtain ⟨b16, hf⟩ := gb_some hf
      refine g_iald (pc := 73) g15 b16 dX11_findWay_73 ?_
      refine g_iconst (pc := 74) (v := (-1 : Int32)) dX11_findWay_74 (by decide) ?_
      rcases it_some hf with ⟨c17, hf⟩ | ⟨c17, hf⟩
      · refine g_icne_t (pc := 75) (tgt := 102) dX11_findWay_75 (by decide) c17 ?_
        exact ok_X11_findWay_L102 l X (f_X11_findWay_L54 n) ih h a0 a1 a2 a3 a4 q hf
      · refine g_icne_f (pc := 75) (tgt := 102) dX11_findWay_75 (by decide) (Decidable.of_not_not c17) ?_
        refine g_iload_n (pc := 78) 3 dX11_findWay_78 rfl rfl ?_
        refine g_iconst (pc := 79) (v := (-1 : Int32)) dX11_findWay_79 (by decide) ?_
        rcases it_some hf with ⟨c18, hf⟩ | ⟨c18, hf⟩
        · refine g_iceq_t (pc := 80) (tgt := 99) dX11_findWay_80 (by decide) c18 ?_
          refine g_sub [0, 1, 2, 4] rfl ?_
          exact ok_X11_findWay_L99 l X (f_X11_findWay_L54 n) ih h a0 a1 a2 a4 q hf
        · refine g_iceq_f (pc := 80) (tgt := 99) dX11_findWay_80 (by decide) c18 ?_
          refine g_aload_n (pc := 83) 0 dX11_findWay_83 rfl rfl ?_
          refine g_getR (pc := 84) fl_X11_138 dX11_findWay_84 g1 ?_
          refine g_iload (pc := 87) 4 dX11_findWay_87 rfl ?_
          obtain ⟨g19, hf⟩ := gs_some hf
          obtain ⟨b20, hf⟩ := gb_some hf
          refine g_iald (pc := 89) g19 b20 dX11_findWay_89 ?_
          refine g_aload_n (pc := 90) 0 dX11_findWay_90 rfl rfl ?_
          refine g_getR (pc := 91) fl_X11_138 dX11_findWay_91 g1 ?_
          refine g_iload_n (pc := 94) 3 dX11_findWay_94 rfl rfl ?_
          obtain ⟨b21, hf⟩ := gb_some hf
          refine g_iald (pc := 95) g19 b21 dX11_findWay_95 ?_
          rcases it_some hf with ⟨c22, hf⟩ | ⟨c22, hf⟩
          · refine g_icge_t (pc := 96) (tgt := 102) dX11_findWay_96 (by decide) c22 ?_
            exact ok_X11_findWay_L102 l X (f_X11_findWay_L54 n) ih h a0 a1 a2 a3 a4 q hf
          · refine g_icge_f (pc := 96) (tgt := 102) dX11_findWay_96 (by decide) c22 ?_
            refine g_sub [0, 1, 2, 4] rfl ?_
            exact ok_X11_findWay_L99 l X (f_X11_findWay_L54 n) ih h a0 a1 a2 a4 q hf
set_option maxRecDepth 100000 in
set_option maxHeartbeats 4000000 in
theorem ok_X11_findWay_L11 (l : Launch) (X : Cx) : ∀ (n : Nat) (h : AH) (a0 : Nat) (a1 : Int32) (a2 : Int32) (a3 : Int32) (a4 : Int32) (q : Int32 × AH), f_X11_findWay_L11 n h a0 a1 a2 a3 a4 = some q → Go l X k_X11_findWay 11 [(0, rf X a0), (1, .int a1), (2, .int a2), (3, .int a3), (4, .int a4)] [] h (rI q) := by
  intro n
  induction n with
  | zero =>
    intro h a0 a1 a2 a3 a4 q hf
    unfold f_X11_findWay_L11 at hf
    cases hf
  | succ n ih =>
    intro h a0 a1 a2 a3 a4 q hf
    unfold f_X11_findWay_L11 at hf
    refine g_iload (pc := 11) 4 dX11_findWay_11 rfl ?_
    refine g_iload_n (pc := 13) 2 dX11_findWay_13 rfl rfl ?_
    refine g_aload_n (pc := 14) 0 dX11_findWay_14 rfl rfl ?_
    obtain ⟨g1, hf⟩ := gs_some hf
    refine g_getR (pc := 15) fl_X11_47 dX11_findWay_15 g1 ?_
    refine g_iconst (pc := 18) (v := (5 : Int32)) dX11_findWay_18 (by decide) ?_
    obtain ⟨g2, hf⟩ := gs_some hf
    obtain ⟨b3, hf⟩ := gb_some hf
    refine g_iald (pc := 19) g2 b3 dX11_findWay_19 ?_
    refine g_iadd (pc := 20) dX11_findWay_20 ?_
    rcases it_some hf with ⟨c4, hf⟩ | ⟨c4, hf⟩
    · refine g_icge_t (pc := 21) (tgt := 51) dX11_findWay_21 (by decide) c4 ?_
      refine g_iload_n (pc := 51) 2 dX11_findWay_51 rfl rfl ?_
      refine g_istore (pc := 52) (L' := [(4, .int a2), (0, rf X a0), (1, .int a1), (2, .int a2), (3, .int a3)]) dX11_findWay_52 (by decide) rfl rfl ?_
      refine g_sub [1, 2, 3, 4, 0] rfl ?_
      exact ok_X11_findWay_L54 l X FU h a0 a1 a2 a3 a2 q hf
    · refine g_icge_f (pc := 21) (tgt := 51) dX11_findWay_21 (by decide) c4 ?_
      refine g_aload_n (pc := 24) 0 dX11_findWay_24 rfl rfl ?_
      refine g_getR (pc := 25) fl_X11_114 dX11_findWay_25 g1 ?_
      refine g_iload (pc := 28) 4 dX11_findWay_28 rfl ?_
      obtain ⟨g5, hf⟩ := gs_some hf
      obtain ⟨b6, hf⟩ := gb_some hf
      refine g_iald (pc := 30) g5 b6 dX11_findWay_30 ?_
      refine g_iconst (pc := 31) (v := (-1 : Int32)) dX11_findWay_31 (by decide) ?_
      rcases it_some hf with ⟨c7, hf⟩ | ⟨c7, hf⟩
      · refine g_icne_t (pc := 32) (tgt := 45) dX11_findWay_32 (by decide) c7 ?_
        obtain ⟨x8, ex8, hf⟩ := lt_some hf
        refine g_iinc (pc := 45) (y := x8) (L' := [(4, .int x8), (0, rf X a0), (1, .int a1), (2, .int a2), (3, .int a3)]) 4 dX11_findWay_45 rfl (by decide) (ex8.trans rfl) rfl ?_
        refine g_goto (pc := 48) (tgt := 11) dX11_findWay_48 (by decide) ?_
        refine g_sub [1, 2, 3, 4, 0] rfl ?_
        exact ih h a0 a1 a2 a3 x8 q hf
      · refine g_icne_f (pc := 32) (tgt := 45) dX11_findWay_32 (by decide) (Decidable.of_not_not c7) ?_
        refine g_aload_n (pc := 35) 0 dX11_findWay_35 rfl rfl ?_
        refine g_iload (pc := 36) 4 dX11_findWay_36 rfl ?_
        refine g_iload_n (pc := 38) 1 dX11_findWay_38 rfl rfl ?_
        obtain ⟨q9, hcq9, hf⟩ := bd_some hf
        refine g_cVV (pc := 39) (k2 := k_X11_fill) (av := [.int a4, .int a1]) (q := q9) rfl dX11_findWay_39 ck_X11_fill m_1943 m_1945 m_112 (ci := 9) rfl (by decide) g1 (by decide) (by decide) rfl (by simp [rf_cat, rq_cat, ca_i, ca_l, ca_r]) (ct_X11_fill l X hcq9) ?_
        refine g_iload (pc := 42) 4 dX11_findWay_42 rfl ?_
        obtain rfl := Option.some.inj hf
        exact g_iret (pc := 44) rfl dX11_findWay_44
set_option maxRecDepth 100000 in
set_option maxHeartbeats 4000000 in
theorem ok_X11_findWay (l : Launch) (X : Cx) {h : AH} {a0 : Nat} {a1 : Int32} {q : Int32 × AH} (hf : f_X11_findWay h a0 a1 = some q) : Go l X k_X11_findWay 0 [(0, rf X a0), (1, .int a1)] [] h (rI q) := by
  unfold f_X11_findWay at hf
  refine g_aload_n (pc := 0) 0 dX11_findWay_0 rfl rfl ?_
  refine g_iload_n (pc := 1) 1 dX11_findWay_1 rfl rfl ?_
  obtain ⟨g1, hf⟩ := gs_some hf
  obtain ⟨v2, hcv2, hf⟩ := bd_some hf
  refine g_cVI (pc := 2) (k2 := k_X11_homeSet) (av := [.int a1]) (q := (v2, h)) rfl dX11_findWay_2 ck_X11_homeSet m_1923 m_1925 m_107 (ci := 9) rfl (by decide) g1 (by decide) (by decide) rfl (by simp [rf_cat, rq_cat, ca_i, ca_l, ca_r]) (ct_X11_homeSet l X hcv2) ?_
  refine g_istore_n (pc := 5) (L' := [(2, .int v2), (0, rf X a0), (1, .int a1)]) dX11_findWay_5 rfl (by decide) rfl rfl ?_
  refine g_iconst (pc := 6) (v := (-1 : Int32)) dX11_findWay_6 (by decide) ?_
  obtain ⟨x3, ex3, hf⟩ := lt_some hf
  refine g_istore_n (pc := 7) (L' := [(3, .int x3), (2, .int v2), (0, rf X a0), (1, .int a1)]) dX11_findWay_7 rfl (by decide) ex3 rfl ?_
  refine g_iload_n (pc := 8) 1 dX11_findWay_8 rfl rfl ?_
  refine g_istore (pc := 9) (L' := [(4, .int v2), (3, .int x3), (2, .int v2), (0, rf X a0), (1, .int a1)]) dX11_findWay_9 (by decide) rfl rfl ?_
  refine g_sub [3, 4, 2, 1, 0] rfl ?_
  exact ok_X11_findWay_L11 l X FU h a0 a1 v2 x3 v2 q hf
theorem ct_X11_findWay (l : Launch) (X : Cx) {h : AH} {a0 : Nat} {a1 : Int32} {q : Int32 × AH} (hf : f_X11_findWay h a0 a1 = some q) : Ct l X k_X11_findWay [rf X a0, .int a1] h (rI q) := ct_of ck_X11_findWay (by simp [lg_sl, rf_cat, rq_cat, ca_i, ca_l, ca_r]) (by simp [lv_args, rf_cat, rq_cat, ca_i, ca_l, ca_r]) (ok_X11_findWay l X hf)
set_option maxRecDepth 100000 in
set_option maxHeartbeats 4000000 in
theorem ok_X11_shares (l : Launch) (X : Cx) {h : AH} {a0 : Nat} {a1 : Int32} {a2 : Int32} {a3 : Int32} {q : AH} (hf : f_X11_shares h a0 a1 a2 a3 = some q) : Go l X k_X11_shares 0 [(0, rf X a0), (1, .int a1), (2, .int a2), (3, .int a3)] [] h (rV q) := by
  unfold f_X11_shares at hf
  refine g_aload_n (pc := 0) 0 dX11_shares_0 rfl rfl ?_
  obtain ⟨g1, hf⟩ := gs_some hf
  refine g_getR (pc := 1) fl_X11_123 dX11_shares_1 g1 ?_
  refine g_iload_n (pc := 4) 1 dX11_shares_4 rfl rfl ?_
  obtain ⟨g2, hf⟩ := gs_some hf
  obtain ⟨b3, hf⟩ := gb_some hf
  refine g_iald (pc := 5) g2 b3 dX11_shares_5 ?_
  refine g_iconst (pc := 6) (v := (-1 : Int32)) dX11_shares_6 (by decide) ?_
  rcases it_some hf with ⟨c4, hf⟩ | ⟨c4, hf⟩
  · refine g_iceq_t (pc := 7) (tgt := 34) dX11_shares_7 (by decide) c4 ?_
    refine g_aload_n (pc := 34) 0 dX11_shares_34 rfl rfl ?_
    refine g_getR (pc := 35) fl_X11_126 dX11_shares_35 g1 ?_
    refine g_iload_n (pc := 38) 1 dX11_shares_38 rfl rfl ?_
    obtain ⟨g5, hf⟩ := gs_some hf
    obtain ⟨b6, hf⟩ := gb_some hf
    refine g_iald (pc := 39) g5 b6 dX11_shares_39 ?_
    rcases it_some hf with ⟨c7, hf⟩ | ⟨c7, hf⟩
    · refine g_ifne_t (pc := 40) (tgt := 61) dX11_shares_40 (by decide) c7 ?_
      refine g_aload_n (pc := 61) 0 dX11_shares_61 rfl rfl ?_
      refine g_getR (pc := 62) fl_X11_126 dX11_shares_62 g1 ?_
      refine g_iload_n (pc := 65) 1 dX11_shares_65 rfl rfl ?_
      refine g_dup2 (pc := 66) dX11_shares_66 rfl (rf_cat X _) ?_
      obtain ⟨b8, hf⟩ := gb_some hf
      refine g_iald (pc := 67) g5 b8 dX11_shares_67 ?_
      refine g_iconst (pc := 68) (v := (1 : Int32)) dX11_shares_68 (by decide) ?_
      refine g_iload_n (pc := 69) 2 dX11_shares_69 rfl rfl ?_
      refine g_ishl (pc := 70) dX11_shares_70 ?_
      refine g_ior (pc := 71) dX11_shares_71 ?_
      obtain ⟨b9, hf⟩ := gb_some hf
      obtain ⟨h10, eh10, hf⟩ := lt_some hf
      refine g_iast (pc := 72) g5 b9 dX11_shares_72 eh10 ?_
      refine g_aload_n (pc := 73) 0 dX11_shares_73 rfl rfl ?_
      refine g_bipush (pc := 74) (v := (6 : Int32)) dX11_shares_74 (by decide) ?_
      refine g_iload_n (pc := 76) 2 dX11_shares_76 rfl rfl ?_
      refine g_iload_n (pc := 77) 3 dX11_shares_77 rfl rfl ?_
      have g11 : hS h10 a0 = 10 := (hS_tI eh10 g1)
      obtain ⟨q12, hcq12, hf⟩ := bd_some hf
      refine g_cVV (pc := 78) (k2 := k_X11_give) (av := [.int (6 : Int32), .int a2, .int a3]) (q := q12) rfl dX11_shares_78 ck_X11_give m_1951 m_1953 m_114 (ci := 9) rfl (by decide) g11 (by decide) (by decide) rfl (by simp [rf_cat, rq_cat, ca_i, ca_l, ca_r]) (ct_X11_give l X hcq12) ?_
      obtain rfl := Option.some.inj hf
      exact g_vret (pc := 81) rfl dX11_shares_81
    · refine g_ifne_f (pc := 40) (tgt := 61) dX11_shares_40 (by decide) (Decidable.of_not_not c7) ?_
      refine g_aload_n (pc := 43) 0 dX11_shares_43 rfl rfl ?_
      refine g_getR (pc := 44) fl_X11_123 dX11_shares_44 g1 ?_
      refine g_iload_n (pc := 47) 1 dX11_shares_47 rfl rfl ?_
      refine g_iload_n (pc := 48) 2 dX11_shares_48 rfl rfl ?_
      obtain ⟨b13, hf⟩ := gb_some hf
      obtain ⟨h14, eh14, hf⟩ := lt_some hf
      refine g_iast (pc := 49) g2 b13 dX11_shares_49 eh14 ?_
      refine g_aload_n (pc := 50) 0 dX11_shares_50 rfl rfl ?_
      refine g_bipush (pc := 51) (v := (7 : Int32)) dX11_shares_51 (by decide) ?_
      refine g_iload_n (pc := 53) 2 dX11_shares_53 rfl rfl ?_
      refine g_iload_n (pc := 54) 3 dX11_shares_54 rfl rfl ?_
      have g15 : hS h14 a0 = 10 := (hS_tI eh14 g1)
      obtain ⟨q16, hcq16, hf⟩ := bd_some hf
      refine g_cVV (pc := 55) (k2 := k_X11_give) (av := [.int (7 : Int32), .int a2, .int a3]) (q := q16) rfl dX11_shares_55 ck_X11_give m_1951 m_1953 m_114 (ci := 9) rfl (by decide) g15 (by decide) (by decide) rfl (by simp [rf_cat, rq_cat, ca_i, ca_l, ca_r]) (ct_X11_give l X hcq16) ?_
      refine g_goto (pc := 58) (tgt := 81) dX11_shares_58 (by decide) ?_
      obtain rfl := Option.some.inj hf
      exact g_vret (pc := 81) rfl dX11_shares_81
  · refine g_iceq_f (pc := 7) (tgt := 34) dX11_shares_7 (by decide) c4 ?_
    refine g_aload_n (pc := 10) 0 dX11_shares_10 rfl rfl ?_
    refine g_iconst (pc := 11) (v := (4 : Int32)) dX11_shares_11 (by decide) ?_
    refine g_bipush (pc := 12) (v := (16 : Int32)) dX11_shares_12 (by decide) ?_
    refine g_aload_n (pc := 14) 0 dX11_shares_14 rfl rfl ?_
    refine g_getR (pc := 15) fl_X11_123 dX11_shares_15 g1 ?_
    refine g_iload_n (pc := 18) 1 dX11_shares_18 rfl rfl ?_
    obtain ⟨b17, hf⟩ := gb_some hf
    refine g_iald (pc := 19) g2 b17 dX11_shares_19 ?_
    refine g_iload_n (pc := 20) 3 dX11_shares_20 rfl rfl ?_
    obtain ⟨q18, hcq18, hf⟩ := bd_some hf
    refine g_cVV (pc := 21) (k2 := k_X11_send) (av := [.int (4 : Int32), .int (16 : Int32), .int (hI h (hR h a0 51) a1.toNatClampNeg), .int a3]) (q := q18) rfl dX11_shares_21 ck_X11_send m_1839 m_1841 m_89 (ci := 9) rfl (by decide) g1 (by decide) (by decide) rfl (by simp [rf_cat, rq_cat, ca_i, ca_l, ca_r]) (ct_X11_send l X hcq18) ?_
    refine g_aload_n (pc := 24) 0 dX11_shares_24 rfl rfl ?_
    obtain ⟨g19, hf⟩ := gs_some hf
    refine g_getR (pc := 25) fl_X11_135 dX11_shares_25 g19 ?_
    refine g_iload_n (pc := 28) 1 dX11_shares_28 rfl rfl ?_
    refine g_iconst (pc := 29) (v := (1 : Int32)) dX11_shares_29 (by decide) ?_
    obtain ⟨g20, hf⟩ := gs_some hf
    obtain ⟨b21, hf⟩ := gb_some hf
    obtain ⟨h22, eh22, hf⟩ := lt_some hf
    refine g_iast (pc := 30) g20 b21 dX11_shares_30 eh22 ?_
    refine g_goto (pc := 31) (tgt := 81) dX11_shares_31 (by decide) ?_
    obtain rfl := Option.some.inj hf
    exact g_vret (pc := 81) rfl dX11_shares_81
theorem ct_X11_shares (l : Launch) (X : Cx) {h : AH} {a0 : Nat} {a1 : Int32} {a2 : Int32} {a3 : Int32} {q : AH} (hf : f_X11_shares h a0 a1 a2 a3 = some q) : Ct l X k_X11_shares [rf X a0, .int a1, .int a2, .int a3] h (rV q) := ct_of ck_X11_shares (by simp [lg_sl, rf_cat, rq_cat, ca_i, ca_l, ca_r]) (by simp [lv_args, rf_cat, rq_cat, ca_i, ca_l, ca_r]) (ok_X11_shares l X hf)
set_option maxRecDepth 100000 in
set_option maxHeartbeats 4000000 in
theorem ok_X11_lend (l : Launch) (X : Cx) {h : AH} {a0 : Nat} {a1 : Int32} {q : AH} (hf : f_X11_lend h a0 a1 = some q) : Go l X k_X11_lend 0 [(0, rf X a0), (1, .int a1)] [] h (rV q) := by
  unfold f_X11_lend at hf
  refine g_aload_n (pc := 0) 0 dX11_lend_0 rfl rfl ?_
  obtain ⟨g1, hf⟩ := gs_some hf
  refine g_getR (pc := 1) fl_X11_123 dX11_lend_1 g1 ?_
  refine g_iload_n (pc := 4) 1 dX11_lend_4 rfl rfl ?_
  refine g_aload_n (pc := 5) 0 dX11_lend_5 rfl rfl ?_
  refine g_getR (pc := 6) fl_X11_129 dX11_lend_6 g1 ?_
  refine g_iload_n (pc := 9) 1 dX11_lend_9 rfl rfl ?_
  obtain ⟨g2, hf⟩ := gs_some hf
  obtain ⟨b3, hf⟩ := gb_some hf
  refine g_iald (pc := 10) g2 b3 dX11_lend_10 ?_
  obtain ⟨g4, hf⟩ := gs_some hf
  obtain ⟨b5, hf⟩ := gb_some hf
  obtain ⟨h6, eh6, hf⟩ := lt_some hf
  refine g_iast (pc := 11) g4 b5 dX11_lend_11 eh6 ?_
  refine g_aload_n (pc := 12) 0 dX11_lend_12 rfl rfl ?_
  have g7 : hS h6 a0 = 10 := (hS_tI eh6 g1)
  refine g_getR (pc := 13) fl_X11_126 dX11_lend_13 g7 ?_
  refine g_iload_n (pc := 16) 1 dX11_lend_16 rfl rfl ?_
  refine g_iconst (pc := 17) (v := (0 : Int32)) dX11_lend_17 (by decide) ?_
  obtain ⟨g8, hf⟩ := gs_some hf
  obtain ⟨b9, hf⟩ := gb_some hf
  obtain ⟨h10, eh10, hf⟩ := lt_some hf
  refine g_iast (pc := 18) g8 b9 dX11_lend_18 eh10 ?_
  refine g_aload_n (pc := 19) 0 dX11_lend_19 rfl rfl ?_
  refine g_bipush (pc := 20) (v := (8 : Int32)) dX11_lend_20 (by decide) ?_
  refine g_aload_n (pc := 22) 0 dX11_lend_22 rfl rfl ?_
  have g11 : hS h10 a0 = 10 := (hS_tI eh10 g7)
  refine g_getR (pc := 23) fl_X11_129 dX11_lend_23 g11 ?_
  refine g_iload_n (pc := 26) 1 dX11_lend_26 rfl rfl ?_
  obtain ⟨g12, hf⟩ := gs_some hf
  obtain ⟨b13, hf⟩ := gb_some hf
  refine g_iald (pc := 27) g12 b13 dX11_lend_27 ?_
  refine g_aload_n (pc := 28) 0 dX11_lend_28 rfl rfl ?_
  refine g_getR (pc := 29) fl_X11_114 dX11_lend_29 g11 ?_
  refine g_iload_n (pc := 32) 1 dX11_lend_32 rfl rfl ?_
  obtain ⟨g14, hf⟩ := gs_some hf
  obtain ⟨b15, hf⟩ := gb_some hf
  refine g_iald (pc := 33) g14 b15 dX11_lend_33 ?_
  obtain ⟨q16, hcq16, hf⟩ := bd_some hf
  refine g_cVV (pc := 34) (k2 := k_X11_give) (av := [.int (8 : Int32), .int (hI h10 (hR h10 a0 53) a1.toNatClampNeg), .int (hI h10 (hR h10 a0 48) a1.toNatClampNeg)]) (q := q16) rfl dX11_lend_34 ck_X11_give m_1951 m_1953 m_114 (ci := 9) rfl (by decide) g11 (by decide) (by decide) rfl (by simp [rf_cat, rq_cat, ca_i, ca_l, ca_r]) (ct_X11_give l X hcq16) ?_
  obtain rfl := Option.some.inj hf
  exact g_vret (pc := 37) rfl dX11_lend_37
theorem ct_X11_lend (l : Launch) (X : Cx) {h : AH} {a0 : Nat} {a1 : Int32} {q : AH} (hf : f_X11_lend h a0 a1 = some q) : Ct l X k_X11_lend [rf X a0, .int a1] h (rV q) := ct_of ck_X11_lend (by simp [lg_sl, rf_cat, rq_cat, ca_i, ca_l, ca_r]) (by simp [lv_args, rf_cat, rq_cat, ca_i, ca_l, ca_r]) (ok_X11_lend l X hf)
set_option maxRecDepth 100000 in
set_option maxHeartbeats 4000000 in
theorem ok_X11_take_L264 (l : Launch) (X : Cx) (k196 : AH → Nat → Int32 → Int32 → Int32 → Int32 → Option (Int32 × AH)) (hk196 : ∀ (h : AH) (a0 : Nat) (a2 : Int32) (a3 : Int32) (a5 : Int32) (a6 : Int32) (q : Int32 × AH), k196 h a0 a2 a3 a5 a6 = some q → Go l X k_X11_take 196 [(0, rf X a0), (2, .int a2), (3, .int a3), (5, .int a5), (6, .int a6)] [] h (rI q)) (h : AH) (a0 : Nat) (a2 : Int32) (a3 : Int32) (a5 : Int32) (a6 : Int32) (q : Int32 × AH) (hf : f_X11_take_L264 k196 h a0 a2 a3 a5 a6 = some q) : Go l X k_X11_take 264 [(0, rf X a0), (2, .int a2), (3, .int a3), (5, .int a5), (6, .int a6)] [] h (rI q) := by
  unfold f_X11_take_L264 at hf
  obtain ⟨x1, ex1, hf⟩ := lt_some hf
  refine g_iinc (pc := 264) (y := x1) (L' := [(6, .int x1), (0, rf X a0), (2, .int a2), (3, .int a3), (5, .int a5)]) 4 dX11_take_264 rfl (by decide) (ex1.trans rfl) rfl ?_
  refine g_goto (pc := 267) (tgt := 196) dX11_take_267 (by decide) ?_
  refine g_sub [1, 2, 3, 4, 0] rfl ?_
  exact hk196 h a0 a2 a3 a5 x1 q hf
set_option maxRecDepth 100000 in
set_option maxHeartbeats 4000000 in
theorem ok_X11_take_L243 (l : Launch) (X : Cx) (k196 : AH → Nat → Int32 → Int32 → Int32 → Int32 → Option (Int32 × AH)) (hk196 : ∀ (h : AH) (a0 : Nat) (a2 : Int32) (a3 : Int32) (a5 : Int32) (a6 : Int32) (q : Int32 × AH), k196 h a0 a2 a3 a5 a6 = some q → Go l X k_X11_take 196 [(0, rf X a0), (2, .int a2), (3, .int a3), (5, .int a5), (6, .int a6)] [] h (rI q)) (h : AH) (a0 : Nat) (a2 : Int32) (a3 : Int32) (a5 : Int32) (a6 : Int32) (q : Int32 × AH) (hf : f_X11_take_L243 k196 h a0 a2 a3 a5 a6 = some q) : Go l X k_X11_take 243 [(0, rf X a0), (2, .int a2), (3, .int a3), (5, .int a5), (6, .int a6)] [] h (rI q) := by
  unfold f_X11_take_L243 at hf
  refine g_aload_n (pc := 243) 0 dX11_take_243 rfl rfl ?_
  refine g_iconst (pc := 244) (v := (3 : Int32)) dX11_take_244 (by decide) ?_
  refine g_bipush (pc := 245) (v := (16 : Int32)) dX11_take_245 (by decide) ?_
  refine g_iload (pc := 247) 4 dX11_take_247 rfl ?_
  refine g_iload_n (pc := 249) 2 dX11_take_249 rfl rfl ?_
  obtain ⟨g1, hf⟩ := gs_some hf
  obtain ⟨q2, hcq2, hf⟩ := bd_some hf
  refine g_cVV (pc := 250) (k2 := k_X11_send) (av := [.int (3 : Int32), .int (16 : Int32), .int a6, .int a3]) (q := q2) rfl dX11_take_250 ck_X11_send m_1839 m_1841 m_89 (ci := 9) rfl (by decide) g1 (by decide) (by decide) rfl (by simp [rf_cat, rq_cat, ca_i, ca_l, ca_r]) (ct_X11_send l X hcq2) ?_
  refine g_aload_n (pc := 253) 0 dX11_take_253 rfl rfl ?_
  obtain ⟨g3, hf⟩ := gs_some hf
  refine g_getR (pc := 254) fl_X11_135 dX11_take_254 g3 ?_
  refine g_iload (pc := 257) 3 dX11_take_257 rfl ?_
  refine g_dup2 (pc := 259) dX11_take_259 rfl (rf_cat X _) ?_
  obtain ⟨g4, hf⟩ := gs_some hf
  obtain ⟨b5, hf⟩ := gb_some hf
  refine g_iald (pc := 260) g4 b5 dX11_take_260 ?_
  refine g_iconst (pc := 261) (v := (1 : Int32)) dX11_take_261 (by decide) ?_
  refine g_iadd (pc := 262) dX11_take_262 ?_
  obtain ⟨b6, hf⟩ := gb_some hf
  obtain ⟨h7, eh7, hf⟩ := lt_some hf
  refine g_iast (pc := 263) g4 b6 dX11_take_263 eh7 ?_
  exact ok_X11_take_L264 l X k196 hk196 h7 a0 a2 a3 a5 a6 q hf
set_option maxRecDepth 100000 in
set_option maxHeartbeats 4000000 in
theorem ok_X11_take_L196 (l : Launch) (X : Cx) : ∀ (n : Nat) (h : AH) (a0 : Nat) (a2 : Int32) (a3 : Int32) (a5 : Int32) (a6 : Int32) (q : Int32 × AH), f_X11_take_L196 n h a0 a2 a3 a5 a6 = some q → Go l X k_X11_take 196 [(0, rf X a0), (2, .int a2), (3, .int a3), (5, .int a5), (6, .int a6)] [] h (rI q) := by
  intro n
  induction n with
  | zero =>
    intro h a0 a2 a3 a5 a6 q hf
    unfold f_X11_take_L196 at hf
    cases hf
  | succ n ih =>
    intro h a0 a2 a3 a5 a6 q hf
    unfold f_X11_take_L196 at hf
    refine g_iload (pc := 196) 4 dX11_take_196 rfl ?_
    refine g_aload_n (pc := 198) 0 dX11_take_198 rfl rfl ?_
    obtain ⟨g1, hf⟩ := gs_some hf
    refine g_getR (pc := 199) fl_X11_47 dX11_take_199 g1 ?_
    refine g_iconst (pc := 202) (v := (0 : Int32)) dX11_take_202 (by decide) ?_
    obtain ⟨g2, hf⟩ := gs_some hf
    obtain ⟨b3, hf⟩ := gb_some hf
    refine g_iald (pc := 203) g2 b3 dX11_take_203 ?_
    rcases it_some hf with ⟨c4, hf⟩ | ⟨c4, hf⟩
    · refine g_icge_t (pc := 204) (tgt := 270) dX11_take_204 (by decide) c4 ?_
      refine g_aload_n (pc := 270) 0 dX11_take_270 rfl rfl ?_
      refine g_getR (pc := 271) fl_X11_135 dX11_take_271 g1 ?_
      refine g_iload (pc := 274) 3 dX11_take_274 rfl ?_
      obtain ⟨g5, hf⟩ := gs_some hf
      obtain ⟨b6, hf⟩ := gb_some hf
      refine g_iald (pc := 276) g5 b6 dX11_take_276 ?_
      rcases it_some hf with ⟨c7, hf⟩ | ⟨c7, hf⟩
      · refine g_ifne_t (pc := 277) (tgt := 286) dX11_take_277 (by decide) c7 ?_
        refine g_iconst (pc := 286) (v := (1 : Int32)) dX11_take_286 (by decide) ?_
        obtain rfl := Option.some.inj hf
        exact g_zret (pc := 287) rfl rfl dX11_take_287
      · refine g_ifne_f (pc := 277) (tgt := 286) dX11_take_277 (by decide) (Decidable.of_not_not c7) ?_
        refine g_aload_n (pc := 280) 0 dX11_take_280 rfl rfl ?_
        refine g_iload (pc := 281) 3 dX11_take_281 rfl ?_
        obtain ⟨q8, hcq8, hf⟩ := bd_some hf
        refine g_cVV (pc := 283) (k2 := k_X11_lend) (av := [.int a5]) (q := q8) rfl dX11_take_283 ck_X11_lend m_1955 m_1957 m_115 (ci := 9) rfl (by decide) g1 (by decide) (by decide) rfl (by simp [rf_cat, rq_cat, ca_i, ca_l, ca_r]) (ct_X11_lend l X hcq8) ?_
        refine g_iconst (pc := 286) (v := (1 : Int32)) dX11_take_286 (by decide) ?_
        obtain rfl := Option.some.inj hf
        exact g_zret (pc := 287) rfl rfl dX11_take_287
    · refine g_icge_f (pc := 204) (tgt := 270) dX11_take_204 (by decide) c4 ?_
      refine g_iload (pc := 207) 4 dX11_take_207 rfl ?_
      refine g_iload_n (pc := 209) 1 dX11_take_209 rfl rfl ?_
      rcases it_some hf with ⟨c9, hf⟩ | ⟨c9, hf⟩
      · refine g_iceq_t (pc := 210) (tgt := 264) dX11_take_210 (by decide) c9 ?_
        exact ok_X11_take_L264 l X (f_X11_take_L196 n) ih h a0 a2 a3 a5 a6 q hf
      · refine g_iceq_f (pc := 210) (tgt := 264) dX11_take_210 (by decide) c9 ?_
        refine g_aload_n (pc := 213) 0 dX11_take_213 rfl rfl ?_
        refine g_getR (pc := 214) fl_X11_123 dX11_take_214 g1 ?_
        refine g_iload (pc := 217) 3 dX11_take_217 rfl ?_
        obtain ⟨g10, hf⟩ := gs_some hf
        obtain ⟨b11, hf⟩ := gb_some hf
        refine g_iald (pc := 219) g10 b11 dX11_take_219 ?_
        refine g_iload (pc := 220) 4 dX11_take_220 rfl ?_
        rcases it_some hf with ⟨c12, hf⟩ | ⟨c12, hf⟩
        · refine g_iceq_t (pc := 222) (tgt := 243) dX11_take_222 (by decide) c12 ?_
          exact ok_X11_take_L243 l X (f_X11_take_L196 n) ih h a0 a2 a3 a5 a6 q hf
        · refine g_iceq_f (pc := 222) (tgt := 243) dX11_take_222 (by decide) c12 ?_
          refine g_aload_n (pc := 225) 0 dX11_take_225 rfl rfl ?_
          refine g_getR (pc := 226) fl_X11_126 dX11_take_226 g1 ?_
          refine g_iload (pc := 229) 3 dX11_take_229 rfl ?_
          obtain ⟨g13, hf⟩ := gs_some hf
          obtain ⟨b14, hf⟩ := gb_some hf
          refine g_iald (pc := 231) g13 b14 dX11_take_231 ?_
          refine g_iload (pc := 232) 4 dX11_take_232 rfl ?_
          refine g_ishr (pc := 234) dX11_take_234 ?_
          refine g_iconst (pc := 235) (v := (1 : Int32)) dX11_take_235 (by decide) ?_
          refine g_iand (pc := 236) dX11_take_236 ?_
          rcases it_some hf with ⟨c15, hf⟩ | ⟨c15, hf⟩
          · refine g_ifne_t (pc := 237) (tgt := 243) dX11_take_237 (by decide) c15 ?_
            exact ok_X11_take_L243 l X (f_X11_take_L196 n) ih h a0 a2 a3 a5 a6 q hf
          · refine g_ifne_f (pc := 237) (tgt := 243) dX11_take_237 (by decide) (Decidable.of_not_not c15) ?_
            refine g_goto (pc := 240) (tgt := 264) dX11_take_240 (by decide) ?_
            exact ok_X11_take_L264 l X (f_X11_take_L196 n) ih h a0 a2 a3 a5 a6 q hf
set_option maxRecDepth 100000 in
set_option maxHeartbeats 4000000 in
theorem ok_X11_take_L126 (l : Launch) (X : Cx) (h : AH) (a0 : Nat) (a1 : Int32) (a2 : Int32) (a3 : Int32) (a5 : Int32) (q : Int32 × AH) (hf : f_X11_take_L126 h a0 a1 a2 a3 a5 = some q) : Go l X k_X11_take 126 [(0, rf X a0), (1, .int a1), (2, .int a2), (3, .int a3), (5, .int a5)] [] h (rI q) := by
  unfold f_X11_take_L126 at hf
  refine g_iload (pc := 126) 4 dX11_take_126 rfl ?_
  refine g_iconst (pc := 128) (v := (-1 : Int32)) dX11_take_128 (by decide) ?_
  rcases it_some hf with ⟨c1, hf⟩ | ⟨c1, hf⟩
  · refine g_icne_t (pc := 129) (tgt := 134) dX11_take_129 (by decide) c1 ?_
    refine g_aload_n (pc := 134) 0 dX11_take_134 rfl rfl ?_
    refine g_dup (pc := 135) dX11_take_135 (rf_cat X _) ?_
    obtain ⟨g2, hf⟩ := gs_some hf
    refine g_getI (pc := 136) fl_X11_638 dX11_take_136 g2 ?_
    refine g_iconst (pc := 139) (v := (1 : Int32)) dX11_take_139 (by decide) ?_
    refine g_iadd (pc := 140) dX11_take_140 ?_
    obtain ⟨h3, eh3, hf⟩ := lt_some hf
    refine g_putI (pc := 141) fl_X11_638 dX11_take_141 g2 eh3 ?_
    refine g_aload_n (pc := 144) 0 dX11_take_144 rfl rfl ?_
    have g4 : hS h3 a0 = 10 := (hS_tI eh3 g2)
    refine g_getR (pc := 145) fl_X11_138 dX11_take_145 g4 ?_
    refine g_iload (pc := 148) 4 dX11_take_148 rfl ?_
    refine g_aload_n (pc := 150) 0 dX11_take_150 rfl rfl ?_
    refine g_getI (pc := 151) fl_X11_638 dX11_take_151 g4 ?_
    obtain ⟨g5, hf⟩ := gs_some hf
    obtain ⟨b6, hf⟩ := gb_some hf
    obtain ⟨h7, eh7, hf⟩ := lt_some hf
    refine g_iast (pc := 154) g5 b6 dX11_take_154 eh7 ?_
    refine g_aload_n (pc := 155) 0 dX11_take_155 rfl rfl ?_
    have g8 : hS h7 a0 = 10 := (hS_tI eh7 g4)
    refine g_getR (pc := 156) fl_X11_129 dX11_take_156 g8 ?_
    refine g_iload (pc := 159) 4 dX11_take_159 rfl ?_
    refine g_iload_n (pc := 161) 2 dX11_take_161 rfl rfl ?_
    obtain ⟨g9, hf⟩ := gs_some hf
    obtain ⟨b10, hf⟩ := gb_some hf
    obtain ⟨h11, eh11, hf⟩ := lt_some hf
    refine g_iast (pc := 162) g9 b10 dX11_take_162 eh11 ?_
    refine g_aload_n (pc := 163) 0 dX11_take_163 rfl rfl ?_
    have g12 : hS h11 a0 = 10 := (hS_tI eh11 g8)
    refine g_getR (pc := 164) fl_X11_132 dX11_take_164 g12 ?_
    refine g_iload (pc := 167) 4 dX11_take_167 rfl ?_
    refine g_iload_n (pc := 169) 1 dX11_take_169 rfl rfl ?_
    obtain ⟨g13, hf⟩ := gs_some hf
    obtain ⟨b14, hf⟩ := gb_some hf
    obtain ⟨h15, eh15, hf⟩ := lt_some hf
    refine g_iast (pc := 170) g13 b14 dX11_take_170 eh15 ?_
    refine g_aload_n (pc := 171) 0 dX11_take_171 rfl rfl ?_
    have g16 : hS h15 a0 = 10 := (hS_tI eh15 g12)
    refine g_getR (pc := 172) fl_X11_135 dX11_take_172 g16 ?_
    refine g_iload (pc := 175) 4 dX11_take_175 rfl ?_
    refine g_iconst (pc := 177) (v := (0 : Int32)) dX11_take_177 (by decide) ?_
    obtain ⟨g17, hf⟩ := gs_some hf
    obtain ⟨b18, hf⟩ := gb_some hf
    obtain ⟨h19, eh19, hf⟩ := lt_some hf
    refine g_iast (pc := 178) g17 b18 dX11_take_178 eh19 ?_
    refine g_iload_n (pc := 179) 1 dX11_take_179 rfl rfl ?_
    rcases it_some hf with ⟨c20, hf⟩ | ⟨c20, hf⟩
    · refine g_ifne_t (pc := 180) (tgt := 193) dX11_take_180 (by decide) c20 ?_
      refine g_iconst (pc := 193) (v := (0 : Int32)) dX11_take_193 (by decide) ?_
      obtain ⟨x21, ex21, hf⟩ := lt_some hf
      refine g_istore (pc := 194) (L' := [(6, .int x21), (0, rf X a0), (1, .int a1), (2, .int a2), (3, .int a3), (5, .int a5)]) dX11_take_194 (by decide) ex21 rfl ?_
      refine g_sub [1, 3, 4, 5, 0] rfl ?_
      exact ok_X11_take_L196 l X FU h19 a0 a2 a3 a5 x21 q hf
    · refine g_ifne_f (pc := 180) (tgt := 193) dX11_take_180 (by decide) (Decidable.of_not_not c20) ?_
      refine g_aload_n (pc := 183) 0 dX11_take_183 rfl rfl ?_
      refine g_iload (pc := 184) 4 dX11_take_184 rfl ?_
      refine g_iload_n (pc := 186) 2 dX11_take_186 rfl rfl ?_
      refine g_iload_n (pc := 187) 3 dX11_take_187 rfl rfl ?_
      have g22 : hS h19 a0 = 10 := (hS_tI eh19 g16)
      obtain ⟨q23, hcq23, hf⟩ := bd_some hf
      refine g_cVV (pc := 188) (k2 := k_X11_shares) (av := [.int a5, .int a2, .int a3]) (q := q23) rfl dX11_take_188 ck_X11_shares m_1947 m_1949 m_113 (ci := 9) rfl (by decide) g22 (by decide) (by decide) rfl (by simp [rf_cat, rq_cat, ca_i, ca_l, ca_r]) (ct_X11_shares l X hcq23) ?_
      refine g_iconst (pc := 191) (v := (1 : Int32)) dX11_take_191 (by decide) ?_
      obtain rfl := Option.some.inj hf
      exact g_zret (pc := 192) rfl rfl dX11_take_192
  · refine g_icne_f (pc := 129) (tgt := 134) dX11_take_129 (by decide) (Decidable.of_not_not c1) ?_
    refine g_iconst (pc := 132) (v := (0 : Int32)) dX11_take_132 (by decide) ?_
    obtain rfl := Option.some.inj hf
    exact g_zret (pc := 133) rfl rfl dX11_take_133
set_option maxRecDepth 100000 in
set_option maxHeartbeats 4000000 in
theorem ok_X11_take_L101 (l : Launch) (X : Cx) (h : AH) (a0 : Nat) (a2 : Int32) (a3 : Int32) (q : Int32 × AH) (hf : f_X11_take_L101 h a0 a2 a3 = some q) : Go l X k_X11_take 101 [(0, rf X a0), (2, .int a2), (3, .int a3)] [] h (rI q) := by
  unfold f_X11_take_L101 at hf
  refine g_aload_n (pc := 101) 0 dX11_take_101 rfl rfl ?_
  refine g_bipush (pc := 102) (v := (9 : Int32)) dX11_take_102 (by decide) ?_
  refine g_bipush (pc := 104) (v := (16 : Int32)) dX11_take_104 (by decide) ?_
  refine g_iload_n (pc := 106) 1 dX11_take_106 rfl rfl ?_
  refine g_iload_n (pc := 107) 2 dX11_take_107 rfl rfl ?_
  obtain ⟨g1, hf⟩ := gs_some hf
  obtain ⟨q2, hcq2, hf⟩ := bd_some hf
  refine g_cVV (pc := 108) (k2 := k_X11_send) (av := [.int (9 : Int32), .int (16 : Int32), .int a2, .int a3]) (q := q2) rfl dX11_take_108 ck_X11_send m_1839 m_1841 m_89 (ci := 9) rfl (by decide) g1 (by decide) (by decide) rfl (by simp [rf_cat, rq_cat, ca_i, ca_l, ca_r]) (ct_X11_send l X hcq2) ?_
  refine g_iconst (pc := 111) (v := (1 : Int32)) dX11_take_111 (by decide) ?_
  obtain rfl := Option.some.inj hf
  exact g_zret (pc := 112) rfl rfl dX11_take_112
set_option maxRecDepth 100000 in
set_option maxHeartbeats 4000000 in
theorem ok_X11_take_L51 (l : Launch) (X : Cx) : ∀ (n : Nat) (h : AH) (a0 : Nat) (a2 : Int32) (a3 : Int32) (a4 : Int32) (a5 : Int32) (a6 : Int32) (q : Int32 × AH), f_X11_take_L51 n h a0 a2 a3 a4 a5 a6 = some q → Go l X k_X11_take 51 [(0, rf X a0), (2, .int a2), (3, .int a3), (4, .int a4), (5, .int a5), (6, .int a6)] [] h (rI q) := by
  intro n
  induction n with
  | zero =>
    intro h a0 a2 a3 a4 a5 a6 q hf
    unfold f_X11_take_L51 at hf
    cases hf
  | succ n ih =>
    intro h a0 a2 a3 a4 a5 a6 q hf
    unfold f_X11_take_L51 at hf
    refine g_iload (pc := 51) 5 dX11_take_51 rfl ?_
    refine g_iconst (pc := 53) (v := (4 : Int32)) dX11_take_53 (by decide) ?_
    rcases it_some hf with ⟨c1, hf⟩ | ⟨c1, hf⟩
    · refine g_icge_t (pc := 54) (tgt := 85) dX11_take_54 (by decide) c1 ?_
      refine g_aload_n (pc := 85) 0 dX11_take_85 rfl rfl ?_
      obtain ⟨g2, hf⟩ := gs_some hf
      refine g_getR (pc := 86) fl_X11_120 dX11_take_86 g2 ?_
      refine g_iload (pc := 89) 4 dX11_take_89 rfl ?_
      refine g_iconst (pc := 91) (v := (1 : Int32)) dX11_take_91 (by decide) ?_
      obtain ⟨g3, hf⟩ := gs_some hf
      obtain ⟨b4, hf⟩ := gb_some hf
      obtain ⟨h5, eh5, hf⟩ := lt_some hf
      refine g_zast (pc := 92) g3 b4 dX11_take_92 eh5 ?_
      refine g_aload_n (pc := 93) 0 dX11_take_93 rfl rfl ?_
      have g6 : hS h5 a0 = 10 := (hS_tI eh5 g2)
      refine g_getR (pc := 94) fl_X11_123 dX11_take_94 g6 ?_
      refine g_iload (pc := 97) 4 dX11_take_97 rfl ?_
      refine g_iconst (pc := 99) (v := (-1 : Int32)) dX11_take_99 (by decide) ?_
      obtain ⟨g7, hf⟩ := gs_some hf
      obtain ⟨b8, hf⟩ := gb_some hf
      obtain ⟨h9, eh9, hf⟩ := lt_some hf
      refine g_iast (pc := 100) g7 b8 dX11_take_100 eh9 ?_
      refine g_sub [0, 1, 2] rfl ?_
      exact ok_X11_take_L101 l X h9 a0 a2 a3 q hf
    · refine g_icge_f (pc := 54) (tgt := 85) dX11_take_54 (by decide) c1 ?_
      refine g_aload_n (pc := 57) 0 dX11_take_57 rfl rfl ?_
      obtain ⟨g10, hf⟩ := gs_some hf
      refine g_getR (pc := 58) fl_X11_117 dX11_take_58 g10 ?_
      refine g_iconst (pc := 61) (v := (4 : Int32)) dX11_take_61 (by decide) ?_
      refine g_iload (pc := 62) 4 dX11_take_62 rfl ?_
      refine g_imul (pc := 64) dX11_take_64 ?_
      refine g_iload (pc := 65) 5 dX11_take_65 rfl ?_
      refine g_iadd (pc := 67) dX11_take_67 ?_
      refine g_aload_n (pc := 68) 0 dX11_take_68 rfl rfl ?_
      refine g_getR (pc := 69) fl_X11_141 dX11_take_69 g10 ?_
      refine g_iload (pc := 72) 3 dX11_take_72 rfl ?_
      refine g_iload (pc := 74) 5 dX11_take_74 rfl ?_
      refine g_iadd (pc := 76) dX11_take_76 ?_
      obtain ⟨g11, hf⟩ := gs_some hf
      obtain ⟨b12, hf⟩ := gb_some hf
      refine g_iald (pc := 77) g11 b12 dX11_take_77 ?_
      obtain ⟨g13, hf⟩ := gs_some hf
      obtain ⟨b14, hf⟩ := gb_some hf
      obtain ⟨h15, eh15, hf⟩ := lt_some hf
      refine g_iast (pc := 78) g13 b14 dX11_take_78 eh15 ?_
      obtain ⟨x16, ex16, hf⟩ := lt_some hf
      refine g_iinc (pc := 79) (y := x16) (L' := [(6, .int x16), (0, rf X a0), (2, .int a2), (3, .int a3), (4, .int a4), (5, .int a5)]) 5 dX11_take_79 rfl (by decide) (ex16.trans rfl) rfl ?_
      refine g_goto (pc := 82) (tgt := 51) dX11_take_82 (by decide) ?_
      refine g_sub [1, 2, 3, 4, 5, 0] rfl ?_
      exact ih h15 a0 a2 a3 a4 a5 x16 q hf
set_option maxRecDepth 100000 in
set_option maxHeartbeats 4000000 in
theorem ok_X11_take_L26 (l : Launch) (X : Cx) (h : AH) (a0 : Nat) (a1 : Int32) (a2 : Int32) (a3 : Int32) (a4 : Int32) (a5 : Int32) (q : Int32 × AH) (hf : f_X11_take_L26 h a0 a1 a2 a3 a4 a5 = some q) : Go l X k_X11_take 26 [(0, rf X a0), (1, .int a1), (2, .int a2), (3, .int a3), (4, .int a4), (5, .int a5)] [] h (rI q) := by
  unfold f_X11_take_L26 at hf
  refine g_iload_n (pc := 26) 1 dX11_take_26 rfl rfl ?_
  refine g_iconst (pc := 27) (v := (2 : Int32)) dX11_take_27 (by decide) ?_
  rcases it_some hf with ⟨c1, hf⟩ | ⟨c1, hf⟩
  · refine g_icne_t (pc := 28) (tgt := 113) dX11_take_28 (by decide) c1 ?_
    refine g_iload (pc := 113) 5 dX11_take_113 rfl ?_
    refine g_iconst (pc := 115) (v := (-1 : Int32)) dX11_take_115 (by decide) ?_
    rcases it_some hf with ⟨c2, hf⟩ | ⟨c2, hf⟩
    · refine g_icne_t (pc := 116) (tgt := 126) dX11_take_116 (by decide) c2 ?_
      refine g_sub [0, 1, 2, 3, 5] rfl ?_
      exact ok_X11_take_L126 l X h a0 a1 a2 a3 a5 q hf
    · refine g_icne_f (pc := 116) (tgt := 126) dX11_take_116 (by decide) (Decidable.of_not_not c2) ?_
      refine g_aload_n (pc := 119) 0 dX11_take_119 rfl rfl ?_
      refine g_iload_n (pc := 120) 3 dX11_take_120 rfl rfl ?_
      obtain ⟨g3, hf⟩ := gs_some hf
      obtain ⟨q4, hcq4, hf⟩ := bd_some hf
      refine g_cVI (pc := 121) (k2 := k_X11_findWay) (av := [.int a3]) (q := q4) rfl dX11_take_121 ck_X11_findWay m_1939 m_1941 m_111 (ci := 9) rfl (by decide) g3 (by decide) (by decide) rfl (by simp [rf_cat, rq_cat, ca_i, ca_l, ca_r]) (ct_X11_findWay l X hcq4) ?_
      obtain ⟨x5, ex5, hf⟩ := lt_some hf
      refine g_istore (pc := 124) (L' := [(5, .int x5), (0, rf X a0), (1, .int a1), (2, .int a2), (3, .int a3), (4, .int a4)]) dX11_take_124 (by decide) ex5 rfl ?_
      refine g_sub [1, 2, 3, 4, 0] rfl ?_
      exact ok_X11_take_L126 l X q4.2 a0 a1 a2 a3 x5 q hf
  · refine g_icne_f (pc := 28) (tgt := 113) dX11_take_28 (by decide) (Decidable.of_not_not c1) ?_
    refine g_iload (pc := 31) 5 dX11_take_31 rfl ?_
    refine g_iconst (pc := 33) (v := (-1 : Int32)) dX11_take_33 (by decide) ?_
    rcases it_some hf with ⟨c6, hf⟩ | ⟨c6, hf⟩
    · refine g_iceq_t (pc := 34) (tgt := 101) dX11_take_34 (by decide) c6 ?_
      refine g_sub [0, 2, 3] rfl ?_
      exact ok_X11_take_L101 l X h a0 a2 a3 q hf
    · refine g_iceq_f (pc := 34) (tgt := 101) dX11_take_34 (by decide) c6 ?_
      refine g_aload_n (pc := 37) 0 dX11_take_37 rfl rfl ?_
      obtain ⟨g7, hf⟩ := gs_some hf
      refine g_getR (pc := 38) fl_X11_123 dX11_take_38 g7 ?_
      refine g_iload (pc := 41) 5 dX11_take_41 rfl ?_
      obtain ⟨g8, hf⟩ := gs_some hf
      obtain ⟨b9, hf⟩ := gb_some hf
      refine g_iald (pc := 43) g8 b9 dX11_take_43 ?_
      refine g_iload_n (pc := 44) 2 dX11_take_44 rfl rfl ?_
      rcases it_some hf with ⟨c10, hf⟩ | ⟨c10, hf⟩
      · refine g_icne_t (pc := 45) (tgt := 101) dX11_take_45 (by decide) c10 ?_
        refine g_sub [0, 2, 3] rfl ?_
        exact ok_X11_take_L101 l X h a0 a2 a3 q hf
      · refine g_icne_f (pc := 45) (tgt := 101) dX11_take_45 (by decide) (Decidable.of_not_not c10) ?_
        refine g_iconst (pc := 48) (v := (0 : Int32)) dX11_take_48 (by decide) ?_
        obtain ⟨x11, ex11, hf⟩ := lt_some hf
        refine g_istore (pc := 49) (L' := [(6, .int x11), (0, rf X a0), (1, .int a1), (2, .int a2), (3, .int a3), (4, .int a4), (5, .int a5)]) dX11_take_49 (by decide) ex11 rfl ?_
        refine g_sub [1, 3, 4, 5, 6, 0] rfl ?_
        exact ok_X11_take_L51 l X FU h a0 a2 a3 a4 a5 x11 q hf
set_option maxRecDepth 100000 in
set_option maxHeartbeats 4000000 in
theorem ok_X11_take (l : Launch) (X : Cx) {h : AH} {a0 : Nat} {a1 : Int32} {a2 : Int32} {a3 : Int32} {a4 : Int32} {q : Int32 × AH} (hf : f_X11_take h a0 a1 a2 a3 a4 = some q) : Go l X k_X11_take 0 [(0, rf X a0), (1, .int a1), (2, .int a2), (3, .int a3), (4, .int a4)] [] h (rI q) := by
  unfold f_X11_take at hf
  refine g_aload_n (pc := 0) 0 dX11_take_0 rfl rfl ?_
  refine g_iload_n (pc := 1) 3 dX11_take_1 rfl rfl ?_
  obtain ⟨g1, hf⟩ := gs_some hf
  obtain ⟨v2, hcv2, hf⟩ := bd_some hf
  refine g_cVI (pc := 2) (k2 := k_X11_homeWay) (av := [.int a3]) (q := (v2, h)) rfl dX11_take_2 ck_X11_homeWay m_1919 m_1921 m_106 (ci := 9) rfl (by decide) g1 (by decide) (by decide) rfl (by simp [rf_cat, rq_cat, ca_i, ca_l, ca_r]) (ct_X11_homeWay l X hcv2) ?_
  refine g_istore (pc := 5) (L' := [(5, .int v2), (0, rf X a0), (1, .int a1), (2, .int a2), (3, .int a3), (4, .int a4)]) dX11_take_5 (by decide) rfl rfl ?_
  refine g_iload (pc := 7) 0 dX11_take_7 rfl ?_
  refine g_iconst (pc := 9) (v := (-1 : Int32)) dX11_take_9 (by decide) ?_
  rcases it_some hf with ⟨c3, hf⟩ | ⟨c3, hf⟩
  · refine g_iceq_t (pc := 10) (tgt := 26) dX11_take_10 (by decide) c3 ?_
    refine g_sub [1, 2, 3, 4, 5, 0] rfl ?_
    exact ok_X11_take_L26 l X h a0 a1 a2 a3 a4 v2 q hf
  · refine g_iceq_f (pc := 10) (tgt := 26) dX11_take_10 (by decide) c3 ?_
    refine g_aload_n (pc := 13) 1 dX11_take_13 rfl rfl ?_
    refine g_getR (pc := 14) fl_X11_129 dX11_take_14 g1 ?_
    refine g_iload (pc := 17) 0 dX11_take_17 rfl ?_
    obtain ⟨g4, hf⟩ := gs_some hf
    obtain ⟨b5, hf⟩ := gb_some hf
    refine g_iald (pc := 19) g4 b5 dX11_take_19 ?_
    refine g_iconst (pc := 20) (v := (-1 : Int32)) dX11_take_20 (by decide) ?_
    rcases it_some hf with ⟨c6, hf⟩ | ⟨c6, hf⟩
    · refine g_iceq_t (pc := 21) (tgt := 26) dX11_take_21 (by decide) c6 ?_
      refine g_sub [1, 2, 3, 4, 5, 0] rfl ?_
      exact ok_X11_take_L26 l X h a0 a1 a2 a3 a4 v2 q hf
    · refine g_iceq_f (pc := 21) (tgt := 26) dX11_take_21 (by decide) c6 ?_
      refine g_iconst (pc := 24) (v := (0 : Int32)) dX11_take_24 (by decide) ?_
      obtain rfl := Option.some.inj hf
      exact g_zret (pc := 25) rfl rfl dX11_take_25
theorem ct_X11_take (l : Launch) (X : Cx) {h : AH} {a0 : Nat} {a1 : Int32} {a2 : Int32} {a3 : Int32} {a4 : Int32} {q : Int32 × AH} (hf : f_X11_take h a0 a1 a2 a3 a4 = some q) : Ct l X k_X11_take [rf X a0, .int a1, .int a2, .int a3, .int a4] h (rI q) := ct_of ck_X11_take (by simp [lg_sl, rf_cat, rq_cat, ca_i, ca_l, ca_r]) (by simp [lv_args, rf_cat, rq_cat, ca_i, ca_l, ca_r]) (ok_X11_take l X hf)
set_option maxRecDepth 100000 in
set_option maxHeartbeats 4000000 in
theorem ok_X11_goOn_L123 (l : Launch) (X : Cx) (k2 : AH → Nat → Int32 → Int32 → Option (AH)) (hk2 : ∀ (h : AH) (a0 : Nat) (a1 : Int32) (a2 : Int32) (q : AH), k2 h a0 a1 a2 = some q → Go l X k_X11_goOn 2 [(0, rf X a0), (1, .int a1), (2, .int a2)] [] h (rV q)) : ∀ (n : Nat) (h : AH) (a0 : Nat) (a1 : Int32) (a2 : Int32) (a4 : Int32) (q : AH), f_X11_goOn_L123 k2 n h a0 a1 a2 a4 = some q → Go l X k_X11_goOn 123 [(0, rf X a0), (1, .int a1), (2, .int a2), (4, .int a4)] [] h (rV q) := by
  intro n
  induction n with
  | zero =>
    intro h a0 a1 a2 a4 q hf
    unfold f_X11_goOn_L123 at hf
    cases hf
  | succ n ih =>
    intro h a0 a1 a2 a4 q hf
    unfold f_X11_goOn_L123 at hf
    refine g_iload (pc := 123) 3 dX11_goOn_123 rfl ?_
    refine g_bipush (pc := 125) (v := (7 : Int32)) dX11_goOn_125 (by decide) ?_
    refine g_aload_n (pc := 127) 0 dX11_goOn_127 rfl rfl ?_
    obtain ⟨g1, hf⟩ := gs_some hf
    refine g_getI (pc := 128) fl_X11_313 dX11_goOn_128 g1 ?_
    refine g_imul (pc := 131) dX11_goOn_131 ?_
    rcases it_some hf with ⟨c2, hf⟩ | ⟨c2, hf⟩
    · refine g_icge_t (pc := 132) (tgt := 158) dX11_goOn_132 (by decide) c2 ?_
      refine g_goto (pc := 158) (tgt := 2) dX11_goOn_158 (by decide) ?_
      refine g_sub [0, 1, 2] rfl ?_
      exact hk2 h a0 a1 a2 q hf
    · refine g_icge_f (pc := 132) (tgt := 158) dX11_goOn_132 (by decide) c2 ?_
      refine g_aload_n (pc := 135) 0 dX11_goOn_135 rfl rfl ?_
      refine g_getR (pc := 136) fl_X11_141 dX11_goOn_136 g1 ?_
      refine g_iload (pc := 139) 3 dX11_goOn_139 rfl ?_
      refine g_aload_n (pc := 141) 0 dX11_goOn_141 rfl rfl ?_
      refine g_getR (pc := 142) fl_X11_141 dX11_goOn_142 g1 ?_
      refine g_iload (pc := 145) 3 dX11_goOn_145 rfl ?_
      refine g_bipush (pc := 147) (v := (7 : Int32)) dX11_goOn_147 (by decide) ?_
      refine g_iadd (pc := 149) dX11_goOn_149 ?_
      obtain ⟨g3, hf⟩ := gs_some hf
      obtain ⟨b4, hf⟩ := gb_some hf
      refine g_iald (pc := 150) g3 b4 dX11_goOn_150 ?_
      obtain ⟨b5, hf⟩ := gb_some hf
      obtain ⟨h6, eh6, hf⟩ := lt_some hf
      refine g_iast (pc := 151) g3 b5 dX11_goOn_151 eh6 ?_
      obtain ⟨x7, ex7, hf⟩ := lt_some hf
      refine g_iinc (pc := 152) (y := x7) (L' := [(4, .int x7), (0, rf X a0), (1, .int a1), (2, .int a2)]) 3 dX11_goOn_152 rfl (by decide) (ex7.trans rfl) rfl ?_
      refine g_goto (pc := 155) (tgt := 123) dX11_goOn_155 (by decide) ?_
      refine g_sub [1, 2, 3, 0] rfl ?_
      exact ih h6 a0 a1 a2 x7 q hf
set_option maxRecDepth 100000 in
set_option maxHeartbeats 4000000 in
theorem ok_X11_goOn_L99 (l : Launch) (X : Cx) (k2 : AH → Nat → Int32 → Int32 → Option (AH)) (hk2 : ∀ (h : AH) (a0 : Nat) (a1 : Int32) (a2 : Int32) (q : AH), k2 h a0 a1 a2 = some q → Go l X k_X11_goOn 2 [(0, rf X a0), (1, .int a1), (2, .int a2)] [] h (rV q)) (h : AH) (a0 : Nat) (a1 : Int32) (a3 : Int32) (s0 : Int32) (q : AH) (hf : f_X11_goOn_L99 k2 h a0 a1 a3 s0 = some q) : Go l X k_X11_goOn 99 [(0, rf X a0), (1, .int a1), (3, .int a3)] [.int s0] h (rV q) := by
  unfold f_X11_goOn_L99 at hf
  refine g_istore_n (pc := 99) (L' := [(2, .int s0), (0, rf X a0), (1, .int a1), (3, .int a3)]) dX11_goOn_99 rfl (by decide) rfl rfl ?_
  refine g_iload_n (pc := 100) 0 dX11_goOn_100 rfl rfl ?_
  rcases it_some hf with ⟨c1, hf⟩ | ⟨c1, hf⟩
  · refine g_ifne_t (pc := 101) (tgt := 107) dX11_goOn_101 (by decide) c1 ?_
    refine g_aload_n (pc := 107) 1 dX11_goOn_107 rfl rfl ?_
    refine g_dup (pc := 108) dX11_goOn_108 (rf_cat X _) ?_
    obtain ⟨g2, hf⟩ := gs_some hf
    refine g_getI (pc := 109) fl_X11_313 dX11_goOn_109 g2 ?_
    refine g_iconst (pc := 112) (v := (1 : Int32)) dX11_goOn_112 (by decide) ?_
    refine g_isub (pc := 113) dX11_goOn_113 ?_
    obtain ⟨h3, eh3, hf⟩ := lt_some hf
    refine g_putI (pc := 114) fl_X11_313 dX11_goOn_114 g2 eh3 ?_
    refine g_bipush (pc := 117) (v := (7 : Int32)) dX11_goOn_117 (by decide) ?_
    refine g_iload_n (pc := 119) 3 dX11_goOn_119 rfl rfl ?_
    refine g_imul (pc := 120) dX11_goOn_120 ?_
    obtain ⟨x4, ex4, hf⟩ := lt_some hf
    refine g_istore (pc := 121) (L' := [(4, .int x4), (2, .int s0), (0, rf X a0), (1, .int a1), (3, .int a3)]) dX11_goOn_121 (by decide) ex4 rfl ?_
    refine g_sub [2, 3, 1, 0] rfl ?_
    exact ok_X11_goOn_L123 l X k2 hk2 FU h3 a0 a1 s0 x4 q hf
  · refine g_ifne_f (pc := 101) (tgt := 107) dX11_goOn_101 (by decide) (Decidable.of_not_not c1) ?_
    refine g_goto (pc := 104) (tgt := 2) dX11_goOn_104 (by decide) ?_
    refine g_sub [1, 2, 0] rfl ?_
    exact hk2 h a0 a1 s0 q hf
set_option maxRecDepth 100000 in
set_option maxHeartbeats 4000000 in
theorem ok_X11_goOn_L98 (l : Launch) (X : Cx) (k2 : AH → Nat → Int32 → Int32 → Option (AH)) (hk2 : ∀ (h : AH) (a0 : Nat) (a1 : Int32) (a2 : Int32) (q : AH), k2 h a0 a1 a2 = some q → Go l X k_X11_goOn 2 [(0, rf X a0), (1, .int a1), (2, .int a2)] [] h (rV q)) (h : AH) (a0 : Nat) (a1 : Int32) (a3 : Int32) (q : AH) (hf : f_X11_goOn_L98 k2 h a0 a1 a3 = some q) : Go l X k_X11_goOn 98 [(0, rf X a0), (1, .int a1), (3, .int a3)] [] h (rV q) := by
  unfold f_X11_goOn_L98 at hf
  refine g_iconst (pc := 98) (v := (0 : Int32)) dX11_goOn_98 (by decide) ?_
  exact ok_X11_goOn_L99 l X k2 hk2 h a0 a1 a3 (0 : Int32) q hf
set_option maxRecDepth 100000 in
set_option maxHeartbeats 4000000 in
theorem ok_X11_goOn_L42 (l : Launch) (X : Cx) (k2 : AH → Nat → Int32 → Int32 → Option (AH)) (hk2 : ∀ (h : AH) (a0 : Nat) (a1 : Int32) (a2 : Int32) (q : AH), k2 h a0 a1 a2 = some q → Go l X k_X11_goOn 2 [(0, rf X a0), (1, .int a1), (2, .int a2)] [] h (rV q)) (h : AH) (a0 : Nat) (a1 : Int32) (a3 : Int32) (q : AH) (hf : f_X11_goOn_L42 k2 h a0 a1 a3 = some q) : Go l X k_X11_goOn 42 [(0, rf X a0), (1, .int a1), (3, .int a3)] [] h (rV q) := by
  unfold f_X11_goOn_L42 at hf
  refine g_iload_n (pc := 42) 2 dX11_goOn_42 rfl rfl ?_
  refine g_aload_n (pc := 43) 0 dX11_goOn_43 rfl rfl ?_
  obtain ⟨g1, hf⟩ := gs_some hf
  refine g_getI (pc := 44) fl_X11_313 dX11_goOn_44 g1 ?_
  rcases it_some hf with ⟨c2, hf⟩ | ⟨c2, hf⟩
  · refine g_icge_t (pc := 47) (tgt := 98) dX11_goOn_47 (by decide) c2 ?_
    exact ok_X11_goOn_L98 l X k2 hk2 h a0 a1 a3 q hf
  · refine g_icge_f (pc := 47) (tgt := 98) dX11_goOn_47 (by decide) c2 ?_
    refine g_aload_n (pc := 50) 0 dX11_goOn_50 rfl rfl ?_
    refine g_aload_n (pc := 51) 0 dX11_goOn_51 rfl rfl ?_
    refine g_getR (pc := 52) fl_X11_141 dX11_goOn_52 g1 ?_
    refine g_bipush (pc := 55) (v := (7 : Int32)) dX11_goOn_55 (by decide) ?_
    refine g_iload_n (pc := 57) 2 dX11_goOn_57 rfl rfl ?_
    refine g_imul (pc := 58) dX11_goOn_58 ?_
    refine g_iconst (pc := 59) (v := (1 : Int32)) dX11_goOn_59 (by decide) ?_
    refine g_iadd (pc := 60) dX11_goOn_60 ?_
    obtain ⟨g3, hf⟩ := gs_some hf
    obtain ⟨b4, hf⟩ := gb_some hf
    refine g_iald (pc := 61) g3 b4 dX11_goOn_61 ?_
    refine g_aload_n (pc := 62) 0 dX11_goOn_62 rfl rfl ?_
    refine g_getR (pc := 63) fl_X11_141 dX11_goOn_63 g1 ?_
    refine g_bipush (pc := 66) (v := (7 : Int32)) dX11_goOn_66 (by decide) ?_
    refine g_iload_n (pc := 68) 2 dX11_goOn_68 rfl rfl ?_
    refine g_imul (pc := 69) dX11_goOn_69 ?_
    refine g_iconst (pc := 70) (v := (2 : Int32)) dX11_goOn_70 (by decide) ?_
    refine g_iadd (pc := 71) dX11_goOn_71 ?_
    obtain ⟨b5, hf⟩ := gb_some hf
    refine g_iald (pc := 72) g3 b5 dX11_goOn_72 ?_
    refine g_aload_n (pc := 73) 0 dX11_goOn_73 rfl rfl ?_
    refine g_getR (pc := 74) fl_X11_141 dX11_goOn_74 g1 ?_
    refine g_bipush (pc := 77) (v := (7 : Int32)) dX11_goOn_77 (by decide) ?_
    refine g_iload_n (pc := 79) 2 dX11_goOn_79 rfl rfl ?_
    refine g_imul (pc := 80) dX11_goOn_80 ?_
    obtain ⟨b6, hf⟩ := gb_some hf
    refine g_iald (pc := 81) g3 b6 dX11_goOn_81 ?_
    refine g_bipush (pc := 82) (v := (7 : Int32)) dX11_goOn_82 (by decide) ?_
    refine g_iload_n (pc := 84) 2 dX11_goOn_84 rfl rfl ?_
    refine g_imul (pc := 85) dX11_goOn_85 ?_
    refine g_iconst (pc := 86) (v := (3 : Int32)) dX11_goOn_86 (by decide) ?_
    refine g_iadd (pc := 87) dX11_goOn_87 ?_
    obtain ⟨q7, hcq7, hf⟩ := bd_some hf
    refine g_cVI (pc := 88) (k2 := k_X11_take) (av := [.int (hI h (hR h a0 58) (((7 : Int32) * a3) + (1 : Int32)).toNatClampNeg), .int (hI h (hR h a0 58) (((7 : Int32) * a3) + (2 : Int32)).toNatClampNeg), .int (hI h (hR h a0 58) ((7 : Int32) * a3).toNatClampNeg), .int (((7 : Int32) * a3) + (3 : Int32))]) (q := q7) rfl dX11_goOn_88 ck_X11_take m_1935 m_1937 m_110 (ci := 9) rfl (by decide) g1 (by decide) (by decide) rfl (by simp [rf_cat, rq_cat, ca_i, ca_l, ca_r]) (ct_X11_take l X hcq7) ?_
    rcases it_some hf with ⟨c8, hf⟩ | ⟨c8, hf⟩
    · refine g_ifeq_t (pc := 91) (tgt := 98) dX11_goOn_91 (by decide) c8 ?_
      exact ok_X11_goOn_L98 l X k2 hk2 q7.2 a0 a1 a3 q hf
    · refine g_ifeq_f (pc := 91) (tgt := 98) dX11_goOn_91 (by decide) c8 ?_
      refine g_iconst (pc := 94) (v := (1 : Int32)) dX11_goOn_94 (by decide) ?_
      refine g_goto (pc := 95) (tgt := 99) dX11_goOn_95 (by decide) ?_
      exact ok_X11_goOn_L99 l X k2 hk2 q7.2 a0 a1 a3 (1 : Int32) q hf
set_option maxRecDepth 100000 in
set_option maxHeartbeats 4000000 in
theorem ok_X11_goOn_L8 (l : Launch) (X : Cx) (k2 : AH → Nat → Int32 → Int32 → Option (AH)) (hk2 : ∀ (h : AH) (a0 : Nat) (a1 : Int32) (a2 : Int32) (q : AH), k2 h a0 a1 a2 = some q → Go l X k_X11_goOn 2 [(0, rf X a0), (1, .int a1), (2, .int a2)] [] h (rV q)) : ∀ (n : Nat) (h : AH) (a0 : Nat) (a1 : Int32) (a3 : Int32) (q : AH), f_X11_goOn_L8 k2 n h a0 a1 a3 = some q → Go l X k_X11_goOn 8 [(0, rf X a0), (1, .int a1), (3, .int a3)] [] h (rV q) := by
  intro n
  induction n with
  | zero =>
    intro h a0 a1 a3 q hf
    unfold f_X11_goOn_L8 at hf
    cases hf
  | succ n ih =>
    intro h a0 a1 a3 q hf
    unfold f_X11_goOn_L8 at hf
    refine g_iload_n (pc := 8) 2 dX11_goOn_8 rfl rfl ?_
    refine g_aload_n (pc := 9) 0 dX11_goOn_9 rfl rfl ?_
    obtain ⟨g1, hf⟩ := gs_some hf
    refine g_getI (pc := 10) fl_X11_313 dX11_goOn_10 g1 ?_
    rcases it_some hf with ⟨c2, hf⟩ | ⟨c2, hf⟩
    · refine g_icge_t (pc := 13) (tgt := 42) dX11_goOn_13 (by decide) c2 ?_
      exact ok_X11_goOn_L42 l X k2 hk2 h a0 a1 a3 q hf
    · refine g_icge_f (pc := 13) (tgt := 42) dX11_goOn_13 (by decide) c2 ?_
      refine g_aload_n (pc := 16) 0 dX11_goOn_16 rfl rfl ?_
      refine g_getR (pc := 17) fl_X11_141 dX11_goOn_17 g1 ?_
      refine g_bipush (pc := 20) (v := (7 : Int32)) dX11_goOn_20 (by decide) ?_
      refine g_iload_n (pc := 22) 2 dX11_goOn_22 rfl rfl ?_
      refine g_imul (pc := 23) dX11_goOn_23 ?_
      obtain ⟨g3, hf⟩ := gs_some hf
      obtain ⟨b4, hf⟩ := gb_some hf
      refine g_iald (pc := 24) g3 b4 dX11_goOn_24 ?_
      refine g_aload_n (pc := 25) 0 dX11_goOn_25 rfl rfl ?_
      refine g_getR (pc := 26) fl_X11_47 dX11_goOn_26 g1 ?_
      refine g_iconst (pc := 29) (v := (4 : Int32)) dX11_goOn_29 (by decide) ?_
      obtain ⟨g5, hf⟩ := gs_some hf
      obtain ⟨b6, hf⟩ := gb_some hf
      refine g_iald (pc := 30) g5 b6 dX11_goOn_30 ?_
      obtain ⟨b7, hf⟩ := gb_some hf
      refine g_irem (pc := 31) (of_decide_eq_true b7) dX11_goOn_31 ?_
      refine g_iload_n (pc := 32) 1 dX11_goOn_32 rfl rfl ?_
      rcases it_some hf with ⟨c8, hf⟩ | ⟨c8, hf⟩
      · refine g_iceq_t (pc := 33) (tgt := 42) dX11_goOn_33 (by decide) c8 ?_
        exact ok_X11_goOn_L42 l X k2 hk2 h a0 a1 a3 q hf
      · refine g_iceq_f (pc := 33) (tgt := 42) dX11_goOn_33 (by decide) c8 ?_
        obtain ⟨x9, ex9, hf⟩ := lt_some hf
        refine g_iinc (pc := 36) (y := x9) (L' := [(3, .int x9), (0, rf X a0), (1, .int a1)]) 2 dX11_goOn_36 rfl (by decide) (ex9.trans rfl) rfl ?_
        refine g_goto (pc := 39) (tgt := 8) dX11_goOn_39 (by decide) ?_
        refine g_sub [1, 2, 0] rfl ?_
        exact ih h a0 a1 x9 q hf
set_option maxRecDepth 100000 in
set_option maxHeartbeats 4000000 in
theorem ok_X11_goOn_L2 (l : Launch) (X : Cx) : ∀ (n : Nat) (h : AH) (a0 : Nat) (a1 : Int32) (a2 : Int32) (q : AH), f_X11_goOn_L2 n h a0 a1 a2 = some q → Go l X k_X11_goOn 2 [(0, rf X a0), (1, .int a1), (2, .int a2)] [] h (rV q) := by
  intro n
  induction n with
  | zero =>
    intro h a0 a1 a2 q hf
    unfold f_X11_goOn_L2 at hf
    cases hf
  | succ n ih =>
    intro h a0 a1 a2 q hf
    unfold f_X11_goOn_L2 at hf
    refine g_iload_n (pc := 2) 2 dX11_goOn_2 rfl rfl ?_
    rcases it_some hf with ⟨c1, hf⟩ | ⟨c1, hf⟩
    · refine g_ifeq_t (pc := 3) (tgt := 161) dX11_goOn_3 (by decide) c1 ?_
      obtain rfl := Option.some.inj hf
      exact g_vret (pc := 161) rfl dX11_goOn_161
    · refine g_ifeq_f (pc := 3) (tgt := 161) dX11_goOn_3 (by decide) c1 ?_
      refine g_iconst (pc := 6) (v := (0 : Int32)) dX11_goOn_6 (by decide) ?_
      obtain ⟨x2, ex2, hf⟩ := lt_some hf
      refine g_istore_n (pc := 7) (L' := [(3, .int x2), (0, rf X a0), (1, .int a1), (2, .int a2)]) dX11_goOn_7 rfl (by decide) ex2 rfl ?_
      refine g_sub [1, 2, 0] rfl ?_
      exact ok_X11_goOn_L8 l X (f_X11_goOn_L2 n) ih FU h a0 a1 x2 q hf
set_option maxRecDepth 100000 in
set_option maxHeartbeats 4000000 in
theorem ok_X11_goOn (l : Launch) (X : Cx) {h : AH} {a0 : Nat} {a1 : Int32} {q : AH} (hf : f_X11_goOn h a0 a1 = some q) : Go l X k_X11_goOn 0 [(0, rf X a0), (1, .int a1)] [] h (rV q) := by
  unfold f_X11_goOn at hf
  refine g_iconst (pc := 0) (v := (1 : Int32)) dX11_goOn_0 (by decide) ?_
  obtain ⟨x1, ex1, hf⟩ := lt_some hf
  refine g_istore_n (pc := 1) (L' := [(2, .int x1), (0, rf X a0), (1, .int a1)]) dX11_goOn_1 rfl (by decide) ex1 rfl ?_
  refine g_sub [1, 2, 0] rfl ?_
  exact ok_X11_goOn_L2 l X FU h a0 a1 x1 q hf
theorem ct_X11_goOn (l : Launch) (X : Cx) {h : AH} {a0 : Nat} {a1 : Int32} {q : AH} (hf : f_X11_goOn h a0 a1 = some q) : Ct l X k_X11_goOn [rf X a0, .int a1] h (rV q) := ct_of ck_X11_goOn (by simp [lg_sl, rf_cat, rq_cat, ca_i, ca_l, ca_r]) (by simp [lv_args, rf_cat, rq_cat, ca_i, ca_l, ca_r]) (ok_X11_goOn l X hf)
set_option maxRecDepth 100000 in
set_option maxHeartbeats 4000000 in
theorem ok_X11_ack_L148 (l : Launch) (X : Cx) (h : AH) (q : AH) (hf : f_X11_ack_L148 h = some q) : Go l X k_X11_ack 148 [] [] h (rV q) := by
  unfold f_X11_ack_L148 at hf
  refine g_goto (pc := 148) (tgt := 194) dX11_ack_148 (by decide) ?_
  obtain rfl := Option.some.inj hf
  exact g_vret (pc := 194) rfl dX11_ack_194
set_option maxRecDepth 100000 in
set_option maxHeartbeats 4000000 in
theorem ok_X11_ack_L54 (l : Launch) (X : Cx) (h : AH) (a0 : Nat) (a1 : Int32) (a2 : Int32) (q : AH) (hf : f_X11_ack_L54 h a0 a1 a2 = some q) : Go l X k_X11_ack 54 [(0, rf X a0), (1, .int a1), (2, .int a2)] [] h (rV q) := by
  unfold f_X11_ack_L54 at hf
  refine g_aload_n (pc := 54) 0 dX11_ack_54 rfl rfl ?_
  obtain ⟨g1, hf⟩ := gs_some hf
  refine g_getR (pc := 55) fl_X11_135 dX11_ack_55 g1 ?_
  refine g_iload_n (pc := 58) 2 dX11_ack_58 rfl rfl ?_
  refine g_dup2 (pc := 59) dX11_ack_59 rfl (rf_cat X _) ?_
  obtain ⟨g2, hf⟩ := gs_some hf
  obtain ⟨b3, hf⟩ := gb_some hf
  refine g_iald (pc := 60) g2 b3 dX11_ack_60 ?_
  refine g_iconst (pc := 61) (v := (1 : Int32)) dX11_ack_61 (by decide) ?_
  refine g_isub (pc := 62) dX11_ack_62 ?_
  obtain ⟨b4, hf⟩ := gb_some hf
  obtain ⟨h5, eh5, hf⟩ := lt_some hf
  refine g_iast (pc := 63) g2 b4 dX11_ack_63 eh5 ?_
  refine g_aload_n (pc := 64) 0 dX11_ack_64 rfl rfl ?_
  have g6 : hS h5 a0 = 10 := (hS_tI eh5 g1)
  refine g_getR (pc := 65) fl_X11_135 dX11_ack_65 g6 ?_
  refine g_iload_n (pc := 68) 2 dX11_ack_68 rfl rfl ?_
  obtain ⟨g7, hf⟩ := gs_some hf
  obtain ⟨b8, hf⟩ := gb_some hf
  refine g_iald (pc := 69) g7 b8 dX11_ack_69 ?_
  rcases it_some hf with ⟨c9, hf⟩ | ⟨c9, hf⟩
  · refine g_ifle_t (pc := 70) (tgt := 74) dX11_ack_70 (by decide) c9 ?_
    refine g_aload_n (pc := 74) 0 dX11_ack_74 rfl rfl ?_
    refine g_getR (pc := 75) fl_X11_129 dX11_ack_75 g6 ?_
    refine g_iload_n (pc := 78) 2 dX11_ack_78 rfl rfl ?_
    obtain ⟨g10, hf⟩ := gs_some hf
    obtain ⟨b11, hf⟩ := gb_some hf
    refine g_iald (pc := 79) g10 b11 dX11_ack_79 ?_
    refine g_bipush (pc := 80) (v := (16 : Int32)) dX11_ack_80 (by decide) ?_
    rcases it_some hf with ⟨c12, hf⟩ | ⟨c12, hf⟩
    · refine g_icne_t (pc := 82) (tgt := 133) dX11_ack_82 (by decide) c12 ?_
      refine g_aload_n (pc := 133) 0 dX11_ack_133 rfl rfl ?_
      refine g_getR (pc := 134) fl_X11_132 dX11_ack_134 g6 ?_
      refine g_iload_n (pc := 137) 2 dX11_ack_137 rfl rfl ?_
      obtain ⟨g13, hf⟩ := gs_some hf
      obtain ⟨b14, hf⟩ := gb_some hf
      refine g_iald (pc := 138) g13 b14 dX11_ack_138 ?_
      refine g_iconst (pc := 139) (v := (1 : Int32)) dX11_ack_139 (by decide) ?_
      rcases it_some hf with ⟨c15, hf⟩ | ⟨c15, hf⟩
      · refine g_icne_t (pc := 140) (tgt := 151) dX11_ack_140 (by decide) c15 ?_
        refine g_aload_n (pc := 151) 0 dX11_ack_151 rfl rfl ?_
        refine g_getR (pc := 152) fl_X11_126 dX11_ack_152 g6 ?_
        refine g_iload_n (pc := 155) 2 dX11_ack_155 rfl rfl ?_
        refine g_iconst (pc := 156) (v := (1 : Int32)) dX11_ack_156 (by decide) ?_
        refine g_aload_n (pc := 157) 0 dX11_ack_157 rfl rfl ?_
        refine g_getR (pc := 158) fl_X11_123 dX11_ack_158 g6 ?_
        refine g_iload_n (pc := 161) 2 dX11_ack_161 rfl rfl ?_
        obtain ⟨g16, hf⟩ := gs_some hf
        obtain ⟨b17, hf⟩ := gb_some hf
        refine g_iald (pc := 162) g16 b17 dX11_ack_162 ?_
        refine g_ishl (pc := 163) dX11_ack_163 ?_
        refine g_iconst (pc := 164) (v := (1 : Int32)) dX11_ack_164 (by decide) ?_
        refine g_aload_n (pc := 165) 0 dX11_ack_165 rfl rfl ?_
        refine g_getR (pc := 166) fl_X11_129 dX11_ack_166 g6 ?_
        refine g_iload_n (pc := 169) 2 dX11_ack_169 rfl rfl ?_
        obtain ⟨b18, hf⟩ := gb_some hf
        refine g_iald (pc := 170) g10 b18 dX11_ack_170 ?_
        refine g_ishl (pc := 171) dX11_ack_171 ?_
        refine g_ior (pc := 172) dX11_ack_172 ?_
        obtain ⟨g19, hf⟩ := gs_some hf
        obtain ⟨b20, hf⟩ := gb_some hf
        obtain ⟨h21, eh21, hf⟩ := lt_some hf
        refine g_iast (pc := 173) g19 b20 dX11_ack_173 eh21 ?_
        refine g_aload_n (pc := 174) 0 dX11_ack_174 rfl rfl ?_
        have g22 : hS h21 a0 = 10 := (hS_tI eh21 g6)
        refine g_getR (pc := 175) fl_X11_123 dX11_ack_175 g22 ?_
        refine g_iload_n (pc := 178) 2 dX11_ack_178 rfl rfl ?_
        refine g_iconst (pc := 179) (v := (-1 : Int32)) dX11_ack_179 (by decide) ?_
        obtain ⟨g23, hf⟩ := gs_some hf
        obtain ⟨b24, hf⟩ := gb_some hf
        obtain ⟨h25, eh25, hf⟩ := lt_some hf
        refine g_iast (pc := 180) g23 b24 dX11_ack_180 eh25 ?_
        refine g_aload_n (pc := 181) 0 dX11_ack_181 rfl rfl ?_
        refine g_bipush (pc := 182) (v := (6 : Int32)) dX11_ack_182 (by decide) ?_
        refine g_aload_n (pc := 184) 0 dX11_ack_184 rfl rfl ?_
        have g26 : hS h25 a0 = 10 := (hS_tI eh25 g22)
        refine g_getR (pc := 185) fl_X11_129 dX11_ack_185 g26 ?_
        refine g_iload_n (pc := 188) 2 dX11_ack_188 rfl rfl ?_
        obtain ⟨g27, hf⟩ := gs_some hf
        obtain ⟨b28, hf⟩ := gb_some hf
        refine g_iald (pc := 189) g27 b28 dX11_ack_189 ?_
        refine g_iload_n (pc := 190) 1 dX11_ack_190 rfl rfl ?_
        obtain ⟨q29, hcq29, hf⟩ := bd_some hf
        refine g_cVV (pc := 191) (k2 := k_X11_give) (av := [.int (6 : Int32), .int (hI h25 (hR h25 a0 53) a2.toNatClampNeg), .int a1]) (q := q29) rfl dX11_ack_191 ck_X11_give m_1951 m_1953 m_114 (ci := 9) rfl (by decide) g26 (by decide) (by decide) rfl (by simp [rf_cat, rq_cat, ca_i, ca_l, ca_r]) (ct_X11_give l X hcq29) ?_
        obtain rfl := Option.some.inj hf
        exact g_vret (pc := 194) rfl dX11_ack_194
      · refine g_icne_f (pc := 140) (tgt := 151) dX11_ack_140 (by decide) (Decidable.of_not_not c15) ?_
        refine g_aload_n (pc := 143) 0 dX11_ack_143 rfl rfl ?_
        refine g_iload_n (pc := 144) 2 dX11_ack_144 rfl rfl ?_
        obtain ⟨q30, hcq30, hf⟩ := bd_some hf
        refine g_cVV (pc := 145) (k2 := k_X11_lend) (av := [.int a2]) (q := q30) rfl dX11_ack_145 ck_X11_lend m_1955 m_1957 m_115 (ci := 9) rfl (by decide) g6 (by decide) (by decide) rfl (by simp [rf_cat, rq_cat, ca_i, ca_l, ca_r]) (ct_X11_lend l X hcq30) ?_
        refine g_sub [] rfl ?_
        exact ok_X11_ack_L148 l X q30 q hf
    · refine g_icne_f (pc := 82) (tgt := 133) dX11_ack_82 (by decide) (Decidable.of_not_not c12) ?_
      refine g_aload_n (pc := 85) 0 dX11_ack_85 rfl rfl ?_
      refine g_iload_n (pc := 86) 2 dX11_ack_86 rfl rfl ?_
      obtain ⟨q31, hcq31, hf⟩ := bd_some hf
      refine g_cVV (pc := 87) (k2 := k_X11_writeBack) (av := [.int a2]) (q := q31) rfl dX11_ack_87 ck_X11_writeBack m_1927 m_1929 m_108 (ci := 9) rfl (by decide) g6 (by decide) (by decide) rfl (by simp [rf_cat, rq_cat, ca_i, ca_l, ca_r]) (ct_X11_writeBack l X hcq31) ?_
      refine g_aload_n (pc := 90) 0 dX11_ack_90 rfl rfl ?_
      obtain ⟨g32, hf⟩ := gs_some hf
      refine g_getR (pc := 91) fl_X11_114 dX11_ack_91 g32 ?_
      refine g_iload_n (pc := 94) 2 dX11_ack_94 rfl rfl ?_
      refine g_iconst (pc := 95) (v := (-1 : Int32)) dX11_ack_95 (by decide) ?_
      obtain ⟨g33, hf⟩ := gs_some hf
      obtain ⟨b34, hf⟩ := gb_some hf
      obtain ⟨h35, eh35, hf⟩ := lt_some hf
      refine g_iast (pc := 96) g33 b34 dX11_ack_96 eh35 ?_
      refine g_aload_n (pc := 97) 0 dX11_ack_97 rfl rfl ?_
      have g36 : hS h35 a0 = 10 := (hS_tI eh35 g32)
      refine g_getR (pc := 98) fl_X11_129 dX11_ack_98 g36 ?_
      refine g_iload_n (pc := 101) 2 dX11_ack_101 rfl rfl ?_
      refine g_iconst (pc := 102) (v := (-1 : Int32)) dX11_ack_102 (by decide) ?_
      obtain ⟨g37, hf⟩ := gs_some hf
      obtain ⟨b38, hf⟩ := gb_some hf
      obtain ⟨h39, eh39, hf⟩ := lt_some hf
      refine g_iast (pc := 103) g37 b38 dX11_ack_103 eh39 ?_
      refine g_aload_n (pc := 104) 0 dX11_ack_104 rfl rfl ?_
      have g40 : hS h39 a0 = 10 := (hS_tI eh39 g36)
      refine g_getR (pc := 105) fl_X11_123 dX11_ack_105 g40 ?_
      refine g_iload_n (pc := 108) 2 dX11_ack_108 rfl rfl ?_
      refine g_iconst (pc := 109) (v := (-1 : Int32)) dX11_ack_109 (by decide) ?_
      obtain ⟨g41, hf⟩ := gs_some hf
      obtain ⟨b42, hf⟩ := gb_some hf
      obtain ⟨h43, eh43, hf⟩ := lt_some hf
      refine g_iast (pc := 110) g41 b42 dX11_ack_110 eh43 ?_
      refine g_aload_n (pc := 111) 0 dX11_ack_111 rfl rfl ?_
      have g44 : hS h43 a0 = 10 := (hS_tI eh43 g40)
      refine g_getR (pc := 112) fl_X11_126 dX11_ack_112 g44 ?_
      refine g_iload_n (pc := 115) 2 dX11_ack_115 rfl rfl ?_
      refine g_iconst (pc := 116) (v := (0 : Int32)) dX11_ack_116 (by decide) ?_
      obtain ⟨g45, hf⟩ := gs_some hf
      obtain ⟨b46, hf⟩ := gb_some hf
      obtain ⟨h47, eh47, hf⟩ := lt_some hf
      refine g_iast (pc := 117) g45 b46 dX11_ack_117 eh47 ?_
      refine g_aload_n (pc := 118) 0 dX11_ack_118 rfl rfl ?_
      refine g_iload_n (pc := 119) 1 dX11_ack_119 rfl rfl ?_
      refine g_aload_n (pc := 120) 0 dX11_ack_120 rfl rfl ?_
      have g48 : hS h47 a0 = 10 := (hS_tI eh47 g44)
      refine g_getR (pc := 121) fl_X11_47 dX11_ack_121 g48 ?_
      refine g_iconst (pc := 124) (v := (4 : Int32)) dX11_ack_124 (by decide) ?_
      obtain ⟨g49, hf⟩ := gs_some hf
      obtain ⟨b50, hf⟩ := gb_some hf
      refine g_iald (pc := 125) g49 b50 dX11_ack_125 ?_
      obtain ⟨b51, hf⟩ := gb_some hf
      refine g_irem (pc := 126) (of_decide_eq_true b51) dX11_ack_126 ?_
      obtain ⟨q52, hcq52, hf⟩ := bd_some hf
      refine g_cVV (pc := 127) (k2 := k_X11_goOn) (av := [.int (a1 - a1 / (hI h47 (hR h47 a0 21) (4 : Int32).toNatClampNeg) * (hI h47 (hR h47 a0 21) (4 : Int32).toNatClampNeg))]) (q := q52) rfl dX11_ack_127 ck_X11_goOn m_1931 m_1933 m_109 (ci := 9) rfl (by decide) g48 (by decide) (by decide) rfl (by simp [rf_cat, rq_cat, ca_i, ca_l, ca_r]) (ct_X11_goOn l X hcq52) ?_
      refine g_goto (pc := 130) (tgt := 194) dX11_ack_130 (by decide) ?_
      obtain rfl := Option.some.inj hf
      exact g_vret (pc := 194) rfl dX11_ack_194
  · refine g_ifle_f (pc := 70) (tgt := 74) dX11_ack_70 (by decide) c9 ?_
    obtain rfl := Option.some.inj hf
    exact g_vret (pc := 73) rfl dX11_ack_73
set_option maxRecDepth 100000 in
set_option maxHeartbeats 4000000 in
theorem ok_X11_ack_L18 (l : Launch) (X : Cx) : ∀ (n : Nat) (h : AH) (a0 : Nat) (a1 : Int32) (a2 : Int32) (a3 : Int32) (q : AH), f_X11_ack_L18 n h a0 a1 a2 a3 = some q → Go l X k_X11_ack 18 [(0, rf X a0), (1, .int a1), (2, .int a2), (3, .int a3)] [] h (rV q) := by
  intro n
  induction n with
  | zero =>
    intro h a0 a1 a2 a3 q hf
    unfold f_X11_ack_L18 at hf
    cases hf
  | succ n ih =>
    intro h a0 a1 a2 a3 q hf
    unfold f_X11_ack_L18 at hf
    refine g_iload_n (pc := 18) 3 dX11_ack_18 rfl rfl ?_
    refine g_iconst (pc := 19) (v := (4 : Int32)) dX11_ack_19 (by decide) ?_
    rcases it_some hf with ⟨c1, hf⟩ | ⟨c1, hf⟩
    · refine g_icge_t (pc := 20) (tgt := 47) dX11_ack_20 (by decide) c1 ?_
      refine g_aload_n (pc := 47) 0 dX11_ack_47 rfl rfl ?_
      obtain ⟨g2, hf⟩ := gs_some hf
      refine g_getR (pc := 48) fl_X11_120 dX11_ack_48 g2 ?_
      refine g_iload_n (pc := 51) 2 dX11_ack_51 rfl rfl ?_
      refine g_iconst (pc := 52) (v := (1 : Int32)) dX11_ack_52 (by decide) ?_
      obtain ⟨g3, hf⟩ := gs_some hf
      obtain ⟨b4, hf⟩ := gb_some hf
      obtain ⟨h5, eh5, hf⟩ := lt_some hf
      refine g_zast (pc := 53) g3 b4 dX11_ack_53 eh5 ?_
      refine g_sub [0, 1, 2] rfl ?_
      exact ok_X11_ack_L54 l X h5 a0 a1 a2 q hf
    · refine g_icge_f (pc := 20) (tgt := 47) dX11_ack_20 (by decide) c1 ?_
      refine g_aload_n (pc := 23) 0 dX11_ack_23 rfl rfl ?_
      obtain ⟨g6, hf⟩ := gs_some hf
      refine g_getR (pc := 24) fl_X11_117 dX11_ack_24 g6 ?_
      refine g_iconst (pc := 27) (v := (4 : Int32)) dX11_ack_27 (by decide) ?_
      refine g_iload_n (pc := 28) 2 dX11_ack_28 rfl rfl ?_
      refine g_imul (pc := 29) dX11_ack_29 ?_
      refine g_iload_n (pc := 30) 3 dX11_ack_30 rfl rfl ?_
      refine g_iadd (pc := 31) dX11_ack_31 ?_
      refine g_aload_n (pc := 32) 0 dX11_ack_32 rfl rfl ?_
      refine g_getR (pc := 33) fl_X11_300 dX11_ack_33 g6 ?_
      refine g_iconst (pc := 36) (v := (5 : Int32)) dX11_ack_36 (by decide) ?_
      refine g_iload_n (pc := 37) 3 dX11_ack_37 rfl rfl ?_
      refine g_iadd (pc := 38) dX11_ack_38 ?_
      obtain ⟨g7, hf⟩ := gs_some hf
      obtain ⟨b8, hf⟩ := gb_some hf
      refine g_iald (pc := 39) g7 b8 dX11_ack_39 ?_
      obtain ⟨g9, hf⟩ := gs_some hf
      obtain ⟨b10, hf⟩ := gb_some hf
      obtain ⟨h11, eh11, hf⟩ := lt_some hf
      refine g_iast (pc := 40) g9 b10 dX11_ack_40 eh11 ?_
      obtain ⟨x12, ex12, hf⟩ := lt_some hf
      refine g_iinc (pc := 41) (y := x12) (L' := [(3, .int x12), (0, rf X a0), (1, .int a1), (2, .int a2)]) 3 dX11_ack_41 rfl (by decide) (ex12.trans rfl) rfl ?_
      refine g_goto (pc := 44) (tgt := 18) dX11_ack_44 (by decide) ?_
      refine g_sub [1, 2, 3, 0] rfl ?_
      exact ih h11 a0 a1 a2 x12 q hf
set_option maxRecDepth 100000 in
set_option maxHeartbeats 4000000 in
theorem ok_X11_ack (l : Launch) (X : Cx) {h : AH} {a0 : Nat} {a1 : Int32} {q : AH} (hf : f_X11_ack h a0 a1 = some q) : Go l X k_X11_ack 0 [(0, rf X a0), (1, .int a1)] [] h (rV q) := by
  unfold f_X11_ack at hf
  refine g_aload_n (pc := 0) 0 dX11_ack_0 rfl rfl ?_
  refine g_iload_n (pc := 1) 1 dX11_ack_1 rfl rfl ?_
  obtain ⟨g1, hf⟩ := gs_some hf
  obtain ⟨v2, hcv2, hf⟩ := bd_some hf
  refine g_cVI (pc := 2) (k2 := k_X11_homeWay) (av := [.int a1]) (q := (v2, h)) rfl dX11_ack_2 ck_X11_homeWay m_1919 m_1921 m_106 (ci := 9) rfl (by decide) g1 (by decide) (by decide) rfl (by simp [rf_cat, rq_cat, ca_i, ca_l, ca_r]) (ct_X11_homeWay l X hcv2) ?_
  refine g_istore_n (pc := 5) (L' := [(2, .int v2), (0, rf X a0), (1, .int a1)]) dX11_ack_5 rfl (by decide) rfl rfl ?_
  refine g_aload_n (pc := 6) 1 dX11_ack_6 rfl rfl ?_
  refine g_getR (pc := 7) fl_X11_300 dX11_ack_7 g1 ?_
  refine g_iconst (pc := 10) (v := (4 : Int32)) dX11_ack_10 (by decide) ?_
  obtain ⟨g3, hf⟩ := gs_some hf
  obtain ⟨b4, hf⟩ := gb_some hf
  refine g_iald (pc := 11) g3 b4 dX11_ack_11 ?_
  refine g_iconst (pc := 12) (v := (1 : Int32)) dX11_ack_12 (by decide) ?_
  rcases it_some hf with ⟨c5, hf⟩ | ⟨c5, hf⟩
  · refine g_icne_t (pc := 13) (tgt := 54) dX11_ack_13 (by decide) c5 ?_
    refine g_sub [1, 2, 0] rfl ?_
    exact ok_X11_ack_L54 l X h a0 a1 v2 q hf
  · refine g_icne_f (pc := 13) (tgt := 54) dX11_ack_13 (by decide) (Decidable.of_not_not c5) ?_
    refine g_iconst (pc := 16) (v := (0 : Int32)) dX11_ack_16 (by decide) ?_
    obtain ⟨x6, ex6, hf⟩ := lt_some hf
    refine g_istore_n (pc := 17) (L' := [(3, .int x6), (2, .int v2), (0, rf X a0), (1, .int a1)]) dX11_ack_17 rfl (by decide) ex6 rfl ?_
    refine g_sub [2, 3, 1, 0] rfl ?_
    exact ok_X11_ack_L18 l X FU h a0 a1 v2 x6 q hf
theorem ct_X11_ack (l : Launch) (X : Cx) {h : AH} {a0 : Nat} {a1 : Int32} {q : AH} (hf : f_X11_ack h a0 a1 = some q) : Ct l X k_X11_ack [rf X a0, .int a1] h (rV q) := ct_of ck_X11_ack (by simp [lg_sl, rf_cat, rq_cat, ca_i, ca_l, ca_r]) (by simp [lv_args, rf_cat, rq_cat, ca_i, ca_l, ca_r]) (ok_X11_ack l X hf)
set_option maxRecDepth 100000 in
set_option maxHeartbeats 4000000 in
theorem ok_X11_atHome_L117 (l : Launch) (X : Cx) : ∀ (n : Nat) (h : AH) (a0 : Nat) (a1 : Int32) (a2 : Int32) (q : AH), f_X11_atHome_L117 n h a0 a1 a2 = some q → Go l X k_X11_atHome 117 [(0, rf X a0), (1, .int a1), (2, .int a2)] [] h (rV q) := by
  intro n
  induction n with
  | zero =>
    intro h a0 a1 a2 q hf
    unfold f_X11_atHome_L117 at hf
    cases hf
  | succ n ih =>
    intro h a0 a1 a2 q hf
    unfold f_X11_atHome_L117 at hf
    refine g_iload_n (pc := 117) 2 dX11_atHome_117 rfl rfl ?_
    refine g_iconst (pc := 118) (v := (4 : Int32)) dX11_atHome_118 (by decide) ?_
    rcases it_some hf with ⟨c1, hf⟩ | ⟨c1, hf⟩
    · refine g_icge_t (pc := 119) (tgt := 152) dX11_atHome_119 (by decide) c1 ?_
      refine g_aload_n (pc := 152) 0 dX11_atHome_152 rfl rfl ?_
      refine g_dup (pc := 153) dX11_atHome_153 (rf_cat X _) ?_
      obtain ⟨g2, hf⟩ := gs_some hf
      refine g_getI (pc := 154) fl_X11_313 dX11_atHome_154 g2 ?_
      refine g_iconst (pc := 157) (v := (1 : Int32)) dX11_atHome_157 (by decide) ?_
      refine g_iadd (pc := 158) dX11_atHome_158 ?_
      obtain ⟨h3, eh3, hf⟩ := lt_some hf
      refine g_putI (pc := 159) fl_X11_313 dX11_atHome_159 g2 eh3 ?_
      refine g_aload_n (pc := 162) 0 dX11_atHome_162 rfl rfl ?_
      refine g_iload_n (pc := 163) 1 dX11_atHome_163 rfl rfl ?_
      refine g_aload_n (pc := 164) 0 dX11_atHome_164 rfl rfl ?_
      have g4 : hS h3 a0 = 10 := (hS_tI eh3 g2)
      refine g_getR (pc := 165) fl_X11_47 dX11_atHome_165 g4 ?_
      refine g_iconst (pc := 168) (v := (4 : Int32)) dX11_atHome_168 (by decide) ?_
      obtain ⟨g5, hf⟩ := gs_some hf
      obtain ⟨b6, hf⟩ := gb_some hf
      refine g_iald (pc := 169) g5 b6 dX11_atHome_169 ?_
      obtain ⟨b7, hf⟩ := gb_some hf
      refine g_irem (pc := 170) (of_decide_eq_true b7) dX11_atHome_170 ?_
      obtain ⟨q8, hcq8, hf⟩ := bd_some hf
      refine g_cVV (pc := 171) (k2 := k_X11_goOn) (av := [.int (a1 - a1 / (hI h3 (hR h3 a0 21) (4 : Int32).toNatClampNeg) * (hI h3 (hR h3 a0 21) (4 : Int32).toNatClampNeg))]) (q := q8) rfl dX11_atHome_171 ck_X11_goOn m_1931 m_1933 m_109 (ci := 9) rfl (by decide) g4 (by decide) (by decide) rfl (by simp [rf_cat, rq_cat, ca_i, ca_l, ca_r]) (ct_X11_goOn l X hcq8) ?_
      obtain rfl := Option.some.inj hf
      exact g_vret (pc := 174) rfl dX11_atHome_174
    · refine g_icge_f (pc := 119) (tgt := 152) dX11_atHome_119 (by decide) c1 ?_
      refine g_aload_n (pc := 122) 0 dX11_atHome_122 rfl rfl ?_
      obtain ⟨g9, hf⟩ := gs_some hf
      refine g_getR (pc := 123) fl_X11_141 dX11_atHome_123 g9 ?_
      refine g_bipush (pc := 126) (v := (7 : Int32)) dX11_atHome_126 (by decide) ?_
      refine g_aload_n (pc := 128) 0 dX11_atHome_128 rfl rfl ?_
      refine g_getI (pc := 129) fl_X11_313 dX11_atHome_129 g9 ?_
      refine g_imul (pc := 132) dX11_atHome_132 ?_
      refine g_iconst (pc := 133) (v := (3 : Int32)) dX11_atHome_133 (by decide) ?_
      refine g_iadd (pc := 134) dX11_atHome_134 ?_
      refine g_iload_n (pc := 135) 2 dX11_atHome_135 rfl rfl ?_
      refine g_iadd (pc := 136) dX11_atHome_136 ?_
      refine g_aload_n (pc := 137) 0 dX11_atHome_137 rfl rfl ?_
      refine g_getR (pc := 138) fl_X11_300 dX11_atHome_138 g9 ?_
      refine g_iconst (pc := 141) (v := (5 : Int32)) dX11_atHome_141 (by decide) ?_
      refine g_iload_n (pc := 142) 2 dX11_atHome_142 rfl rfl ?_
      refine g_iadd (pc := 143) dX11_atHome_143 ?_
      obtain ⟨g10, hf⟩ := gs_some hf
      obtain ⟨b11, hf⟩ := gb_some hf
      refine g_iald (pc := 144) g10 b11 dX11_atHome_144 ?_
      obtain ⟨g12, hf⟩ := gs_some hf
      obtain ⟨b13, hf⟩ := gb_some hf
      obtain ⟨h14, eh14, hf⟩ := lt_some hf
      refine g_iast (pc := 145) g12 b13 dX11_atHome_145 eh14 ?_
      obtain ⟨x15, ex15, hf⟩ := lt_some hf
      refine g_iinc (pc := 146) (y := x15) (L' := [(2, .int x15), (0, rf X a0), (1, .int a1)]) 2 dX11_atHome_146 rfl (by decide) (ex15.trans rfl) rfl ?_
      refine g_goto (pc := 149) (tgt := 117) dX11_atHome_149 (by decide) ?_
      refine g_sub [1, 2, 0] rfl ?_
      exact ih h14 a0 a1 x15 q hf
set_option maxRecDepth 100000 in
set_option maxHeartbeats 4000000 in
theorem ok_X11_atHome_L115 (l : Launch) (X : Cx) (h : AH) (a0 : Nat) (a1 : Int32) (q : AH) (hf : f_X11_atHome_L115 h a0 a1 = some q) : Go l X k_X11_atHome 115 [(0, rf X a0), (1, .int a1)] [] h (rV q) := by
  unfold f_X11_atHome_L115 at hf
  refine g_iconst (pc := 115) (v := (0 : Int32)) dX11_atHome_115 (by decide) ?_
  obtain ⟨x1, ex1, hf⟩ := lt_some hf
  refine g_istore_n (pc := 116) (L' := [(2, .int x1), (0, rf X a0), (1, .int a1)]) dX11_atHome_116 rfl (by decide) ex1 rfl ?_
  refine g_sub [1, 2, 0] rfl ?_
  exact ok_X11_atHome_L117 l X FU h a0 a1 x1 q hf
set_option maxRecDepth 100000 in
set_option maxHeartbeats 4000000 in
theorem ok_X11_atHome (l : Launch) (X : Cx) {h : AH} {a0 : Nat} {q : AH} (hf : f_X11_atHome h a0 = some q) : Go l X k_X11_atHome 0 [(0, rf X a0)] [] h (rV q) := by
  unfold f_X11_atHome at hf
  refine g_aload_n (pc := 0) 0 dX11_atHome_0 rfl rfl ?_
  obtain ⟨g1, hf⟩ := gs_some hf
  refine g_getR (pc := 1) fl_X11_300 dX11_atHome_1 g1 ?_
  refine g_iconst (pc := 4) (v := (3 : Int32)) dX11_atHome_4 (by decide) ?_
  obtain ⟨g2, hf⟩ := gs_some hf
  obtain ⟨b3, hf⟩ := gb_some hf
  refine g_iald (pc := 5) g2 b3 dX11_atHome_5 ?_
  obtain ⟨x4, ex4, hf⟩ := lt_some hf
  refine g_istore_n (pc := 6) (L' := [(1, .int x4), (0, rf X a0)]) dX11_atHome_6 rfl (by decide) ex4 (by simp [rf_cat, rq_cat]) ?_
  refine g_aload_n (pc := 7) 1 dX11_atHome_7 rfl rfl ?_
  refine g_getR (pc := 8) fl_X11_300 dX11_atHome_8 g1 ?_
  refine g_iconst (pc := 11) (v := (0 : Int32)) dX11_atHome_11 (by decide) ?_
  obtain ⟨b5, hf⟩ := gb_some hf
  refine g_iald (pc := 12) g2 b5 dX11_atHome_12 ?_
  refine g_iconst (pc := 13) (v := (5 : Int32)) dX11_atHome_13 (by decide) ?_
  rcases it_some hf with ⟨c6, hf⟩ | ⟨c6, hf⟩
  · refine g_icne_t (pc := 14) (tgt := 25) dX11_atHome_14 (by decide) c6 ?_
    refine g_aload_n (pc := 25) 1 dX11_atHome_25 rfl rfl ?_
    refine g_getR (pc := 26) fl_X11_300 dX11_atHome_26 g1 ?_
    refine g_iconst (pc := 29) (v := (0 : Int32)) dX11_atHome_29 (by decide) ?_
    obtain ⟨b7, hf⟩ := gb_some hf
    refine g_iald (pc := 30) g2 b7 dX11_atHome_30 ?_
    refine g_bipush (pc := 31) (v := (10 : Int32)) dX11_atHome_31 (by decide) ?_
    rcases it_some hf with ⟨c8, hf⟩ | ⟨c8, hf⟩
    · refine g_icne_t (pc := 33) (tgt := 62) dX11_atHome_33 (by decide) c8 ?_
      refine g_aload_n (pc := 62) 1 dX11_atHome_62 rfl rfl ?_
      refine g_getR (pc := 63) fl_X11_141 dX11_atHome_63 g1 ?_
      refine g_bipush (pc := 66) (v := (7 : Int32)) dX11_atHome_66 (by decide) ?_
      refine g_aload_n (pc := 68) 1 dX11_atHome_68 rfl rfl ?_
      refine g_getI (pc := 69) fl_X11_313 dX11_atHome_69 g1 ?_
      refine g_imul (pc := 72) dX11_atHome_72 ?_
      refine g_iload_n (pc := 73) 0 dX11_atHome_73 rfl rfl ?_
      obtain ⟨g9, hf⟩ := gs_some hf
      obtain ⟨b10, hf⟩ := gb_some hf
      obtain ⟨h11, eh11, hf⟩ := lt_some hf
      refine g_iast (pc := 74) g9 b10 dX11_atHome_74 eh11 ?_
      refine g_aload_n (pc := 75) 1 dX11_atHome_75 rfl rfl ?_
      have g12 : hS h11 a0 = 10 := (hS_tI eh11 g1)
      refine g_getR (pc := 76) fl_X11_141 dX11_atHome_76 g12 ?_
      refine g_bipush (pc := 79) (v := (7 : Int32)) dX11_atHome_79 (by decide) ?_
      refine g_aload_n (pc := 81) 1 dX11_atHome_81 rfl rfl ?_
      refine g_getI (pc := 82) fl_X11_313 dX11_atHome_82 g12 ?_
      refine g_imul (pc := 85) dX11_atHome_85 ?_
      refine g_iconst (pc := 86) (v := (1 : Int32)) dX11_atHome_86 (by decide) ?_
      refine g_iadd (pc := 87) dX11_atHome_87 ?_
      refine g_aload_n (pc := 88) 1 dX11_atHome_88 rfl rfl ?_
      refine g_getR (pc := 89) fl_X11_300 dX11_atHome_89 g12 ?_
      refine g_iconst (pc := 92) (v := (0 : Int32)) dX11_atHome_92 (by decide) ?_
      obtain ⟨g13, hf⟩ := gs_some hf
      obtain ⟨b14, hf⟩ := gb_some hf
      refine g_iald (pc := 93) g13 b14 dX11_atHome_93 ?_
      obtain ⟨g15, hf⟩ := gs_some hf
      obtain ⟨b16, hf⟩ := gb_some hf
      obtain ⟨h17, eh17, hf⟩ := lt_some hf
      refine g_iast (pc := 94) g15 b16 dX11_atHome_94 eh17 ?_
      refine g_aload_n (pc := 95) 1 dX11_atHome_95 rfl rfl ?_
      have g18 : hS h17 a0 = 10 := (hS_tI eh17 g12)
      refine g_getR (pc := 96) fl_X11_141 dX11_atHome_96 g18 ?_
      refine g_bipush (pc := 99) (v := (7 : Int32)) dX11_atHome_99 (by decide) ?_
      refine g_aload_n (pc := 101) 1 dX11_atHome_101 rfl rfl ?_
      refine g_getI (pc := 102) fl_X11_313 dX11_atHome_102 g18 ?_
      refine g_imul (pc := 105) dX11_atHome_105 ?_
      refine g_iconst (pc := 106) (v := (2 : Int32)) dX11_atHome_106 (by decide) ?_
      refine g_iadd (pc := 107) dX11_atHome_107 ?_
      refine g_aload_n (pc := 108) 1 dX11_atHome_108 rfl rfl ?_
      refine g_getR (pc := 109) fl_X11_300 dX11_atHome_109 g18 ?_
      refine g_iconst (pc := 112) (v := (1 : Int32)) dX11_atHome_112 (by decide) ?_
      obtain ⟨g19, hf⟩ := gs_some hf
      obtain ⟨b20, hf⟩ := gb_some hf
      refine g_iald (pc := 113) g19 b20 dX11_atHome_113 ?_
      obtain ⟨g21, hf⟩ := gs_some hf
      obtain ⟨b22, hf⟩ := gb_some hf
      obtain ⟨h23, eh23, hf⟩ := lt_some hf
      refine g_iast (pc := 114) g21 b22 dX11_atHome_114 eh23 ?_
      refine g_sub [1, 0] rfl ?_
      exact ok_X11_atHome_L115 l X h23 a0 x4 q hf
    · refine g_icne_f (pc := 33) (tgt := 62) dX11_atHome_33 (by decide) (Decidable.of_not_not c8) ?_
      refine g_aload_n (pc := 36) 1 dX11_atHome_36 rfl rfl ?_
      refine g_getR (pc := 37) fl_X11_129 dX11_atHome_37 g1 ?_
      refine g_aload_n (pc := 40) 1 dX11_atHome_40 rfl rfl ?_
      refine g_iload_n (pc := 41) 0 dX11_atHome_41 rfl rfl ?_
      obtain ⟨v24, hcv24, hf⟩ := bd_some hf
      refine g_cVI (pc := 42) (k2 := k_X11_homeWay) (av := [.int x4]) (q := (v24, h)) rfl dX11_atHome_42 ck_X11_homeWay m_1919 m_1921 m_106 (ci := 9) rfl (by decide) g1 (by decide) (by decide) rfl (by simp [rf_cat, rq_cat, ca_i, ca_l, ca_r]) (ct_X11_homeWay l X hcv24) ?_
      refine g_iconst (pc := 45) (v := (-1 : Int32)) dX11_atHome_45 (by decide) ?_
      obtain ⟨g25, hf⟩ := gs_some hf
      obtain ⟨b26, hf⟩ := gb_some hf
      obtain ⟨h27, eh27, hf⟩ := lt_some hf
      refine g_iast (pc := 46) g25 b26 dX11_atHome_46 eh27 ?_
      refine g_aload_n (pc := 47) 1 dX11_atHome_47 rfl rfl ?_
      refine g_iload_n (pc := 48) 0 dX11_atHome_48 rfl rfl ?_
      refine g_aload_n (pc := 49) 1 dX11_atHome_49 rfl rfl ?_
      have g28 : hS h27 a0 = 10 := (hS_tI eh27 g1)
      refine g_getR (pc := 50) fl_X11_47 dX11_atHome_50 g28 ?_
      refine g_iconst (pc := 53) (v := (4 : Int32)) dX11_atHome_53 (by decide) ?_
      obtain ⟨g29, hf⟩ := gs_some hf
      obtain ⟨b30, hf⟩ := gb_some hf
      refine g_iald (pc := 54) g29 b30 dX11_atHome_54 ?_
      obtain ⟨b31, hf⟩ := gb_some hf
      refine g_irem (pc := 55) (of_decide_eq_true b31) dX11_atHome_55 ?_
      obtain ⟨q32, hcq32, hf⟩ := bd_some hf
      refine g_cVV (pc := 56) (k2 := k_X11_goOn) (av := [.int (x4 - x4 / (hI h27 (hR h27 a0 21) (4 : Int32).toNatClampNeg) * (hI h27 (hR h27 a0 21) (4 : Int32).toNatClampNeg))]) (q := q32) rfl dX11_atHome_56 ck_X11_goOn m_1931 m_1933 m_109 (ci := 9) rfl (by decide) g28 (by decide) (by decide) rfl (by simp [rf_cat, rq_cat, ca_i, ca_l, ca_r]) (ct_X11_goOn l X hcq32) ?_
      refine g_goto (pc := 59) (tgt := 174) dX11_atHome_59 (by decide) ?_
      obtain rfl := Option.some.inj hf
      exact g_vret (pc := 174) rfl dX11_atHome_174
  · refine g_icne_f (pc := 14) (tgt := 25) dX11_atHome_14 (by decide) (Decidable.of_not_not c6) ?_
    refine g_aload_n (pc := 17) 1 dX11_atHome_17 rfl rfl ?_
    refine g_iload_n (pc := 18) 0 dX11_atHome_18 rfl rfl ?_
    obtain ⟨q33, hcq33, hf⟩ := bd_some hf
    refine g_cVV (pc := 19) (k2 := k_X11_ack) (av := [.int x4]) (q := q33) rfl dX11_atHome_19 ck_X11_ack m_1915 m_1917 m_105 (ci := 9) rfl (by decide) g1 (by decide) (by decide) rfl (by simp [rf_cat, rq_cat, ca_i, ca_l, ca_r]) (ct_X11_ack l X hcq33) ?_
    refine g_goto (pc := 22) (tgt := 174) dX11_atHome_22 (by decide) ?_
    obtain rfl := Option.some.inj hf
    exact g_vret (pc := 174) rfl dX11_atHome_174
theorem ct_X11_atHome (l : Launch) (X : Cx) {h : AH} {a0 : Nat} {q : AH} (hf : f_X11_atHome h a0 = some q) : Ct l X k_X11_atHome [rf X a0] h (rV q) := ct_of ck_X11_atHome (by simp [lg_sl, rf_cat, rq_cat, ca_i, ca_l, ca_r]) (by simp [lv_args, rf_cat, rq_cat, ca_i, ca_l, ca_r]) (ok_X11_atHome l X hf)
set_option maxRecDepth 100000 in
set_option maxHeartbeats 4000000 in
theorem ok_X11_answer_L72 (l : Launch) (X : Cx) (h : AH) (a0 : Nat) (q : AH) (hf : f_X11_answer_L72 h a0 = some q) : Go l X k_X11_answer 72 [(0, rf X a0)] [] h (rV q) := by
  unfold f_X11_answer_L72 at hf
  refine g_aload_n (pc := 72) 0 dX11_answer_72 rfl rfl ?_
  obtain ⟨g1, hf⟩ := gs_some hf
  obtain ⟨q2, hcq2, hf⟩ := bd_some hf
  refine g_cVV (pc := 73) (k2 := k_X11_post) (av := []) (q := q2) rfl dX11_answer_73 ck_X11_post m_1835 m_1837 m_88 (ci := 9) rfl (by decide) g1 (by decide) (by decide) rfl (by simp [rf_cat, rq_cat, ca_i, ca_l, ca_r]) (ct_X11_post l X hcq2) ?_
  obtain rfl := Option.some.inj hf
  exact g_vret (pc := 76) rfl dX11_answer_76
set_option maxRecDepth 100000 in
set_option maxHeartbeats 4000000 in
theorem ok_X11_answer_L55 (l : Launch) (X : Cx) (h : AH) (a0 : Nat) (a1 : Int32) (a2 : Int32) (q : AH) (hf : f_X11_answer_L55 h a0 a1 a2 = some q) : Go l X k_X11_answer 55 [(0, rf X a0), (1, .int a1), (2, .int a2)] [] h (rV q) := by
  unfold f_X11_answer_L55 at hf
  refine g_aload_n (pc := 55) 0 dX11_answer_55 rfl rfl ?_
  obtain ⟨g1, hf⟩ := gs_some hf
  refine g_getR (pc := 56) fl_X11_89 dX11_answer_56 g1 ?_
  refine g_iload_n (pc := 59) 1 dX11_answer_59 rfl rfl ?_
  obtain ⟨g2, hf⟩ := gs_some hf
  obtain ⟨b3, hf⟩ := gb_some hf
  refine g_iald (pc := 60) g2 b3 dX11_answer_60 ?_
  refine g_iload_n (pc := 61) 2 dX11_answer_61 rfl rfl ?_
  rcases it_some hf with ⟨c4, hf⟩ | ⟨c4, hf⟩
  · refine g_icne_t (pc := 62) (tgt := 72) dX11_answer_62 (by decide) c4 ?_
    refine g_sub [0] rfl ?_
    exact ok_X11_answer_L72 l X h a0 q hf
  · refine g_icne_f (pc := 62) (tgt := 72) dX11_answer_62 (by decide) (Decidable.of_not_not c4) ?_
    refine g_aload_n (pc := 65) 0 dX11_answer_65 rfl rfl ?_
    refine g_getR (pc := 66) fl_X11_92 dX11_answer_66 g1 ?_
    refine g_iload_n (pc := 69) 1 dX11_answer_69 rfl rfl ?_
    refine g_iconst (pc := 70) (v := (1 : Int32)) dX11_answer_70 (by decide) ?_
    obtain ⟨g5, hf⟩ := gs_some hf
    obtain ⟨b6, hf⟩ := gb_some hf
    obtain ⟨h7, eh7, hf⟩ := lt_some hf
    refine g_zast (pc := 71) g5 b6 dX11_answer_71 eh7 ?_
    refine g_sub [0] rfl ?_
    exact ok_X11_answer_L72 l X h7 a0 q hf
set_option maxRecDepth 100000 in
set_option maxHeartbeats 4000000 in
theorem ok_X11_answer_L50 (l : Launch) (X : Cx) (h : AH) (a0 : Nat) (a1 : Int32) (a2 : Int32) (q : AH) (hf : f_X11_answer_L50 h a0 a1 a2 = some q) : Go l X k_X11_answer 50 [(0, rf X a0), (1, .int a1), (2, .int a2)] [] h (rV q) := by
  unfold f_X11_answer_L50 at hf
  refine g_aload_n (pc := 50) 0 dX11_answer_50 rfl rfl ?_
  refine g_iload_n (pc := 51) 2 dX11_answer_51 rfl rfl ?_
  obtain ⟨g1, hf⟩ := gs_some hf
  obtain ⟨q2, hcq2, hf⟩ := bd_some hf
  refine g_cVV (pc := 52) (k2 := k_X11_withWords) (av := [.int a2]) (q := q2) rfl dX11_answer_52 ck_X11_withWords m_1831 m_1833 m_87 (ci := 9) rfl (by decide) g1 (by decide) (by decide) rfl (by simp [rf_cat, rq_cat, ca_i, ca_l, ca_r]) (ct_X11_withWords l X hcq2) ?_
  exact ok_X11_answer_L55 l X q2 a0 a1 a2 q hf
set_option maxRecDepth 100000 in
set_option maxHeartbeats 4000000 in
theorem ok_X11_answer_L31 (l : Launch) (X : Cx) (h : AH) (a0 : Nat) (a1 : Int32) (a2 : Int32) (q : AH) (hf : f_X11_answer_L31 h a0 a1 a2 = some q) : Go l X k_X11_answer 31 [(0, rf X a0), (1, .int a1), (2, .int a2)] [] h (rV q) := by
  unfold f_X11_answer_L31 at hf
  refine g_aload_n (pc := 31) 0 dX11_answer_31 rfl rfl ?_
  obtain ⟨g1, hf⟩ := gs_some hf
  refine g_getR (pc := 32) fl_X11_89 dX11_answer_32 g1 ?_
  refine g_iload_n (pc := 35) 1 dX11_answer_35 rfl rfl ?_
  obtain ⟨g2, hf⟩ := gs_some hf
  obtain ⟨b3, hf⟩ := gb_some hf
  refine g_iald (pc := 36) g2 b3 dX11_answer_36 ?_
  refine g_iload_n (pc := 37) 2 dX11_answer_37 rfl rfl ?_
  rcases it_some hf with ⟨c4, hf⟩ | ⟨c4, hf⟩
  · refine g_icne_t (pc := 38) (tgt := 55) dX11_answer_38 (by decide) c4 ?_
    exact ok_X11_answer_L55 l X h a0 a1 a2 q hf
  · refine g_icne_f (pc := 38) (tgt := 55) dX11_answer_38 (by decide) (Decidable.of_not_not c4) ?_
    refine g_aload_n (pc := 41) 0 dX11_answer_41 rfl rfl ?_
    refine g_getR (pc := 42) fl_X11_92 dX11_answer_42 g1 ?_
    refine g_iload_n (pc := 45) 1 dX11_answer_45 rfl rfl ?_
    obtain ⟨g5, hf⟩ := gs_some hf
    obtain ⟨b6, hf⟩ := gb_some hf
    refine g_zald (pc := 46) g5 b6 dX11_answer_46 ?_
    rcases it_some hf with ⟨c7, hf⟩ | ⟨c7, hf⟩
    · refine g_ifne_t (pc := 47) (tgt := 55) dX11_answer_47 (by decide) c7 ?_
      exact ok_X11_answer_L55 l X h a0 a1 a2 q hf
    · refine g_ifne_f (pc := 47) (tgt := 55) dX11_answer_47 (by decide) (Decidable.of_not_not c7) ?_
      exact ok_X11_answer_L50 l X h a0 a1 a2 q hf
set_option maxRecDepth 100000 in
set_option maxHeartbeats 4000000 in
theorem ok_X11_answer (l : Launch) (X : Cx) {h : AH} {a0 : Nat} {a1 : Int32} {a2 : Int32} {q : AH} (hf : f_X11_answer h a0 a1 a2 = some q) : Go l X k_X11_answer 0 [(0, rf X a0), (1, .int a1), (2, .int a2)] [] h (rV q) := by
  unfold f_X11_answer at hf
  refine g_aload_n (pc := 0) 0 dX11_answer_0 rfl rfl ?_
  refine g_iconst (pc := 1) (v := (5 : Int32)) dX11_answer_1 (by decide) ?_
  refine g_iload_n (pc := 2) 1 dX11_answer_2 rfl rfl ?_
  refine g_bipush (pc := 3) (v := (16 : Int32)) dX11_answer_3 (by decide) ?_
  refine g_iload_n (pc := 5) 2 dX11_answer_5 rfl rfl ?_
  obtain ⟨g1, hf⟩ := gs_some hf
  obtain ⟨q2, hcq2, hf⟩ := bd_some hf
  refine g_cVV (pc := 6) (k2 := k_X11_blank) (av := [.int (5 : Int32), .int a1, .int (16 : Int32), .int a2]) (q := q2) rfl dX11_answer_6 ck_X11_blank m_1827 m_1829 m_86 (ci := 9) rfl (by decide) g1 (by decide) (by decide) rfl (by simp [rf_cat, rq_cat, ca_i, ca_l, ca_r]) (ct_X11_blank l X hcq2) ?_
  refine g_aload_n (pc := 9) 0 dX11_answer_9 rfl rfl ?_
  refine g_iload_n (pc := 10) 1 dX11_answer_10 rfl rfl ?_
  refine g_iload_n (pc := 11) 2 dX11_answer_11 rfl rfl ?_
  obtain ⟨g3, hf⟩ := gs_some hf
  obtain ⟨v4, hcv4, hf⟩ := bd_some hf
  refine g_cVI (pc := 12) (k2 := k_X11_wayOf) (av := [.int a1, .int a2]) (q := (v4, q2)) rfl dX11_answer_12 ck_X11_wayOf m_1807 m_1809 m_81 (ci := 9) rfl (by decide) g3 (by decide) (by decide) rfl (by simp [rf_cat, rq_cat, ca_i, ca_l, ca_r]) (ct_X11_wayOf l X hcv4) ?_
  refine g_istore_n (pc := 15) (L' := [(3, .int v4), (0, rf X a0), (1, .int a1), (2, .int a2)]) dX11_answer_15 rfl (by decide) rfl rfl ?_
  refine g_iload_n (pc := 16) 0 dX11_answer_16 rfl rfl ?_
  refine g_iconst (pc := 17) (v := (-1 : Int32)) dX11_answer_17 (by decide) ?_
  rcases it_some hf with ⟨c5, hf⟩ | ⟨c5, hf⟩
  · refine g_iceq_t (pc := 18) (tgt := 31) dX11_answer_18 (by decide) c5 ?_
    refine g_sub [1, 2, 3] rfl ?_
    exact ok_X11_answer_L31 l X q2 a0 a1 a2 q hf
  · refine g_iceq_f (pc := 18) (tgt := 31) dX11_answer_18 (by decide) c5 ?_
    refine g_aload_n (pc := 21) 1 dX11_answer_21 rfl rfl ?_
    refine g_getR (pc := 22) fl_X11_108 dX11_answer_22 g3 ?_
    refine g_iload_n (pc := 25) 0 dX11_answer_25 rfl rfl ?_
    obtain ⟨g6, hf⟩ := gs_some hf
    obtain ⟨b7, hf⟩ := gb_some hf
    refine g_iald (pc := 26) g6 b7 dX11_answer_26 ?_
    refine g_iconst (pc := 27) (v := (1 : Int32)) dX11_answer_27 (by decide) ?_
    rcases it_some hf with ⟨c8, hf⟩ | ⟨c8, hf⟩
    · refine g_icgt_t (pc := 28) (tgt := 50) dX11_answer_28 (by decide) c8 ?_
      refine g_sub [1, 2, 3] rfl ?_
      exact ok_X11_answer_L50 l X q2 a0 a1 a2 q hf
    · refine g_icgt_f (pc := 28) (tgt := 50) dX11_answer_28 (by decide) c8 ?_
      refine g_sub [1, 2, 3] rfl ?_
      exact ok_X11_answer_L31 l X q2 a0 a1 a2 q hf
theorem ct_X11_answer (l : Launch) (X : Cx) {h : AH} {a0 : Nat} {a1 : Int32} {a2 : Int32} {q : AH} (hf : f_X11_answer h a0 a1 a2 = some q) : Ct l X k_X11_answer [rf X a0, .int a1, .int a2] h (rV q) := ct_of ck_X11_answer (by simp [lg_sl, rf_cat, rq_cat, ca_i, ca_l, ca_r]) (by simp [lv_args, rf_cat, rq_cat, ca_i, ca_l, ca_r]) (ok_X11_answer l X hf)
