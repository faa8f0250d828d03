set_option maxRecDepth 100000 in
set_option maxHeartbeats 4000000 in
theorem ok_X3_finish_L11 (l : Launch) (X : Cx) (h : AH) (a0 : Nat) (a1 : Int32) (a2 : Int32) (a4 : Int32) (a5 : Int32) (a6 : Int32) (a7 : Int32) (q : Int32 × AH) (hf : f_X3_finish_L11 h a0 a1 a2 a4 a5 a6 a7 = some q) : Go l X k_X3_finish 11 [(0, rf X a0), (1, .int a1), (2, .int a2), (4, .int a4), (5, .int a5), (6, .int a6), (7, .int a7)] [] h (rI q) := by
  unfold f_X3_finish_L11 at hf
  refine g_aload_n (pc := 11) 0 dX3_finish_11 rfl rfl ?_
  obtain ⟨g1, hf⟩ := gs_some hf
  refine g_getR (pc := 12) fl_X3_32 dX3_finish_12 g1 ?_
  refine g_aload_n (pc := 15) 0 dX3_finish_15 rfl rfl ?_
  refine g_getI (pc := 16) fl_X3_57 dX3_finish_16 g1 ?_
  refine g_iload_n (pc := 19) 1 dX3_finish_19 rfl rfl ?_
  refine g_iload_n (pc := 20) 2 dX3_finish_20 rfl rfl ?_
  refine g_aload_n (pc := 21) 0 dX3_finish_21 rfl rfl ?_
  refine g_getR (pc := 22) fl_X3_9 dX3_finish_22 g1 ?_
  refine g_iload_n (pc := 25) 2 dX3_finish_25 rfl rfl ?_
  obtain ⟨g2, hf⟩ := gs_some hf
  obtain ⟨b3, hf⟩ := gb_some hf
  refine g_iald (pc := 26) g2 b3 dX3_finish_26 ?_
  refine g_iload (pc := 27) 3 dX3_finish_27 rfl ?_
  refine g_iload (pc := 29) 4 dX3_finish_29 rfl ?_
  refine g_iload (pc := 31) 5 dX3_finish_31 rfl ?_
  obtain ⟨g4, hf⟩ := gs_some hf
  obtain ⟨q5, hcq5, hf⟩ := bd_some hf
  refine g_cVV (pc := 33) (k2 := k_X9_note) (av := [.int (hI h a0 3), .int a1, .int a2, .int (hI h (hR h a0 2) a2.toNatClampNeg), .int a4, .int a5, .int a6]) (q := q5) rfl dX3_finish_33 ck_X9_note m_1051 m_1052 m_1053 (ci := 7) rfl (by decide) g4 (by decide) (by decide) rfl (by simp [rf_cat, rq_cat, ca_i, ca_l, ca_r]) (ct_X9_note l X hcq5) ?_
  refine g_aload_n (pc := 36) 0 dX3_finish_36 rfl rfl ?_
  refine g_iload (pc := 37) 6 dX3_finish_37 rfl ?_
  refine g_sipush (pc := 39) (v := (8191 : Int32)) dX3_finish_39 (by decide) ?_
  refine g_iand (pc := 42) dX3_finish_42 ?_
  obtain ⟨g6, hf⟩ := gs_some hf
  obtain ⟨h7, eh7, hf⟩ := lt_some hf
  refine g_putI (pc := 43) fl_X3_57 dX3_finish_43 g6 eh7 ?_
  refine g_aload_n (pc := 46) 0 dX3_finish_46 rfl rfl ?_
  refine g_iconst (pc := 47) (v := (0 : Int32)) dX3_finish_47 (by decide) ?_
  have g8 : hS h7 a0 = 3 := (hS_tI eh7 g6)
  obtain ⟨h9, eh9, hf⟩ := lt_some hf
  refine g_putI (pc := 48) fl_X3_85 dX3_finish_48 g8 eh9 ?_
  refine g_iconst (pc := 51) (v := (1 : Int32)) dX3_finish_51 (by decide) ?_
  obtain rfl := Option.some.inj hf
  exact g_iret (pc := 52) rfl dX3_finish_52
set_option maxRecDepth 100000 in
set_option maxHeartbeats 4000000 in
theorem ok_X3_finish (l : Launch) (X : Cx) {h : AH} {a0 : Nat} {a1 : Int32} {a2 : Int32} {a3 : Int32} {a4 : Int32} {a5 : Int32} {a6 : Int32} {a7 : Int32} {q : Int32 × AH} (hf : f_X3_finish h a0 a1 a2 a3 a4 a5 a6 a7 = some q) : Go l X k_X3_finish 0 [(0, rf X a0), (1, .int a1), (2, .int a2), (3, .int a3), (4, .int a4), (5, .int a5), (6, .int a6), (7, .int a7)] [] h (rI q) := by
  unfold f_X3_finish at hf
  refine g_iload_n (pc := 0) 2 dX3_finish_0 rfl rfl ?_
  rcases it_some hf with ⟨c1, hf⟩ | ⟨c1, hf⟩
  · refine g_ifeq_t (pc := 1) (tgt := 11) dX3_finish_1 (by decide) c1 ?_
    refine g_sub [0, 1, 2, 4, 5, 6, 7] rfl ?_
    exact ok_X3_finish_L11 l X h a0 a1 a2 a4 a5 a6 a7 q hf
  · refine g_ifeq_f (pc := 1) (tgt := 11) dX3_finish_1 (by decide) c1 ?_
    refine g_aload_n (pc := 4) 0 dX3_finish_4 rfl rfl ?_
    obtain ⟨g2, hf⟩ := gs_some hf
    refine g_getR (pc := 5) fl_X3_9 dX3_finish_5 g2 ?_
    refine g_iload_n (pc := 8) 2 dX3_finish_8 rfl rfl ?_
    refine g_iload_n (pc := 9) 3 dX3_finish_9 rfl rfl ?_
    obtain ⟨g3, hf⟩ := gs_some hf
    obtain ⟨b4, hf⟩ := gb_some hf
    obtain ⟨h5, eh5, hf⟩ := lt_some hf
    refine g_iast (pc := 10) g3 b4 dX3_finish_10 eh5 ?_
    refine g_sub [0, 1, 2, 4, 5, 6, 7] rfl ?_
    exact ok_X3_finish_L11 l X h5 a0 a1 a2 a4 a5 a6 a7 q hf
theorem ct_X3_finish (l : Launch) (X : Cx) {h : AH} {a0 : Nat} {a1 : Int32} {a2 : Int32} {a3 : Int32} {a4 : Int32} {a5 : Int32} {a6 : Int32} {a7 : Int32} {q : Int32 × AH} (hf : f_X3_finish h a0 a1 a2 a3 a4 a5 a6 a7 = some q) : Ct l X k_X3_finish [rf X a0, .int a1, .int a2, .int a3, .int a4, .int a5, .int a6, .int a7] h (rI q) := ct_of ck_X3_finish (by simp [lg_sl, rf_cat, rq_cat, ca_i, ca_l, ca_r]) (by simp [lv_args, rf_cat, rq_cat, ca_i, ca_l, ca_r]) (ok_X3_finish l X hf)
set_option maxRecDepth 100000 in
set_option maxHeartbeats 4000000 in
theorem ok_X3_reckoned (l : Launch) (X : Cx) {h : AH} {a0 : Nat} {a1 : Int32} {a2 : Int32} {q : Int32 × AH} (hf : f_X3_reckoned h a0 a1 a2 = some q) : Go l X k_X3_reckoned 0 [(0, rf X a0), (1, .int a1), (2, .int a2)] [] h (rI q) := by
  unfold f_X3_reckoned at hf
  refine g_aload_n (pc := 0) 0 dX3_reckoned_0 rfl rfl ?_
  refine g_iload_n (pc := 1) 1 dX3_reckoned_1 rfl rfl ?_
  refine g_iload_n (pc := 2) 1 dX3_reckoned_2 rfl rfl ?_
  refine g_bipush (pc := 3) (v := (7 : Int32)) dX3_reckoned_3 (by decide) ?_
  refine g_iushr (pc := 5) dX3_reckoned_5 ?_
  refine g_bipush (pc := 6) (v := (31 : Int32)) dX3_reckoned_6 (by decide) ?_
  refine g_iand (pc := 8) dX3_reckoned_8 ?_
  refine g_iload_n (pc := 9) 2 dX3_reckoned_9 rfl rfl ?_
  refine g_iconst (pc := 10) (v := (-1 : Int32)) dX3_reckoned_10 (by decide) ?_
  refine g_iconst (pc := 11) (v := (0 : Int32)) dX3_reckoned_11 (by decide) ?_
  refine g_iconst (pc := 12) (v := (0 : Int32)) dX3_reckoned_12 (by decide) ?_
  refine g_aload_n (pc := 13) 0 dX3_reckoned_13 rfl rfl ?_
  obtain ⟨g1, hf⟩ := gs_some hf
  refine g_getI (pc := 14) fl_X3_57 dX3_reckoned_14 g1 ?_
  refine g_iconst (pc := 17) (v := (4 : Int32)) dX3_reckoned_17 (by decide) ?_
  refine g_iadd (pc := 18) dX3_reckoned_18 ?_
  obtain ⟨q2, hcq2, hf⟩ := bd_some hf
  refine g_cVI (pc := 19) (k2 := k_X3_finish) (av := [.int a1, .int ((jushr a1 (7 : Int32)) &&& (31 : Int32)), .int a2, .int (-1 : Int32), .int (0 : Int32), .int (0 : Int32), .int ((hI h a0 3) + (4 : Int32))]) (q := q2) rfl dX3_reckoned_19 ck_X3_finish m_1047 m_1049 m_45 (ci := 2) rfl (by decide) g1 (by decide) (by decide) rfl (by simp [rf_cat, rq_cat, ca_i, ca_l, ca_r]) (ct_X3_finish l X hcq2) ?_
  obtain rfl := Option.some.inj hf
  exact g_iret (pc := 22) rfl dX3_reckoned_22
theorem ct_X3_reckoned (l : Launch) (X : Cx) {h : AH} {a0 : Nat} {a1 : Int32} {a2 : Int32} {q : Int32 × AH} (hf : f_X3_reckoned h a0 a1 a2 = some q) : Ct l X k_X3_reckoned [rf X a0, .int a1, .int a2] h (rI q) := ct_of ck_X3_reckoned (by simp [lg_sl, rf_cat, rq_cat, ca_i, ca_l, ca_r]) (by simp [lv_args, rf_cat, rq_cat, ca_i, ca_l, ca_r]) (ok_X3_reckoned l X hf)
set_option maxRecDepth 100000 in
set_option maxHeartbeats 4000000 in
theorem ok_X3_jumped (l : Launch) (X : Cx) {h : AH} {a0 : Nat} {a1 : Int32} {a2 : Int32} {q : Int32 × AH} (hf : f_X3_jumped h a0 a1 a2 = some q) : Go l X k_X3_jumped 0 [(0, rf X a0), (1, .int a1), (2, .int a2)] [] h (rI q) := by
  unfold f_X3_jumped at hf
  refine g_aload_n (pc := 0) 0 dX3_jumped_0 rfl rfl ?_
  refine g_iload_n (pc := 1) 1 dX3_jumped_1 rfl rfl ?_
  refine g_iload_n (pc := 2) 1 dX3_jumped_2 rfl rfl ?_
  refine g_bipush (pc := 3) (v := (7 : Int32)) dX3_jumped_3 (by decide) ?_
  refine g_iushr (pc := 5) dX3_jumped_5 ?_
  refine g_bipush (pc := 6) (v := (31 : Int32)) dX3_jumped_6 (by decide) ?_
  refine g_iand (pc := 8) dX3_jumped_8 ?_
  refine g_aload_n (pc := 9) 0 dX3_jumped_9 rfl rfl ?_
  obtain ⟨g1, hf⟩ := gs_some hf
  refine g_getI (pc := 10) fl_X3_57 dX3_jumped_10 g1 ?_
  refine g_iconst (pc := 13) (v := (4 : Int32)) dX3_jumped_13 (by decide) ?_
  refine g_iadd (pc := 14) dX3_jumped_14 ?_
  refine g_iconst (pc := 15) (v := (-1 : Int32)) dX3_jumped_15 (by decide) ?_
  refine g_iconst (pc := 16) (v := (0 : Int32)) dX3_jumped_16 (by decide) ?_
  refine g_iconst (pc := 17) (v := (0 : Int32)) dX3_jumped_17 (by decide) ?_
  refine g_iload_n (pc := 18) 2 dX3_jumped_18 rfl rfl ?_
  obtain ⟨q2, hcq2, hf⟩ := bd_some hf
  refine g_cVI (pc := 19) (k2 := k_X3_finish) (av := [.int a1, .int ((jushr a1 (7 : Int32)) &&& (31 : Int32)), .int ((hI h a0 3) + (4 : Int32)), .int (-1 : Int32), .int (0 : Int32), .int (0 : Int32), .int a2]) (q := q2) rfl dX3_jumped_19 ck_X3_finish m_1047 m_1049 m_45 (ci := 2) rfl (by decide) g1 (by decide) (by decide) rfl (by simp [rf_cat, rq_cat, ca_i, ca_l, ca_r]) (ct_X3_finish l X hcq2) ?_
  obtain rfl := Option.some.inj hf
  exact g_iret (pc := 22) rfl dX3_jumped_22
theorem ct_X3_jumped (l : Launch) (X : Cx) {h : AH} {a0 : Nat} {a1 : Int32} {a2 : Int32} {q : Int32 × AH} (hf : f_X3_jumped h a0 a1 a2 = some q) : Ct l X k_X3_jumped [rf X a0, .int a1, .int a2] h (rI q) := ct_of ck_X3_jumped (by simp [lg_sl, rf_cat, rq_cat, ca_i, ca_l, ca_r]) (by simp [lv_args, rf_cat, rq_cat, ca_i, ca_l, ca_r]) (ok_X3_jumped l X hf)
set_option maxRecDepth 100000 in
set_option maxHeartbeats 4000000 in
theorem ok_X3_stopped (l : Launch) (X : Cx) {h : AH} {a0 : Nat} {a1 : Int32} {a2 : Int32} {q : Int32 × AH} (hf : f_X3_stopped h a0 a1 a2 = some q) : Go l X k_X3_stopped 0 [(0, rf X a0), (1, .int a1), (2, .int a2)] [] h (rI q) := by
  unfold f_X3_stopped at hf
  refine g_aload_n (pc := 0) 0 dX3_stopped_0 rfl rfl ?_
  refine g_iload_n (pc := 1) 2 dX3_stopped_1 rfl rfl ?_
  obtain ⟨g1, hf⟩ := gs_some hf
  obtain ⟨h2, eh2, hf⟩ := lt_some hf
  refine g_putI (pc := 2) fl_X3_60 dX3_stopped_2 g1 eh2 ?_
  refine g_aload_n (pc := 5) 0 dX3_stopped_5 rfl rfl ?_
  refine g_iload_n (pc := 6) 1 dX3_stopped_6 rfl rfl ?_
  refine g_iconst (pc := 7) (v := (0 : Int32)) dX3_stopped_7 (by decide) ?_
  refine g_iconst (pc := 8) (v := (0 : Int32)) dX3_stopped_8 (by decide) ?_
  refine g_iconst (pc := 9) (v := (-1 : Int32)) dX3_stopped_9 (by decide) ?_
  refine g_iconst (pc := 10) (v := (0 : Int32)) dX3_stopped_10 (by decide) ?_
  refine g_iconst (pc := 11) (v := (0 : Int32)) dX3_stopped_11 (by decide) ?_
  refine g_aload_n (pc := 12) 0 dX3_stopped_12 rfl rfl ?_
  have g3 : hS h2 a0 = 3 := (hS_tI eh2 g1)
  refine g_getI (pc := 13) fl_X3_57 dX3_stopped_13 g3 ?_
  obtain ⟨q4, hcq4, hf⟩ := bd_some hf
  refine g_cVI (pc := 16) (k2 := k_X3_finish) (av := [.int a1, .int (0 : Int32), .int (0 : Int32), .int (-1 : Int32), .int (0 : Int32), .int (0 : Int32), .int (hI h2 a0 3)]) (q := q4) rfl dX3_stopped_16 ck_X3_finish m_1047 m_1049 m_45 (ci := 2) rfl (by decide) g3 (by decide) (by decide) rfl (by simp [rf_cat, rq_cat, ca_i, ca_l, ca_r]) (ct_X3_finish l X hcq4) ?_
  obtain rfl := Option.some.inj hf
  exact g_iret (pc := 19) rfl dX3_stopped_19
theorem ct_X3_stopped (l : Launch) (X : Cx) {h : AH} {a0 : Nat} {a1 : Int32} {a2 : Int32} {q : Int32 × AH} (hf : f_X3_stopped h a0 a1 a2 = some q) : Ct l X k_X3_stopped [rf X a0, .int a1, .int a2] h (rI q) := ct_of ck_X3_stopped (by simp [lg_sl, rf_cat, rq_cat, ca_i, ca_l, ca_r]) (by simp [lv_args, rf_cat, rq_cat, ca_i, ca_l, ca_r]) (ok_X3_stopped l X hf)
set_option maxRecDepth 100000 in
set_option maxHeartbeats 4000000 in
theorem ok_X3_branched_L31 (l : Launch) (X : Cx) (h : AH) (a0 : Nat) (a1 : Int32) (s0 : Int32) (q : Int32 × AH) (hf : f_X3_branched_L31 h a0 a1 s0 = some q) : Go l X k_X3_branched 31 [(0, rf X a0), (1, .int a1)] [.int s0] h (rI q) := by
  unfold f_X3_branched_L31 at hf
  refine g_istore (pc := 31) (L' := [(4, .int s0), (0, rf X a0), (1, .int a1)]) dX3_branched_31 (by decide) rfl rfl ?_
  refine g_aload_n (pc := 33) 1 dX3_branched_33 rfl rfl ?_
  refine g_iload_n (pc := 34) 2 dX3_branched_34 rfl rfl ?_
  refine g_iconst (pc := 35) (v := (0 : Int32)) dX3_branched_35 (by decide) ?_
  refine g_iconst (pc := 36) (v := (0 : Int32)) dX3_branched_36 (by decide) ?_
  refine g_iconst (pc := 37) (v := (-1 : Int32)) dX3_branched_37 (by decide) ?_
  refine g_iconst (pc := 38) (v := (0 : Int32)) dX3_branched_38 (by decide) ?_
  refine g_iconst (pc := 39) (v := (0 : Int32)) dX3_branched_39 (by decide) ?_
  refine g_aload_n (pc := 40) 1 dX3_branched_40 rfl rfl ?_
  obtain ⟨g1, hf⟩ := gs_some hf
  refine g_getI (pc := 41) fl_X3_57 dX3_branched_41 g1 ?_
  refine g_iload (pc := 44) 0 dX3_branched_44 rfl ?_
  refine g_iadd (pc := 46) dX3_branched_46 ?_
  obtain ⟨q2, hcq2, hf⟩ := bd_some hf
  refine g_cVI (pc := 47) (k2 := k_X3_finish) (av := [.int a1, .int (0 : Int32), .int (0 : Int32), .int (-1 : Int32), .int (0 : Int32), .int (0 : Int32), .int ((hI h a0 3) + s0)]) (q := q2) rfl dX3_branched_47 ck_X3_finish m_1047 m_1049 m_45 (ci := 2) rfl (by decide) g1 (by decide) (by decide) rfl (by simp [rf_cat, rq_cat, ca_i, ca_l, ca_r]) (ct_X3_finish l X hcq2) ?_
  obtain rfl := Option.some.inj hf
  exact g_iret (pc := 50) rfl dX3_branched_50
set_option maxRecDepth 100000 in
set_option maxHeartbeats 4000000 in
theorem ok_X3_branched (l : Launch) (X : Cx) {h : AH} {a0 : Nat} {a1 : Int32} {a2 : Int32} {a3 : Int32} {q : Int32 × AH} (hf : f_X3_branched h a0 a1 a2 a3 = some q) : Go l X k_X3_branched 0 [(0, rf X a0), (1, .int a1), (2, .int a2), (3, .int a3)] [] h (rI q) := by
  unfold f_X3_branched at hf
  refine g_iload_n (pc := 0) 1 dX3_branched_0 rfl rfl ?_
  obtain ⟨v1, hcv1, hf⟩ := bd_some hf
  refine g_cSI (pc := 1) (k2 := k_X0_knowsBranch) (av := [.int a1]) (q := (v1, h)) rfl dX3_branched_1 ck_X0_knowsBranch m_1074 m_1075 (by decide) (by decide) rfl (by simp [rf_cat, rq_cat, ca_i, ca_l, ca_r]) (ct_X0_knowsBranch l X hcv1) ?_
  rcases it_some hf with ⟨c2, hf⟩ | ⟨c2, hf⟩
  · refine g_ifne_t (pc := 4) (tgt := 14) dX3_branched_4 (by decide) c2 ?_
    refine g_iload_n (pc := 14) 1 dX3_branched_14 rfl rfl ?_
    refine g_iload_n (pc := 15) 2 dX3_branched_15 rfl rfl ?_
    refine g_iload_n (pc := 16) 3 dX3_branched_16 rfl rfl ?_
    obtain ⟨v3, hcv3, hf⟩ := bd_some hf
    refine g_cSI (pc := 17) (k2 := k_X0_branches) (av := [.int a1, .int a2, .int a3]) (q := (v3, h)) rfl dX3_branched_17 ck_X0_branches m_1078 m_1079 (by decide) (by decide) rfl (by simp [rf_cat, rq_cat, ca_i, ca_l, ca_r]) (ct_X0_branches l X hcv3) ?_
    rcases it_some hf with ⟨c4, hf⟩ | ⟨c4, hf⟩
    · refine g_ifeq_t (pc := 20) (tgt := 30) dX3_branched_20 (by decide) c4 ?_
      refine g_iconst (pc := 30) (v := (4 : Int32)) dX3_branched_30 (by decide) ?_
      refine g_sub [0, 1] rfl ?_
      exact ok_X3_branched_L31 l X h a0 a1 (4 : Int32) q hf
    · refine g_ifeq_f (pc := 20) (tgt := 30) dX3_branched_20 (by decide) c4 ?_
      refine g_iload_n (pc := 23) 1 dX3_branched_23 rfl rfl ?_
      obtain ⟨v5, hcv5, hf⟩ := bd_some hf
      refine g_cSI (pc := 24) (k2 := k_X0_branchDistance) (av := [.int a1]) (q := (v5, h)) rfl dX3_branched_24 ck_X0_branchDistance m_1085 m_1086 (by decide) (by decide) rfl (by simp [rf_cat, rq_cat, ca_i, ca_l, ca_r]) (ct_X0_branchDistance l X hcv5) ?_
      refine g_goto (pc := 27) (tgt := 31) dX3_branched_27 (by decide) ?_
      refine g_sub [0, 1] rfl ?_
      exact ok_X3_branched_L31 l X h a0 a1 v5 q hf
  · refine g_ifne_f (pc := 4) (tgt := 14) dX3_branched_4 (by decide) (Decidable.of_not_not c2) ?_
    refine g_aload_n (pc := 7) 0 dX3_branched_7 rfl rfl ?_
    refine g_iload_n (pc := 8) 1 dX3_branched_8 rfl rfl ?_
    refine g_iconst (pc := 9) (v := (2 : Int32)) dX3_branched_9 (by decide) ?_
    obtain ⟨g6, hf⟩ := gs_some hf
    obtain ⟨q7, hcq7, hf⟩ := bd_some hf
    refine g_cVI (pc := 10) (k2 := k_X3_stopped) (av := [.int a1, .int (2 : Int32)]) (q := q7) rfl dX3_branched_10 ck_X3_stopped m_1066 m_1068 m_47 (ci := 2) rfl (by decide) g6 (by decide) (by decide) rfl (by simp [rf_cat, rq_cat, ca_i, ca_l, ca_r]) (ct_X3_stopped l X hcq7) ?_
    obtain rfl := Option.some.inj hf
    exact g_iret (pc := 13) rfl dX3_branched_13
theorem ct_X3_branched (l : Launch) (X : Cx) {h : AH} {a0 : Nat} {a1 : Int32} {a2 : Int32} {a3 : Int32} {q : Int32 × AH} (hf : f_X3_branched h a0 a1 a2 a3 = some q) : Ct l X k_X3_branched [rf X a0, .int a1, .int a2, .int a3] h (rI q) := ct_of ck_X3_branched (by simp [lg_sl, rf_cat, rq_cat, ca_i, ca_l, ca_r]) (by simp [lv_args, rf_cat, rq_cat, ca_i, ca_l, ca_r]) (ok_X3_branched l X hf)
set_option maxRecDepth 100000 in
set_option maxHeartbeats 4000000 in
theorem ok_X3_loaded_L15 (l : Launch) (X : Cx) (h : AH) (a0 : Nat) (a1 : Int32) (q : Int32 × AH) (hf : f_X3_loaded_L15 h a0 a1 = some q) : Go l X k_X3_loaded 15 [(0, rf X a0), (1, .int a1)] [] h (rI q) := by
  unfold f_X3_loaded_L15 at hf
  refine g_aload_n (pc := 15) 0 dX3_loaded_15 rfl rfl ?_
  refine g_iload_n (pc := 16) 1 dX3_loaded_16 rfl rfl ?_
  refine g_iconst (pc := 17) (v := (2 : Int32)) dX3_loaded_17 (by decide) ?_
  obtain ⟨g1, hf⟩ := gs_some hf
  obtain ⟨q2, hcq2, hf⟩ := bd_some hf
  refine g_cVI (pc := 18) (k2 := k_X3_stopped) (av := [.int a1, .int (2 : Int32)]) (q := q2) rfl dX3_loaded_18 ck_X3_stopped m_1066 m_1068 m_47 (ci := 2) rfl (by decide) g1 (by decide) (by decide) rfl (by simp [rf_cat, rq_cat, ca_i, ca_l, ca_r]) (ct_X3_stopped l X hcq2) ?_
  obtain rfl := Option.some.inj hf
  exact g_iret (pc := 21) rfl dX3_loaded_21
set_option maxRecDepth 100000 in
set_option maxHeartbeats 4000000 in
theorem ok_X3_loaded_L112 (l : Launch) (X : Cx) (h : AH) (s0 : Int32) (q : Int32 × AH) (hf : f_X3_loaded_L112 h s0 = some q) : Go l X k_X3_loaded 112 [] [.int s0] h (rI q) := by
  unfold f_X3_loaded_L112 at hf
  obtain rfl := Option.some.inj hf
  exact g_iret (pc := 112) rfl dX3_loaded_112
set_option maxRecDepth 100000 in
set_option maxHeartbeats 4000000 in
theorem ok_X3_loaded (l : Launch) (X : Cx) {h : AH} {a0 : Nat} {a1 : Int32} {a2 : Int32} {q : Int32 × AH} (hf : f_X3_loaded h a0 a1 a2 = some q) : Go l X k_X3_loaded 0 [(0, rf X a0), (1, .int a1), (2, .int a2)] [] h (rI q) := by
  unfold f_X3_loaded at hf
  refine g_iload_n (pc := 0) 1 dX3_loaded_0 rfl rfl ?_
  obtain ⟨v1, hcv1, hf⟩ := bd_some hf
  refine g_cSI (pc := 1) (k2 := k_X0_variant) (av := [.int a1]) (q := (v1, h)) rfl dX3_loaded_1 ck_X0_variant m_1063 m_1064 (by decide) (by decide) rfl (by simp [rf_cat, rq_cat, ca_i, ca_l, ca_r]) (ct_X0_variant l X hcv1) ?_
  refine g_istore_n (pc := 4) (L' := [(3, .int v1), (0, rf X a0), (1, .int a1), (2, .int a2)]) dX3_loaded_4 rfl (by decide) rfl rfl ?_
  refine g_iload_n (pc := 5) 0 dX3_loaded_5 rfl rfl ?_
  refine g_iconst (pc := 6) (v := (3 : Int32)) dX3_loaded_6 (by decide) ?_
  rcases it_some hf with ⟨c2, hf⟩ | ⟨c2, hf⟩
  · refine g_iceq_t (pc := 7) (tgt := 15) dX3_loaded_7 (by decide) c2 ?_
    refine g_sub [1, 2] rfl ?_
    exact ok_X3_loaded_L15 l X h a0 a1 q hf
  · refine g_iceq_f (pc := 7) (tgt := 15) dX3_loaded_7 (by decide) c2 ?_
    refine g_iload_n (pc := 10) 0 dX3_loaded_10 rfl rfl ?_
    refine g_iconst (pc := 11) (v := (5 : Int32)) dX3_loaded_11 (by decide) ?_
    rcases it_some hf with ⟨c3, hf⟩ | ⟨c3, hf⟩
    · refine g_icle_t (pc := 12) (tgt := 22) dX3_loaded_12 (by decide) c3 ?_
      refine g_iconst (pc := 22) (v := (1 : Int32)) dX3_loaded_22 (by decide) ?_
      refine g_iload_n (pc := 23) 0 dX3_loaded_23 rfl rfl ?_
      refine g_iconst (pc := 24) (v := (3 : Int32)) dX3_loaded_24 (by decide) ?_
      refine g_iand (pc := 25) dX3_loaded_25 ?_
      refine g_ishl (pc := 26) dX3_loaded_26 ?_
      obtain ⟨x4, ex4, hf⟩ := lt_some hf
      refine g_istore (pc := 27) (L' := [(4, .int x4), (3, .int v1), (0, rf X a0), (1, .int a1), (2, .int a2)]) dX3_loaded_27 (by decide) ex4 rfl ?_
      refine g_iload_n (pc := 29) 4 dX3_loaded_29 rfl rfl ?_
      refine g_iload (pc := 30) 0 dX3_loaded_30 rfl ?_
      refine g_iconst (pc := 32) (v := (1 : Int32)) dX3_loaded_32 (by decide) ?_
      refine g_isub (pc := 33) dX3_loaded_33 ?_
      refine g_iand (pc := 34) dX3_loaded_34 ?_
      rcases it_some hf with ⟨c5, hf⟩ | ⟨c5, hf⟩
      · refine g_ifeq_t (pc := 35) (tgt := 45) dX3_loaded_35 (by decide) c5 ?_
        refine g_iload_n (pc := 45) 4 dX3_loaded_45 rfl rfl ?_
        refine g_iconst (pc := 46) (v := (3 : Int32)) dX3_loaded_46 (by decide) ?_
        refine g_iand (pc := 47) dX3_loaded_47 ?_
        obtain ⟨x6, ex6, hf⟩ := lt_some hf
        refine g_istore (pc := 48) (L' := [(5, .int x6), (4, .int x4), (3, .int v1), (0, rf X a0), (1, .int a1), (2, .int a2)]) dX3_loaded_48 (by decide) ex6 rfl ?_
        refine g_aload_n (pc := 50) 3 dX3_loaded_50 rfl rfl ?_
        refine g_iload_n (pc := 51) 5 dX3_loaded_51 rfl rfl ?_
        refine g_iload (pc := 52) 0 dX3_loaded_52 rfl ?_
        refine g_isub (pc := 54) dX3_loaded_54 ?_
        refine g_iconst (pc := 55) (v := (1 : Int32)) dX3_loaded_55 (by decide) ?_
        refine g_iload (pc := 56) 1 dX3_loaded_56 rfl ?_
        refine g_ishl (pc := 58) dX3_loaded_58 ?_
        refine g_iconst (pc := 59) (v := (1 : Int32)) dX3_loaded_59 (by decide) ?_
        refine g_isub (pc := 60) dX3_loaded_60 ?_
        refine g_iload (pc := 61) 0 dX3_loaded_61 rfl ?_
        refine g_ishl (pc := 63) dX3_loaded_63 ?_
        obtain ⟨g7, hf⟩ := gs_some hf
        obtain ⟨q8, hcq8, hf⟩ := bd_some hf
        refine g_cVI (pc := 64) (k2 := k_X3_reads) (av := [.int (a2 - x6), .int ((((1 : Int32) <<< (x4 &&& 31)) - (1 : Int32)) <<< (x6 &&& 31))]) (q := q8) rfl dX3_loaded_64 ck_X3_reads m_1011 m_1013 m_41 (ci := 2) rfl (by decide) g7 (by decide) (by decide) rfl (by simp [rf_cat, rq_cat, ca_i, ca_l, ca_r]) (ct_X3_reads l X hcq8) ?_
        rcases it_some hf with ⟨c9, hf⟩ | ⟨c9, hf⟩
        · refine g_ifne_t (pc := 67) (tgt := 72) dX3_loaded_67 (by decide) c9 ?_
          refine g_aload_n (pc := 72) 3 dX3_loaded_72 rfl rfl ?_
          obtain ⟨g10, hf⟩ := gs_some hf
          refine g_getI (pc := 73) fl_X3_110 dX3_loaded_73 g10 ?_
          refine g_bipush (pc := 76) (v := (8 : Int32)) dX3_loaded_76 (by decide) ?_
          refine g_iload (pc := 78) 0 dX3_loaded_78 rfl ?_
          refine g_imul (pc := 80) dX3_loaded_80 ?_
          refine g_iushr (pc := 81) dX3_loaded_81 ?_
          refine g_iload_n (pc := 82) 2 dX3_loaded_82 rfl rfl ?_
          obtain ⟨v11, hcv11, hf⟩ := bd_some hf
          refine g_cSI (pc := 83) (k2 := k_X0_extend) (av := [.int (jushr (hI q8.2 a0 16) ((8 : Int32) * x6)), .int v1]) (q := (v11, q8.2)) rfl dX3_loaded_83 ck_X0_extend m_1092 m_1093 (by decide) (by decide) rfl (by simp [rf_cat, rq_cat, ca_i, ca_l, ca_r]) (ct_X0_extend l X hcv11) ?_
          refine g_istore (pc := 86) (L' := [(6, .int v11), (5, .int x6), (4, .int x4), (3, .int v1), (0, rf X a0), (1, .int a1), (2, .int a2)]) dX3_loaded_86 (by decide) rfl rfl ?_
          refine g_aload_n (pc := 88) 4 dX3_loaded_88 rfl rfl ?_
          refine g_iload_n (pc := 89) 5 dX3_loaded_89 rfl rfl ?_
          refine g_iload_n (pc := 90) 5 dX3_loaded_90 rfl rfl ?_
          refine g_bipush (pc := 91) (v := (7 : Int32)) dX3_loaded_91 (by decide) ?_
          refine g_iushr (pc := 93) dX3_loaded_93 ?_
          refine g_bipush (pc := 94) (v := (31 : Int32)) dX3_loaded_94 (by decide) ?_
          refine g_iand (pc := 96) dX3_loaded_96 ?_
          refine g_iload (pc := 97) 0 dX3_loaded_97 rfl ?_
          refine g_iload_n (pc := 99) 6 dX3_loaded_99 rfl rfl ?_
          refine g_iload (pc := 100) 0 dX3_loaded_100 rfl ?_
          refine g_iconst (pc := 102) (v := (0 : Int32)) dX3_loaded_102 (by decide) ?_
          refine g_aload_n (pc := 103) 4 dX3_loaded_103 rfl rfl ?_
          refine g_getI (pc := 104) fl_X3_57 dX3_loaded_104 g10 ?_
          refine g_iconst (pc := 107) (v := (4 : Int32)) dX3_loaded_107 (by decide) ?_
          refine g_iadd (pc := 108) dX3_loaded_108 ?_
          obtain ⟨q12, hcq12, hf⟩ := bd_some hf
          refine g_cVI (pc := 109) (k2 := k_X3_finish) (av := [.int a1, .int ((jushr a1 (7 : Int32)) &&& (31 : Int32)), .int v11, .int a2, .int v11, .int (0 : Int32), .int ((hI q8.2 a0 3) + (4 : Int32))]) (q := q12) rfl dX3_loaded_109 ck_X3_finish m_1047 m_1049 m_45 (ci := 2) rfl (by decide) g10 (by decide) (by decide) rfl (by simp [rf_cat, rq_cat, ca_i, ca_l, ca_r]) (ct_X3_finish l X hcq12) ?_
          refine g_sub [] rfl ?_
          exact ok_X3_loaded_L112 l X q12.2 q12.1 q hf
        · refine g_ifne_f (pc := 67) (tgt := 72) dX3_loaded_67 (by decide) (Decidable.of_not_not c9) ?_
          refine g_iconst (pc := 70) (v := (3 : Int32)) dX3_loaded_70 (by decide) ?_
          obtain rfl := Option.some.inj hf
          exact g_iret (pc := 71) rfl dX3_loaded_71
      · refine g_ifeq_f (pc := 35) (tgt := 45) dX3_loaded_35 (by decide) c5 ?_
        refine g_aload_n (pc := 38) 2 dX3_loaded_38 rfl rfl ?_
        refine g_iload_n (pc := 39) 3 dX3_loaded_39 rfl rfl ?_
        refine g_iconst (pc := 40) (v := (4 : Int32)) dX3_loaded_40 (by decide) ?_
        obtain ⟨g13, hf⟩ := gs_some hf
        obtain ⟨q14, hcq14, hf⟩ := bd_some hf
        refine g_cVI (pc := 41) (k2 := k_X3_stopped) (av := [.int a1, .int (4 : Int32)]) (q := q14) rfl dX3_loaded_41 ck_X3_stopped m_1066 m_1068 m_47 (ci := 2) rfl (by decide) g13 (by decide) (by decide) rfl (by simp [rf_cat, rq_cat, ca_i, ca_l, ca_r]) (ct_X3_stopped l X hcq14) ?_
        obtain rfl := Option.some.inj hf
        exact g_iret (pc := 44) rfl dX3_loaded_44
    · refine g_icle_f (pc := 12) (tgt := 22) dX3_loaded_12 (by decide) c3 ?_
      refine g_sub [1, 2] rfl ?_
      exact ok_X3_loaded_L15 l X h a0 a1 q hf
theorem ct_X3_loaded (l : Launch) (X : Cx) {h : AH} {a0 : Nat} {a1 : Int32} {a2 : Int32} {q : Int32 × AH} (hf : f_X3_loaded h a0 a1 a2 = some q) : Ct l X k_X3_loaded [rf X a0, .int a1, .int a2] h (rI q) := ct_of ck_X3_loaded (by simp [lg_sl, rf_cat, rq_cat, ca_i, ca_l, ca_r]) (by simp [lv_args, rf_cat, rq_cat, ca_i, ca_l, ca_r]) (ok_X3_loaded l X hf)
set_option maxRecDepth 100000 in
set_option maxHeartbeats 4000000 in
theorem ok_X7_isFull (l : Launch) (X : Cx) {h : AH} {a0 : Nat} {q : Int32} (hf : f_X7_isFull h a0 = some q) : Go l X k_X7_isFull 0 [(0, rf X a0)] [] h (rI (q, h)) := by
  unfold f_X7_isFull at hf
  refine g_aload_n (pc := 0) 0 dX7_isFull_0 rfl rfl ?_
  obtain ⟨g1, hf⟩ := gs_some hf
  refine g_getI (pc := 1) fl_X7_19 dX7_isFull_1 g1 ?_
  refine g_aload_n (pc := 4) 0 dX7_isFull_4 rfl rfl ?_
  refine g_getI (pc := 5) fl_X7_15 dX7_isFull_5 g1 ?_
  rcases it_some hf with ⟨c2, hf⟩ | ⟨c2, hf⟩
  · refine g_iclt_t (pc := 8) (tgt := 15) dX7_isFull_8 (by decide) c2 ?_
    refine g_iconst (pc := 15) (v := (0 : Int32)) dX7_isFull_15 (by decide) ?_
    obtain rfl := Option.some.inj hf
    exact g_zret (pc := 16) rfl rfl dX7_isFull_16
  · refine g_iclt_f (pc := 8) (tgt := 15) dX7_isFull_8 (by decide) c2 ?_
    refine g_iconst (pc := 11) (v := (1 : Int32)) dX7_isFull_11 (by decide) ?_
    refine g_goto (pc := 12) (tgt := 16) dX7_isFull_12 (by decide) ?_
    obtain rfl := Option.some.inj hf
    exact g_zret (pc := 16) rfl rfl dX7_isFull_16
theorem ct_X7_isFull (l : Launch) (X : Cx) {h : AH} {a0 : Nat} {q : Int32} (hf : f_X7_isFull h a0 = some q) : Ct l X k_X7_isFull [rf X a0] h (rI (q, h)) := ct_of ck_X7_isFull (by simp [lg_sl, rf_cat, rq_cat, ca_i, ca_l, ca_r]) (by simp [lv_args, rf_cat, rq_cat, ca_i, ca_l, ca_r]) (ok_X7_isFull l X hf)
set_option maxRecDepth 100000 in
set_option maxHeartbeats 4000000 in
theorem ok_X7_add (l : Launch) (X : Cx) {h : AH} {a0 : Nat} {a1 : Int32} {a2 : Int32} {a3 : Int32} {q : AH} (hf : f_X7_add h a0 a1 a2 a3 = some q) : Go l X k_X7_add 0 [(0, rf X a0), (1, .int a1), (2, .int a2), (3, .int a3)] [] h (rV q) := by
  unfold f_X7_add at hf
  refine g_aload_n (pc := 0) 0 dX7_add_0 rfl rfl ?_
  obtain ⟨g1, hf⟩ := gs_some hf
  refine g_getR (pc := 1) fl_X7_11 dX7_add_1 g1 ?_
  refine g_aload_n (pc := 4) 0 dX7_add_4 rfl rfl ?_
  refine g_getI (pc := 5) fl_X7_19 dX7_add_5 g1 ?_
  refine g_iconst (pc := 8) (v := (3 : Int32)) dX7_add_8 (by decide) ?_
  refine g_imul (pc := 9) dX7_add_9 ?_
  refine g_iconst (pc := 10) (v := (0 : Int32)) dX7_add_10 (by decide) ?_
  refine g_iadd (pc := 11) dX7_add_11 ?_
  refine g_iload_n (pc := 12) 1 dX7_add_12 rfl rfl ?_
  obtain ⟨g2, hf⟩ := gs_some hf
  obtain ⟨b3, hf⟩ := gb_some hf
  obtain ⟨h4, eh4, hf⟩ := lt_some hf
  refine g_iast (pc := 13) g2 b3 dX7_add_13 eh4 ?_
  refine g_aload_n (pc := 14) 0 dX7_add_14 rfl rfl ?_
  have g5 : hS h4 a0 = 6 := (hS_tI eh4 g1)
  refine g_getR (pc := 15) fl_X7_11 dX7_add_15 g5 ?_
  refine g_aload_n (pc := 18) 0 dX7_add_18 rfl rfl ?_
  refine g_getI (pc := 19) fl_X7_19 dX7_add_19 g5 ?_
  refine g_iconst (pc := 22) (v := (3 : Int32)) dX7_add_22 (by decide) ?_
  refine g_imul (pc := 23) dX7_add_23 ?_
  refine g_iconst (pc := 24) (v := (1 : Int32)) dX7_add_24 (by decide) ?_
  refine g_iadd (pc := 25) dX7_add_25 ?_
  refine g_iload_n (pc := 26) 2 dX7_add_26 rfl rfl ?_
  obtain ⟨g6, hf⟩ := gs_some hf
  obtain ⟨b7, hf⟩ := gb_some hf
  obtain ⟨h8, eh8, hf⟩ := lt_some hf
  refine g_iast (pc := 27) g6 b7 dX7_add_27 eh8 ?_
  refine g_aload_n (pc := 28) 0 dX7_add_28 rfl rfl ?_
  have g9 : hS h8 a0 = 6 := (hS_tI eh8 g5)
  refine g_getR (pc := 29) fl_X7_11 dX7_add_29 g9 ?_
  refine g_aload_n (pc := 32) 0 dX7_add_32 rfl rfl ?_
  refine g_getI (pc := 33) fl_X7_19 dX7_add_33 g9 ?_
  refine g_iconst (pc := 36) (v := (3 : Int32)) dX7_add_36 (by decide) ?_
  refine g_imul (pc := 37) dX7_add_37 ?_
  refine g_iconst (pc := 38) (v := (2 : Int32)) dX7_add_38 (by decide) ?_
  refine g_iadd (pc := 39) dX7_add_39 ?_
  refine g_iload_n (pc := 40) 3 dX7_add_40 rfl rfl ?_
  obtain ⟨g10, hf⟩ := gs_some hf
  obtain ⟨b11, hf⟩ := gb_some hf
  obtain ⟨h12, eh12, hf⟩ := lt_some hf
  refine g_iast (pc := 41) g10 b11 dX7_add_41 eh12 ?_
  refine g_aload_n (pc := 42) 0 dX7_add_42 rfl rfl ?_
  refine g_dup (pc := 43) dX7_add_43 (rf_cat X _) ?_
  have g13 : hS h12 a0 = 6 := (hS_tI eh12 g9)
  refine g_getI (pc := 44) fl_X7_19 dX7_add_44 g13 ?_
  refine g_iconst (pc := 47) (v := (1 : Int32)) dX7_add_47 (by decide) ?_
  refine g_iadd (pc := 48) dX7_add_48 ?_
  obtain ⟨h14, eh14, hf⟩ := lt_some hf
  refine g_putI (pc := 49) fl_X7_19 dX7_add_49 g13 eh14 ?_
  obtain rfl := Option.some.inj hf
  exact g_vret (pc := 52) rfl dX7_add_52
theorem ct_X7_add (l : Launch) (X : Cx) {h : AH} {a0 : Nat} {a1 : Int32} {a2 : Int32} {a3 : Int32} {q : AH} (hf : f_X7_add h a0 a1 a2 a3 = some q) : Ct l X k_X7_add [rf X a0, .int a1, .int a2, .int a3] h (rV q) := ct_of ck_X7_add (by simp [lg_sl, rf_cat, rq_cat, ca_i, ca_l, ca_r]) (by simp [lv_args, rf_cat, rq_cat, ca_i, ca_l, ca_r]) (ok_X7_add l X hf)
set_option maxRecDepth 100000 in
set_option maxHeartbeats 4000000 in
theorem ok_X3_stored_L100 (l : Launch) (X : Cx) (h : AH) (a0 : Nat) (a1 : Int32) (a2 : Int32) (a8 : Int32) (q : Int32 × AH) (hf : f_X3_stored_L100 h a0 a1 a2 a8 = some q) : Go l X k_X3_stored 100 [(0, rf X a0), (1, .int a1), (2, .int a2), (8, .int a8)] [] h (rI q) := by
  unfold f_X3_stored_L100 at hf
  refine g_aload_n (pc := 100) 0 dX3_stored_100 rfl rfl ?_
  refine g_iload_n (pc := 101) 1 dX3_stored_101 rfl rfl ?_
  refine g_iconst (pc := 102) (v := (0 : Int32)) dX3_stored_102 (by decide) ?_
  refine g_iconst (pc := 103) (v := (0 : Int32)) dX3_stored_103 (by decide) ?_
  refine g_iload_n (pc := 104) 2 dX3_stored_104 rfl rfl ?_
  refine g_iconst (pc := 105) (v := (0 : Int32)) dX3_stored_105 (by decide) ?_
  refine g_iload (pc := 106) 3 dX3_stored_106 rfl ?_
  refine g_aload_n (pc := 108) 0 dX3_stored_108 rfl rfl ?_
  obtain ⟨g1, hf⟩ := gs_some hf
  refine g_getI (pc := 109) fl_X3_57 dX3_stored_109 g1 ?_
  refine g_iconst (pc := 112) (v := (4 : Int32)) dX3_stored_112 (by decide) ?_
  refine g_iadd (pc := 113) dX3_stored_113 ?_
  obtain ⟨q2, hcq2, hf⟩ := bd_some hf
  refine g_cVI (pc := 114) (k2 := k_X3_finish) (av := [.int a1, .int (0 : Int32), .int (0 : Int32), .int a2, .int (0 : Int32), .int a8, .int ((hI h a0 3) + (4 : Int32))]) (q := q2) rfl dX3_stored_114 ck_X3_finish m_1047 m_1049 m_45 (ci := 2) rfl (by decide) g1 (by decide) (by decide) rfl (by simp [rf_cat, rq_cat, ca_i, ca_l, ca_r]) (ct_X3_finish l X hcq2) ?_
  obtain rfl := Option.some.inj hf
  exact g_iret (pc := 117) rfl dX3_stored_117
set_option maxRecDepth 100000 in
set_option maxHeartbeats 4000000 in
theorem ok_X3_stored (l : Launch) (X : Cx) {h : AH} {a0 : Nat} {a1 : Int32} {a2 : Int32} {a3 : Int32} {q : Int32 × AH} (hf : f_X3_stored h a0 a1 a2 a3 = some q) : Go l X k_X3_stored 0 [(0, rf X a0), (1, .int a1), (2, .int a2), (3, .int a3)] [] h (rI q) := by
  unfold f_X3_stored at hf
  refine g_iload_n (pc := 0) 1 dX3_stored_0 rfl rfl ?_
  obtain ⟨v1, hcv1, hf⟩ := bd_some hf
  refine g_cSI (pc := 1) (k2 := k_X0_variant) (av := [.int a1]) (q := (v1, h)) rfl dX3_stored_1 ck_X0_variant m_1063 m_1064 (by decide) (by decide) rfl (by simp [rf_cat, rq_cat, ca_i, ca_l, ca_r]) (ct_X0_variant l X hcv1) ?_
  refine g_istore (pc := 4) (L' := [(4, .int v1), (0, rf X a0), (1, .int a1), (2, .int a2), (3, .int a3)]) dX3_stored_4 (by decide) rfl rfl ?_
  refine g_iload (pc := 6) 0 dX3_stored_6 rfl ?_
  refine g_iconst (pc := 8) (v := (2 : Int32)) dX3_stored_8 (by decide) ?_
  rcases it_some hf with ⟨c2, hf⟩ | ⟨c2, hf⟩
  · refine g_icle_t (pc := 9) (tgt := 19) dX3_stored_9 (by decide) c2 ?_
    refine g_iconst (pc := 19) (v := (1 : Int32)) dX3_stored_19 (by decide) ?_
    refine g_iload (pc := 20) 0 dX3_stored_20 rfl ?_
    refine g_ishl (pc := 22) dX3_stored_22 ?_
    obtain ⟨x3, ex3, hf⟩ := lt_some hf
    refine g_istore (pc := 23) (L' := [(5, .int x3), (4, .int v1), (0, rf X a0), (1, .int a1), (2, .int a2), (3, .int a3)]) dX3_stored_23 (by decide) ex3 rfl ?_
    refine g_iload_n (pc := 25) 4 dX3_stored_25 rfl rfl ?_
    refine g_iload (pc := 26) 0 dX3_stored_26 rfl ?_
    refine g_iconst (pc := 28) (v := (1 : Int32)) dX3_stored_28 (by decide) ?_
    refine g_isub (pc := 29) dX3_stored_29 ?_
    refine g_iand (pc := 30) dX3_stored_30 ?_
    rcases it_some hf with ⟨c4, hf⟩ | ⟨c4, hf⟩
    · refine g_ifeq_t (pc := 31) (tgt := 41) dX3_stored_31 (by decide) c4 ?_
      refine g_aload_n (pc := 41) 2 dX3_stored_41 rfl rfl ?_
      obtain ⟨g5, hf⟩ := gs_some hf
      refine g_getR (pc := 42) fl_X3_18 dX3_stored_42 g5 ?_
      obtain ⟨g6, hf⟩ := gs_some hf
      obtain ⟨v7, hcv7, hf⟩ := bd_some hf
      refine g_cVI (pc := 45) (k2 := k_X7_isFull) (av := []) (q := (v7, h)) rfl dX3_stored_45 ck_X7_isFull m_1103 m_1104 m_1105 (ci := 5) rfl (by decide) g6 (by decide) (by decide) rfl (by simp [rf_cat, rq_cat, ca_i, ca_l, ca_r]) (ct_X7_isFull l X hcv7) ?_
      rcases it_some hf with ⟨c8, hf⟩ | ⟨c8, hf⟩
      · refine g_ifeq_t (pc := 48) (tgt := 53) dX3_stored_48 (by decide) c8 ?_
        refine g_iload_n (pc := 53) 4 dX3_stored_53 rfl rfl ?_
        refine g_iconst (pc := 54) (v := (3 : Int32)) dX3_stored_54 (by decide) ?_
        refine g_iand (pc := 55) dX3_stored_55 ?_
        obtain ⟨x9, ex9, hf⟩ := lt_some hf
        refine g_istore (pc := 56) (L' := [(6, .int x9), (5, .int x3), (4, .int v1), (0, rf X a0), (1, .int a1), (2, .int a2), (3, .int a3)]) dX3_stored_56 (by decide) ex9 rfl ?_
        refine g_iconst (pc := 58) (v := (1 : Int32)) dX3_stored_58 (by decide) ?_
        refine g_iload (pc := 59) 1 dX3_stored_59 rfl ?_
        refine g_ishl (pc := 61) dX3_stored_61 ?_
        refine g_iconst (pc := 62) (v := (1 : Int32)) dX3_stored_62 (by decide) ?_
        refine g_isub (pc := 63) dX3_stored_63 ?_
        obtain ⟨x10, ex10, hf⟩ := lt_some hf
        refine g_istore (pc := 64) (L' := [(7, .int x10), (6, .int x9), (5, .int x3), (4, .int v1), (0, rf X a0), (1, .int a1), (2, .int a2), (3, .int a3)]) dX3_stored_64 (by decide) ex10 rfl ?_
        refine g_iload_n (pc := 66) 7 dX3_stored_66 rfl rfl ?_
        refine g_sBBN (pc := 67) 3 rfl dX3_stored_67 ?_
        refine g_iload (pc := 70) 0 dX3_stored_70 rfl ?_
        obtain ⟨b11, hf⟩ := gb_some hf
        refine g_tBB (pc := 72) b11 dX3_stored_72 ?_
        refine g_iand (pc := 73) dX3_stored_73 ?_
        obtain ⟨x12, ex12, hf⟩ := lt_some hf
        refine g_istore (pc := 74) (L' := [(8, .int x12), (7, .int x10), (6, .int x9), (5, .int x3), (4, .int v1), (0, rf X a0), (1, .int a1), (2, .int a2), (3, .int a3)]) dX3_stored_74 (by decide) ex12 rfl ?_
        refine g_aload_n (pc := 76) 5 dX3_stored_76 rfl rfl ?_
        refine g_getR (pc := 77) fl_X3_18 dX3_stored_77 g5 ?_
        refine g_iload_n (pc := 80) 7 dX3_stored_80 rfl rfl ?_
        refine g_iload (pc := 81) 2 dX3_stored_81 rfl ?_
        refine g_isub (pc := 83) dX3_stored_83 ?_
        refine g_iload (pc := 84) 1 dX3_stored_84 rfl ?_
        refine g_iload (pc := 86) 2 dX3_stored_86 rfl ?_
        refine g_ishl (pc := 88) dX3_stored_88 ?_
        refine g_iload (pc := 89) 0 dX3_stored_89 rfl ?_
        refine g_bipush (pc := 91) (v := (8 : Int32)) dX3_stored_91 (by decide) ?_
        refine g_iload (pc := 93) 2 dX3_stored_93 rfl ?_
        refine g_imul (pc := 95) dX3_stored_95 ?_
        refine g_ishl (pc := 96) dX3_stored_96 ?_
        obtain ⟨q13, hcq13, hf⟩ := bd_some hf
        refine g_cVV (pc := 97) (k2 := k_X7_add) (av := [.int (a2 - x9), .int (x10 <<< (x9 &&& 31)), .int (x12 <<< (((8 : Int32) * x9) &&& 31))]) (q := q13) rfl dX3_stored_97 ck_X7_add m_1108 m_1109 m_1110 (ci := 5) rfl (by decide) g6 (by decide) (by decide) rfl (by simp [rf_cat, rq_cat, ca_i, ca_l, ca_r]) (ct_X7_add l X hcq13) ?_
        refine g_sub [5, 6, 7, 0] rfl ?_
        exact ok_X3_stored_L100 l X q13 a0 a1 a2 x12 q hf
      · refine g_ifeq_f (pc := 48) (tgt := 53) dX3_stored_48 (by decide) c8 ?_
        refine g_iconst (pc := 51) (v := (4 : Int32)) dX3_stored_51 (by decide) ?_
        obtain rfl := Option.some.inj hf
        exact g_iret (pc := 52) rfl dX3_stored_52
    · refine g_ifeq_f (pc := 31) (tgt := 41) dX3_stored_31 (by decide) c4 ?_
      refine g_aload_n (pc := 34) 2 dX3_stored_34 rfl rfl ?_
      refine g_iload_n (pc := 35) 3 dX3_stored_35 rfl rfl ?_
      refine g_iconst (pc := 36) (v := (4 : Int32)) dX3_stored_36 (by decide) ?_
      obtain ⟨g14, hf⟩ := gs_some hf
      obtain ⟨q15, hcq15, hf⟩ := bd_some hf
      refine g_cVI (pc := 37) (k2 := k_X3_stopped) (av := [.int a1, .int (4 : Int32)]) (q := q15) rfl dX3_stored_37 ck_X3_stopped m_1066 m_1068 m_47 (ci := 2) rfl (by decide) g14 (by decide) (by decide) rfl (by simp [rf_cat, rq_cat, ca_i, ca_l, ca_r]) (ct_X3_stopped l X hcq15) ?_
      obtain rfl := Option.some.inj hf
      exact g_iret (pc := 40) rfl dX3_stored_40
  · refine g_icle_f (pc := 9) (tgt := 19) dX3_stored_9 (by decide) c2 ?_
    refine g_aload_n (pc := 12) 1 dX3_stored_12 rfl rfl ?_
    refine g_iload_n (pc := 13) 2 dX3_stored_13 rfl rfl ?_
    refine g_iconst (pc := 14) (v := (2 : Int32)) dX3_stored_14 (by decide) ?_
    obtain ⟨g16, hf⟩ := gs_some hf
    obtain ⟨q17, hcq17, hf⟩ := bd_some hf
    refine g_cVI (pc := 15) (k2 := k_X3_stopped) (av := [.int a1, .int (2 : Int32)]) (q := q17) rfl dX3_stored_15 ck_X3_stopped m_1066 m_1068 m_47 (ci := 2) rfl (by decide) g16 (by decide) (by decide) rfl (by simp [rf_cat, rq_cat, ca_i, ca_l, ca_r]) (ct_X3_stopped l X hcq17) ?_
    obtain rfl := Option.some.inj hf
    exact g_iret (pc := 18) rfl dX3_stored_18
theorem ct_X3_stored (l : Launch) (X : Cx) {h : AH} {a0 : Nat} {a1 : Int32} {a2 : Int32} {a3 : Int32} {q : Int32 × AH} (hf : f_X3_stored h a0 a1 a2 a3 = some q) : Ct l X k_X3_stored [rf X a0, .int a1, .int a2, .int a3] h (rI q) := ct_of ck_X3_stored (by simp [lg_sl, rf_cat, rq_cat, ca_i, ca_l, ca_r]) (by simp [lv_args, rf_cat, rq_cat, ca_i, ca_l, ca_r]) (ok_X3_stored l X hf)
set_option maxRecDepth 100000 in
set_option maxHeartbeats 4000000 in
theorem ok_X3_wordToChange_L28 (l : Launch) (X : Cx) (h : AH) (a0 : Nat) (a1 : Int32) (q : Int32 × AH) (hf : f_X3_wordToChange_L28 h a0 a1 = some q) : Go l X k_X3_wordToChange 28 [(0, rf X a0), (1, .int a1)] [] h (rI q) := by
  unfold f_X3_wordToChange_L28 at hf
  refine g_aload_n (pc := 28) 0 dX3_wordToChange_28 rfl rfl ?_
  refine g_iload_n (pc := 29) 1 dX3_wordToChange_29 rfl rfl ?_
  refine g_iconst (pc := 30) (v := (4 : Int32)) dX3_wordToChange_30 (by decide) ?_
  refine g_ishr (pc := 31) dX3_wordToChange_31 ?_
  refine g_iconst (pc := 32) (v := (1 : Int32)) dX3_wordToChange_32 (by decide) ?_
  obtain ⟨g1, hf⟩ := gs_some hf
  obtain ⟨q2, hcq2, hf⟩ := bd_some hf
  refine g_cVV (pc := 33) (k2 := k_X3_miss) (av := [.int (a1 >>> ((4 : Int32) &&& 31)), .int (1 : Int32)]) (q := q2) rfl dX3_wordToChange_33 ck_X3_miss m_1023 m_1025 m_42 (ci := 2) rfl (by decide) g1 (by decide) (by decide) rfl (by simp [rf_cat, rq_cat, ca_i, ca_l, ca_r]) (ct_X3_miss l X hcq2) ?_
  refine g_iconst (pc := 36) (v := (-1 : Int32)) dX3_wordToChange_36 (by decide) ?_
  obtain rfl := Option.some.inj hf
  exact g_iret (pc := 37) rfl dX3_wordToChange_37
set_option maxRecDepth 100000 in
set_option maxHeartbeats 4000000 in
theorem ok_X3_wordToChange (l : Launch) (X : Cx) {h : AH} {a0 : Nat} {a1 : Int32} {q : Int32 × AH} (hf : f_X3_wordToChange h a0 a1 = some q) : Go l X k_X3_wordToChange 0 [(0, rf X a0), (1, .int a1)] [] h (rI q) := by
  unfold f_X3_wordToChange at hf
  refine g_aload_n (pc := 0) 0 dX3_wordToChange_0 rfl rfl ?_
  obtain ⟨g1, hf⟩ := gs_some hf
  refine g_getR (pc := 1) fl_X3_25 dX3_wordToChange_1 g1 ?_
  refine g_iload_n (pc := 4) 1 dX3_wordToChange_4 rfl rfl ?_
  refine g_iconst (pc := 5) (v := (4 : Int32)) dX3_wordToChange_5 (by decide) ?_
  refine g_ishr (pc := 6) dX3_wordToChange_6 ?_
  obtain ⟨g2, hf⟩ := gs_some hf
  obtain ⟨v3, hcv3, hf⟩ := bd_some hf
  refine g_cVI (pc := 7) (k2 := k_X2_find) (av := [.int (a1 >>> ((4 : Int32) &&& 31))]) (q := (v3, h)) rfl dX3_wordToChange_7 ck_X2_find m_651 m_652 m_653 (ci := 1) rfl (by decide) g2 (by decide) (by decide) rfl (by simp [rf_cat, rq_cat, ca_i, ca_l, ca_r]) (ct_X2_find l X hcv3) ?_
  refine g_istore_n (pc := 10) (L' := [(2, .int v3), (0, rf X a0), (1, .int a1)]) dX3_wordToChange_10 rfl (by decide) rfl rfl ?_
  refine g_iload_n (pc := 11) 0 dX3_wordToChange_11 rfl rfl ?_
  rcases it_some hf with ⟨c4, hf⟩ | ⟨c4, hf⟩
  · refine g_iflt_t (pc := 12) (tgt := 28) dX3_wordToChange_12 (by decide) c4 ?_
    refine g_sub [1, 2] rfl ?_
    exact ok_X3_wordToChange_L28 l X h a0 a1 q hf
  · refine g_iflt_f (pc := 12) (tgt := 28) dX3_wordToChange_12 (by decide) c4 ?_
    refine g_aload_n (pc := 15) 1 dX3_wordToChange_15 rfl rfl ?_
    refine g_getR (pc := 16) fl_X3_25 dX3_wordToChange_16 g1 ?_
    refine g_getR (pc := 19) fl_X3_226 dX3_wordToChange_19 g2 ?_
    refine g_iload_n (pc := 22) 0 dX3_wordToChange_22 rfl rfl ?_
    obtain ⟨g5, hf⟩ := gs_some hf
    obtain ⟨b6, hf⟩ := gb_some hf
    refine g_iald (pc := 23) g5 b6 dX3_wordToChange_23 ?_
    refine g_iconst (pc := 24) (v := (2 : Int32)) dX3_wordToChange_24 (by decide) ?_
    rcases it_some hf with ⟨c7, hf⟩ | ⟨c7, hf⟩
    · refine g_icge_t (pc := 25) (tgt := 38) dX3_wordToChange_25 (by decide) c7 ?_
      refine g_aload_n (pc := 38) 1 dX3_wordToChange_38 rfl rfl ?_
      refine g_getR (pc := 39) fl_X3_25 dX3_wordToChange_39 g1 ?_
      refine g_iload_n (pc := 42) 0 dX3_wordToChange_42 rfl rfl ?_
      obtain ⟨q8, hcq8, hf⟩ := bd_some hf
      refine g_cVV (pc := 43) (k2 := k_X2_use) (av := [.int v3]) (q := q8) rfl dX3_wordToChange_43 ck_X2_use m_1033 m_668 m_669 (ci := 1) rfl (by decide) g2 (by decide) (by decide) rfl (by simp [rf_cat, rq_cat, ca_i, ca_l, ca_r]) (ct_X2_use l X hcq8) ?_
      refine g_aload_n (pc := 46) 1 dX3_wordToChange_46 rfl rfl ?_
      obtain ⟨g9, hf⟩ := gs_some hf
      refine g_getR (pc := 47) fl_X3_25 dX3_wordToChange_47 g9 ?_
      obtain ⟨g10, hf⟩ := gs_some hf
      refine g_getR (pc := 50) fl_X3_226 dX3_wordToChange_50 g10 ?_
      refine g_iload_n (pc := 53) 0 dX3_wordToChange_53 rfl rfl ?_
      refine g_iconst (pc := 54) (v := (3 : Int32)) dX3_wordToChange_54 (by decide) ?_
      obtain ⟨g11, hf⟩ := gs_some hf
      obtain ⟨b12, hf⟩ := gb_some hf
      obtain ⟨h13, eh13, hf⟩ := lt_some hf
      refine g_iast (pc := 55) g11 b12 dX3_wordToChange_55 eh13 ?_
      refine g_aload_n (pc := 56) 1 dX3_wordToChange_56 rfl rfl ?_
      refine g_dup (pc := 57) dX3_wordToChange_57 (rf_cat X _) ?_
      have g14 : hS h13 a0 = 3 := (hS_tI eh13 g9)
      refine g_getI (pc := 58) fl_X3_91 dX3_wordToChange_58 g14 ?_
      refine g_iconst (pc := 61) (v := (1 : Int32)) dX3_wordToChange_61 (by decide) ?_
      refine g_iadd (pc := 62) dX3_wordToChange_62 ?_
      obtain ⟨h15, eh15, hf⟩ := lt_some hf
      refine g_putI (pc := 63) fl_X3_91 dX3_wordToChange_63 g14 eh15 ?_
      refine g_iload_n (pc := 66) 0 dX3_wordToChange_66 rfl rfl ?_
      refine g_iload_n (pc := 67) 2 dX3_wordToChange_67 rfl rfl ?_
      obtain ⟨v16, hcv16, hf⟩ := bd_some hf
      refine g_nSI (pc := 68) (k2 := k_X10_wordOf) (av := [.int v3, .int a1]) (q := (v16, h15)) rfl dX3_wordToChange_68 ck_X10_wordOf 7 rfl m_1035 (by decide) (by decide) rfl (by simp [rf_cat, rq_cat, ca_i, ca_l, ca_r]) (ct_X10_wordOf l X hcv16) ?_
      obtain rfl := Option.some.inj hf
      exact g_iret (pc := 71) rfl dX3_wordToChange_71
    · refine g_icge_f (pc := 25) (tgt := 38) dX3_wordToChange_25 (by decide) c7 ?_
      refine g_sub [1, 2] rfl ?_
      exact ok_X3_wordToChange_L28 l X h a0 a1 q hf
theorem ct_X3_wordToChange (l : Launch) (X : Cx) {h : AH} {a0 : Nat} {a1 : Int32} {q : Int32 × AH} (hf : f_X3_wordToChange h a0 a1 = some q) : Ct l X k_X3_wordToChange [rf X a0, .int a1] h (rI q) := ct_of ck_X3_wordToChange (by simp [lg_sl, rf_cat, rq_cat, ca_i, ca_l, ca_r]) (by simp [lv_args, rf_cat, rq_cat, ca_i, ca_l, ca_r]) (ok_X3_wordToChange l X hf)
set_option maxRecDepth 100000 in
set_option maxHeartbeats 4000000 in
theorem ok_X3_swapped (l : Launch) (X : Cx) {h : AH} {a0 : Nat} {a1 : Int32} {a2 : Int32} {a3 : Int32} {q : Int32 × AH} (hf : f_X3_swapped h a0 a1 a2 a3 = some q) : Go l X k_X3_swapped 0 [(0, rf X a0), (1, .int a1), (2, .int a2), (3, .int a3)] [] h (rI q) := by
  unfold f_X3_swapped at hf
  refine g_iload_n (pc := 0) 2 dX3_swapped_0 rfl rfl ?_
  refine g_iconst (pc := 1) (v := (3 : Int32)) dX3_swapped_1 (by decide) ?_
  refine g_iand (pc := 2) dX3_swapped_2 ?_
  rcases it_some hf with ⟨c1, hf⟩ | ⟨c1, hf⟩
  · refine g_ifeq_t (pc := 3) (tgt := 13) dX3_swapped_3 (by decide) c1 ?_
    refine g_aload_n (pc := 13) 0 dX3_swapped_13 rfl rfl ?_
    obtain ⟨g2, hf⟩ := gs_some hf
    refine g_getR (pc := 14) fl_X3_18 dX3_swapped_14 g2 ?_
    obtain ⟨g3, hf⟩ := gs_some hf
    refine g_getI (pc := 17) fl_X3_100 dX3_swapped_17 g3 ?_
    rcases it_some hf with ⟨c4, hf⟩ | ⟨c4, hf⟩
    · refine g_ifle_t (pc := 20) (tgt := 25) dX3_swapped_20 (by decide) c4 ?_
      refine g_aload_n (pc := 25) 0 dX3_swapped_25 rfl rfl ?_
      refine g_iload_n (pc := 26) 2 dX3_swapped_26 rfl rfl ?_
      obtain ⟨q5, hcq5, hf⟩ := bd_some hf
      refine g_cVI (pc := 27) (k2 := k_X3_wordToChange) (av := [.int a2]) (q := q5) rfl dX3_swapped_27 ck_X3_wordToChange m_1128 m_1130 m_52 (ci := 2) rfl (by decide) g2 (by decide) (by decide) rfl (by simp [rf_cat, rq_cat, ca_i, ca_l, ca_r]) (ct_X3_wordToChange l X hcq5) ?_
      obtain ⟨x6, ex6, hf⟩ := lt_some hf
      refine g_istore (pc := 30) (L' := [(4, .int x6), (0, rf X a0), (1, .int a1), (2, .int a2), (3, .int a3)]) dX3_swapped_30 (by decide) ex6 rfl ?_
      refine g_iload (pc := 32) 0 dX3_swapped_32 rfl ?_
      rcases it_some hf with ⟨c7, hf⟩ | ⟨c7, hf⟩
      · refine g_ifge_t (pc := 34) (tgt := 40) dX3_swapped_34 (by decide) c7 ?_
        refine g_aload_n (pc := 40) 1 dX3_swapped_40 rfl rfl ?_
        obtain ⟨g8, hf⟩ := gs_some hf
        refine g_getR (pc := 41) fl_X3_25 dX3_swapped_41 g8 ?_
        obtain ⟨g9, hf⟩ := gs_some hf
        refine g_getR (pc := 44) fl_X3_199 dX3_swapped_44 g9 ?_
        refine g_iload (pc := 47) 0 dX3_swapped_47 rfl ?_
        obtain ⟨g10, hf⟩ := gs_some hf
        obtain ⟨b11, hf⟩ := gb_some hf
        refine g_iald (pc := 49) g10 b11 dX3_swapped_49 ?_
        obtain ⟨x12, ex12, hf⟩ := lt_some hf
        refine g_istore (pc := 50) (L' := [(5, .int x12), (4, .int x6), (0, rf X a0), (1, .int a1), (2, .int a2), (3, .int a3)]) dX3_swapped_50 (by decide) ex12 rfl ?_
        refine g_iload_n (pc := 52) 3 dX3_swapped_52 rfl rfl ?_
        refine g_iload (pc := 53) 0 dX3_swapped_53 rfl ?_
        refine g_iload_n (pc := 55) 5 dX3_swapped_55 rfl rfl ?_
        obtain ⟨v13, hcv13, hf⟩ := bd_some hf
        refine g_cSI (pc := 56) (k2 := k_X0_atomic) (av := [.int a1, .int x12, .int a3]) (q := (v13, q5.2)) rfl dX3_swapped_56 ck_X0_atomic m_1132 m_1133 (by decide) (by decide) rfl (by simp [rf_cat, rq_cat, ca_i, ca_l, ca_r]) (ct_X0_atomic l X hcv13) ?_
        refine g_istore (pc := 59) (L' := [(6, .int v13), (5, .int x12), (4, .int x6), (0, rf X a0), (1, .int a1), (2, .int a2), (3, .int a3)]) dX3_swapped_59 (by decide) rfl rfl ?_
        refine g_aload_n (pc := 61) 3 dX3_swapped_61 rfl rfl ?_
        refine g_getR (pc := 62) fl_X3_25 dX3_swapped_62 g8 ?_
        refine g_getR (pc := 65) fl_X3_199 dX3_swapped_65 g9 ?_
        refine g_iload (pc := 68) 2 dX3_swapped_68 rfl ?_
        refine g_iload (pc := 70) 0 dX3_swapped_70 rfl ?_
        obtain ⟨b14, hf⟩ := gb_some hf
        obtain ⟨h15, eh15, hf⟩ := lt_some hf
        refine g_iast (pc := 72) g10 b14 dX3_swapped_72 eh15 ?_
        refine g_aload_n (pc := 73) 3 dX3_swapped_73 rfl rfl ?_
        refine g_iload_n (pc := 74) 4 dX3_swapped_74 rfl rfl ?_
        refine g_iload_n (pc := 75) 4 dX3_swapped_75 rfl rfl ?_
        refine g_bipush (pc := 76) (v := (7 : Int32)) dX3_swapped_76 (by decide) ?_
        refine g_iushr (pc := 78) dX3_swapped_78 ?_
        refine g_bipush (pc := 79) (v := (31 : Int32)) dX3_swapped_79 (by decide) ?_
        refine g_iand (pc := 81) dX3_swapped_81 ?_
        refine g_iload (pc := 82) 1 dX3_swapped_82 rfl ?_
        refine g_iload_n (pc := 84) 5 dX3_swapped_84 rfl rfl ?_
        refine g_iload (pc := 85) 1 dX3_swapped_85 rfl ?_
        refine g_iload (pc := 87) 0 dX3_swapped_87 rfl ?_
        refine g_aload_n (pc := 89) 3 dX3_swapped_89 rfl rfl ?_
        have g16 : hS h15 a0 = 3 := (hS_tI eh15 g8)
        refine g_getI (pc := 90) fl_X3_57 dX3_swapped_90 g16 ?_
        refine g_iconst (pc := 93) (v := (4 : Int32)) dX3_swapped_93 (by decide) ?_
        refine g_iadd (pc := 94) dX3_swapped_94 ?_
        obtain ⟨q17, hcq17, hf⟩ := bd_some hf
        refine g_cVI (pc := 95) (k2 := k_X3_finish) (av := [.int a1, .int ((jushr a1 (7 : Int32)) &&& (31 : Int32)), .int x12, .int a2, .int x12, .int v13, .int ((hI h15 a0 3) + (4 : Int32))]) (q := q17) rfl dX3_swapped_95 ck_X3_finish m_1047 m_1049 m_45 (ci := 2) rfl (by decide) g16 (by decide) (by decide) rfl (by simp [rf_cat, rq_cat, ca_i, ca_l, ca_r]) (ct_X3_finish l X hcq17) ?_
        obtain rfl := Option.some.inj hf
        exact g_iret (pc := 98) rfl dX3_swapped_98
      · refine g_ifge_f (pc := 34) (tgt := 40) dX3_swapped_34 (by decide) c7 ?_
        refine g_bipush (pc := 37) (v := (6 : Int32)) dX3_swapped_37 (by decide) ?_
        obtain rfl := Option.some.inj hf
        exact g_iret (pc := 39) rfl dX3_swapped_39
    · refine g_ifle_f (pc := 20) (tgt := 25) dX3_swapped_20 (by decide) c4 ?_
      refine g_iconst (pc := 23) (v := (5 : Int32)) dX3_swapped_23 (by decide) ?_
      obtain rfl := Option.some.inj hf
      exact g_iret (pc := 24) rfl dX3_swapped_24
  · refine g_ifeq_f (pc := 3) (tgt := 13) dX3_swapped_3 (by decide) c1 ?_
    refine g_aload_n (pc := 6) 0 dX3_swapped_6 rfl rfl ?_
    refine g_iload_n (pc := 7) 1 dX3_swapped_7 rfl rfl ?_
    refine g_iconst (pc := 8) (v := (4 : Int32)) dX3_swapped_8 (by decide) ?_
    obtain ⟨g18, hf⟩ := gs_some hf
    obtain ⟨q19, hcq19, hf⟩ := bd_some hf
    refine g_cVI (pc := 9) (k2 := k_X3_stopped) (av := [.int a1, .int (4 : Int32)]) (q := q19) rfl dX3_swapped_9 ck_X3_stopped m_1066 m_1068 m_47 (ci := 2) rfl (by decide) g18 (by decide) (by decide) rfl (by simp [rf_cat, rq_cat, ca_i, ca_l, ca_r]) (ct_X3_stopped l X hcq19) ?_
    obtain rfl := Option.some.inj hf
    exact g_iret (pc := 12) rfl dX3_swapped_12
theorem ct_X3_swapped (l : Launch) (X : Cx) {h : AH} {a0 : Nat} {a1 : Int32} {a2 : Int32} {a3 : Int32} {q : Int32 × AH} (hf : f_X3_swapped h a0 a1 a2 a3 = some q) : Ct l X k_X3_swapped [rf X a0, .int a1, .int a2, .int a3] h (rI q) := ct_of ck_X3_swapped (by simp [lg_sl, rf_cat, rq_cat, ca_i, ca_l, ca_r]) (by simp [lv_args, rf_cat, rq_cat, ca_i, ca_l, ca_r]) (ok_X3_swapped l X hf)
set_option maxRecDepth 100000 in
set_option maxHeartbeats 4000000 in
theorem ok_X3_fenced (l : Launch) (X : Cx) {h : AH} {a0 : Nat} {a1 : Int32} {q : Int32 × AH} (hf : f_X3_fenced h a0 a1 = some q) : Go l X k_X3_fenced 0 [(0, rf X a0), (1, .int a1)] [] h (rI q) := by
  unfold f_X3_fenced at hf
  refine g_iload_n (pc := 0) 1 dX3_fenced_0 rfl rfl ?_
  obtain ⟨v1, hcv1, hf⟩ := bd_some hf
  refine g_cSI (pc := 1) (k2 := k_X0_variant) (av := [.int a1]) (q := (v1, h)) rfl dX3_fenced_1 ck_X0_variant m_1063 m_1064 (by decide) (by decide) rfl (by simp [rf_cat, rq_cat, ca_i, ca_l, ca_r]) (ct_X0_variant l X hcv1) ?_
  rcases it_some hf with ⟨c2, hf⟩ | ⟨c2, hf⟩
  · refine g_ifeq_t (pc := 4) (tgt := 14) dX3_fenced_4 (by decide) c2 ?_
    refine g_aload_n (pc := 14) 0 dX3_fenced_14 rfl rfl ?_
    obtain ⟨g3, hf⟩ := gs_some hf
    refine g_getR (pc := 15) fl_X3_18 dX3_fenced_15 g3 ?_
    obtain ⟨g4, hf⟩ := gs_some hf
    refine g_getI (pc := 18) fl_X3_100 dX3_fenced_18 g4 ?_
    rcases it_some hf with ⟨c5, hf⟩ | ⟨c5, hf⟩
    · refine g_ifle_t (pc := 21) (tgt := 28) dX3_fenced_21 (by decide) c5 ?_
      refine g_aload_n (pc := 28) 0 dX3_fenced_28 rfl rfl ?_
      refine g_iload_n (pc := 29) 1 dX3_fenced_29 rfl rfl ?_
      refine g_iconst (pc := 30) (v := (0 : Int32)) dX3_fenced_30 (by decide) ?_
      refine g_iconst (pc := 31) (v := (0 : Int32)) dX3_fenced_31 (by decide) ?_
      refine g_iconst (pc := 32) (v := (-1 : Int32)) dX3_fenced_32 (by decide) ?_
      refine g_iconst (pc := 33) (v := (0 : Int32)) dX3_fenced_33 (by decide) ?_
      refine g_iconst (pc := 34) (v := (0 : Int32)) dX3_fenced_34 (by decide) ?_
      refine g_aload_n (pc := 35) 0 dX3_fenced_35 rfl rfl ?_
      refine g_getI (pc := 36) fl_X3_57 dX3_fenced_36 g3 ?_
      refine g_iconst (pc := 39) (v := (4 : Int32)) dX3_fenced_39 (by decide) ?_
      refine g_iadd (pc := 40) dX3_fenced_40 ?_
      obtain ⟨q6, hcq6, hf⟩ := bd_some hf
      refine g_cVI (pc := 41) (k2 := k_X3_finish) (av := [.int a1, .int (0 : Int32), .int (0 : Int32), .int (-1 : Int32), .int (0 : Int32), .int (0 : Int32), .int ((hI h a0 3) + (4 : Int32))]) (q := q6) rfl dX3_fenced_41 ck_X3_finish m_1047 m_1049 m_45 (ci := 2) rfl (by decide) g3 (by decide) (by decide) rfl (by simp [rf_cat, rq_cat, ca_i, ca_l, ca_r]) (ct_X3_finish l X hcq6) ?_
      obtain rfl := Option.some.inj hf
      exact g_iret (pc := 44) rfl dX3_fenced_44
    · refine g_ifle_f (pc := 21) (tgt := 28) dX3_fenced_21 (by decide) c5 ?_
      refine g_iconst (pc := 24) (v := (5 : Int32)) dX3_fenced_24 (by decide) ?_
      refine g_goto (pc := 25) (tgt := 44) dX3_fenced_25 (by decide) ?_
      obtain rfl := Option.some.inj hf
      exact g_iret (pc := 44) rfl dX3_fenced_44
  · refine g_ifeq_f (pc := 4) (tgt := 14) dX3_fenced_4 (by decide) c2 ?_
    refine g_aload_n (pc := 7) 0 dX3_fenced_7 rfl rfl ?_
    refine g_iload_n (pc := 8) 1 dX3_fenced_8 rfl rfl ?_
    refine g_iconst (pc := 9) (v := (2 : Int32)) dX3_fenced_9 (by decide) ?_
    obtain ⟨g7, hf⟩ := gs_some hf
    obtain ⟨q8, hcq8, hf⟩ := bd_some hf
    refine g_cVI (pc := 10) (k2 := k_X3_stopped) (av := [.int a1, .int (2 : Int32)]) (q := q8) rfl dX3_fenced_10 ck_X3_stopped m_1066 m_1068 m_47 (ci := 2) rfl (by decide) g7 (by decide) (by decide) rfl (by simp [rf_cat, rq_cat, ca_i, ca_l, ca_r]) (ct_X3_stopped l X hcq8) ?_
    obtain rfl := Option.some.inj hf
    exact g_iret (pc := 13) rfl dX3_fenced_13
theorem ct_X3_fenced (l : Launch) (X : Cx) {h : AH} {a0 : Nat} {a1 : Int32} {q : Int32 × AH} (hf : f_X3_fenced h a0 a1 = some q) : Ct l X k_X3_fenced [rf X a0, .int a1] h (rI q) := ct_of ck_X3_fenced (by simp [lg_sl, rf_cat, rq_cat, ca_i, ca_l, ca_r]) (by simp [lv_args, rf_cat, rq_cat, ca_i, ca_l, ca_r]) (ok_X3_fenced l X hf)
set_option maxRecDepth 100000 in
set_option maxHeartbeats 4000000 in
theorem ok_X3_advance_L307 (l : Launch) (X : Cx) (h : AH) (s0 : Int32) (q : Int32 × AH) (hf : f_X3_advance_L307 h s0 = some q) : Go l X k_X3_advance 307 [] [.int s0] h (rI q) := by
  unfold f_X3_advance_L307 at hf
  refine g_goto (pc := 307) (tgt := 316) dX3_advance_307 (by decide) ?_
  obtain rfl := Option.some.inj hf
  exact g_iret (pc := 316) rfl dX3_advance_316
set_option maxRecDepth 100000 in
set_option maxHeartbeats 4000000 in
theorem ok_X3_advance_L198 (l : Launch) (X : Cx) (h : AH) (s0 : Int32) (q : Int32 × AH) (hf : f_X3_advance_L198 h s0 = some q) : Go l X k_X3_advance 198 [] [.int s0] h (rI q) := by
  unfold f_X3_advance_L198 at hf
  obtain rfl := Option.some.inj hf
  exact g_iret (pc := 198) rfl dX3_advance_198
set_option maxRecDepth 100000 in
set_option maxHeartbeats 4000000 in
theorem ok_X3_advance_L398 (l : Launch) (X : Cx) (h : AH) (s0 : Nat) (s1 : Int32) (s2 : Int32) (q : Int32 × AH) (hf : f_X3_advance_L398 h s0 s1 s2 = some q) : Go l X k_X3_advance 398 [] [.int s2, .int s1, rf X s0] h (rI q) := by
  unfold f_X3_advance_L398 at hf
  obtain ⟨g1, hf⟩ := gs_some hf
  obtain ⟨q2, hcq2, hf⟩ := bd_some hf
  refine g_cVI (pc := 398) (k2 := k_X3_stopped) (av := [.int s1, .int s2]) (q := q2) rfl dX3_advance_398 ck_X3_stopped m_1066 m_1068 m_47 (ci := 2) rfl (by decide) g1 (by decide) (by decide) rfl (by simp [rf_cat, rq_cat, ca_i, ca_l, ca_r]) (ct_X3_stopped l X hcq2) ?_
  obtain rfl := Option.some.inj hf
  exact g_iret (pc := 401) rfl dX3_advance_401
set_option maxRecDepth 100000 in
set_option maxHeartbeats 4000000 in
theorem ok_X3_advance_L393 (l : Launch) (X : Cx) (h : AH) (s0 : Nat) (s1 : Int32) (q : Int32 × AH) (hf : f_X3_advance_L393 h s0 s1 = some q) : Go l X k_X3_advance 393 [] [.int s1, rf X s0] h (rI q) := by
  unfold f_X3_advance_L393 at hf
  refine g_iconst (pc := 393) (v := (1 : Int32)) dX3_advance_393 (by decide) ?_
  refine g_goto (pc := 394) (tgt := 398) dX3_advance_394 (by decide) ?_
  exact ok_X3_advance_L398 l X h s0 s1 (1 : Int32) q hf
set_option maxRecDepth 100000 in
set_option maxHeartbeats 4000000 in
theorem ok_X3_advance (l : Launch) (X : Cx) {h : AH} {a0 : Nat} {q : Int32 × AH} (hf : f_X3_advance h a0 = some q) : Go l X k_X3_advance 0 [(0, rf X a0)] [] h (rI q) := by
  unfold f_X3_advance at hf
  refine g_aload_n (pc := 0) 0 dX3_advance_0 rfl rfl ?_
  obtain ⟨g1, hf⟩ := gs_some hf
  refine g_getI (pc := 1) fl_X3_60 dX3_advance_1 g1 ?_
  rcases it_some hf with ⟨c2, hf⟩ | ⟨c2, hf⟩
  · refine g_ifeq_t (pc := 4) (tgt := 9) dX3_advance_4 (by decide) c2 ?_
    refine g_aload_n (pc := 9) 0 dX3_advance_9 rfl rfl ?_
    refine g_getI (pc := 10) fl_X3_57 dX3_advance_10 g1 ?_
    refine g_iconst (pc := 13) (v := (3 : Int32)) dX3_advance_13 (by decide) ?_
    refine g_iand (pc := 14) dX3_advance_14 ?_
    rcases it_some hf with ⟨c3, hf⟩ | ⟨c3, hf⟩
    · refine g_ifeq_t (pc := 15) (tgt := 25) dX3_advance_15 (by decide) c3 ?_
      refine g_aload_n (pc := 25) 0 dX3_advance_25 rfl rfl ?_
      refine g_aload_n (pc := 26) 0 dX3_advance_26 rfl rfl ?_
      refine g_getI (pc := 27) fl_X3_57 dX3_advance_27 g1 ?_
      refine g_bipush (pc := 30) (v := (15 : Int32)) dX3_advance_30 (by decide) ?_
      obtain ⟨q4, hcq4, hf⟩ := bd_some hf
      refine g_cVI (pc := 32) (k2 := k_X3_reads) (av := [.int (hI h a0 3), .int (15 : Int32)]) (q := q4) rfl dX3_advance_32 ck_X3_reads m_1011 m_1013 m_41 (ci := 2) rfl (by decide) g1 (by decide) (by decide) rfl (by simp [rf_cat, rq_cat, ca_i, ca_l, ca_r]) (ct_X3_reads l X hcq4) ?_
      rcases it_some hf with ⟨c5, hf⟩ | ⟨c5, hf⟩
      · refine g_ifne_t (pc := 35) (tgt := 40) dX3_advance_35 (by decide) c5 ?_
        refine g_aload_n (pc := 40) 0 dX3_advance_40 rfl rfl ?_
        obtain ⟨g6, hf⟩ := gs_some hf
        refine g_getI (pc := 41) fl_X3_110 dX3_advance_41 g6 ?_
        obtain ⟨x7, ex7, hf⟩ := lt_some hf
        refine g_istore_n (pc := 44) (L' := [(1, .int x7), (0, rf X a0)]) dX3_advance_44 rfl (by decide) ex7 (by simp [rf_cat, rq_cat]) ?_
        refine g_aload_n (pc := 45) 1 dX3_advance_45 rfl rfl ?_
        refine g_getR (pc := 46) fl_X3_9 dX3_advance_46 g6 ?_
        refine g_iload_n (pc := 49) 0 dX3_advance_49 rfl rfl ?_
        refine g_bipush (pc := 50) (v := (15 : Int32)) dX3_advance_50 (by decide) ?_
        refine g_iushr (pc := 52) dX3_advance_52 ?_
        refine g_bipush (pc := 53) (v := (31 : Int32)) dX3_advance_53 (by decide) ?_
        refine g_iand (pc := 55) dX3_advance_55 ?_
        obtain ⟨g8, hf⟩ := gs_some hf
        obtain ⟨b9, hf⟩ := gb_some hf
        refine g_iald (pc := 56) g8 b9 dX3_advance_56 ?_
        obtain ⟨x10, ex10, hf⟩ := lt_some hf
        refine g_istore_n (pc := 57) (L' := [(2, .int x10), (1, .int x7), (0, rf X a0)]) dX3_advance_57 rfl (by decide) ex10 rfl ?_
        refine g_aload_n (pc := 58) 2 dX3_advance_58 rfl rfl ?_
        refine g_getR (pc := 59) fl_X3_9 dX3_advance_59 g6 ?_
        refine g_iload_n (pc := 62) 1 dX3_advance_62 rfl rfl ?_
        refine g_bipush (pc := 63) (v := (20 : Int32)) dX3_advance_63 (by decide) ?_
        refine g_iushr (pc := 65) dX3_advance_65 ?_
        refine g_bipush (pc := 66) (v := (31 : Int32)) dX3_advance_66 (by decide) ?_
        refine g_iand (pc := 68) dX3_advance_68 ?_
        obtain ⟨b11, hf⟩ := gb_some hf
        refine g_iald (pc := 69) g8 b11 dX3_advance_69 ?_
        obtain ⟨x12, ex12, hf⟩ := lt_some hf
        refine g_istore_n (pc := 70) (L' := [(3, .int x12), (2, .int x10), (1, .int x7), (0, rf X a0)]) dX3_advance_70 rfl (by decide) ex12 rfl ?_
        refine g_iload_n (pc := 71) 2 dX3_advance_71 rfl rfl ?_
        refine g_bipush (pc := 72) (v := (127 : Int32)) dX3_advance_72 (by decide) ?_
        refine g_iand (pc := 74) dX3_advance_74 ?_
        rcases it_some hf with ⟨c13, hf⟩ | ⟨c13, hf⟩
        · refine g_lsw (pc := 75) (tgt := 253) (3 : Int32) dX3_advance_75 (by decide +kernel) c13 (off := 178) (by decide +kernel) (by decide) ?_
          refine g_aload_n (pc := 253) 3 dX3_advance_253 rfl rfl ?_
          refine g_iload_n (pc := 254) 2 dX3_advance_254 rfl rfl ?_
          refine g_iload_n (pc := 255) 1 dX3_advance_255 rfl rfl ?_
          refine g_iload_n (pc := 256) 2 dX3_advance_256 rfl rfl ?_
          refine g_bipush (pc := 257) (v := (20 : Int32)) dX3_advance_257 (by decide) ?_
          refine g_ishr (pc := 259) dX3_advance_259 ?_
          refine g_iadd (pc := 260) dX3_advance_260 ?_
          refine g_sipush (pc := 261) (v := (8191 : Int32)) dX3_advance_261 (by decide) ?_
          refine g_iand (pc := 264) dX3_advance_264 ?_
          obtain ⟨q14, hcq14, hf⟩ := bd_some hf
          refine g_cVI (pc := 265) (k2 := k_X3_loaded) (av := [.int x7, .int ((x10 + (x7 >>> ((20 : Int32) &&& 31))) &&& (8191 : Int32))]) (q := q14) rfl dX3_advance_265 ck_X3_loaded m_1088 m_1090 m_49 (ci := 2) rfl (by decide) g6 (by decide) (by decide) rfl (by simp [rf_cat, rq_cat, ca_i, ca_l, ca_r]) (ct_X3_loaded l X hcq14) ?_
          obtain rfl := Option.some.inj hf
          exact g_iret (pc := 268) rfl dX3_advance_268
        ·
          rcases it_some hf with ⟨c15, hf⟩ | ⟨c15, hf⟩
          · refine g_lsw (pc := 75) (tgt := 373) (15 : Int32) dX3_advance_75 (by decide +kernel) c15 (off := 298) (by decide +kernel) (by decide) ?_
            refine g_aload_n (pc := 373) 3 dX3_advance_373 rfl rfl ?_
            refine g_iload_n (pc := 374) 2 dX3_advance_374 rfl rfl ?_
            obtain ⟨q16, hcq16, hf⟩ := bd_some hf
            refine g_cVI (pc := 375) (k2 := k_X3_fenced) (av := [.int x7]) (q := q16) rfl dX3_advance_375 ck_X3_fenced m_1139 m_1141 m_53 (ci := 2) rfl (by decide) g6 (by decide) (by decide) rfl (by simp [rf_cat, rq_cat, ca_i, ca_l, ca_r]) (ct_X3_fenced l X hcq16) ?_
            obtain rfl := Option.some.inj hf
            exact g_iret (pc := 378) rfl dX3_advance_378
          ·
            rcases it_some hf with ⟨c17, hf⟩ | ⟨c17, hf⟩
            · refine g_lsw (pc := 75) (tgt := 286) (19 : Int32) dX3_advance_75 (by decide +kernel) c17 (off := 211) (by decide +kernel) (by decide) ?_
              refine g_iload_n (pc := 286) 2 dX3_advance_286 rfl rfl ?_
              obtain ⟨v18, hcv18, hf⟩ := bd_some hf
              refine g_cSI (pc := 287) (k2 := k_X0_knowsShift) (av := [.int x7]) (q := (v18, q4.2)) rfl dX3_advance_287 ck_X0_knowsShift m_1112 m_1113 (by decide) (by decide) rfl (by simp [rf_cat, rq_cat, ca_i, ca_l, ca_r]) (ct_X0_knowsShift l X hcv18) ?_
              rcases it_some hf with ⟨c19, hf⟩ | ⟨c19, hf⟩
              · refine g_ifeq_t (pc := 290) (tgt := 310) dX3_advance_290 (by decide) c19 ?_
                refine g_aload_n (pc := 310) 3 dX3_advance_310 rfl rfl ?_
                refine g_iload_n (pc := 311) 2 dX3_advance_311 rfl rfl ?_
                refine g_iconst (pc := 312) (v := (2 : Int32)) dX3_advance_312 (by decide) ?_
                obtain ⟨q20, hcq20, hf⟩ := bd_some hf
                refine g_cVI (pc := 313) (k2 := k_X3_stopped) (av := [.int x7, .int (2 : Int32)]) (q := q20) rfl dX3_advance_313 ck_X3_stopped m_1066 m_1068 m_47 (ci := 2) rfl (by decide) g6 (by decide) (by decide) rfl (by simp [rf_cat, rq_cat, ca_i, ca_l, ca_r]) (ct_X3_stopped l X hcq20) ?_
                obtain rfl := Option.some.inj hf
                exact g_iret (pc := 316) rfl dX3_advance_316
              · refine g_ifeq_f (pc := 290) (tgt := 310) dX3_advance_290 (by decide) c19 ?_
                refine g_aload_n (pc := 293) 3 dX3_advance_293 rfl rfl ?_
                refine g_iload_n (pc := 294) 2 dX3_advance_294 rfl rfl ?_
                refine g_iload_n (pc := 295) 2 dX3_advance_295 rfl rfl ?_
                refine g_iload_n (pc := 296) 1 dX3_advance_296 rfl rfl ?_
                refine g_iload_n (pc := 297) 2 dX3_advance_297 rfl rfl ?_
                refine g_bipush (pc := 298) (v := (20 : Int32)) dX3_advance_298 (by decide) ?_
                refine g_ishr (pc := 300) dX3_advance_300 ?_
                obtain ⟨v21, hcv21, hf⟩ := bd_some hf
                refine g_cSI (pc := 301) (k2 := k_X0_reckon) (av := [.int x7, .int x10, .int (x7 >>> ((20 : Int32) &&& 31))]) (q := (v21, q4.2)) rfl dX3_advance_301 ck_X0_reckon m_1115 m_1116 (by decide) (by decide) rfl (by simp [rf_cat, rq_cat, ca_i, ca_l, ca_r]) (ct_X0_reckon l X hcv21) ?_
                obtain ⟨q22, hcq22, hf⟩ := bd_some hf
                refine g_cVI (pc := 304) (k2 := k_X3_reckoned) (av := [.int x7, .int v21]) (q := q22) rfl dX3_advance_304 ck_X3_reckoned m_1043 m_1045 m_44 (ci := 2) rfl (by decide) g6 (by decide) (by decide) rfl (by simp [rf_cat, rq_cat, ca_i, ca_l, ca_r]) (ct_X3_reckoned l X hcq22) ?_
                refine g_sub [] rfl ?_
                exact ok_X3_advance_L307 l X q22.2 q22.1 q hf
            ·
              rcases it_some hf with ⟨c23, hf⟩ | ⟨c23, hf⟩
              · refine g_lsw (pc := 75) (tgt := 183) (23 : Int32) dX3_advance_75 (by decide +kernel) c23 (off := 108) (by decide +kernel) (by decide) ?_
                refine g_aload_n (pc := 183) 3 dX3_advance_183 rfl rfl ?_
                refine g_iload_n (pc := 184) 2 dX3_advance_184 rfl rfl ?_
                refine g_aload_n (pc := 185) 3 dX3_advance_185 rfl rfl ?_
                refine g_getI (pc := 186) fl_X3_57 dX3_advance_186 g6 ?_
                refine g_iload_n (pc := 189) 2 dX3_advance_189 rfl rfl ?_
                refine g_sipush (pc := 190) (v := (-4096 : Int32)) dX3_advance_190 (by decide) ?_
                refine g_iand (pc := 193) dX3_advance_193 ?_
                refine g_iadd (pc := 194) dX3_advance_194 ?_
                obtain ⟨q24, hcq24, hf⟩ := bd_some hf
                refine g_cVI (pc := 195) (k2 := k_X3_reckoned) (av := [.int x7, .int ((hI q4.2 a0 3) + (x7 &&& (-4096 : Int32)))]) (q := q24) rfl dX3_advance_195 ck_X3_reckoned m_1043 m_1045 m_44 (ci := 2) rfl (by decide) g6 (by decide) (by decide) rfl (by simp [rf_cat, rq_cat, ca_i, ca_l, ca_r]) (ct_X3_reckoned l X hcq24) ?_
                refine g_sub [] rfl ?_
                exact ok_X3_advance_L198 l X q24.2 q24.1 q hf
              ·
                rcases it_some hf with ⟨c25, hf⟩ | ⟨c25, hf⟩
                · refine g_lsw (pc := 75) (tgt := 269) (35 : Int32) dX3_advance_75 (by decide +kernel) c25 (off := 194) (by decide +kernel) (by decide) ?_
                  refine g_aload_n (pc := 269) 3 dX3_advance_269 rfl rfl ?_
                  refine g_iload_n (pc := 270) 2 dX3_advance_270 rfl rfl ?_
                  refine g_iload_n (pc := 271) 1 dX3_advance_271 rfl rfl ?_
                  refine g_iload_n (pc := 272) 2 dX3_advance_272 rfl rfl ?_
                  obtain ⟨v26, hcv26, hf⟩ := bd_some hf
                  refine g_cSI (pc := 273) (k2 := k_X0_storeDistance) (av := [.int x7]) (q := (v26, q4.2)) rfl dX3_advance_273 ck_X0_storeDistance m_1096 m_1097 (by decide) (by decide) rfl (by simp [rf_cat, rq_cat, ca_i, ca_l, ca_r]) (ct_X0_storeDistance l X hcv26) ?_
                  refine g_iadd (pc := 276) dX3_advance_276 ?_
                  refine g_sipush (pc := 277) (v := (8191 : Int32)) dX3_advance_277 (by decide) ?_
                  refine g_iand (pc := 280) dX3_advance_280 ?_
                  refine g_iload_n (pc := 281) 0 dX3_advance_281 rfl rfl ?_
                  obtain ⟨q27, hcq27, hf⟩ := bd_some hf
                  refine g_cVI (pc := 282) (k2 := k_X3_stored) (av := [.int x7, .int ((x10 + v26) &&& (8191 : Int32)), .int x12]) (q := q27) rfl dX3_advance_282 ck_X3_stored m_1099 m_1101 m_50 (ci := 2) rfl (by decide) g6 (by decide) (by decide) rfl (by simp [rf_cat, rq_cat, ca_i, ca_l, ca_r]) (ct_X3_stored l X hcq27) ?_
                  obtain rfl := Option.some.inj hf
                  exact g_iret (pc := 285) rfl dX3_advance_285
                ·
                  rcases it_some hf with ⟨c28, hf⟩ | ⟨c28, hf⟩
                  · refine g_lsw (pc := 75) (tgt := 345) (47 : Int32) dX3_advance_75 (by decide +kernel) c28 (off := 270) (by decide +kernel) (by decide) ?_
                    refine g_iload_n (pc := 345) 2 dX3_advance_345 rfl rfl ?_
                    obtain ⟨v29, hcv29, hf⟩ := bd_some hf
                    refine g_cSI (pc := 346) (k2 := k_X0_knowsAtomic) (av := [.int x7]) (q := (v29, q4.2)) rfl dX3_advance_346 ck_X0_knowsAtomic m_1121 m_1122 (by decide) (by decide) rfl (by simp [rf_cat, rq_cat, ca_i, ca_l, ca_r]) (ct_X0_knowsAtomic l X hcv29) ?_
                    rcases it_some hf with ⟨c30, hf⟩ | ⟨c30, hf⟩
                    · refine g_ifeq_t (pc := 349) (tgt := 366) dX3_advance_349 (by decide) c30 ?_
                      refine g_aload_n (pc := 366) 3 dX3_advance_366 rfl rfl ?_
                      refine g_iload_n (pc := 367) 2 dX3_advance_367 rfl rfl ?_
                      refine g_iconst (pc := 368) (v := (2 : Int32)) dX3_advance_368 (by decide) ?_
                      obtain ⟨q31, hcq31, hf⟩ := bd_some hf
                      refine g_cVI (pc := 369) (k2 := k_X3_stopped) (av := [.int x7, .int (2 : Int32)]) (q := q31) rfl dX3_advance_369 ck_X3_stopped m_1066 m_1068 m_47 (ci := 2) rfl (by decide) g6 (by decide) (by decide) rfl (by simp [rf_cat, rq_cat, ca_i, ca_l, ca_r]) (ct_X3_stopped l X hcq31) ?_
                      obtain rfl := Option.some.inj hf
                      exact g_iret (pc := 372) rfl dX3_advance_372
                    · refine g_ifeq_f (pc := 349) (tgt := 366) dX3_advance_349 (by decide) c30 ?_
                      refine g_aload_n (pc := 352) 3 dX3_advance_352 rfl rfl ?_
                      refine g_iload_n (pc := 353) 2 dX3_advance_353 rfl rfl ?_
                      refine g_iload_n (pc := 354) 1 dX3_advance_354 rfl rfl ?_
                      refine g_sipush (pc := 355) (v := (8191 : Int32)) dX3_advance_355 (by decide) ?_
                      refine g_iand (pc := 358) dX3_advance_358 ?_
                      refine g_iload_n (pc := 359) 0 dX3_advance_359 rfl rfl ?_
                      obtain ⟨q32, hcq32, hf⟩ := bd_some hf
                      refine g_cVI (pc := 360) (k2 := k_X3_swapped) (av := [.int x7, .int (x10 &&& (8191 : Int32)), .int x12]) (q := q32) rfl dX3_advance_360 ck_X3_swapped m_1124 m_1126 m_51 (ci := 2) rfl (by decide) g6 (by decide) (by decide) rfl (by simp [rf_cat, rq_cat, ca_i, ca_l, ca_r]) (ct_X3_swapped l X hcq32) ?_
                      refine g_goto (pc := 363) (tgt := 372) dX3_advance_363 (by decide) ?_
                      obtain rfl := Option.some.inj hf
                      exact g_iret (pc := 372) rfl dX3_advance_372
                  ·
                    rcases it_some hf with ⟨c33, hf⟩ | ⟨c33, hf⟩
                    · refine g_lsw (pc := 75) (tgt := 317) (51 : Int32) dX3_advance_75 (by decide +kernel) c33 (off := 242) (by decide +kernel) (by decide) ?_
                      refine g_iload_n (pc := 317) 2 dX3_advance_317 rfl rfl ?_
                      obtain ⟨v34, hcv34, hf⟩ := bd_some hf
                      refine g_cSI (pc := 318) (k2 := k_X0_knows) (av := [.int x7]) (q := (v34, q4.2)) rfl dX3_advance_318 ck_X0_knows m_1118 m_1119 (by decide) (by decide) rfl (by simp [rf_cat, rq_cat, ca_i, ca_l, ca_r]) (ct_X0_knows l X hcv34) ?_
                      rcases it_some hf with ⟨c35, hf⟩ | ⟨c35, hf⟩
                      · refine g_ifeq_t (pc := 321) (tgt := 338) dX3_advance_321 (by decide) c35 ?_
                        refine g_aload_n (pc := 338) 3 dX3_advance_338 rfl rfl ?_
                        refine g_iload_n (pc := 339) 2 dX3_advance_339 rfl rfl ?_
                        refine g_iconst (pc := 340) (v := (2 : Int32)) dX3_advance_340 (by decide) ?_
                        obtain ⟨q36, hcq36, hf⟩ := bd_some hf
                        refine g_cVI (pc := 341) (k2 := k_X3_stopped) (av := [.int x7, .int (2 : Int32)]) (q := q36) rfl dX3_advance_341 ck_X3_stopped m_1066 m_1068 m_47 (ci := 2) rfl (by decide) g6 (by decide) (by decide) rfl (by simp [rf_cat, rq_cat, ca_i, ca_l, ca_r]) (ct_X3_stopped l X hcq36) ?_
                        obtain rfl := Option.some.inj hf
                        exact g_iret (pc := 344) rfl dX3_advance_344
                      · refine g_ifeq_f (pc := 321) (tgt := 338) dX3_advance_321 (by decide) c35 ?_
                        refine g_aload_n (pc := 324) 3 dX3_advance_324 rfl rfl ?_
                        refine g_iload_n (pc := 325) 2 dX3_advance_325 rfl rfl ?_
                        refine g_iload_n (pc := 326) 2 dX3_advance_326 rfl rfl ?_
                        refine g_iload_n (pc := 327) 1 dX3_advance_327 rfl rfl ?_
                        refine g_iload_n (pc := 328) 0 dX3_advance_328 rfl rfl ?_
                        obtain ⟨v37, hcv37, hf⟩ := bd_some hf
                        refine g_cSI (pc := 329) (k2 := k_X0_reckon) (av := [.int x7, .int x10, .int x12]) (q := (v37, q4.2)) rfl dX3_advance_329 ck_X0_reckon m_1115 m_1116 (by decide) (by decide) rfl (by simp [rf_cat, rq_cat, ca_i, ca_l, ca_r]) (ct_X0_reckon l X hcv37) ?_
                        obtain ⟨q38, hcq38, hf⟩ := bd_some hf
                        refine g_cVI (pc := 332) (k2 := k_X3_reckoned) (av := [.int x7, .int v37]) (q := q38) rfl dX3_advance_332 ck_X3_reckoned m_1043 m_1045 m_44 (ci := 2) rfl (by decide) g6 (by decide) (by decide) rfl (by simp [rf_cat, rq_cat, ca_i, ca_l, ca_r]) (ct_X3_reckoned l X hcq38) ?_
                        refine g_goto (pc := 335) (tgt := 344) dX3_advance_335 (by decide) ?_
                        obtain rfl := Option.some.inj hf
                        exact g_iret (pc := 344) rfl dX3_advance_344
                    ·
                      rcases it_some hf with ⟨c39, hf⟩ | ⟨c39, hf⟩
                      · refine g_lsw (pc := 75) (tgt := 172) (55 : Int32) dX3_advance_75 (by decide +kernel) c39 (off := 97) (by decide +kernel) (by decide) ?_
                        refine g_aload_n (pc := 172) 3 dX3_advance_172 rfl rfl ?_
                        refine g_iload_n (pc := 173) 2 dX3_advance_173 rfl rfl ?_
                        refine g_iload_n (pc := 174) 2 dX3_advance_174 rfl rfl ?_
                        refine g_sipush (pc := 175) (v := (-4096 : Int32)) dX3_advance_175 (by decide) ?_
                        refine g_iand (pc := 178) dX3_advance_178 ?_
                        obtain ⟨q40, hcq40, hf⟩ := bd_some hf
                        refine g_cVI (pc := 179) (k2 := k_X3_reckoned) (av := [.int x7, .int (x7 &&& (-4096 : Int32))]) (q := q40) rfl dX3_advance_179 ck_X3_reckoned m_1043 m_1045 m_44 (ci := 2) rfl (by decide) g6 (by decide) (by decide) rfl (by simp [rf_cat, rq_cat, ca_i, ca_l, ca_r]) (ct_X3_reckoned l X hcq40) ?_
                        obtain rfl := Option.some.inj hf
                        exact g_iret (pc := 182) rfl dX3_advance_182
                      ·
                        rcases it_some hf with ⟨c41, hf⟩ | ⟨c41, hf⟩
                        · refine g_lsw (pc := 75) (tgt := 245) (99 : Int32) dX3_advance_75 (by decide +kernel) c41 (off := 170) (by decide +kernel) (by decide) ?_
                          refine g_aload_n (pc := 245) 3 dX3_advance_245 rfl rfl ?_
                          refine g_iload_n (pc := 246) 2 dX3_advance_246 rfl rfl ?_
                          refine g_iload_n (pc := 247) 1 dX3_advance_247 rfl rfl ?_
                          refine g_iload_n (pc := 248) 0 dX3_advance_248 rfl rfl ?_
                          obtain ⟨q42, hcq42, hf⟩ := bd_some hf
                          refine g_cVI (pc := 249) (k2 := k_X3_branched) (av := [.int x7, .int x10, .int x12]) (q := q42) rfl dX3_advance_249 ck_X3_branched m_1070 m_1072 m_48 (ci := 2) rfl (by decide) g6 (by decide) (by decide) rfl (by simp [rf_cat, rq_cat, ca_i, ca_l, ca_r]) (ct_X3_branched l X hcq42) ?_
                          obtain rfl := Option.some.inj hf
                          exact g_iret (pc := 252) rfl dX3_advance_252
                        ·
                          rcases it_some hf with ⟨c43, hf⟩ | ⟨c43, hf⟩
                          · refine g_lsw (pc := 75) (tgt := 214) (103 : Int32) dX3_advance_75 (by decide +kernel) c43 (off := 139) (by decide +kernel) (by decide) ?_
                            refine g_iload_n (pc := 214) 2 dX3_advance_214 rfl rfl ?_
                            obtain ⟨v44, hcv44, hf⟩ := bd_some hf
                            refine g_cSI (pc := 215) (k2 := k_X0_variant) (av := [.int x7]) (q := (v44, q4.2)) rfl dX3_advance_215 ck_X0_variant m_1063 m_1064 (by decide) (by decide) rfl (by simp [rf_cat, rq_cat, ca_i, ca_l, ca_r]) (ct_X0_variant l X hcv44) ?_
                            rcases it_some hf with ⟨c45, hf⟩ | ⟨c45, hf⟩
                            · refine g_ifne_t (pc := 218) (tgt := 238) dX3_advance_218 (by decide) c45 ?_
                              refine g_aload_n (pc := 238) 3 dX3_advance_238 rfl rfl ?_
                              refine g_iload_n (pc := 239) 2 dX3_advance_239 rfl rfl ?_
                              refine g_iconst (pc := 240) (v := (2 : Int32)) dX3_advance_240 (by decide) ?_
                              obtain ⟨q46, hcq46, hf⟩ := bd_some hf
                              refine g_cVI (pc := 241) (k2 := k_X3_stopped) (av := [.int x7, .int (2 : Int32)]) (q := q46) rfl dX3_advance_241 ck_X3_stopped m_1066 m_1068 m_47 (ci := 2) rfl (by decide) g6 (by decide) (by decide) rfl (by simp [rf_cat, rq_cat, ca_i, ca_l, ca_r]) (ct_X3_stopped l X hcq46) ?_
                              obtain rfl := Option.some.inj hf
                              exact g_iret (pc := 244) rfl dX3_advance_244
                            · refine g_ifne_f (pc := 218) (tgt := 238) dX3_advance_218 (by decide) (Decidable.of_not_not c45) ?_
                              refine g_aload_n (pc := 221) 3 dX3_advance_221 rfl rfl ?_
                              refine g_iload_n (pc := 222) 2 dX3_advance_222 rfl rfl ?_
                              refine g_iload_n (pc := 223) 1 dX3_advance_223 rfl rfl ?_
                              refine g_iload_n (pc := 224) 2 dX3_advance_224 rfl rfl ?_
                              refine g_bipush (pc := 225) (v := (20 : Int32)) dX3_advance_225 (by decide) ?_
                              refine g_ishr (pc := 227) dX3_advance_227 ?_
                              refine g_iadd (pc := 228) dX3_advance_228 ?_
                              refine g_bipush (pc := 229) (v := (-2 : Int32)) dX3_advance_229 (by decide) ?_
                              refine g_iand (pc := 231) dX3_advance_231 ?_
                              obtain ⟨q47, hcq47, hf⟩ := bd_some hf
                              refine g_cVI (pc := 232) (k2 := k_X3_jumped) (av := [.int x7, .int ((x10 + (x7 >>> ((20 : Int32) &&& 31))) &&& (-2 : Int32))]) (q := q47) rfl dX3_advance_232 ck_X3_jumped m_1059 m_1061 m_46 (ci := 2) rfl (by decide) g6 (by decide) (by decide) rfl (by simp [rf_cat, rq_cat, ca_i, ca_l, ca_r]) (ct_X3_jumped l X hcq47) ?_
                              refine g_goto (pc := 235) (tgt := 244) dX3_advance_235 (by decide) ?_
                              obtain rfl := Option.some.inj hf
                              exact g_iret (pc := 244) rfl dX3_advance_244
                          ·
                            rcases it_some hf with ⟨c48, hf⟩ | ⟨c48, hf⟩
                            · refine g_lsw (pc := 75) (tgt := 199) (111 : Int32) dX3_advance_75 (by decide +kernel) c48 (off := 124) (by decide +kernel) (by decide) ?_
                              refine g_aload_n (pc := 199) 3 dX3_advance_199 rfl rfl ?_
                              refine g_iload_n (pc := 200) 2 dX3_advance_200 rfl rfl ?_
                              refine g_aload_n (pc := 201) 3 dX3_advance_201 rfl rfl ?_
                              refine g_getI (pc := 202) fl_X3_57 dX3_advance_202 g6 ?_
                              refine g_iload_n (pc := 205) 2 dX3_advance_205 rfl rfl ?_
                              obtain ⟨v49, hcv49, hf⟩ := bd_some hf
                              refine g_cSI (pc := 206) (k2 := k_X0_jumpDistance) (av := [.int x7]) (q := (v49, q4.2)) rfl dX3_advance_206 ck_X0_jumpDistance m_1055 m_1056 (by decide) (by decide) rfl (by simp [rf_cat, rq_cat, ca_i, ca_l, ca_r]) (ct_X0_jumpDistance l X hcv49) ?_
                              refine g_iadd (pc := 209) dX3_advance_209 ?_
                              obtain ⟨q50, hcq50, hf⟩ := bd_some hf
                              refine g_cVI (pc := 210) (k2 := k_X3_jumped) (av := [.int x7, .int ((hI q4.2 a0 3) + v49)]) (q := q50) rfl dX3_advance_210 ck_X3_jumped m_1059 m_1061 m_46 (ci := 2) rfl (by decide) g6 (by decide) (by decide) rfl (by simp [rf_cat, rq_cat, ca_i, ca_l, ca_r]) (ct_X3_jumped l X hcq50) ?_
                              obtain rfl := Option.some.inj hf
                              exact g_iret (pc := 213) rfl dX3_advance_213
                            ·
                              refine g_lswD (pc := 75) (tgt := 379) [(3 : Int32), (15 : Int32), (19 : Int32), (23 : Int32), (35 : Int32), (47 : Int32), (51 : Int32), (55 : Int32), (99 : Int32), (103 : Int32), (111 : Int32)] dX3_advance_75 (by decide +kernel) (by decide +kernel) (cons_ne c13 (cons_ne c15 (cons_ne c17 (cons_ne c23 (cons_ne c25 (cons_ne c28 (cons_ne c33 (cons_ne c39 (cons_ne c41 (cons_ne c43 (cons_ne c48 nil_ne))))))))))) (by decide) ?_
                              refine g_aload_n (pc := 379) 3 dX3_advance_379 rfl rfl ?_
                              refine g_iload_n (pc := 380) 2 dX3_advance_380 rfl rfl ?_
                              refine g_iload_n (pc := 381) 2 dX3_advance_381 rfl rfl ?_
                              refine g_bipush (pc := 382) (v := (115 : Int32)) dX3_advance_382 (by decide) ?_
                              rcases it_some hf with ⟨c51, hf⟩ | ⟨c51, hf⟩
                              · refine g_iceq_t (pc := 384) (tgt := 393) dX3_advance_384 (by decide) c51 ?_
                                refine g_sub [] rfl ?_
                                exact ok_X3_advance_L393 l X q4.2 a0 x7 q hf
                              · refine g_iceq_f (pc := 384) (tgt := 393) dX3_advance_384 (by decide) c51 ?_
                                refine g_iload_n (pc := 387) 2 dX3_advance_387 rfl rfl ?_
                                refine g_ldc (pc := 388) (v := (1048691 : Int32)) m_1143 dX3_advance_388 ?_
                                rcases it_some hf with ⟨c52, hf⟩ | ⟨c52, hf⟩
                                · refine g_icne_t (pc := 390) (tgt := 397) dX3_advance_390 (by decide) c52 ?_
                                  refine g_iconst (pc := 397) (v := (2 : Int32)) dX3_advance_397 (by decide) ?_
                                  refine g_sub [] rfl ?_
                                  exact ok_X3_advance_L398 l X q4.2 a0 x7 (2 : Int32) q hf
                                · refine g_icne_f (pc := 390) (tgt := 397) dX3_advance_390 (by decide) (Decidable.of_not_not c52) ?_
                                  refine g_sub [] rfl ?_
                                  exact ok_X3_advance_L393 l X q4.2 a0 x7 q hf
      · refine g_ifne_f (pc := 35) (tgt := 40) dX3_advance_35 (by decide) (Decidable.of_not_not c5) ?_
        refine g_iconst (pc := 38) (v := (2 : Int32)) dX3_advance_38 (by decide) ?_
        obtain rfl := Option.some.inj hf
        exact g_iret (pc := 39) rfl dX3_advance_39
    · refine g_ifeq_f (pc := 15) (tgt := 25) dX3_advance_15 (by decide) c3 ?_
      refine g_aload_n (pc := 18) 0 dX3_advance_18 rfl rfl ?_
      refine g_iconst (pc := 19) (v := (3 : Int32)) dX3_advance_19 (by decide) ?_
      obtain ⟨h53, eh53, hf⟩ := lt_some hf
      refine g_putI (pc := 20) fl_X3_60 dX3_advance_20 g1 eh53 ?_
      refine g_iconst (pc := 23) (v := (1 : Int32)) dX3_advance_23 (by decide) ?_
      obtain rfl := Option.some.inj hf
      exact g_iret (pc := 24) rfl dX3_advance_24
  · refine g_ifeq_f (pc := 4) (tgt := 9) dX3_advance_4 (by decide) c2 ?_
    refine g_iconst (pc := 7) (v := (0 : Int32)) dX3_advance_7 (by decide) ?_
    obtain rfl := Option.some.inj hf
    exact g_iret (pc := 8) rfl dX3_advance_8
theorem ct_X3_advance (l : Launch) (X : Cx) {h : AH} {a0 : Nat} {q : Int32 × AH} (hf : f_X3_advance h a0 = some q) : Ct l X k_X3_advance [rf X a0] h (rI q) := ct_of ck_X3_advance (by simp [lg_sl, rf_cat, rq_cat, ca_i, ca_l, ca_r]) (by simp [lv_args, rf_cat, rq_cat, ca_i, ca_l, ca_r]) (ok_X3_advance l X hf)
set_option maxRecDepth 100000 in
set_option maxHeartbeats 4000000 in
theorem ok_X7_removeOldest (l : Launch) (X : Cx) {h : AH} {a0 : Nat} {q : AH} (hf : f_X7_removeOldest h a0 = some q) : Go l X k_X7_removeOldest 0 [(0, rf X a0)] [] h (rV q) := by
  unfold f_X7_removeOldest at hf
  refine g_aload_n (pc := 0) 0 dX7_removeOldest_0 rfl rfl ?_
  refine g_dup (pc := 1) dX7_removeOldest_1 (rf_cat X _) ?_
  obtain ⟨g1, hf⟩ := gs_some hf
  refine g_getI (pc := 2) fl_X7_19 dX7_removeOldest_2 g1 ?_
  refine g_iconst (pc := 5) (v := (1 : Int32)) dX7_removeOldest_5 (by decide) ?_
  refine g_isub (pc := 6) dX7_removeOldest_6 ?_
  obtain ⟨h2, eh2, hf⟩ := lt_some hf
  refine g_putI (pc := 7) fl_X7_19 dX7_removeOldest_7 g1 eh2 ?_
  refine g_aload_n (pc := 10) 0 dX7_removeOldest_10 rfl rfl ?_
  have g3 : hS h2 a0 = 6 := (hS_tI eh2 g1)
  refine g_getR (pc := 11) fl_X7_11 dX7_removeOldest_11 g3 ?_
  refine g_iconst (pc := 14) (v := (3 : Int32)) dX7_removeOldest_14 (by decide) ?_
  refine g_aload_n (pc := 15) 0 dX7_removeOldest_15 rfl rfl ?_
  refine g_getR (pc := 16) fl_X7_11 dX7_removeOldest_16 g3 ?_
  refine g_iconst (pc := 19) (v := (0 : Int32)) dX7_removeOldest_19 (by decide) ?_
  refine g_aload_n (pc := 20) 0 dX7_removeOldest_20 rfl rfl ?_
  refine g_getI (pc := 21) fl_X7_19 dX7_removeOldest_21 g3 ?_
  refine g_iconst (pc := 24) (v := (3 : Int32)) dX7_removeOldest_24 (by decide) ?_
  refine g_imul (pc := 25) dX7_removeOldest_25 ?_
  obtain ⟨g4, hf⟩ := gs_some hf
  obtain ⟨b5, hf⟩ := gb_some hf
  obtain ⟨h6, eh6, hf⟩ := lt_some hf
  refine g_copy (pc := 26) acy_X7_22 g4 g4 b5 (by decide) (by decide) (by simp [rf_cat, rq_cat, ca_i, ca_l, ca_r]) dX7_removeOldest_26 eh6 ?_
  obtain rfl := Option.some.inj hf
  exact g_vret (pc := 29) rfl dX7_removeOldest_29
theorem ct_X7_removeOldest (l : Launch) (X : Cx) {h : AH} {a0 : Nat} {q : AH} (hf : f_X7_removeOldest h a0 = some q) : Ct l X k_X7_removeOldest [rf X a0] h (rV q) := ct_of ck_X7_removeOldest (by simp [lg_sl, rf_cat, rq_cat, ca_i, ca_l, ca_r]) (by simp [lv_args, rf_cat, rq_cat, ca_i, ca_l, ca_r]) (ok_X7_removeOldest l X hf)
set_option maxRecDepth 100000 in
set_option maxHeartbeats 4000000 in
theorem ok_X3_settle (l : Launch) (X : Cx) {h : AH} {a0 : Nat} {q : Int32 × AH} (hf : f_X3_settle h a0 = some q) : Go l X k_X3_settle 0 [(0, rf X a0)] [] h (rI q) := by
  unfold f_X3_settle at hf
  refine g_aload_n (pc := 0) 0 dX3_settle_0 rfl rfl ?_
  obtain ⟨g1, hf⟩ := gs_some hf
  refine g_getR (pc := 1) fl_X3_18 dX3_settle_1 g1 ?_
  obtain ⟨g2, hf⟩ := gs_some hf
  refine g_getI (pc := 4) fl_X3_100 dX3_settle_4 g2 ?_
  rcases it_some hf with ⟨c3, hf⟩ | ⟨c3, hf⟩
  · refine g_ifne_t (pc := 7) (tgt := 12) dX3_settle_7 (by decide) c3 ?_
    refine g_aload_n (pc := 12) 0 dX3_settle_12 rfl rfl ?_
    refine g_aload_n (pc := 13) 0 dX3_settle_13 rfl rfl ?_
    refine g_getR (pc := 14) fl_X3_18 dX3_settle_14 g1 ?_
    refine g_iconst (pc := 17) (v := (0 : Int32)) dX3_settle_17 (by decide) ?_
    refine g_iconst (pc := 18) (v := (0 : Int32)) dX3_settle_18 (by decide) ?_
    obtain ⟨v4, hcv4, hf⟩ := bd_some hf
    refine g_cVI (pc := 19) (k2 := k_X7_get) (av := [.int (0 : Int32), .int (0 : Int32)]) (q := (v4, h)) rfl dX3_settle_19 ck_X7_get m_1155 m_1020 m_1021 (ci := 5) rfl (by decide) g2 (by decide) (by decide) rfl (by simp [rf_cat, rq_cat, ca_i, ca_l, ca_r]) (ct_X7_get l X hcv4) ?_
    obtain ⟨q5, hcq5, hf⟩ := bd_some hf
    refine g_cVI (pc := 22) (k2 := k_X3_wordToChange) (av := [.int v4]) (q := q5) rfl dX3_settle_22 ck_X3_wordToChange m_1128 m_1130 m_52 (ci := 2) rfl (by decide) g1 (by decide) (by decide) rfl (by simp [rf_cat, rq_cat, ca_i, ca_l, ca_r]) (ct_X3_wordToChange l X hcq5) ?_
    obtain ⟨x6, ex6, hf⟩ := lt_some hf
    refine g_istore_n (pc := 25) (L' := [(1, .int x6), (0, rf X a0)]) dX3_settle_25 rfl (by decide) ex6 (by simp [rf_cat, rq_cat]) ?_
    refine g_iload_n (pc := 26) 0 dX3_settle_26 rfl rfl ?_
    rcases it_some hf with ⟨c7, hf⟩ | ⟨c7, hf⟩
    · refine g_ifge_t (pc := 27) (tgt := 32) dX3_settle_27 (by decide) c7 ?_
      refine g_sBBN (pc := 32) 3 rfl dX3_settle_32 ?_
      refine g_aload_n (pc := 35) 1 dX3_settle_35 rfl rfl ?_
      obtain ⟨g8, hf⟩ := gs_some hf
      refine g_getR (pc := 36) fl_X3_18 dX3_settle_36 g8 ?_
      refine g_iconst (pc := 39) (v := (0 : Int32)) dX3_settle_39 (by decide) ?_
      refine g_iconst (pc := 40) (v := (1 : Int32)) dX3_settle_40 (by decide) ?_
      obtain ⟨g9, hf⟩ := gs_some hf
      obtain ⟨v10, hcv10, hf⟩ := bd_some hf
      refine g_cVI (pc := 41) (k2 := k_X7_get) (av := [.int (0 : Int32), .int (1 : Int32)]) (q := (v10, q5.2)) rfl dX3_settle_41 ck_X7_get m_1155 m_1020 m_1021 (ci := 5) rfl (by decide) g9 (by decide) (by decide) rfl (by simp [rf_cat, rq_cat, ca_i, ca_l, ca_r]) (ct_X7_get l X hcv10) ?_
      refine g_bipush (pc := 44) (v := (15 : Int32)) dX3_settle_44 (by decide) ?_
      refine g_iand (pc := 46) dX3_settle_46 ?_
      obtain ⟨b11, hf⟩ := gb_some hf
      refine g_tBB (pc := 47) b11 dX3_settle_47 ?_
      obtain ⟨x12, ex12, hf⟩ := lt_some hf
      refine g_istore_n (pc := 48) (L' := [(2, .int x12), (1, .int x6), (0, rf X a0)]) dX3_settle_48 rfl (by decide) ex12 rfl ?_
      refine g_aload_n (pc := 49) 2 dX3_settle_49 rfl rfl ?_
      refine g_getR (pc := 50) fl_X3_25 dX3_settle_50 g8 ?_
      obtain ⟨g13, hf⟩ := gs_some hf
      refine g_getR (pc := 53) fl_X3_199 dX3_settle_53 g13 ?_
      refine g_iload_n (pc := 56) 1 dX3_settle_56 rfl rfl ?_
      refine g_aload_n (pc := 57) 2 dX3_settle_57 rfl rfl ?_
      refine g_getR (pc := 58) fl_X3_25 dX3_settle_58 g8 ?_
      refine g_getR (pc := 61) fl_X3_199 dX3_settle_61 g13 ?_
      refine g_iload_n (pc := 64) 1 dX3_settle_64 rfl rfl ?_
      obtain ⟨g14, hf⟩ := gs_some hf
      obtain ⟨b15, hf⟩ := gb_some hf
      refine g_iald (pc := 65) g14 b15 dX3_settle_65 ?_
      refine g_iload_n (pc := 66) 0 dX3_settle_66 rfl rfl ?_
      refine g_iconst (pc := 67) (v := (-1 : Int32)) dX3_settle_67 (by decide) ?_
      refine g_ixor (pc := 68) dX3_settle_68 ?_
      refine g_iand (pc := 69) dX3_settle_69 ?_
      refine g_aload_n (pc := 70) 2 dX3_settle_70 rfl rfl ?_
      refine g_getR (pc := 71) fl_X3_18 dX3_settle_71 g8 ?_
      refine g_iconst (pc := 74) (v := (0 : Int32)) dX3_settle_74 (by decide) ?_
      refine g_iconst (pc := 75) (v := (2 : Int32)) dX3_settle_75 (by decide) ?_
      obtain ⟨v16, hcv16, hf⟩ := bd_some hf
      refine g_cVI (pc := 76) (k2 := k_X7_get) (av := [.int (0 : Int32), .int (2 : Int32)]) (q := (v16, q5.2)) rfl dX3_settle_76 ck_X7_get m_1155 m_1020 m_1021 (ci := 5) rfl (by decide) g9 (by decide) (by decide) rfl (by simp [rf_cat, rq_cat, ca_i, ca_l, ca_r]) (ct_X7_get l X hcv16) ?_
      refine g_ior (pc := 79) dX3_settle_79 ?_
      obtain ⟨b17, hf⟩ := gb_some hf
      obtain ⟨h18, eh18, hf⟩ := lt_some hf
      refine g_iast (pc := 80) g14 b17 dX3_settle_80 eh18 ?_
      refine g_aload_n (pc := 81) 2 dX3_settle_81 rfl rfl ?_
      have g19 : hS h18 a0 = 3 := (hS_tI eh18 g8)
      refine g_getR (pc := 82) fl_X3_18 dX3_settle_82 g19 ?_
      obtain ⟨g20, hf⟩ := gs_some hf
      obtain ⟨q21, hcq21, hf⟩ := bd_some hf
      refine g_cVV (pc := 85) (k2 := k_X7_removeOldest) (av := []) (q := q21) rfl dX3_settle_85 ck_X7_removeOldest m_1156 m_1157 m_1158 (ci := 5) rfl (by decide) g20 (by decide) (by decide) rfl (by simp [rf_cat, rq_cat, ca_i, ca_l, ca_r]) (ct_X7_removeOldest l X hcq21) ?_
      refine g_iconst (pc := 88) (v := (1 : Int32)) dX3_settle_88 (by decide) ?_
      obtain rfl := Option.some.inj hf
      exact g_iret (pc := 89) rfl dX3_settle_89
    · refine g_ifge_f (pc := 27) (tgt := 32) dX3_settle_27 (by decide) c7 ?_
      refine g_iconst (pc := 30) (v := (2 : Int32)) dX3_settle_30 (by decide) ?_
      obtain rfl := Option.some.inj hf
      exact g_iret (pc := 31) rfl dX3_settle_31
  · refine g_ifne_f (pc := 7) (tgt := 12) dX3_settle_7 (by decide) (Decidable.of_not_not c3) ?_
    refine g_iconst (pc := 10) (v := (0 : Int32)) dX3_settle_10 (by decide) ?_
    obtain rfl := Option.some.inj hf
    exact g_iret (pc := 11) rfl dX3_settle_11
theorem ct_X3_settle (l : Launch) (X : Cx) {h : AH} {a0 : Nat} {q : Int32 × AH} (hf : f_X3_settle h a0 = some q) : Ct l X k_X3_settle [rf X a0] h (rI q) := ct_of ck_X3_settle (by simp [lg_sl, rf_cat, rq_cat, ca_i, ca_l, ca_r]) (by simp [lv_args, rf_cat, rq_cat, ca_i, ca_l, ca_r]) (ok_X3_settle l X hf)
set_option maxRecDepth 100000 in
set_option maxHeartbeats 4000000 in
theorem ok_X3_answer_L131 (l : Launch) (X : Cx) (h : AH) (a0 : Nat) (a4 : Int32) (q : AH) (hf : f_X3_answer_L131 h a0 a4 = some q) : Go l X k_X3_answer 131 [(0, rf X a0), (4, .int a4)] [] h (rV q) := by
  unfold f_X3_answer_L131 at hf
  refine g_iload (pc := 131) 1 dX3_answer_131 rfl ?_
  rcases it_some hf with ⟨c1, hf⟩ | ⟨c1, hf⟩
  · refine g_ifeq_t (pc := 133) (tgt := 141) dX3_answer_133 (by decide) c1 ?_
    obtain rfl := Option.some.inj hf
    exact g_vret (pc := 141) rfl dX3_answer_141
  · refine g_ifeq_f (pc := 133) (tgt := 141) dX3_answer_133 (by decide) c1 ?_
    refine g_aload_n (pc := 136) 0 dX3_answer_136 rfl rfl ?_
    refine g_iconst (pc := 137) (v := (1 : Int32)) dX3_answer_137 (by decide) ?_
    obtain ⟨g2, hf⟩ := gs_some hf
    obtain ⟨h3, eh3, hf⟩ := lt_some hf
    refine g_putZ (pc := 138) fl_X3_75 dX3_answer_138 g2 rfl eh3 ?_
    obtain rfl := Option.some.inj hf
    exact g_vret (pc := 141) rfl dX3_answer_141
set_option maxRecDepth 100000 in
set_option maxHeartbeats 4000000 in
theorem ok_X3_answer_L105 (l : Launch) (X : Cx) (h : AH) (a0 : Nat) (a2 : Int32) (a3 : Int32) (a4 : Int32) (q : AH) (hf : f_X3_answer_L105 h a0 a2 a3 a4 = some q) : Go l X k_X3_answer 105 [(0, rf X a0), (2, .int a2), (3, .int a3), (4, .int a4)] [] h (rV q) := by
  unfold f_X3_answer_L105 at hf
  refine g_iload_n (pc := 105) 2 dX3_answer_105 rfl rfl ?_
  rcases it_some hf with ⟨c1, hf⟩ | ⟨c1, hf⟩
  · refine g_iflt_t (pc := 106) (tgt := 131) dX3_answer_106 (by decide) c1 ?_
    refine g_sub [0, 3] rfl ?_
    exact ok_X3_answer_L131 l X h a0 a4 q hf
  · refine g_iflt_f (pc := 106) (tgt := 131) dX3_answer_106 (by decide) c1 ?_
    refine g_aload_n (pc := 109) 0 dX3_answer_109 rfl rfl ?_
    obtain ⟨g2, hf⟩ := gs_some hf
    refine g_getR (pc := 110) fl_X3_25 dX3_answer_110 g2 ?_
    obtain ⟨g3, hf⟩ := gs_some hf
    refine g_getR (pc := 113) fl_X3_226 dX3_answer_113 g3 ?_
    refine g_iload_n (pc := 116) 2 dX3_answer_116 rfl rfl ?_
    refine g_aload_n (pc := 117) 0 dX3_answer_117 rfl rfl ?_
    refine g_getR (pc := 118) fl_X3_25 dX3_answer_118 g2 ?_
    refine g_getR (pc := 121) fl_X3_226 dX3_answer_121 g3 ?_
    refine g_iload_n (pc := 124) 2 dX3_answer_124 rfl rfl ?_
    obtain ⟨g4, hf⟩ := gs_some hf
    obtain ⟨b5, hf⟩ := gb_some hf
    refine g_iald (pc := 125) g4 b5 dX3_answer_125 ?_
    refine g_iload_n (pc := 126) 1 dX3_answer_126 rfl rfl ?_
    refine g_min (pc := 127) mmmin_X3_257 (by decide) (by decide) (by simp [rf_cat, rq_cat, ca_i, ca_l, ca_r]) dX3_answer_127 ?_
    obtain ⟨b6, hf⟩ := gb_some hf
    obtain ⟨h7, eh7, hf⟩ := lt_some hf
    refine g_iast (pc := 130) g4 b6 dX3_answer_130 eh7 ?_
    refine g_sub [0, 3] rfl ?_
    exact ok_X3_answer_L131 l X h7 a0 a4 q hf
set_option maxRecDepth 100000 in
set_option maxHeartbeats 4000000 in
theorem ok_X3_answer_L101 (l : Launch) (X : Cx) (h : AH) (a0 : Nat) (a2 : Int32) (a3 : Int32) (a4 : Int32) (s0 : Nat) (s1 : Int32) (s2 : Int32) (s3 : Int32) (s4 : Int32) (s5 : Nat) (q : AH) (hf : f_X3_answer_L101 h a0 a2 a3 a4 s0 s1 s2 s3 s4 s5 = some q) : Go l X k_X3_answer 101 [(0, rf X a0), (2, .int a2), (3, .int a3), (4, .int a4)] [rf X s5, .int s4, .int s3, .int s2, .int s1, rf X s0] h (rV q) := by
  unfold f_X3_answer_L101 at hf
  refine g_iconst (pc := 101) (v := (0 : Int32)) dX3_answer_101 (by decide) ?_
  obtain ⟨g1, hf⟩ := gs_some hf
  obtain ⟨q2, hcq2, hf⟩ := bd_some hf
  refine g_cVV (pc := 102) (k2 := k_X6_send) (av := [.int s1, .int s2, .int s3, .int s4, rf X s5, .int (0 : Int32)]) (q := q2) rfl dX3_answer_102 ck_X6_send m_655 m_582 m_583 (ci := 4) rfl (by decide) g1 (by decide) (by decide) rfl (by simp [rf_cat, rq_cat, ca_i, ca_l, ca_r]) (ct_X6_send l X hcq2) ?_
  exact ok_X3_answer_L105 l X q2 a0 a2 a3 a4 q hf
set_option maxRecDepth 100000 in
set_option maxHeartbeats 4000000 in
theorem ok_X3_answer_L100 (l : Launch) (X : Cx) (h : AH) (a0 : Nat) (a2 : Int32) (a3 : Int32) (a4 : Int32) (s0 : Nat) (s1 : Int32) (s2 : Int32) (s3 : Int32) (s4 : Int32) (q : AH) (hf : f_X3_answer_L100 h a0 a2 a3 a4 s0 s1 s2 s3 s4 = some q) : Go l X k_X3_answer 100 [(0, rf X a0), (2, .int a2), (3, .int a3), (4, .int a4)] [.int s4, .int s3, .int s2, .int s1, rf X s0] h (rV q) := by
  unfold f_X3_answer_L100 at hf
  refine g_null (pc := 100) dX3_answer_100 ?_
  exact ok_X3_answer_L101 l X h a0 a2 a3 a4 s0 s1 s2 s3 s4 0 q hf
set_option maxRecDepth 100000 in
set_option maxHeartbeats 4000000 in
theorem ok_X3_answer_L69 (l : Launch) (X : Cx) (h : AH) (a0 : Nat) (a1 : Int32) (a2 : Int32) (a3 : Int32) (a4 : Int32) (q : AH) (hf : f_X3_answer_L69 h a0 a1 a2 a3 a4 = some q) : Go l X k_X3_answer 69 [(0, rf X a0), (1, .int a1), (2, .int a2), (3, .int a3), (4, .int a4)] [] h (rV q) := by
  unfold f_X3_answer_L69 at hf
  refine g_aload_n (pc := 69) 0 dX3_answer_69 rfl rfl ?_
  obtain ⟨g1, hf⟩ := gs_some hf
  refine g_getR (pc := 70) fl_X3_43 dX3_answer_70 g1 ?_
  refine g_iconst (pc := 73) (v := (5 : Int32)) dX3_answer_73 (by decide) ?_
  refine g_aload_n (pc := 74) 0 dX3_answer_74 rfl rfl ?_
  refine g_getI (pc := 75) fl_X3_39 dX3_answer_75 g1 ?_
  refine g_bipush (pc := 78) (v := (16 : Int32)) dX3_answer_78 (by decide) ?_
  refine g_iload_n (pc := 80) 1 dX3_answer_80 rfl rfl ?_
  refine g_iload (pc := 81) 4 dX3_answer_81 rfl ?_
  rcases it_some hf with ⟨c2, hf⟩ | ⟨c2, hf⟩
  · refine g_ifeq_t (pc := 83) (tgt := 100) dX3_answer_83 (by decide) c2 ?_
    refine g_sub [0, 2, 3, 4] rfl ?_
    exact ok_X3_answer_L100 l X h a0 a2 a3 a4 (hR h a0 1) (5 : Int32) (hI h a0 0) (16 : Int32) a1 q hf
  · refine g_ifeq_f (pc := 83) (tgt := 100) dX3_answer_83 (by decide) c2 ?_
    refine g_aload_n (pc := 86) 0 dX3_answer_86 rfl rfl ?_
    refine g_getI (pc := 87) fl_X3_75 dX3_answer_87 g1 ?_
    rcases it_some hf with ⟨c3, hf⟩ | ⟨c3, hf⟩
    · refine g_ifne_t (pc := 90) (tgt := 100) dX3_answer_90 (by decide) c3 ?_
      refine g_sub [0, 2, 3, 4] rfl ?_
      exact ok_X3_answer_L100 l X h a0 a2 a3 a4 (hR h a0 1) (5 : Int32) (hI h a0 0) (16 : Int32) a1 q hf
    · refine g_ifne_f (pc := 90) (tgt := 100) dX3_answer_90 (by decide) (Decidable.of_not_not c3) ?_
      refine g_aload_n (pc := 93) 0 dX3_answer_93 rfl rfl ?_
      refine g_getR (pc := 94) fl_X3_36 dX3_answer_94 g1 ?_
      refine g_goto (pc := 97) (tgt := 101) dX3_answer_97 (by decide) ?_
      refine g_sub [0, 2, 3, 4] rfl ?_
      exact ok_X3_answer_L101 l X h a0 a2 a3 a4 (hR h a0 1) (5 : Int32) (hI h a0 0) (16 : Int32) a1 (hR h a0 10) q hf
set_option maxRecDepth 100000 in
set_option maxHeartbeats 4000000 in
theorem ok_X3_answer_L22 (l : Launch) (X : Cx) (h : AH) (a0 : Nat) (a1 : Int32) (a2 : Int32) (a3 : Int32) (s0 : Int32) (q : AH) (hf : f_X3_answer_L22 h a0 a1 a2 a3 s0 = some q) : Go l X k_X3_answer 22 [(0, rf X a0), (1, .int a1), (2, .int a2), (3, .int a3)] [.int s0] h (rV q) := by
  unfold f_X3_answer_L22 at hf
  refine g_istore (pc := 22) (L' := [(4, .int s0), (0, rf X a0), (1, .int a1), (2, .int a2), (3, .int a3)]) dX3_answer_22 (by decide) rfl rfl ?_
  refine g_iload_n (pc := 24) 4 dX3_answer_24 rfl rfl ?_
  rcases it_some hf with ⟨c1, hf⟩ | ⟨c1, hf⟩
  · refine g_iflt_t (pc := 25) (tgt := 69) dX3_answer_25 (by decide) c1 ?_
    refine g_sub [1, 2, 3, 4, 0] rfl ?_
    exact ok_X3_answer_L69 l X h a0 a1 a2 a3 s0 q hf
  · refine g_iflt_f (pc := 25) (tgt := 69) dX3_answer_25 (by decide) c1 ?_
    refine g_aload_n (pc := 28) 1 dX3_answer_28 rfl rfl ?_
    obtain ⟨g2, hf⟩ := gs_some hf
    refine g_getR (pc := 29) fl_X3_25 dX3_answer_29 g2 ?_
    obtain ⟨g3, hf⟩ := gs_some hf
    refine g_getR (pc := 32) fl_X3_226 dX3_answer_32 g3 ?_
    refine g_iload_n (pc := 35) 4 dX3_answer_35 rfl rfl ?_
    obtain ⟨g4, hf⟩ := gs_some hf
    obtain ⟨b5, hf⟩ := gb_some hf
    refine g_iald (pc := 36) g4 b5 dX3_answer_36 ?_
    refine g_iconst (pc := 37) (v := (2 : Int32)) dX3_answer_37 (by decide) ?_
    rcases it_some hf with ⟨c6, hf⟩ | ⟨c6, hf⟩
    · refine g_iclt_t (pc := 38) (tgt := 69) dX3_answer_38 (by decide) c6 ?_
      refine g_sub [1, 2, 3, 4, 0] rfl ?_
      exact ok_X3_answer_L69 l X h a0 a1 a2 a3 s0 q hf
    · refine g_iclt_f (pc := 38) (tgt := 69) dX3_answer_38 (by decide) c6 ?_
      refine g_aload_n (pc := 41) 1 dX3_answer_41 rfl rfl ?_
      refine g_getR (pc := 42) fl_X3_43 dX3_answer_42 g2 ?_
      refine g_iconst (pc := 45) (v := (5 : Int32)) dX3_answer_45 (by decide) ?_
      refine g_aload_n (pc := 46) 1 dX3_answer_46 rfl rfl ?_
      refine g_getI (pc := 47) fl_X3_39 dX3_answer_47 g2 ?_
      refine g_bipush (pc := 50) (v := (16 : Int32)) dX3_answer_50 (by decide) ?_
      refine g_iload_n (pc := 52) 2 dX3_answer_52 rfl rfl ?_
      refine g_aload_n (pc := 53) 1 dX3_answer_53 rfl rfl ?_
      refine g_getR (pc := 54) fl_X3_25 dX3_answer_54 g2 ?_
      refine g_getR (pc := 57) fl_X3_199 dX3_answer_57 g3 ?_
      refine g_iload_n (pc := 60) 4 dX3_answer_60 rfl rfl ?_
      refine g_iconst (pc := 61) (v := (4 : Int32)) dX3_answer_61 (by decide) ?_
      refine g_imul (pc := 62) dX3_answer_62 ?_
      obtain ⟨g7, hf⟩ := gs_some hf
      obtain ⟨q8, hcq8, hf⟩ := bd_some hf
      refine g_cVV (pc := 63) (k2 := k_X6_send) (av := [.int (5 : Int32), .int (hI h a0 0), .int (16 : Int32), .int a1, rf X (hR h (hR h a0 6) 3), .int (a3 * (4 : Int32))]) (q := q8) rfl dX3_answer_63 ck_X6_send m_655 m_582 m_583 (ci := 4) rfl (by decide) g7 (by decide) (by decide) rfl (by simp [rf_cat, rq_cat, ca_i, ca_l, ca_r]) (ct_X6_send l X hcq8) ?_
      refine g_goto (pc := 66) (tgt := 105) dX3_answer_66 (by decide) ?_
      refine g_sub [1, 3, 4, 0] rfl ?_
      exact ok_X3_answer_L105 l X q8 a0 a2 a3 s0 q hf
set_option maxRecDepth 100000 in
set_option maxHeartbeats 4000000 in
theorem ok_X3_answer (l : Launch) (X : Cx) {h : AH} {a0 : Nat} {a1 : Int32} {a2 : Int32} {q : AH} (hf : f_X3_answer h a0 a1 a2 = some q) : Go l X k_X3_answer 0 [(0, rf X a0), (1, .int a1), (2, .int a2)] [] h (rV q) := by
  unfold f_X3_answer at hf
  refine g_aload_n (pc := 0) 0 dX3_answer_0 rfl rfl ?_
  obtain ⟨g1, hf⟩ := gs_some hf
  refine g_getR (pc := 1) fl_X3_25 dX3_answer_1 g1 ?_
  refine g_iload_n (pc := 4) 1 dX3_answer_4 rfl rfl ?_
  obtain ⟨g2, hf⟩ := gs_some hf
  obtain ⟨v3, hcv3, hf⟩ := bd_some hf
  refine g_cVI (pc := 5) (k2 := k_X2_find) (av := [.int a1]) (q := (v3, h)) rfl dX3_answer_5 ck_X2_find m_651 m_652 m_653 (ci := 1) rfl (by decide) g2 (by decide) (by decide) rfl (by simp [rf_cat, rq_cat, ca_i, ca_l, ca_r]) (ct_X2_find l X hcv3) ?_
  refine g_istore_n (pc := 8) (L' := [(3, .int v3), (0, rf X a0), (1, .int a1), (2, .int a2)]) dX3_answer_8 rfl (by decide) rfl rfl ?_
  refine g_aload_n (pc := 9) 1 dX3_answer_9 rfl rfl ?_
  refine g_getI (pc := 10) fl_X3_72 dX3_answer_10 g1 ?_
  refine g_iload_n (pc := 13) 2 dX3_answer_13 rfl rfl ?_
  rcases it_some hf with ⟨c4, hf⟩ | ⟨c4, hf⟩
  · refine g_icne_t (pc := 14) (tgt := 21) dX3_answer_14 (by decide) c4 ?_
    refine g_iconst (pc := 21) (v := (0 : Int32)) dX3_answer_21 (by decide) ?_
    refine g_sub [1, 2, 3, 0] rfl ?_
    exact ok_X3_answer_L22 l X h a0 a1 a2 v3 (0 : Int32) q hf
  · refine g_icne_f (pc := 14) (tgt := 21) dX3_answer_14 (by decide) (Decidable.of_not_not c4) ?_
    refine g_iconst (pc := 17) (v := (1 : Int32)) dX3_answer_17 (by decide) ?_
    refine g_goto (pc := 18) (tgt := 22) dX3_answer_18 (by decide) ?_
    refine g_sub [1, 2, 3, 0] rfl ?_
    exact ok_X3_answer_L22 l X h a0 a1 a2 v3 (1 : Int32) q hf
theorem ct_X3_answer (l : Launch) (X : Cx) {h : AH} {a0 : Nat} {a1 : Int32} {a2 : Int32} {q : AH} (hf : f_X3_answer h a0 a1 a2 = some q) : Ct l X k_X3_answer [rf X a0, .int a1, .int a2] h (rV q) := ct_of ck_X3_answer (by simp [lg_sl, rf_cat, rq_cat, ca_i, ca_l, ca_r]) (by simp [lv_args, rf_cat, rq_cat, ca_i, ca_l, ca_r]) (ok_X3_answer l X hf)
set_option maxRecDepth 100000 in
set_option maxHeartbeats 4000000 in
theorem ok_X3_receive (l : Launch) (X : Cx) {h : AH} {a0 : Nat} {a1 : Nat} {q : AH} (hf : f_X3_receive h a0 a1 = some q) : Go l X k_X3_receive 0 [(0, rf X a0), (1, rf X a1)] [] h (rV q) := by
  unfold f_X3_receive at hf
  refine g_aload_n (pc := 0) 1 dX3_receive_0 rfl rfl ?_
  refine g_iconst (pc := 1) (v := (3 : Int32)) dX3_receive_1 (by decide) ?_
  obtain ⟨g1, hf⟩ := gs_some hf
  obtain ⟨b2, hf⟩ := gb_some hf
  refine g_iald (pc := 2) g1 b2 dX3_receive_2 ?_
  obtain ⟨x3, ex3, hf⟩ := lt_some hf
  refine g_istore_n (pc := 3) (L' := [(2, .int x3), (0, rf X a0), (1, rf X a1)]) dX3_receive_3 rfl (by decide) ex3 (by simp [rf_cat, rq_cat]) ?_
  refine g_aload_n (pc := 4) 2 dX3_receive_4 rfl rfl ?_
  refine g_iconst (pc := 5) (v := (0 : Int32)) dX3_receive_5 (by decide) ?_
  obtain ⟨b4, hf⟩ := gb_some hf
  refine g_iald (pc := 6) g1 b4 dX3_receive_6 ?_
  rcases it_some hf with ⟨c5, hf⟩ | ⟨c5, hf⟩
  · refine g_lsw (pc := 7) (tgt := 40) (3 : Int32) dX3_receive_7 (by decide +kernel) c5 (off := 33) (by decide +kernel) (by decide) ?_
    refine g_aload_n (pc := 40) 1 dX3_receive_40 rfl rfl ?_
    refine g_iload_n (pc := 41) 0 dX3_receive_41 rfl rfl ?_
    refine g_iconst (pc := 42) (v := (0 : Int32)) dX3_receive_42 (by decide) ?_
    obtain ⟨g6, hf⟩ := gs_some hf
    obtain ⟨q7, hcq7, hf⟩ := bd_some hf
    refine g_cVV (pc := 43) (k2 := k_X3_answer) (av := [.int x3, .int (0 : Int32)]) (q := q7) rfl dX3_receive_43 ck_X3_answer m_647 m_649 m_17 (ci := 2) rfl (by decide) g6 (by decide) (by decide) rfl (by simp [rf_cat, rq_cat, ca_i, ca_l, ca_r]) (ct_X3_answer l X hcq7) ?_
    refine g_goto (pc := 46) (tgt := 107) dX3_receive_46 (by decide) ?_
    obtain rfl := Option.some.inj hf
    exact g_vret (pc := 107) rfl dX3_receive_107
  ·
    rcases it_some hf with ⟨c8, hf⟩ | ⟨c8, hf⟩
    · refine g_lsw (pc := 7) (tgt := 49) (4 : Int32) dX3_receive_7 (by decide +kernel) c8 (off := 42) (by decide +kernel) (by decide) ?_
      refine g_aload_n (pc := 49) 1 dX3_receive_49 rfl rfl ?_
      refine g_iload_n (pc := 50) 0 dX3_receive_50 rfl rfl ?_
      refine g_iconst (pc := 51) (v := (1 : Int32)) dX3_receive_51 (by decide) ?_
      obtain ⟨g9, hf⟩ := gs_some hf
      obtain ⟨q10, hcq10, hf⟩ := bd_some hf
      refine g_cVV (pc := 52) (k2 := k_X3_answer) (av := [.int x3, .int (1 : Int32)]) (q := q10) rfl dX3_receive_52 ck_X3_answer m_647 m_649 m_17 (ci := 2) rfl (by decide) g9 (by decide) (by decide) rfl (by simp [rf_cat, rq_cat, ca_i, ca_l, ca_r]) (ct_X3_answer l X hcq10) ?_
      refine g_goto (pc := 55) (tgt := 107) dX3_receive_55 (by decide) ?_
      obtain rfl := Option.some.inj hf
      exact g_vret (pc := 107) rfl dX3_receive_107
    ·
      rcases it_some hf with ⟨c11, hf⟩ | ⟨c11, hf⟩
      · refine g_lsw (pc := 7) (tgt := 58) (9 : Int32) dX3_receive_7 (by decide +kernel) c11 (off := 51) (by decide +kernel) (by decide) ?_
        refine g_aload_n (pc := 58) 1 dX3_receive_58 rfl rfl ?_
        refine g_iconst (pc := 59) (v := (-1 : Int32)) dX3_receive_59 (by decide) ?_
        obtain ⟨g12, hf⟩ := gs_some hf
        obtain ⟨h13, eh13, hf⟩ := lt_some hf
        refine g_putI (pc := 60) fl_X3_72 dX3_receive_60 g12 eh13 ?_
        refine g_goto (pc := 63) (tgt := 107) dX3_receive_63 (by decide) ?_
        obtain rfl := Option.some.inj hf
        exact g_vret (pc := 107) rfl dX3_receive_107
      ·
        refine g_lswD (pc := 7) (tgt := 66) [(3 : Int32), (4 : Int32), (9 : Int32)] dX3_receive_7 (by decide +kernel) (by decide +kernel) (cons_ne c5 (cons_ne c8 (cons_ne c11 nil_ne))) (by decide) ?_
        refine g_aload_n (pc := 66) 1 dX3_receive_66 rfl rfl ?_
        obtain ⟨g14, hf⟩ := gs_some hf
        refine g_getR (pc := 67) fl_X3_25 dX3_receive_67 g14 ?_
        refine g_iload_n (pc := 70) 0 dX3_receive_70 rfl rfl ?_
        refine g_aload_n (pc := 71) 2 dX3_receive_71 rfl rfl ?_
        refine g_iconst (pc := 72) (v := (0 : Int32)) dX3_receive_72 (by decide) ?_
        obtain ⟨b15, hf⟩ := gb_some hf
        refine g_iald (pc := 73) g1 b15 dX3_receive_73 ?_
        refine g_bipush (pc := 74) (v := (6 : Int32)) dX3_receive_74 (by decide) ?_
        refine g_isub (pc := 76) dX3_receive_76 ?_
        refine g_iconst (pc := 77) (v := (1 : Int32)) dX3_receive_77 (by decide) ?_
        refine g_iadd (pc := 78) dX3_receive_78 ?_
        refine g_aload_n (pc := 79) 2 dX3_receive_79 rfl rfl ?_
        refine g_iconst (pc := 80) (v := (5 : Int32)) dX3_receive_80 (by decide) ?_
        obtain ⟨g16, hf⟩ := gs_some hf
        obtain ⟨q17, hcq17, hf⟩ := bd_some hf
        refine g_cVV (pc := 81) (k2 := k_X2_put) (av := [.int x3, .int (((hI h a1 (0 : Int32).toNatClampNeg) - (6 : Int32)) + (1 : Int32)), rf X a1, .int (5 : Int32)]) (q := q17) rfl dX3_receive_81 ck_X2_put m_657 m_658 m_659 (ci := 1) rfl (by decide) g16 (by decide) (by decide) rfl (by simp [rf_cat, rq_cat, ca_i, ca_l, ca_r]) (ct_X2_put l X hcq17) ?_
        refine g_aload_n (pc := 84) 1 dX3_receive_84 rfl rfl ?_
        refine g_iconst (pc := 85) (v := (-1 : Int32)) dX3_receive_85 (by decide) ?_
        obtain ⟨g18, hf⟩ := gs_some hf
        obtain ⟨h19, eh19, hf⟩ := lt_some hf
        refine g_putI (pc := 86) fl_X3_79 dX3_receive_86 g18 eh19 ?_
        refine g_aload_n (pc := 89) 1 dX3_receive_89 rfl rfl ?_
        have g20 : hS h19 a0 = 3 := (hS_tI eh19 g18)
        refine g_getR (pc := 90) fl_X3_43 dX3_receive_90 g20 ?_
        refine g_bipush (pc := 93) (v := (10 : Int32)) dX3_receive_93 (by decide) ?_
        refine g_aload_n (pc := 95) 1 dX3_receive_95 rfl rfl ?_
        refine g_getI (pc := 96) fl_X3_39 dX3_receive_96 g20 ?_
        refine g_bipush (pc := 99) (v := (16 : Int32)) dX3_receive_99 (by decide) ?_
        refine g_iload_n (pc := 101) 0 dX3_receive_101 rfl rfl ?_
        refine g_null (pc := 102) dX3_receive_102 ?_
        refine g_iconst (pc := 103) (v := (0 : Int32)) dX3_receive_103 (by decide) ?_
        obtain ⟨g21, hf⟩ := gs_some hf
        obtain ⟨q22, hcq22, hf⟩ := bd_some hf
        refine g_cVV (pc := 104) (k2 := k_X6_send) (av := [.int (10 : Int32), .int (hI h19 a0 0), .int (16 : Int32), .int x3, rf X 0, .int (0 : Int32)]) (q := q22) rfl dX3_receive_104 ck_X6_send m_655 m_582 m_583 (ci := 4) rfl (by decide) g21 (by decide) (by decide) rfl (by simp [rf_cat, rq_cat, ca_i, ca_l, ca_r]) (ct_X6_send l X hcq22) ?_
        obtain rfl := Option.some.inj hf
        exact g_vret (pc := 107) rfl dX3_receive_107
theorem ct_X3_receive (l : Launch) (X : Cx) {h : AH} {a0 : Nat} {a1 : Nat} {q : AH} (hf : f_X3_receive h a0 a1 = some q) : Ct l X k_X3_receive [rf X a0, rf X a1] h (rV q) := ct_of ck_X3_receive (by simp [lg_sl, rf_cat, rq_cat, ca_i, ca_l, ca_r]) (by simp [lv_args, rf_cat, rq_cat, ca_i, ca_l, ca_r]) (ok_X3_receive l X hf)
set_option maxRecDepth 100000 in
set_option maxHeartbeats 4000000 in
theorem ok_X4_begin (l : Launch) (X : Cx) {h : AH} {a0 : Nat} {a1 : Int32} {a2 : Int32} {q : AH} (hf : f_X4_begin h a0 a1 a2 = some q) : Go l X k_X4_begin 0 [(0, rf X a0), (1, .int a1), (2, .int a2)] [] h (rV q) := by
  unfold f_X4_begin at hf
  refine g_aload_n (pc := 0) 0 dX4_begin_0 rfl rfl ?_
  refine g_iload_n (pc := 1) 1 dX4_begin_1 rfl rfl ?_
  obtain ⟨g1, hf⟩ := gs_some hf
  obtain ⟨h2, eh2, hf⟩ := lt_some hf
  refine g_putI (pc := 2) fl_X4_56 dX4_begin_2 g1 eh2 ?_
  refine g_aload_n (pc := 5) 0 dX4_begin_5 rfl rfl ?_
  refine g_iload_n (pc := 6) 2 dX4_begin_6 rfl rfl ?_
  have g3 : hS h2 a0 = 4 := (hS_tI eh2 g1)
  obtain ⟨h4, eh4, hf⟩ := lt_some hf
  refine g_putI (pc := 7) fl_X4_60 dX4_begin_7 g3 eh4 ?_
  refine g_aload_n (pc := 10) 0 dX4_begin_10 rfl rfl ?_
  have g5 : hS h4 a0 = 4 := (hS_tI eh4 g3)
  refine g_getR (pc := 11) fl_X4_9 dX4_begin_11 g5 ?_
  refine g_iconst (pc := 14) (v := (0 : Int32)) dX4_begin_14 (by decide) ?_
  obtain ⟨q6, hcq6, hf⟩ := bd_some hf
  refine g_cSV (pc := 15) (k2 := k_J7_fill_53178) (av := [rf X (hR h4 a0 1), .int (0 : Int32)]) (q := q6) rfl dX4_begin_15 ck_J7_fill_53178 m_286 m_287 (by decide) (by decide) rfl (by simp [rf_cat, rq_cat, ca_i, ca_l, ca_r]) (ct_J7_fill_53178 l X hcq6) ?_
  refine g_aload_n (pc := 18) 0 dX4_begin_18 rfl rfl ?_
  obtain ⟨g7, hf⟩ := gs_some hf
  refine g_getR (pc := 19) fl_X4_15 dX4_begin_19 g7 ?_
  refine g_iconst (pc := 22) (v := (-1 : Int32)) dX4_begin_22 (by decide) ?_
  obtain ⟨q8, hcq8, hf⟩ := bd_some hf
  refine g_cSV (pc := 23) (k2 := k_J7_fill_53178) (av := [rf X (hR q6 a0 2), .int (-1 : Int32)]) (q := q8) rfl dX4_begin_23 ck_J7_fill_53178 m_286 m_287 (by decide) (by decide) rfl (by simp [rf_cat, rq_cat, ca_i, ca_l, ca_r]) (ct_J7_fill_53178 l X hcq8) ?_
  refine g_aload_n (pc := 26) 0 dX4_begin_26 rfl rfl ?_
  obtain ⟨g9, hf⟩ := gs_some hf
  refine g_getR (pc := 27) fl_X4_24 dX4_begin_27 g9 ?_
  refine g_iconst (pc := 30) (v := (-1 : Int32)) dX4_begin_30 (by decide) ?_
  obtain ⟨q10, hcq10, hf⟩ := bd_some hf
  refine g_cSV (pc := 31) (k2 := k_J7_fill_53178) (av := [rf X (hR q8 a0 5), .int (-1 : Int32)]) (q := q10) rfl dX4_begin_31 ck_J7_fill_53178 m_286 m_287 (by decide) (by decide) rfl (by simp [rf_cat, rq_cat, ca_i, ca_l, ca_r]) (ct_J7_fill_53178 l X hcq10) ?_
  refine g_aload_n (pc := 34) 0 dX4_begin_34 rfl rfl ?_
  refine g_iconst (pc := 35) (v := (0 : Int32)) dX4_begin_35 (by decide) ?_
  obtain ⟨g11, hf⟩ := gs_some hf
  obtain ⟨h12, eh12, hf⟩ := lt_some hf
  refine g_putI (pc := 36) fl_X4_69 dX4_begin_36 g11 eh12 ?_
  refine g_aload_n (pc := 39) 0 dX4_begin_39 rfl rfl ?_
  refine g_iconst (pc := 40) (v := (0 : Int32)) dX4_begin_40 (by decide) ?_
  have g13 : hS h12 a0 = 4 := (hS_tI eh12 g11)
  obtain ⟨h14, eh14, hf⟩ := lt_some hf
  refine g_putI (pc := 41) fl_X4_72 dX4_begin_41 g13 eh14 ?_
  refine g_aload_n (pc := 44) 0 dX4_begin_44 rfl rfl ?_
  refine g_iconst (pc := 45) (v := (0 : Int32)) dX4_begin_45 (by decide) ?_
  have g15 : hS h14 a0 = 4 := (hS_tI eh14 g13)
  obtain ⟨h16, eh16, hf⟩ := lt_some hf
  refine g_putI (pc := 46) fl_X4_75 dX4_begin_46 g15 eh16 ?_
  obtain rfl := Option.some.inj hf
  exact g_vret (pc := 49) rfl dX4_begin_49
theorem ct_X4_begin (l : Launch) (X : Cx) {h : AH} {a0 : Nat} {a1 : Int32} {a2 : Int32} {q : AH} (hf : f_X4_begin h a0 a1 a2 = some q) : Ct l X k_X4_begin [rf X a0, .int a1, .int a2] h (rV q) := ct_of ck_X4_begin (by simp [lg_sl, rf_cat, rq_cat, ca_i, ca_l, ca_r]) (by simp [lv_args, rf_cat, rq_cat, ca_i, ca_l, ca_r]) (ok_X4_begin l X hf)
set_option maxRecDepth 100000 in
set_option maxHeartbeats 4000000 in
theorem ok_X4_init (l : Launch) (X : Cx) {h : AH} {a0 : Nat} {a1 : Nat} {q : AH} (hf : f_X4_init h a0 a1 = some q) : Go l X k_X4_init 0 [(0, rf X a0), (1, rf X a1)] [] h (rV q) := by
  unfold f_X4_init at hf
  refine g_aload_n (pc := 0) 0 dX4_init_0 rfl rfl ?_
  obtain ⟨g1, hf⟩ := gs_some hf
  refine g_objInit (pc := 1) m_281 m_154 m_155 g1 (by decide) (by decide) (by decide) (by simp [rf_cat, rq_cat, ca_i, ca_l, ca_r]) dX4_init_1 ?_
  refine g_aload_n (pc := 4) 0 dX4_init_4 rfl rfl ?_
  refine g_sipush (pc := 5) (v := (2048 : Int32)) dX4_init_5 (by decide) ?_
  obtain ⟨h2, eh2, hf⟩ := lt_some hf
  refine g_newI (pc := 8) m_252 dX4_init_8 (by decide) eh2 ?_
  obtain ⟨g3, hf⟩ := gs_some hf
  obtain ⟨h4, eh4, hf⟩ := lt_some hf
  refine g_putRF (pc := 10) fl_X4_9 rfl (cl_own rfl) (Or.inr ⟨_, rfl⟩) dX4_init_10 g3 eh4 ?_
  refine g_aload_n (pc := 13) 0 dX4_init_13 rfl rfl ?_
  refine g_sipush (pc := 14) (v := (512 : Int32)) dX4_init_14 (by decide) ?_
  obtain ⟨h5, eh5, hf⟩ := lt_some hf
  refine g_newI (pc := 17) m_252 dX4_init_17 (by decide) eh5 ?_
  obtain ⟨g6, hf⟩ := gs_some hf
  obtain ⟨h7, eh7, hf⟩ := lt_some hf
  refine g_putRF (pc := 19) fl_X4_15 rfl (cl_own rfl) (Or.inr ⟨_, rfl⟩) dX4_init_19 g6 eh7 ?_
  refine g_aload_n (pc := 22) 0 dX4_init_22 rfl rfl ?_
  refine g_sipush (pc := 23) (v := (512 : Int32)) dX4_init_23 (by decide) ?_
  obtain ⟨h8, eh8, hf⟩ := lt_some hf
  refine g_newI (pc := 26) m_252 dX4_init_26 (by decide) eh8 ?_
  obtain ⟨g9, hf⟩ := gs_some hf
  obtain ⟨h10, eh10, hf⟩ := lt_some hf
  refine g_putRF (pc := 28) fl_X4_18 rfl (cl_own rfl) (Or.inr ⟨_, rfl⟩) dX4_init_28 g9 eh10 ?_
  refine g_aload_n (pc := 31) 0 dX4_init_31 rfl rfl ?_
  refine g_sipush (pc := 32) (v := (512 : Int32)) dX4_init_32 (by decide) ?_
  obtain ⟨h11, eh11, hf⟩ := lt_some hf
  refine g_newI (pc := 35) m_252 dX4_init_35 (by decide) eh11 ?_
  obtain ⟨g12, hf⟩ := gs_some hf
  obtain ⟨h13, eh13, hf⟩ := lt_some hf
  refine g_putRF (pc := 37) fl_X4_21 rfl (cl_own rfl) (Or.inr ⟨_, rfl⟩) dX4_init_37 g12 eh13 ?_
  refine g_aload_n (pc := 40) 0 dX4_init_40 rfl rfl ?_
  refine g_sipush (pc := 41) (v := (512 : Int32)) dX4_init_41 (by decide) ?_
  obtain ⟨h14, eh14, hf⟩ := lt_some hf
  refine g_newI (pc := 44) m_252 dX4_init_44 (by decide) eh14 ?_
  obtain ⟨g15, hf⟩ := gs_some hf
  obtain ⟨h16, eh16, hf⟩ := lt_some hf
  refine g_putRF (pc := 46) fl_X4_24 rfl (cl_own rfl) (Or.inr ⟨_, rfl⟩) dX4_init_46 g15 eh16 ?_
  refine g_aload_n (pc := 49) 0 dX4_init_49 rfl rfl ?_
  refine g_sipush (pc := 50) (v := (512 : Int32)) dX4_init_50 (by decide) ?_
  obtain ⟨h17, eh17, hf⟩ := lt_some hf
  refine g_newI (pc := 53) m_252 dX4_init_53 (by decide) eh17 ?_
  obtain ⟨g18, hf⟩ := gs_some hf
  obtain ⟨h19, eh19, hf⟩ := lt_some hf
  refine g_putRF (pc := 55) fl_X4_27 rfl (cl_own rfl) (Or.inr ⟨_, rfl⟩) dX4_init_55 g18 eh19 ?_
  refine g_aload_n (pc := 58) 0 dX4_init_58 rfl rfl ?_
  refine g_sipush (pc := 59) (v := (512 : Int32)) dX4_init_59 (by decide) ?_
  obtain ⟨h20, eh20, hf⟩ := lt_some hf
  refine g_newI (pc := 62) m_252 dX4_init_62 (by decide) eh20 ?_
  obtain ⟨g21, hf⟩ := gs_some hf
  obtain ⟨h22, eh22, hf⟩ := lt_some hf
  refine g_putRF (pc := 64) fl_X4_30 rfl (cl_own rfl) (Or.inr ⟨_, rfl⟩) dX4_init_64 g21 eh22 ?_
  refine g_aload_n (pc := 67) 0 dX4_init_67 rfl rfl ?_
  refine g_sipush (pc := 68) (v := (512 : Int32)) dX4_init_68 (by decide) ?_
  obtain ⟨h23, eh23, hf⟩ := lt_some hf
  refine g_newZ (pc := 71) m_346 dX4_init_71 (by decide) eh23 ?_
  obtain ⟨g24, hf⟩ := gs_some hf
  obtain ⟨h25, eh25, hf⟩ := lt_some hf
  refine g_putRF (pc := 73) fl_X4_33 rfl (cl_own rfl) (Or.inr ⟨_, rfl⟩) dX4_init_73 g24 eh25 ?_
  refine g_aload_n (pc := 76) 0 dX4_init_76 rfl rfl ?_
  refine g_sipush (pc := 77) (v := (512 : Int32)) dX4_init_77 (by decide) ?_
  obtain ⟨h26, eh26, hf⟩ := lt_some hf
  refine g_newI (pc := 80) m_252 dX4_init_80 (by decide) eh26 ?_
  obtain ⟨g27, hf⟩ := gs_some hf
  obtain ⟨h28, eh28, hf⟩ := lt_some hf
  refine g_putRF (pc := 82) fl_X4_37 rfl (cl_own rfl) (Or.inr ⟨_, rfl⟩) dX4_init_82 g27 eh28 ?_
  refine g_aload_n (pc := 85) 0 dX4_init_85 rfl rfl ?_
  refine g_sipush (pc := 86) (v := (2048 : Int32)) dX4_init_86 (by decide) ?_
  obtain ⟨h29, eh29, hf⟩ := lt_some hf
  refine g_newI (pc := 89) m_252 dX4_init_89 (by decide) eh29 ?_
  obtain ⟨g30, hf⟩ := gs_some hf
  obtain ⟨h31, eh31, hf⟩ := lt_some hf
  refine g_putRF (pc := 91) fl_X4_40 rfl (cl_own rfl) (Or.inr ⟨_, rfl⟩) dX4_init_91 g30 eh31 ?_
  refine g_aload_n (pc := 94) 0 dX4_init_94 rfl rfl ?_
  refine g_sipush (pc := 95) (v := (288 : Int32)) dX4_init_95 (by decide) ?_
  obtain ⟨h32, eh32, hf⟩ := lt_some hf
  refine g_newI (pc := 98) m_252 dX4_init_98 (by decide) eh32 ?_
  obtain ⟨g33, hf⟩ := gs_some hf
  obtain ⟨h34, eh34, hf⟩ := lt_some hf
  refine g_putRF (pc := 100) fl_X4_45 rfl (cl_own rfl) (Or.inr ⟨_, rfl⟩) dX4_init_100 g33 eh34 ?_
  refine g_aload_n (pc := 103) 0 dX4_init_103 rfl rfl ?_
  refine g_aload_n (pc := 104) 1 dX4_init_104 rfl rfl ?_
  have g35 : hS h34 a0 = 4 := (hS_tR eh34 g33)
  obtain ⟨h36, eh36, hf⟩ := lt_some hf
  refine g_putRF (pc := 105) fl_X4_48 rfl (cl_own rfl) (Or.inl ⟨_, rfl⟩) dX4_init_105 g35 eh36 ?_
  refine g_aload_n (pc := 108) 0 dX4_init_108 rfl rfl ?_
  refine g_iconst (pc := 109) (v := (1 : Int32)) dX4_init_109 (by decide) ?_
  refine g_iconst (pc := 110) (v := (1 : Int32)) dX4_init_110 (by decide) ?_
  have g37 : hS h36 a0 = 4 := (hS_tR eh36 g35)
  obtain ⟨q38, hcq38, hf⟩ := bd_some hf
  refine g_cVV (pc := 111) (k2 := k_X4_begin) (av := [.int (1 : Int32), .int (1 : Int32)]) (q := q38) rfl dX4_init_111 ck_X4_begin m_282 m_284 m_0 (ci := 3) rfl (by decide) g37 (by decide) (by decide) rfl (by simp [rf_cat, rq_cat, ca_i, ca_l, ca_r]) (ct_X4_begin l X hcq38) ?_
  obtain rfl := Option.some.inj hf
  exact g_vret (pc := 114) rfl dX4_init_114
theorem ct_X4_init (l : Launch) (X : Cx) {h : AH} {a0 : Nat} {a1 : Nat} {q : AH} (hf : f_X4_init h a0 a1 = some q) : Ct l X k_X4_init [rf X a0, rf X a1] h (rV q) := ct_of ck_X4_init (by simp [lg_sl, rf_cat, rq_cat, ca_i, ca_l, ca_r]) (by simp [lv_args, rf_cat, rq_cat, ca_i, ca_l, ca_r]) (ok_X4_init l X hf)
set_option maxRecDepth 100000 in
set_option maxHeartbeats 4000000 in
theorem ok_X4_find_L16 (l : Launch) (X : Cx) (h : AH) : ∀ (n : Nat) (a0 : Nat) (a1 : Int32) (a2 : Int32) (a3 : Int32) (q : Int32), f_X4_find_L16 h n a0 a1 a2 a3 = some q → Go l X k_X4_find 16 [(0, rf X a0), (1, .int a1), (2, .int a2), (3, .int a3)] [] h (rI (q, h)) := by
  intro n
  induction n with
  | zero =>
    intro a0 a1 a2 a3 q hf
    unfold f_X4_find_L16 at hf
    cases hf
  | succ n ih =>
    intro a0 a1 a2 a3 q hf
    unfold f_X4_find_L16 at hf
    refine g_iload_n (pc := 16) 3 dX4_find_16 rfl rfl ?_
    refine g_iload_n (pc := 17) 2 dX4_find_17 rfl rfl ?_
    refine g_aload_n (pc := 18) 0 dX4_find_18 rfl rfl ?_
    obtain ⟨g1, hf⟩ := gs_some hf
    refine g_getI (pc := 19) fl_X4_60 dX4_find_19 g1 ?_
    refine g_iadd (pc := 22) dX4_find_22 ?_
    rcases it_some hf with ⟨c2, hf⟩ | ⟨c2, hf⟩
    · refine g_icge_t (pc := 23) (tgt := 44) dX4_find_23 (by decide) c2 ?_
      refine g_iconst (pc := 44) (v := (-1 : Int32)) dX4_find_44 (by decide) ?_
      obtain rfl := Option.some.inj hf
      exact g_iret (pc := 45) rfl dX4_find_45
    · refine g_icge_f (pc := 23) (tgt := 44) dX4_find_23 (by decide) c2 ?_
      refine g_aload_n (pc := 26) 0 dX4_find_26 rfl rfl ?_
      refine g_getR (pc := 27) fl_X4_15 dX4_find_27 g1 ?_
      refine g_iload_n (pc := 30) 3 dX4_find_30 rfl rfl ?_
      obtain ⟨g3, hf⟩ := gs_some hf
      obtain ⟨b4, hf⟩ := gb_some hf
      refine g_iald (pc := 31) g3 b4 dX4_find_31 ?_
      refine g_iload_n (pc := 32) 1 dX4_find_32 rfl rfl ?_
      rcases it_some hf with ⟨c5, hf⟩ | ⟨c5, hf⟩
      · refine g_icne_t (pc := 33) (tgt := 38) dX4_find_33 (by decide) c5 ?_
        obtain ⟨x6, ex6, hf⟩ := lt_some hf
        refine g_iinc (pc := 38) (y := x6) (L' := [(3, .int x6), (0, rf X a0), (1, .int a1), (2, .int a2)]) 3 dX4_find_38 rfl (by decide) (ex6.trans rfl) rfl ?_
        refine g_goto (pc := 41) (tgt := 16) dX4_find_41 (by decide) ?_
        refine g_sub [1, 2, 3, 0] rfl ?_
        exact ih a0 a1 a2 x6 q hf
      · refine g_icne_f (pc := 33) (tgt := 38) dX4_find_33 (by decide) (Decidable.of_not_not c5) ?_
        refine g_iload_n (pc := 36) 3 dX4_find_36 rfl rfl ?_
        obtain rfl := Option.some.inj hf
        exact g_iret (pc := 37) rfl dX4_find_37
set_option maxRecDepth 100000 in
set_option maxHeartbeats 4000000 in
theorem ok_X4_find (l : Launch) (X : Cx) {h : AH} {a0 : Nat} {a1 : Int32} {q : Int32} (hf : f_X4_find h a0 a1 = some q) : Go l X k_X4_find 0 [(0, rf X a0), (1, .int a1)] [] h (rI (q, h)) := by
  unfold f_X4_find at hf
  refine g_iload_n (pc := 0) 1 dX4_find_0 rfl rfl ?_
  refine g_aload_n (pc := 1) 0 dX4_find_1 rfl rfl ?_
  obtain ⟨g1, hf⟩ := gs_some hf
  refine g_getI (pc := 2) fl_X4_56 dX4_find_2 g1 ?_
  refine g_iconst (pc := 5) (v := (1 : Int32)) dX4_find_5 (by decide) ?_
  refine g_isub (pc := 6) dX4_find_6 ?_
  refine g_iand (pc := 7) dX4_find_7 ?_
  refine g_aload_n (pc := 8) 0 dX4_find_8 rfl rfl ?_
  refine g_getI (pc := 9) fl_X4_60 dX4_find_9 g1 ?_
  refine g_imul (pc := 12) dX4_find_12 ?_
  obtain ⟨x2, ex2, hf⟩ := lt_some hf
  refine g_istore_n (pc := 13) (L' := [(2, .int x2), (0, rf X a0), (1, .int a1)]) dX4_find_13 rfl (by decide) ex2 rfl ?_
  refine g_iload_n (pc := 14) 0 dX4_find_14 rfl rfl ?_
  refine g_istore_n (pc := 15) (L' := [(3, .int x2), (2, .int x2), (0, rf X a0), (1, .int a1)]) dX4_find_15 rfl (by decide) rfl rfl ?_
  refine g_sub [2, 3, 1, 0] rfl ?_
  exact ok_X4_find_L16 l X h FU a0 a1 x2 x2 q hf
theorem ct_X4_find (l : Launch) (X : Cx) {h : AH} {a0 : Nat} {a1 : Int32} {q : Int32} (hf : f_X4_find h a0 a1 = some q) : Ct l X k_X4_find [rf X a0, .int a1] h (rI (q, h)) := ct_of ck_X4_find (by simp [lg_sl, rf_cat, rq_cat, ca_i, ca_l, ca_r]) (by simp [lv_args, rf_cat, rq_cat, ca_i, ca_l, ca_r]) (ok_X4_find l X hf)
set_option maxRecDepth 100000 in
set_option maxHeartbeats 4000000 in
theorem ok_X4_tell (l : Launch) (X : Cx) {h : AH} {a0 : Nat} {a1 : Int32} {a2 : Int32} {q : Int32} (hf : f_X4_tell h a0 a1 a2 = some q) : Go l X k_X4_tell 0 [(0, rf X a0), (1, .int a1), (2, .int a2)] [] h (rI (q, h)) := by
  unfold f_X4_tell at hf
  refine g_iload_n (pc := 0) 2 dX4_tell_0 rfl rfl ?_
  rcases it_some hf with ⟨c1, hf⟩ | ⟨c1, hf⟩
  · refine g_tsw (pc := 1) (tgt := 56) (0 : Int32) dX4_tell_1 c1 (by decide +kernel) (by decide +kernel) (off := 55) (by decide +kernel) (by decide) ?_
    refine g_aload_n (pc := 56) 0 dX4_tell_56 rfl rfl ?_
    obtain ⟨g2, hf⟩ := gs_some hf
    refine g_getR (pc := 57) fl_X4_18 dX4_tell_57 g2 ?_
    refine g_iload_n (pc := 60) 1 dX4_tell_60 rfl rfl ?_
    obtain ⟨g3, hf⟩ := gs_some hf
    obtain ⟨b4, hf⟩ := gb_some hf
    refine g_iald (pc := 61) g3 b4 dX4_tell_61 ?_
    obtain rfl := Option.some.inj hf
    exact g_iret (pc := 62) rfl dX4_tell_62
  ·
    rcases it_some hf with ⟨c5, hf⟩ | ⟨c5, hf⟩
    · refine g_tsw (pc := 1) (tgt := 63) (1 : Int32) dX4_tell_1 c5 (by decide +kernel) (by decide +kernel) (off := 62) (by decide +kernel) (by decide) ?_
      refine g_aload_n (pc := 63) 0 dX4_tell_63 rfl rfl ?_
      obtain ⟨g6, hf⟩ := gs_some hf
      refine g_getR (pc := 64) fl_X4_21 dX4_tell_64 g6 ?_
      refine g_iload_n (pc := 67) 1 dX4_tell_67 rfl rfl ?_
      obtain ⟨g7, hf⟩ := gs_some hf
      obtain ⟨b8, hf⟩ := gb_some hf
      refine g_iald (pc := 68) g7 b8 dX4_tell_68 ?_
      obtain rfl := Option.some.inj hf
      exact g_iret (pc := 69) rfl dX4_tell_69
    ·
      rcases it_some hf with ⟨c9, hf⟩ | ⟨c9, hf⟩
      · refine g_tsw (pc := 1) (tgt := 70) (2 : Int32) dX4_tell_1 c9 (by decide +kernel) (by decide +kernel) (off := 69) (by decide +kernel) (by decide) ?_
        refine g_aload_n (pc := 70) 0 dX4_tell_70 rfl rfl ?_
        obtain ⟨g10, hf⟩ := gs_some hf
        refine g_getR (pc := 71) fl_X4_24 dX4_tell_71 g10 ?_
        refine g_iload_n (pc := 74) 1 dX4_tell_74 rfl rfl ?_
        obtain ⟨g11, hf⟩ := gs_some hf
        obtain ⟨b12, hf⟩ := gb_some hf
        refine g_iald (pc := 75) g11 b12 dX4_tell_75 ?_
        obtain rfl := Option.some.inj hf
        exact g_iret (pc := 76) rfl dX4_tell_76
      ·
        rcases it_some hf with ⟨c13, hf⟩ | ⟨c13, hf⟩
        · refine g_tsw (pc := 1) (tgt := 77) (3 : Int32) dX4_tell_1 c13 (by decide +kernel) (by decide +kernel) (off := 76) (by decide +kernel) (by decide) ?_
          refine g_aload_n (pc := 77) 0 dX4_tell_77 rfl rfl ?_
          obtain ⟨g14, hf⟩ := gs_some hf
          refine g_getR (pc := 78) fl_X4_30 dX4_tell_78 g14 ?_
          refine g_iload_n (pc := 81) 1 dX4_tell_81 rfl rfl ?_
          obtain ⟨g15, hf⟩ := gs_some hf
          obtain ⟨b16, hf⟩ := gb_some hf
          refine g_iald (pc := 82) g15 b16 dX4_tell_82 ?_
          obtain rfl := Option.some.inj hf
          exact g_iret (pc := 83) rfl dX4_tell_83
        ·
          rcases it_some hf with ⟨c17, hf⟩ | ⟨c17, hf⟩
          · refine g_tsw (pc := 1) (tgt := 84) (4 : Int32) dX4_tell_1 c17 (by decide +kernel) (by decide +kernel) (off := 83) (by decide +kernel) (by decide) ?_
            refine g_aload_n (pc := 84) 0 dX4_tell_84 rfl rfl ?_
            obtain ⟨g18, hf⟩ := gs_some hf
            refine g_getR (pc := 85) fl_X4_33 dX4_tell_85 g18 ?_
            refine g_iload_n (pc := 88) 1 dX4_tell_88 rfl rfl ?_
            obtain ⟨g19, hf⟩ := gs_some hf
            obtain ⟨b20, hf⟩ := gb_some hf
            refine g_zald (pc := 89) g19 b20 dX4_tell_89 ?_
            rcases it_some hf with ⟨c21, hf⟩ | ⟨c21, hf⟩
            · refine g_ifeq_t (pc := 90) (tgt := 97) dX4_tell_90 (by decide) c21 ?_
              refine g_iconst (pc := 97) (v := (0 : Int32)) dX4_tell_97 (by decide) ?_
              obtain rfl := Option.some.inj hf
              exact g_iret (pc := 98) rfl dX4_tell_98
            · refine g_ifeq_f (pc := 90) (tgt := 97) dX4_tell_90 (by decide) c21 ?_
              refine g_iconst (pc := 93) (v := (1 : Int32)) dX4_tell_93 (by decide) ?_
              refine g_goto (pc := 94) (tgt := 98) dX4_tell_94 (by decide) ?_
              obtain rfl := Option.some.inj hf
              exact g_iret (pc := 98) rfl dX4_tell_98
          ·
            rcases it_some hf with ⟨c22, hf⟩ | ⟨c22, hf⟩
            · refine g_tsw (pc := 1) (tgt := 99) (9 : Int32) dX4_tell_1 c22 (by decide +kernel) (by decide +kernel) (off := 98) (by decide +kernel) (by decide) ?_
              refine g_iload_n (pc := 99) 1 dX4_tell_99 rfl rfl ?_
              refine g_aload_n (pc := 100) 0 dX4_tell_100 rfl rfl ?_
              obtain ⟨g23, hf⟩ := gs_some hf
              refine g_getR (pc := 101) fl_X4_15 dX4_tell_101 g23 ?_
              refine g_iload_n (pc := 104) 1 dX4_tell_104 rfl rfl ?_
              obtain ⟨g24, hf⟩ := gs_some hf
              obtain ⟨b25, hf⟩ := gb_some hf
              refine g_iald (pc := 105) g24 b25 dX4_tell_105 ?_
              refine g_aload_n (pc := 106) 0 dX4_tell_106 rfl rfl ?_
              refine g_getI (pc := 107) fl_X4_56 dX4_tell_107 g23 ?_
              refine g_iconst (pc := 110) (v := (1 : Int32)) dX4_tell_110 (by decide) ?_
              refine g_isub (pc := 111) dX4_tell_111 ?_
              refine g_iand (pc := 112) dX4_tell_112 ?_
              refine g_aload_n (pc := 113) 0 dX4_tell_113 rfl rfl ?_
              refine g_getI (pc := 114) fl_X4_60 dX4_tell_114 g23 ?_
              refine g_imul (pc := 117) dX4_tell_117 ?_
              refine g_isub (pc := 118) dX4_tell_118 ?_
              obtain rfl := Option.some.inj hf
              exact g_iret (pc := 119) rfl dX4_tell_119
            ·
              refine g_tswD (pc := 1) (tgt := 120) [(0 : Int32), (1 : Int32), (2 : Int32), (3 : Int32), (4 : Int32), (9 : Int32)] dX4_tell_1 (cons_ne c1 (cons_ne c5 (cons_ne c9 (cons_ne c13 (cons_ne c17 (cons_ne c22 nil_ne)))))) (by decide +kernel) (by decide +kernel) (by decide) ?_
              refine g_aload_n (pc := 120) 0 dX4_tell_120 rfl rfl ?_
              obtain ⟨g26, hf⟩ := gs_some hf
              refine g_getR (pc := 121) fl_X4_40 dX4_tell_121 g26 ?_
              refine g_iload_n (pc := 124) 1 dX4_tell_124 rfl rfl ?_
              refine g_iconst (pc := 125) (v := (4 : Int32)) dX4_tell_125 (by decide) ?_
              refine g_imul (pc := 126) dX4_tell_126 ?_
              refine g_iload_n (pc := 127) 2 dX4_tell_127 rfl rfl ?_
              refine g_iconst (pc := 128) (v := (5 : Int32)) dX4_tell_128 (by decide) ?_
              refine g_isub (pc := 129) dX4_tell_129 ?_
              refine g_iconst (pc := 130) (v := (3 : Int32)) dX4_tell_130 (by decide) ?_
              refine g_iand (pc := 131) dX4_tell_131 ?_
              refine g_iadd (pc := 132) dX4_tell_132 ?_
              obtain ⟨g27, hf⟩ := gs_some hf
              obtain ⟨b28, hf⟩ := gb_some hf
              refine g_iald (pc := 133) g27 b28 dX4_tell_133 ?_
              obtain rfl := Option.some.inj hf
              exact g_iret (pc := 134) rfl dX4_tell_134
theorem ct_X4_tell (l : Launch) (X : Cx) {h : AH} {a0 : Nat} {a1 : Int32} {a2 : Int32} {q : Int32} (hf : f_X4_tell h a0 a1 a2 = some q) : Ct l X k_X4_tell [rf X a0, .int a1, .int a2] h (rI (q, h)) := ct_of ck_X4_tell (by simp [lg_sl, rf_cat, rq_cat, ca_i, ca_l, ca_r]) (by simp [lv_args, rf_cat, rq_cat, ca_i, ca_l, ca_r]) (ok_X4_tell l X hf)
set_option maxRecDepth 100000 in
set_option maxHeartbeats 4000000 in
theorem ok_X4_countAt_L37 (l : Launch) (X : Cx) (h : AH) (k4 : Nat → Int32 → Int32 → Int32 → Option (Int32)) (hk4 : ∀ (a0 : Nat) (a1 : Int32) (a2 : Int32) (a3 : Int32) (q : Int32), k4 a0 a1 a2 a3 = some q → Go l X k_X4_countAt 4 [(0, rf X a0), (1, .int a1), (2, .int a2), (3, .int a3)] [] h (rI (q, h))) (a0 : Nat) (a1 : Int32) (a2 : Int32) (a3 : Int32) (q : Int32) (hf : f_X4_countAt_L37 h k4 a0 a1 a2 a3 = some q) : Go l X k_X4_countAt 37 [(0, rf X a0), (1, .int a1), (2, .int a2), (3, .int a3)] [] h (rI (q, h)) := by
  unfold f_X4_countAt_L37 at hf
  obtain ⟨x1, ex1, hf⟩ := lt_some hf
  refine g_iinc (pc := 37) (y := x1) (L' := [(3, .int x1), (0, rf X a0), (1, .int a1), (2, .int a2)]) 3 dX4_countAt_37 rfl (by decide) (ex1.trans rfl) rfl ?_
  refine g_goto (pc := 40) (tgt := 4) dX4_countAt_40 (by decide) ?_
  refine g_sub [1, 2, 3, 0] rfl ?_
  exact hk4 a0 a1 a2 x1 q hf
set_option maxRecDepth 100000 in
set_option maxHeartbeats 4000000 in
theorem ok_X4_countAt_L4 (l : Launch) (X : Cx) (h : AH) : ∀ (n : Nat) (a0 : Nat) (a1 : Int32) (a2 : Int32) (a3 : Int32) (q : Int32), f_X4_countAt_L4 h n a0 a1 a2 a3 = some q → Go l X k_X4_countAt 4 [(0, rf X a0), (1, .int a1), (2, .int a2), (3, .int a3)] [] h (rI (q, h)) := by
  intro n
  induction n with
  | zero =>
    intro a0 a1 a2 a3 q hf
    unfold f_X4_countAt_L4 at hf
    cases hf
  | succ n ih =>
    intro a0 a1 a2 a3 q hf
    unfold f_X4_countAt_L4 at hf
    refine g_iload_n (pc := 4) 3 dX4_countAt_4 rfl rfl ?_
    refine g_aload_n (pc := 5) 0 dX4_countAt_5 rfl rfl ?_
    obtain ⟨g1, hf⟩ := gs_some hf
    refine g_getI (pc := 6) fl_X4_69 dX4_countAt_6 g1 ?_
    rcases it_some hf with ⟨c2, hf⟩ | ⟨c2, hf⟩
    · refine g_icge_t (pc := 9) (tgt := 43) dX4_countAt_9 (by decide) c2 ?_
      refine g_iload_n (pc := 43) 2 dX4_countAt_43 rfl rfl ?_
      obtain rfl := Option.some.inj hf
      exact g_iret (pc := 44) rfl dX4_countAt_44
    · refine g_icge_f (pc := 9) (tgt := 43) dX4_countAt_9 (by decide) c2 ?_
      refine g_aload_n (pc := 12) 0 dX4_countAt_12 rfl rfl ?_
      refine g_getR (pc := 13) fl_X4_45 dX4_countAt_13 g1 ?_
      refine g_iload_n (pc := 16) 3 dX4_countAt_16 rfl rfl ?_
      refine g_bipush (pc := 17) (v := (9 : Int32)) dX4_countAt_17 (by decide) ?_
      refine g_imul (pc := 19) dX4_countAt_19 ?_
      refine g_iconst (pc := 20) (v := (3 : Int32)) dX4_countAt_20 (by decide) ?_
      refine g_iadd (pc := 21) dX4_countAt_21 ?_
      obtain ⟨g3, hf⟩ := gs_some hf
      obtain ⟨b4, hf⟩ := gb_some hf
      refine g_iald (pc := 22) g3 b4 dX4_countAt_22 ?_
      refine g_aload_n (pc := 23) 0 dX4_countAt_23 rfl rfl ?_
      refine g_getI (pc := 24) fl_X4_56 dX4_countAt_24 g1 ?_
      refine g_iconst (pc := 27) (v := (1 : Int32)) dX4_countAt_27 (by decide) ?_
      refine g_isub (pc := 28) dX4_countAt_28 ?_
      refine g_iand (pc := 29) dX4_countAt_29 ?_
      refine g_iload_n (pc := 30) 1 dX4_countAt_30 rfl rfl ?_
      rcases it_some hf with ⟨c5, hf⟩ | ⟨c5, hf⟩
      · refine g_icne_t (pc := 31) (tgt := 37) dX4_countAt_31 (by decide) c5 ?_
        exact ok_X4_countAt_L37 l X h (f_X4_countAt_L4 h n) ih a0 a1 a2 a3 q hf
      · refine g_icne_f (pc := 31) (tgt := 37) dX4_countAt_31 (by decide) (Decidable.of_not_not c5) ?_
        obtain ⟨x6, ex6, hf⟩ := lt_some hf
        refine g_iinc (pc := 34) (y := x6) (L' := [(2, .int x6), (0, rf X a0), (1, .int a1), (3, .int a3)]) 2 dX4_countAt_34 rfl (by decide) (ex6.trans rfl) rfl ?_
        refine g_sub [1, 2, 0, 3] rfl ?_
        exact ok_X4_countAt_L37 l X h (f_X4_countAt_L4 h n) ih a0 a1 x6 a3 q hf
set_option maxRecDepth 100000 in
set_option maxHeartbeats 4000000 in
theorem ok_X4_countAt (l : Launch) (X : Cx) {h : AH} {a0 : Nat} {a1 : Int32} {q : Int32} (hf : f_X4_countAt h a0 a1 = some q) : Go l X k_X4_countAt 0 [(0, rf X a0), (1, .int a1)] [] h (rI (q, h)) := by
  unfold f_X4_countAt at hf
  refine g_iconst (pc := 0) (v := (0 : Int32)) dX4_countAt_0 (by decide) ?_
  obtain ⟨x1, ex1, hf⟩ := lt_some hf
  refine g_istore_n (pc := 1) (L' := [(2, .int x1), (0, rf X a0), (1, .int a1)]) dX4_countAt_1 rfl (by decide) ex1 rfl ?_
  refine g_iconst (pc := 2) (v := (0 : Int32)) dX4_countAt_2 (by decide) ?_
  obtain ⟨x2, ex2, hf⟩ := lt_some hf
  refine g_istore_n (pc := 3) (L' := [(3, .int x2), (2, .int x1), (0, rf X a0), (1, .int a1)]) dX4_countAt_3 rfl (by decide) ex2 rfl ?_
  refine g_sub [2, 3, 1, 0] rfl ?_
  exact ok_X4_countAt_L4 l X h FU a0 a1 x1 x2 q hf
theorem ct_X4_countAt (l : Launch) (X : Cx) {h : AH} {a0 : Nat} {a1 : Int32} {q : Int32} (hf : f_X4_countAt h a0 a1 = some q) : Ct l X k_X4_countAt [rf X a0, .int a1] h (rI (q, h)) := ct_of ck_X4_countAt (by simp [lg_sl, rf_cat, rq_cat, ca_i, ca_l, ca_r]) (by simp [lv_args, rf_cat, rq_cat, ca_i, ca_l, ca_r]) (ok_X4_countAt l X hf)
set_option maxRecDepth 100000 in
set_option maxHeartbeats 4000000 in
theorem ok_X4_countLines_L30 (l : Launch) (X : Cx) (h : AH) (k4 : Nat → Int32 → Int32 → Option (Int32)) (hk4 : ∀ (a0 : Nat) (a1 : Int32) (a2 : Int32) (q : Int32), k4 a0 a1 a2 = some q → Go l X k_X4_countLines 4 [(0, rf X a0), (1, .int a1), (2, .int a2)] [] h (rI (q, h))) (a0 : Nat) (a1 : Int32) (a2 : Int32) (q : Int32) (hf : f_X4_countLines_L30 h k4 a0 a1 a2 = some q) : Go l X k_X4_countLines 30 [(0, rf X a0), (1, .int a1), (2, .int a2)] [] h (rI (q, h)) := by
  unfold f_X4_countLines_L30 at hf
  obtain ⟨x1, ex1, hf⟩ := lt_some hf
  refine g_iinc (pc := 30) (y := x1) (L' := [(2, .int x1), (0, rf X a0), (1, .int a1)]) 2 dX4_countLines_30 rfl (by decide) (ex1.trans rfl) rfl ?_
  refine g_goto (pc := 33) (tgt := 4) dX4_countLines_33 (by decide) ?_
  refine g_sub [1, 2, 0] rfl ?_
  exact hk4 a0 a1 x1 q hf
set_option maxRecDepth 100000 in
set_option maxHeartbeats 4000000 in
theorem ok_X4_countLines_L4 (l : Launch) (X : Cx) (h : AH) : ∀ (n : Nat) (a0 : Nat) (a1 : Int32) (a2 : Int32) (q : Int32), f_X4_countLines_L4 h n a0 a1 a2 = some q → Go l X k_X4_countLines 4 [(0, rf X a0), (1, .int a1), (2, .int a2)] [] h (rI (q, h)) := by
  intro n
  induction n with
  | zero =>
    intro a0 a1 a2 q hf
    unfold f_X4_countLines_L4 at hf
    cases hf
  | succ n ih =>
    intro a0 a1 a2 q hf
    unfold f_X4_countLines_L4 at hf
    refine g_iload_n (pc := 4) 2 dX4_countLines_4 rfl rfl ?_
    refine g_aload_n (pc := 5) 0 dX4_countLines_5 rfl rfl ?_
    obtain ⟨g1, hf⟩ := gs_some hf
    refine g_getI (pc := 6) fl_X4_56 dX4_countLines_6 g1 ?_
    refine g_aload_n (pc := 9) 0 dX4_countLines_9 rfl rfl ?_
    refine g_getI (pc := 10) fl_X4_60 dX4_countLines_10 g1 ?_
    refine g_imul (pc := 13) dX4_countLines_13 ?_
    rcases it_some hf with ⟨c2, hf⟩ | ⟨c2, hf⟩
    · refine g_icge_t (pc := 14) (tgt := 36) dX4_countLines_14 (by decide) c2 ?_
      refine g_iload_n (pc := 36) 1 dX4_countLines_36 rfl rfl ?_
      obtain rfl := Option.some.inj hf
      exact g_iret (pc := 37) rfl dX4_countLines_37
    · refine g_icge_f (pc := 14) (tgt := 36) dX4_countLines_14 (by decide) c2 ?_
      refine g_aload_n (pc := 17) 0 dX4_countLines_17 rfl rfl ?_
      refine g_getR (pc := 18) fl_X4_15 dX4_countLines_18 g1 ?_
      refine g_iload_n (pc := 21) 2 dX4_countLines_21 rfl rfl ?_
      obtain ⟨g3, hf⟩ := gs_some hf
      obtain ⟨b4, hf⟩ := gb_some hf
      refine g_iald (pc := 22) g3 b4 dX4_countLines_22 ?_
      refine g_iconst (pc := 23) (v := (-1 : Int32)) dX4_countLines_23 (by decide) ?_
      rcases it_some hf with ⟨c5, hf⟩ | ⟨c5, hf⟩
      · refine g_iceq_t (pc := 24) (tgt := 30) dX4_countLines_24 (by decide) c5 ?_
        exact ok_X4_countLines_L30 l X h (f_X4_countLines_L4 h n) ih a0 a1 a2 q hf
      · refine g_iceq_f (pc := 24) (tgt := 30) dX4_countLines_24 (by decide) c5 ?_
        obtain ⟨x6, ex6, hf⟩ := lt_some hf
        refine g_iinc (pc := 27) (y := x6) (L' := [(1, .int x6), (0, rf X a0), (2, .int a2)]) 1 dX4_countLines_27 rfl (by decide) (ex6.trans rfl) (by simp [rf_cat, rq_cat]) ?_
        refine g_sub [1, 0, 2] rfl ?_
        exact ok_X4_countLines_L30 l X h (f_X4_countLines_L4 h n) ih a0 x6 a2 q hf
set_option maxRecDepth 100000 in
set_option maxHeartbeats 4000000 in
theorem ok_X4_countLines (l : Launch) (X : Cx) {h : AH} {a0 : Nat} {q : Int32} (hf : f_X4_countLines h a0 = some q) : Go l X k_X4_countLines 0 [(0, rf X a0)] [] h (rI (q, h)) := by
  unfold f_X4_countLines at hf
  refine g_iconst (pc := 0) (v := (0 : Int32)) dX4_countLines_0 (by decide) ?_
  obtain ⟨x1, ex1, hf⟩ := lt_some hf
  refine g_istore_n (pc := 1) (L' := [(1, .int x1), (0, rf X a0)]) dX4_countLines_1 rfl (by decide) ex1 (by simp [rf_cat, rq_cat]) ?_
  refine g_iconst (pc := 2) (v := (0 : Int32)) dX4_countLines_2 (by decide) ?_
  obtain ⟨x2, ex2, hf⟩ := lt_some hf
  refine g_istore_n (pc := 3) (L' := [(2, .int x2), (1, .int x1), (0, rf X a0)]) dX4_countLines_3 rfl (by decide) ex2 rfl ?_
  refine g_sub [2, 1, 0] rfl ?_
  exact ok_X4_countLines_L4 l X h FU a0 x1 x2 q hf
theorem ct_X4_countLines (l : Launch) (X : Cx) {h : AH} {a0 : Nat} {q : Int32} (hf : f_X4_countLines h a0 = some q) : Ct l X k_X4_countLines [rf X a0] h (rI (q, h)) := ct_of ck_X4_countLines (by simp [lg_sl, rf_cat, rq_cat, ca_i, ca_l, ca_r]) (by simp [lv_args, rf_cat, rq_cat, ca_i, ca_l, ca_r]) (ok_X4_countLines l X hf)
