set_option maxRecDepth 100000 in
set_option maxHeartbeats 4000000 in
theorem ok_X0_variant (l : Launch) (X : Cx) {h : AH} {a0 : Int32} {q : Int32} (hf : f_X0_variant h a0 = some q) : Go l X k_X0_variant 0 [(0, .int a0)] [] h (rI (q, h)) := by
  unfold f_X0_variant at hf
  refine g_iload_n (pc := 0) 0 dX0_variant_0 rfl rfl ?_
  refine g_bipush (pc := 1) (v := (12 : Int32)) dX0_variant_1 (by decide) ?_
  refine g_iushr (pc := 3) dX0_variant_3 ?_
  refine g_bipush (pc := 4) (v := (7 : Int32)) dX0_variant_4 (by decide) ?_
  refine g_iand (pc := 6) dX0_variant_6 ?_
  obtain rfl := Option.some.inj hf
  exact g_iret (pc := 7) rfl dX0_variant_7
theorem ct_X0_variant (l : Launch) (X : Cx) {h : AH} {a0 : Int32} {q : Int32} (hf : f_X0_variant h a0 = some q) : Ct l X k_X0_variant [.int a0] h (rI (q, h)) := ct_of ck_X0_variant (by simp [lg_sl, rf_cat, rq_cat, ca_i, ca_l, ca_r]) (by simp [lv_args, rf_cat, rq_cat, ca_i, ca_l, ca_r]) (ok_X0_variant l X hf)
set_option maxRecDepth 100000 in
set_option maxHeartbeats 4000000 in
theorem ok_X0_jumpDistance (l : Launch) (X : Cx) {h : AH} {a0 : Int32} {q : Int32} (hf : f_X0_jumpDistance h a0 = some q) : Go l X k_X0_jumpDistance 0 [(0, .int a0)] [] h (rI (q, h)) := by
  unfold f_X0_jumpDistance at hf
  refine g_iload_n (pc := 0) 0 dX0_jumpDistance_0 rfl rfl ?_
  refine g_bipush (pc := 1) (v := (31 : Int32)) dX0_jumpDistance_1 (by decide) ?_
  refine g_ishr (pc := 3) dX0_jumpDistance_3 ?_
  refine g_bipush (pc := 4) (v := (20 : Int32)) dX0_jumpDistance_4 (by decide) ?_
  refine g_ishl (pc := 6) dX0_jumpDistance_6 ?_
  refine g_iload_n (pc := 7) 0 dX0_jumpDistance_7 rfl rfl ?_
  refine g_ldc (pc := 8) (v := (1044480 : Int32)) m_1058 dX0_jumpDistance_8 ?_
  refine g_iand (pc := 10) dX0_jumpDistance_10 ?_
  refine g_ior (pc := 11) dX0_jumpDistance_11 ?_
  refine g_iload_n (pc := 12) 0 dX0_jumpDistance_12 rfl rfl ?_
  refine g_bipush (pc := 13) (v := (20 : Int32)) dX0_jumpDistance_13 (by decide) ?_
  refine g_iushr (pc := 15) dX0_jumpDistance_15 ?_
  refine g_iconst (pc := 16) (v := (1 : Int32)) dX0_jumpDistance_16 (by decide) ?_
  refine g_iand (pc := 17) dX0_jumpDistance_17 ?_
  refine g_bipush (pc := 18) (v := (11 : Int32)) dX0_jumpDistance_18 (by decide) ?_
  refine g_ishl (pc := 20) dX0_jumpDistance_20 ?_
  refine g_ior (pc := 21) dX0_jumpDistance_21 ?_
  refine g_iload_n (pc := 22) 0 dX0_jumpDistance_22 rfl rfl ?_
  refine g_bipush (pc := 23) (v := (21 : Int32)) dX0_jumpDistance_23 (by decide) ?_
  refine g_iushr (pc := 25) dX0_jumpDistance_25 ?_
  refine g_sipush (pc := 26) (v := (1023 : Int32)) dX0_jumpDistance_26 (by decide) ?_
  refine g_iand (pc := 29) dX0_jumpDistance_29 ?_
  refine g_iconst (pc := 30) (v := (1 : Int32)) dX0_jumpDistance_30 (by decide) ?_
  refine g_ishl (pc := 31) dX0_jumpDistance_31 ?_
  refine g_ior (pc := 32) dX0_jumpDistance_32 ?_
  obtain rfl := Option.some.inj hf
  exact g_iret (pc := 33) rfl dX0_jumpDistance_33
theorem ct_X0_jumpDistance (l : Launch) (X : Cx) {h : AH} {a0 : Int32} {q : Int32} (hf : f_X0_jumpDistance h a0 = some q) : Ct l X k_X0_jumpDistance [.int a0] h (rI (q, h)) := ct_of ck_X0_jumpDistance (by simp [lg_sl, rf_cat, rq_cat, ca_i, ca_l, ca_r]) (by simp [lv_args, rf_cat, rq_cat, ca_i, ca_l, ca_r]) (ok_X0_jumpDistance l X hf)
set_option maxRecDepth 100000 in
set_option maxHeartbeats 4000000 in
theorem ok_X0_branchDistance (l : Launch) (X : Cx) {h : AH} {a0 : Int32} {q : Int32} (hf : f_X0_branchDistance h a0 = some q) : Go l X k_X0_branchDistance 0 [(0, .int a0)] [] h (rI (q, h)) := by
  unfold f_X0_branchDistance at hf
  refine g_iload_n (pc := 0) 0 dX0_branchDistance_0 rfl rfl ?_
  refine g_bipush (pc := 1) (v := (31 : Int32)) dX0_branchDistance_1 (by decide) ?_
  refine g_ishr (pc := 3) dX0_branchDistance_3 ?_
  refine g_bipush (pc := 4) (v := (12 : Int32)) dX0_branchDistance_4 (by decide) ?_
  refine g_ishl (pc := 6) dX0_branchDistance_6 ?_
  refine g_iload_n (pc := 7) 0 dX0_branchDistance_7 rfl rfl ?_
  refine g_bipush (pc := 8) (v := (7 : Int32)) dX0_branchDistance_8 (by decide) ?_
  refine g_iushr (pc := 10) dX0_branchDistance_10 ?_
  refine g_iconst (pc := 11) (v := (1 : Int32)) dX0_branchDistance_11 (by decide) ?_
  refine g_iand (pc := 12) dX0_branchDistance_12 ?_
  refine g_bipush (pc := 13) (v := (11 : Int32)) dX0_branchDistance_13 (by decide) ?_
  refine g_ishl (pc := 15) dX0_branchDistance_15 ?_
  refine g_ior (pc := 16) dX0_branchDistance_16 ?_
  refine g_iload_n (pc := 17) 0 dX0_branchDistance_17 rfl rfl ?_
  refine g_bipush (pc := 18) (v := (25 : Int32)) dX0_branchDistance_18 (by decide) ?_
  refine g_iushr (pc := 20) dX0_branchDistance_20 ?_
  refine g_bipush (pc := 21) (v := (63 : Int32)) dX0_branchDistance_21 (by decide) ?_
  refine g_iand (pc := 23) dX0_branchDistance_23 ?_
  refine g_iconst (pc := 24) (v := (5 : Int32)) dX0_branchDistance_24 (by decide) ?_
  refine g_ishl (pc := 25) dX0_branchDistance_25 ?_
  refine g_ior (pc := 26) dX0_branchDistance_26 ?_
  refine g_iload_n (pc := 27) 0 dX0_branchDistance_27 rfl rfl ?_
  refine g_bipush (pc := 28) (v := (8 : Int32)) dX0_branchDistance_28 (by decide) ?_
  refine g_iushr (pc := 30) dX0_branchDistance_30 ?_
  refine g_bipush (pc := 31) (v := (15 : Int32)) dX0_branchDistance_31 (by decide) ?_
  refine g_iand (pc := 33) dX0_branchDistance_33 ?_
  refine g_iconst (pc := 34) (v := (1 : Int32)) dX0_branchDistance_34 (by decide) ?_
  refine g_ishl (pc := 35) dX0_branchDistance_35 ?_
  refine g_ior (pc := 36) dX0_branchDistance_36 ?_
  obtain rfl := Option.some.inj hf
  exact g_iret (pc := 37) rfl dX0_branchDistance_37
theorem ct_X0_branchDistance (l : Launch) (X : Cx) {h : AH} {a0 : Int32} {q : Int32} (hf : f_X0_branchDistance h a0 = some q) : Ct l X k_X0_branchDistance [.int a0] h (rI (q, h)) := ct_of ck_X0_branchDistance (by simp [lg_sl, rf_cat, rq_cat, ca_i, ca_l, ca_r]) (by simp [lv_args, rf_cat, rq_cat, ca_i, ca_l, ca_r]) (ok_X0_branchDistance l X hf)
set_option maxRecDepth 100000 in
set_option maxHeartbeats 4000000 in
theorem ok_X0_storeDistance (l : Launch) (X : Cx) {h : AH} {a0 : Int32} {q : Int32} (hf : f_X0_storeDistance h a0 = some q) : Go l X k_X0_storeDistance 0 [(0, .int a0)] [] h (rI (q, h)) := by
  unfold f_X0_storeDistance at hf
  refine g_iload_n (pc := 0) 0 dX0_storeDistance_0 rfl rfl ?_
  refine g_bipush (pc := 1) (v := (25 : Int32)) dX0_storeDistance_1 (by decide) ?_
  refine g_ishr (pc := 3) dX0_storeDistance_3 ?_
  refine g_iconst (pc := 4) (v := (5 : Int32)) dX0_storeDistance_4 (by decide) ?_
  refine g_ishl (pc := 5) dX0_storeDistance_5 ?_
  refine g_iload_n (pc := 6) 0 dX0_storeDistance_6 rfl rfl ?_
  refine g_bipush (pc := 7) (v := (7 : Int32)) dX0_storeDistance_7 (by decide) ?_
  refine g_iushr (pc := 9) dX0_storeDistance_9 ?_
  refine g_bipush (pc := 10) (v := (31 : Int32)) dX0_storeDistance_10 (by decide) ?_
  refine g_iand (pc := 12) dX0_storeDistance_12 ?_
  refine g_ior (pc := 13) dX0_storeDistance_13 ?_
  obtain rfl := Option.some.inj hf
  exact g_iret (pc := 14) rfl dX0_storeDistance_14
theorem ct_X0_storeDistance (l : Launch) (X : Cx) {h : AH} {a0 : Int32} {q : Int32} (hf : f_X0_storeDistance h a0 = some q) : Ct l X k_X0_storeDistance [.int a0] h (rI (q, h)) := ct_of ck_X0_storeDistance (by simp [lg_sl, rf_cat, rq_cat, ca_i, ca_l, ca_r]) (by simp [lv_args, rf_cat, rq_cat, ca_i, ca_l, ca_r]) (ok_X0_storeDistance l X hf)
set_option maxRecDepth 100000 in
set_option maxHeartbeats 4000000 in
theorem ok_X0_knows_L29 (l : Launch) (X : Cx) (h : AH)  (q : Int32) (hf : f_X0_knows_L29 h  = some q) : Go l X k_X0_knows 29 [] [] h (rI (q, h)) := by
  unfold f_X0_knows_L29 at hf
  refine g_iconst (pc := 29) (v := (1 : Int32)) dX0_knows_29 (by decide) ?_
  refine g_goto (pc := 30) (tgt := 34) dX0_knows_30 (by decide) ?_
  obtain rfl := Option.some.inj hf
  exact g_zret (pc := 34) rfl rfl dX0_knows_34
set_option maxRecDepth 100000 in
set_option maxHeartbeats 4000000 in
theorem ok_X0_knows (l : Launch) (X : Cx) {h : AH} {a0 : Int32} {q : Int32} (hf : f_X0_knows h a0 = some q) : Go l X k_X0_knows 0 [(0, .int a0)] [] h (rI (q, h)) := by
  unfold f_X0_knows at hf
  refine g_iload_n (pc := 0) 0 dX0_knows_0 rfl rfl ?_
  refine g_bipush (pc := 1) (v := (25 : Int32)) dX0_knows_1 (by decide) ?_
  refine g_iushr (pc := 3) dX0_knows_3 ?_
  obtain ⟨x1, ex1, hf⟩ := lt_some hf
  refine g_istore_n (pc := 4) (L' := [(1, .int x1), (0, .int a0)]) dX0_knows_4 rfl (by decide) ex1 rfl ?_
  refine g_iload_n (pc := 5) 1 dX0_knows_5 rfl rfl ?_
  obtain ⟨v2, hcv2, hf⟩ := bd_some hf
  refine g_cSI (pc := 6) (k2 := k_X0_variant) (av := [.int a0]) (q := (v2, h)) rfl dX0_knows_6 ck_X0_variant m_1077 m_1064 (by decide) (by decide) rfl (by simp [rf_cat, rq_cat, ca_i, ca_l, ca_r]) (ct_X0_variant l X hcv2) ?_
  refine g_istore_n (pc := 9) (L' := [(2, .int v2), (1, .int x1), (0, .int a0)]) dX0_knows_9 rfl (by decide) rfl rfl ?_
  refine g_iload_n (pc := 10) 1 dX0_knows_10 rfl rfl ?_
  rcases it_some hf with ⟨c3, hf⟩ | ⟨c3, hf⟩
  · refine g_ifeq_t (pc := 11) (tgt := 29) dX0_knows_11 (by decide) c3 ?_
    refine g_sub [] rfl ?_
    exact ok_X0_knows_L29 l X h  q hf
  · refine g_ifeq_f (pc := 11) (tgt := 29) dX0_knows_11 (by decide) c3 ?_
    refine g_iload_n (pc := 14) 1 dX0_knows_14 rfl rfl ?_
    refine g_bipush (pc := 15) (v := (32 : Int32)) dX0_knows_15 (by decide) ?_
    rcases it_some hf with ⟨c4, hf⟩ | ⟨c4, hf⟩
    · refine g_icne_t (pc := 17) (tgt := 33) dX0_knows_17 (by decide) c4 ?_
      refine g_iconst (pc := 33) (v := (0 : Int32)) dX0_knows_33 (by decide) ?_
      obtain rfl := Option.some.inj hf
      exact g_zret (pc := 34) rfl rfl dX0_knows_34
    · refine g_icne_f (pc := 17) (tgt := 33) dX0_knows_17 (by decide) (Decidable.of_not_not c4) ?_
      refine g_iload_n (pc := 20) 0 dX0_knows_20 rfl rfl ?_
      rcases it_some hf with ⟨c5, hf⟩ | ⟨c5, hf⟩
      · refine g_ifeq_t (pc := 21) (tgt := 29) dX0_knows_21 (by decide) c5 ?_
        refine g_sub [] rfl ?_
        exact ok_X0_knows_L29 l X h  q hf
      · refine g_ifeq_f (pc := 21) (tgt := 29) dX0_knows_21 (by decide) c5 ?_
        refine g_iload_n (pc := 24) 0 dX0_knows_24 rfl rfl ?_
        refine g_iconst (pc := 25) (v := (5 : Int32)) dX0_knows_25 (by decide) ?_
        rcases it_some hf with ⟨c6, hf⟩ | ⟨c6, hf⟩
        · refine g_icne_t (pc := 26) (tgt := 33) dX0_knows_26 (by decide) c6 ?_
          refine g_iconst (pc := 33) (v := (0 : Int32)) dX0_knows_33 (by decide) ?_
          obtain rfl := Option.some.inj hf
          exact g_zret (pc := 34) rfl rfl dX0_knows_34
        · refine g_icne_f (pc := 26) (tgt := 33) dX0_knows_26 (by decide) (Decidable.of_not_not c6) ?_
          refine g_sub [] rfl ?_
          exact ok_X0_knows_L29 l X h  q hf
theorem ct_X0_knows (l : Launch) (X : Cx) {h : AH} {a0 : Int32} {q : Int32} (hf : f_X0_knows h a0 = some q) : Ct l X k_X0_knows [.int a0] h (rI (q, h)) := ct_of ck_X0_knows (by simp [lg_sl, rf_cat, rq_cat, ca_i, ca_l, ca_r]) (by simp [lv_args, rf_cat, rq_cat, ca_i, ca_l, ca_r]) (ok_X0_knows l X hf)
set_option maxRecDepth 100000 in
set_option maxHeartbeats 4000000 in
theorem ok_X0_knowsShift_L40 (l : Launch) (X : Cx) (h : AH)  (q : Int32) (hf : f_X0_knowsShift_L40 h  = some q) : Go l X k_X0_knowsShift 40 [] [] h (rI (q, h)) := by
  unfold f_X0_knowsShift_L40 at hf
  refine g_iconst (pc := 40) (v := (1 : Int32)) dX0_knowsShift_40 (by decide) ?_
  refine g_goto (pc := 41) (tgt := 45) dX0_knowsShift_41 (by decide) ?_
  obtain rfl := Option.some.inj hf
  exact g_zret (pc := 45) rfl rfl dX0_knowsShift_45
set_option maxRecDepth 100000 in
set_option maxHeartbeats 4000000 in
theorem ok_X0_knowsShift (l : Launch) (X : Cx) {h : AH} {a0 : Int32} {q : Int32} (hf : f_X0_knowsShift h a0 = some q) : Go l X k_X0_knowsShift 0 [(0, .int a0)] [] h (rI (q, h)) := by
  unfold f_X0_knowsShift at hf
  refine g_iload_n (pc := 0) 0 dX0_knowsShift_0 rfl rfl ?_
  refine g_bipush (pc := 1) (v := (25 : Int32)) dX0_knowsShift_1 (by decide) ?_
  refine g_iushr (pc := 3) dX0_knowsShift_3 ?_
  obtain ⟨x1, ex1, hf⟩ := lt_some hf
  refine g_istore_n (pc := 4) (L' := [(1, .int x1), (0, .int a0)]) dX0_knowsShift_4 rfl (by decide) ex1 rfl ?_
  refine g_iload_n (pc := 5) 1 dX0_knowsShift_5 rfl rfl ?_
  obtain ⟨v2, hcv2, hf⟩ := bd_some hf
  refine g_cSI (pc := 6) (k2 := k_X0_variant) (av := [.int a0]) (q := (v2, h)) rfl dX0_knowsShift_6 ck_X0_variant m_1077 m_1064 (by decide) (by decide) rfl (by simp [rf_cat, rq_cat, ca_i, ca_l, ca_r]) (ct_X0_variant l X hcv2) ?_
  refine g_istore_n (pc := 9) (L' := [(2, .int v2), (1, .int x1), (0, .int a0)]) dX0_knowsShift_9 rfl (by decide) rfl rfl ?_
  refine g_iload_n (pc := 10) 0 dX0_knowsShift_10 rfl rfl ?_
  refine g_iconst (pc := 11) (v := (1 : Int32)) dX0_knowsShift_11 (by decide) ?_
  rcases it_some hf with ⟨c3, hf⟩ | ⟨c3, hf⟩
  · refine g_icne_t (pc := 12) (tgt := 25) dX0_knowsShift_12 (by decide) c3 ?_
    refine g_iload_n (pc := 25) 0 dX0_knowsShift_25 rfl rfl ?_
    refine g_iconst (pc := 26) (v := (5 : Int32)) dX0_knowsShift_26 (by decide) ?_
    rcases it_some hf with ⟨c4, hf⟩ | ⟨c4, hf⟩
    · refine g_icne_t (pc := 27) (tgt := 40) dX0_knowsShift_27 (by decide) c4 ?_
      refine g_sub [] rfl ?_
      exact ok_X0_knowsShift_L40 l X h  q hf
    · refine g_icne_f (pc := 27) (tgt := 40) dX0_knowsShift_27 (by decide) (Decidable.of_not_not c4) ?_
      refine g_iload_n (pc := 30) 1 dX0_knowsShift_30 rfl rfl ?_
      rcases it_some hf with ⟨c5, hf⟩ | ⟨c5, hf⟩
      · refine g_ifeq_t (pc := 31) (tgt := 40) dX0_knowsShift_31 (by decide) c5 ?_
        refine g_sub [] rfl ?_
        exact ok_X0_knowsShift_L40 l X h  q hf
      · refine g_ifeq_f (pc := 31) (tgt := 40) dX0_knowsShift_31 (by decide) c5 ?_
        refine g_iload_n (pc := 34) 1 dX0_knowsShift_34 rfl rfl ?_
        refine g_bipush (pc := 35) (v := (32 : Int32)) dX0_knowsShift_35 (by decide) ?_
        rcases it_some hf with ⟨c6, hf⟩ | ⟨c6, hf⟩
        · refine g_icne_t (pc := 37) (tgt := 44) dX0_knowsShift_37 (by decide) c6 ?_
          refine g_iconst (pc := 44) (v := (0 : Int32)) dX0_knowsShift_44 (by decide) ?_
          obtain rfl := Option.some.inj hf
          exact g_zret (pc := 45) rfl rfl dX0_knowsShift_45
        · refine g_icne_f (pc := 37) (tgt := 44) dX0_knowsShift_37 (by decide) (Decidable.of_not_not c6) ?_
          refine g_sub [] rfl ?_
          exact ok_X0_knowsShift_L40 l X h  q hf
  · refine g_icne_f (pc := 12) (tgt := 25) dX0_knowsShift_12 (by decide) (Decidable.of_not_not c3) ?_
    refine g_iload_n (pc := 15) 1 dX0_knowsShift_15 rfl rfl ?_
    rcases it_some hf with ⟨c7, hf⟩ | ⟨c7, hf⟩
    · refine g_ifne_t (pc := 16) (tgt := 23) dX0_knowsShift_16 (by decide) c7 ?_
      refine g_iconst (pc := 23) (v := (0 : Int32)) dX0_knowsShift_23 (by decide) ?_
      obtain rfl := Option.some.inj hf
      exact g_zret (pc := 24) rfl rfl dX0_knowsShift_24
    · refine g_ifne_f (pc := 16) (tgt := 23) dX0_knowsShift_16 (by decide) (Decidable.of_not_not c7) ?_
      refine g_iconst (pc := 19) (v := (1 : Int32)) dX0_knowsShift_19 (by decide) ?_
      refine g_goto (pc := 20) (tgt := 24) dX0_knowsShift_20 (by decide) ?_
      obtain rfl := Option.some.inj hf
      exact g_zret (pc := 24) rfl rfl dX0_knowsShift_24
theorem ct_X0_knowsShift (l : Launch) (X : Cx) {h : AH} {a0 : Int32} {q : Int32} (hf : f_X0_knowsShift h a0 = some q) : Ct l X k_X0_knowsShift [.int a0] h (rI (q, h)) := ct_of ck_X0_knowsShift (by simp [lg_sl, rf_cat, rq_cat, ca_i, ca_l, ca_r]) (by simp [lv_args, rf_cat, rq_cat, ca_i, ca_l, ca_r]) (ok_X0_knowsShift l X hf)
set_option maxRecDepth 100000 in
set_option maxHeartbeats 4000000 in
theorem ok_X0_knowsBranch (l : Launch) (X : Cx) {h : AH} {a0 : Int32} {q : Int32} (hf : f_X0_knowsBranch h a0 = some q) : Go l X k_X0_knowsBranch 0 [(0, .int a0)] [] h (rI (q, h)) := by
  unfold f_X0_knowsBranch at hf
  refine g_iload_n (pc := 0) 0 dX0_knowsBranch_0 rfl rfl ?_
  obtain ⟨v1, hcv1, hf⟩ := bd_some hf
  refine g_cSI (pc := 1) (k2 := k_X0_variant) (av := [.int a0]) (q := (v1, h)) rfl dX0_knowsBranch_1 ck_X0_variant m_1077 m_1064 (by decide) (by decide) rfl (by simp [rf_cat, rq_cat, ca_i, ca_l, ca_r]) (ct_X0_variant l X hcv1) ?_
  refine g_istore_n (pc := 4) (L' := [(1, .int v1), (0, .int a0)]) dX0_knowsBranch_4 rfl (by decide) rfl rfl ?_
  refine g_iload_n (pc := 5) 0 dX0_knowsBranch_5 rfl rfl ?_
  refine g_iconst (pc := 6) (v := (2 : Int32)) dX0_knowsBranch_6 (by decide) ?_
  rcases it_some hf with ⟨c2, hf⟩ | ⟨c2, hf⟩
  · refine g_iceq_t (pc := 7) (tgt := 19) dX0_knowsBranch_7 (by decide) c2 ?_
    refine g_iconst (pc := 19) (v := (0 : Int32)) dX0_knowsBranch_19 (by decide) ?_
    obtain rfl := Option.some.inj hf
    exact g_zret (pc := 20) rfl rfl dX0_knowsBranch_20
  · refine g_iceq_f (pc := 7) (tgt := 19) dX0_knowsBranch_7 (by decide) c2 ?_
    refine g_iload_n (pc := 10) 0 dX0_knowsBranch_10 rfl rfl ?_
    refine g_iconst (pc := 11) (v := (3 : Int32)) dX0_knowsBranch_11 (by decide) ?_
    rcases it_some hf with ⟨c3, hf⟩ | ⟨c3, hf⟩
    · refine g_iceq_t (pc := 12) (tgt := 19) dX0_knowsBranch_12 (by decide) c3 ?_
      refine g_iconst (pc := 19) (v := (0 : Int32)) dX0_knowsBranch_19 (by decide) ?_
      obtain rfl := Option.some.inj hf
      exact g_zret (pc := 20) rfl rfl dX0_knowsBranch_20
    · refine g_iceq_f (pc := 12) (tgt := 19) dX0_knowsBranch_12 (by decide) c3 ?_
      refine g_iconst (pc := 15) (v := (1 : Int32)) dX0_knowsBranch_15 (by decide) ?_
      refine g_goto (pc := 16) (tgt := 20) dX0_knowsBranch_16 (by decide) ?_
      obtain rfl := Option.some.inj hf
      exact g_zret (pc := 20) rfl rfl dX0_knowsBranch_20
theorem ct_X0_knowsBranch (l : Launch) (X : Cx) {h : AH} {a0 : Int32} {q : Int32} (hf : f_X0_knowsBranch h a0 = some q) : Ct l X k_X0_knowsBranch [.int a0] h (rI (q, h)) := ct_of ck_X0_knowsBranch (by simp [lg_sl, rf_cat, rq_cat, ca_i, ca_l, ca_r]) (by simp [lv_args, rf_cat, rq_cat, ca_i, ca_l, ca_r]) (ok_X0_knowsBranch l X hf)
set_option maxRecDepth 100000 in
set_option maxHeartbeats 4000000 in
theorem ok_X0_knowsAtomic_L26 (l : Launch) (X : Cx) (h : AH)  (q : Int32) (hf : f_X0_knowsAtomic_L26 h  = some q) : Go l X k_X0_knowsAtomic 26 [] [] h (rI (q, h)) := by
  unfold f_X0_knowsAtomic_L26 at hf
  refine g_iconst (pc := 26) (v := (1 : Int32)) dX0_knowsAtomic_26 (by decide) ?_
  refine g_goto (pc := 27) (tgt := 31) dX0_knowsAtomic_27 (by decide) ?_
  obtain rfl := Option.some.inj hf
  exact g_zret (pc := 31) rfl rfl dX0_knowsAtomic_31
set_option maxRecDepth 100000 in
set_option maxHeartbeats 4000000 in
theorem ok_X0_knowsAtomic (l : Launch) (X : Cx) {h : AH} {a0 : Int32} {q : Int32} (hf : f_X0_knowsAtomic h a0 = some q) : Go l X k_X0_knowsAtomic 0 [(0, .int a0)] [] h (rI (q, h)) := by
  unfold f_X0_knowsAtomic at hf
  refine g_iload_n (pc := 0) 0 dX0_knowsAtomic_0 rfl rfl ?_
  obtain ⟨v1, hcv1, hf⟩ := bd_some hf
  refine g_cSI (pc := 1) (k2 := k_X0_variant) (av := [.int a0]) (q := (v1, h)) rfl dX0_knowsAtomic_1 ck_X0_variant m_1077 m_1064 (by decide) (by decide) rfl (by simp [rf_cat, rq_cat, ca_i, ca_l, ca_r]) (ct_X0_variant l X hcv1) ?_
  refine g_iconst (pc := 4) (v := (2 : Int32)) dX0_knowsAtomic_4 (by decide) ?_
  rcases it_some hf with ⟨c2, hf⟩ | ⟨c2, hf⟩
  · refine g_iceq_t (pc := 5) (tgt := 10) dX0_knowsAtomic_5 (by decide) c2 ?_
    refine g_iload_n (pc := 10) 0 dX0_knowsAtomic_10 rfl rfl ?_
    refine g_bipush (pc := 11) (v := (27 : Int32)) dX0_knowsAtomic_11 (by decide) ?_
    refine g_iushr (pc := 13) dX0_knowsAtomic_13 ?_
    obtain ⟨x3, ex3, hf⟩ := lt_some hf
    refine g_istore_n (pc := 14) (L' := [(1, .int x3), (0, .int a0)]) dX0_knowsAtomic_14 rfl (by decide) ex3 rfl ?_
    refine g_iload_n (pc := 15) 0 dX0_knowsAtomic_15 rfl rfl ?_
    refine g_iconst (pc := 16) (v := (1 : Int32)) dX0_knowsAtomic_16 (by decide) ?_
    rcases it_some hf with ⟨c4, hf⟩ | ⟨c4, hf⟩
    · refine g_iceq_t (pc := 17) (tgt := 26) dX0_knowsAtomic_17 (by decide) c4 ?_
      refine g_sub [] rfl ?_
      exact ok_X0_knowsAtomic_L26 l X h  q hf
    · refine g_iceq_f (pc := 17) (tgt := 26) dX0_knowsAtomic_17 (by decide) c4 ?_
      refine g_iload_n (pc := 20) 0 dX0_knowsAtomic_20 rfl rfl ?_
      refine g_iconst (pc := 21) (v := (3 : Int32)) dX0_knowsAtomic_21 (by decide) ?_
      refine g_iand (pc := 22) dX0_knowsAtomic_22 ?_
      rcases it_some hf with ⟨c5, hf⟩ | ⟨c5, hf⟩
      · refine g_ifne_t (pc := 23) (tgt := 30) dX0_knowsAtomic_23 (by decide) c5 ?_
        refine g_iconst (pc := 30) (v := (0 : Int32)) dX0_knowsAtomic_30 (by decide) ?_
        obtain rfl := Option.some.inj hf
        exact g_zret (pc := 31) rfl rfl dX0_knowsAtomic_31
      · refine g_ifne_f (pc := 23) (tgt := 30) dX0_knowsAtomic_23 (by decide) (Decidable.of_not_not c5) ?_
        refine g_sub [] rfl ?_
        exact ok_X0_knowsAtomic_L26 l X h  q hf
  · refine g_iceq_f (pc := 5) (tgt := 10) dX0_knowsAtomic_5 (by decide) c2 ?_
    refine g_iconst (pc := 8) (v := (0 : Int32)) dX0_knowsAtomic_8 (by decide) ?_
    obtain rfl := Option.some.inj hf
    exact g_zret (pc := 9) rfl rfl dX0_knowsAtomic_9
theorem ct_X0_knowsAtomic (l : Launch) (X : Cx) {h : AH} {a0 : Int32} {q : Int32} (hf : f_X0_knowsAtomic h a0 = some q) : Ct l X k_X0_knowsAtomic [.int a0] h (rI (q, h)) := ct_of ck_X0_knowsAtomic (by simp [lg_sl, rf_cat, rq_cat, ca_i, ca_l, ca_r]) (by simp [lv_args, rf_cat, rq_cat, ca_i, ca_l, ca_r]) (ok_X0_knowsAtomic l X hf)
set_option maxRecDepth 100000 in
set_option maxHeartbeats 4000000 in
theorem ok_X0_isBelow (l : Launch) (X : Cx) {h : AH} {a0 : Int32} {a1 : Int32} {q : Int32} (hf : f_X0_isBelow h a0 a1 = some q) : Go l X k_X0_isBelow 0 [(0, .int a0), (1, .int a1)] [] h (rI (q, h)) := by
  unfold f_X0_isBelow at hf
  refine g_iload_n (pc := 0) 0 dX0_isBelow_0 rfl rfl ?_
  refine g_ldc (pc := 1) (v := (-2147483648 : Int32)) m_1084 dX0_isBelow_1 ?_
  refine g_ixor (pc := 3) dX0_isBelow_3 ?_
  refine g_iload_n (pc := 4) 1 dX0_isBelow_4 rfl rfl ?_
  refine g_ldc (pc := 5) (v := (-2147483648 : Int32)) m_1084 dX0_isBelow_5 ?_
  refine g_ixor (pc := 7) dX0_isBelow_7 ?_
  rcases it_some hf with ⟨c1, hf⟩ | ⟨c1, hf⟩
  · refine g_icge_t (pc := 8) (tgt := 15) dX0_isBelow_8 (by decide) c1 ?_
    refine g_iconst (pc := 15) (v := (0 : Int32)) dX0_isBelow_15 (by decide) ?_
    obtain rfl := Option.some.inj hf
    exact g_zret (pc := 16) rfl rfl dX0_isBelow_16
  · refine g_icge_f (pc := 8) (tgt := 15) dX0_isBelow_8 (by decide) c1 ?_
    refine g_iconst (pc := 11) (v := (1 : Int32)) dX0_isBelow_11 (by decide) ?_
    refine g_goto (pc := 12) (tgt := 16) dX0_isBelow_12 (by decide) ?_
    obtain rfl := Option.some.inj hf
    exact g_zret (pc := 16) rfl rfl dX0_isBelow_16
theorem ct_X0_isBelow (l : Launch) (X : Cx) {h : AH} {a0 : Int32} {a1 : Int32} {q : Int32} (hf : f_X0_isBelow h a0 a1 = some q) : Ct l X k_X0_isBelow [.int a0, .int a1] h (rI (q, h)) := ct_of ck_X0_isBelow (by simp [lg_sl, rf_cat, rq_cat, ca_i, ca_l, ca_r]) (by simp [lv_args, rf_cat, rq_cat, ca_i, ca_l, ca_r]) (ok_X0_isBelow l X hf)
set_option maxRecDepth 100000 in
set_option maxHeartbeats 4000000 in
theorem ok_X0_reckon_L79 (l : Launch) (X : Cx) (h : AH) (a1 : Int32) (a2 : Int32) (q : Int32) (hf : f_X0_reckon_L79 h a1 a2 = some q) : Go l X k_X0_reckon 79 [(1, .int a1), (2, .int a2)] [] h (rI (q, h)) := by
  unfold f_X0_reckon_L79 at hf
  refine g_iload_n (pc := 79) 0 dX0_reckon_79 rfl rfl ?_
  refine g_iload_n (pc := 80) 1 dX0_reckon_80 rfl rfl ?_
  refine g_iadd (pc := 81) dX0_reckon_81 ?_
  obtain rfl := Option.some.inj hf
  exact g_iret (pc := 82) rfl dX0_reckon_82
set_option maxRecDepth 100000 in
set_option maxHeartbeats 4000000 in
theorem ok_X0_reckon_L14 (l : Launch) (X : Cx) (h : AH) (a0 : Int32) (a1 : Int32) (a2 : Int32) (s0 : Int32) (q : Int32) (hf : f_X0_reckon_L14 h a0 a1 a2 s0 = some q) : Go l X k_X0_reckon 14 [(0, .int a0), (1, .int a1), (2, .int a2)] [.int s0] h (rI (q, h)) := by
  unfold f_X0_reckon_L14 at hf
  refine g_istore_n (pc := 14) (L' := [(3, .int s0), (0, .int a0), (1, .int a1), (2, .int a2)]) dX0_reckon_14 rfl (by decide) rfl rfl ?_
  refine g_iload_n (pc := 15) 1 dX0_reckon_15 rfl rfl ?_
  obtain ⟨v1, hcv1, hf⟩ := bd_some hf
  refine g_cSI (pc := 16) (k2 := k_X0_variant) (av := [.int a0]) (q := (v1, h)) rfl dX0_reckon_16 ck_X0_variant m_1077 m_1064 (by decide) (by decide) rfl (by simp [rf_cat, rq_cat, ca_i, ca_l, ca_r]) (ct_X0_variant l X hcv1) ?_
  rcases it_some hf with ⟨c2, hf⟩ | ⟨c2, hf⟩
  · refine g_tsw (pc := 19) (tgt := 60) (0 : Int32) dX0_reckon_19 c2 (by decide +kernel) (by decide +kernel) (off := 41) (by decide +kernel) (by decide) ?_
    refine g_iload_n (pc := 60) 0 dX0_reckon_60 rfl rfl ?_
    rcases it_some hf with ⟨c3, hf⟩ | ⟨c3, hf⟩
    · refine g_ifeq_t (pc := 61) (tgt := 79) dX0_reckon_61 (by decide) c3 ?_
      refine g_sub [2, 3] rfl ?_
      exact ok_X0_reckon_L79 l X h a1 a2 q hf
    · refine g_ifeq_f (pc := 61) (tgt := 79) dX0_reckon_61 (by decide) c3 ?_
      refine g_iload_n (pc := 64) 1 dX0_reckon_64 rfl rfl ?_
      refine g_bipush (pc := 65) (v := (127 : Int32)) dX0_reckon_65 (by decide) ?_
      refine g_iand (pc := 67) dX0_reckon_67 ?_
      refine g_bipush (pc := 68) (v := (51 : Int32)) dX0_reckon_68 (by decide) ?_
      rcases it_some hf with ⟨c4, hf⟩ | ⟨c4, hf⟩
      · refine g_icne_t (pc := 70) (tgt := 79) dX0_reckon_70 (by decide) c4 ?_
        refine g_sub [2, 3] rfl ?_
        exact ok_X0_reckon_L79 l X h a1 a2 q hf
      · refine g_icne_f (pc := 70) (tgt := 79) dX0_reckon_70 (by decide) (Decidable.of_not_not c4) ?_
        refine g_iload_n (pc := 73) 2 dX0_reckon_73 rfl rfl ?_
        refine g_iload_n (pc := 74) 3 dX0_reckon_74 rfl rfl ?_
        refine g_isub (pc := 75) dX0_reckon_75 ?_
        refine g_goto (pc := 76) (tgt := 82) dX0_reckon_76 (by decide) ?_
        obtain rfl := Option.some.inj hf
        exact g_iret (pc := 82) rfl dX0_reckon_82
  ·
    rcases it_some hf with ⟨c5, hf⟩ | ⟨c5, hf⟩
    · refine g_tsw (pc := 19) (tgt := 83) (1 : Int32) dX0_reckon_19 c5 (by decide +kernel) (by decide +kernel) (off := 64) (by decide +kernel) (by decide) ?_
      refine g_iload_n (pc := 83) 2 dX0_reckon_83 rfl rfl ?_
      refine g_iload_n (pc := 84) 3 dX0_reckon_84 rfl rfl ?_
      refine g_bipush (pc := 85) (v := (31 : Int32)) dX0_reckon_85 (by decide) ?_
      refine g_iand (pc := 87) dX0_reckon_87 ?_
      refine g_ishl (pc := 88) dX0_reckon_88 ?_
      obtain rfl := Option.some.inj hf
      exact g_iret (pc := 89) rfl dX0_reckon_89
    ·
      rcases it_some hf with ⟨c6, hf⟩ | ⟨c6, hf⟩
      · refine g_tsw (pc := 19) (tgt := 90) (2 : Int32) dX0_reckon_19 c6 (by decide +kernel) (by decide +kernel) (off := 71) (by decide +kernel) (by decide) ?_
        refine g_iload_n (pc := 90) 2 dX0_reckon_90 rfl rfl ?_
        refine g_iload_n (pc := 91) 3 dX0_reckon_91 rfl rfl ?_
        rcases it_some hf with ⟨c7, hf⟩ | ⟨c7, hf⟩
        · refine g_icge_t (pc := 92) (tgt := 99) dX0_reckon_92 (by decide) c7 ?_
          refine g_iconst (pc := 99) (v := (0 : Int32)) dX0_reckon_99 (by decide) ?_
          obtain rfl := Option.some.inj hf
          exact g_iret (pc := 100) rfl dX0_reckon_100
        · refine g_icge_f (pc := 92) (tgt := 99) dX0_reckon_92 (by decide) c7 ?_
          refine g_iconst (pc := 95) (v := (1 : Int32)) dX0_reckon_95 (by decide) ?_
          refine g_goto (pc := 96) (tgt := 100) dX0_reckon_96 (by decide) ?_
          obtain rfl := Option.some.inj hf
          exact g_iret (pc := 100) rfl dX0_reckon_100
      ·
        rcases it_some hf with ⟨c8, hf⟩ | ⟨c8, hf⟩
        · refine g_tsw (pc := 19) (tgt := 101) (3 : Int32) dX0_reckon_19 c8 (by decide +kernel) (by decide +kernel) (off := 82) (by decide +kernel) (by decide) ?_
          refine g_iload_n (pc := 101) 2 dX0_reckon_101 rfl rfl ?_
          refine g_iload_n (pc := 102) 3 dX0_reckon_102 rfl rfl ?_
          obtain ⟨v9, hcv9, hf⟩ := bd_some hf
          refine g_cSI (pc := 103) (k2 := k_X0_isBelow) (av := [.int a1, .int a2]) (q := (v9, h)) rfl dX0_reckon_103 ck_X0_isBelow m_1081 m_1082 (by decide) (by decide) rfl (by simp [rf_cat, rq_cat, ca_i, ca_l, ca_r]) (ct_X0_isBelow l X hcv9) ?_
          rcases it_some hf with ⟨c10, hf⟩ | ⟨c10, hf⟩
          · refine g_ifeq_t (pc := 106) (tgt := 113) dX0_reckon_106 (by decide) c10 ?_
            refine g_iconst (pc := 113) (v := (0 : Int32)) dX0_reckon_113 (by decide) ?_
            obtain rfl := Option.some.inj hf
            exact g_iret (pc := 114) rfl dX0_reckon_114
          · refine g_ifeq_f (pc := 106) (tgt := 113) dX0_reckon_106 (by decide) c10 ?_
            refine g_iconst (pc := 109) (v := (1 : Int32)) dX0_reckon_109 (by decide) ?_
            refine g_goto (pc := 110) (tgt := 114) dX0_reckon_110 (by decide) ?_
            obtain rfl := Option.some.inj hf
            exact g_iret (pc := 114) rfl dX0_reckon_114
        ·
          rcases it_some hf with ⟨c11, hf⟩ | ⟨c11, hf⟩
          · refine g_tsw (pc := 19) (tgt := 115) (4 : Int32) dX0_reckon_19 c11 (by decide +kernel) (by decide +kernel) (off := 96) (by decide +kernel) (by decide) ?_
            refine g_iload_n (pc := 115) 2 dX0_reckon_115 rfl rfl ?_
            refine g_iload_n (pc := 116) 3 dX0_reckon_116 rfl rfl ?_
            refine g_ixor (pc := 117) dX0_reckon_117 ?_
            obtain rfl := Option.some.inj hf
            exact g_iret (pc := 118) rfl dX0_reckon_118
          ·
            rcases it_some hf with ⟨c12, hf⟩ | ⟨c12, hf⟩
            · refine g_tsw (pc := 19) (tgt := 119) (5 : Int32) dX0_reckon_19 c12 (by decide +kernel) (by decide +kernel) (off := 100) (by decide +kernel) (by decide) ?_
              refine g_iload_n (pc := 119) 0 dX0_reckon_119 rfl rfl ?_
              rcases it_some hf with ⟨c13, hf⟩ | ⟨c13, hf⟩
              · refine g_ifeq_t (pc := 120) (tgt := 132) dX0_reckon_120 (by decide) c13 ?_
                refine g_iload_n (pc := 132) 2 dX0_reckon_132 rfl rfl ?_
                refine g_iload_n (pc := 133) 3 dX0_reckon_133 rfl rfl ?_
                refine g_bipush (pc := 134) (v := (31 : Int32)) dX0_reckon_134 (by decide) ?_
                refine g_iand (pc := 136) dX0_reckon_136 ?_
                refine g_iushr (pc := 137) dX0_reckon_137 ?_
                obtain rfl := Option.some.inj hf
                exact g_iret (pc := 138) rfl dX0_reckon_138
              · refine g_ifeq_f (pc := 120) (tgt := 132) dX0_reckon_120 (by decide) c13 ?_
                refine g_iload_n (pc := 123) 2 dX0_reckon_123 rfl rfl ?_
                refine g_iload_n (pc := 124) 3 dX0_reckon_124 rfl rfl ?_
                refine g_bipush (pc := 125) (v := (31 : Int32)) dX0_reckon_125 (by decide) ?_
                refine g_iand (pc := 127) dX0_reckon_127 ?_
                refine g_ishr (pc := 128) dX0_reckon_128 ?_
                refine g_goto (pc := 129) (tgt := 138) dX0_reckon_129 (by decide) ?_
                obtain rfl := Option.some.inj hf
                exact g_iret (pc := 138) rfl dX0_reckon_138
            ·
              rcases it_some hf with ⟨c14, hf⟩ | ⟨c14, hf⟩
              · refine g_tsw (pc := 19) (tgt := 139) (6 : Int32) dX0_reckon_19 c14 (by decide +kernel) (by decide +kernel) (off := 120) (by decide +kernel) (by decide) ?_
                refine g_iload_n (pc := 139) 2 dX0_reckon_139 rfl rfl ?_
                refine g_iload_n (pc := 140) 3 dX0_reckon_140 rfl rfl ?_
                refine g_ior (pc := 141) dX0_reckon_141 ?_
                obtain rfl := Option.some.inj hf
                exact g_iret (pc := 142) rfl dX0_reckon_142
              ·
                refine g_tswD (pc := 19) (tgt := 143) [(0 : Int32), (1 : Int32), (2 : Int32), (3 : Int32), (4 : Int32), (5 : Int32), (6 : Int32)] dX0_reckon_19 (cons_ne c2 (cons_ne c5 (cons_ne c6 (cons_ne c8 (cons_ne c11 (cons_ne c12 (cons_ne c14 nil_ne))))))) (by decide +kernel) (by decide +kernel) (by decide) ?_
                refine g_iload_n (pc := 143) 2 dX0_reckon_143 rfl rfl ?_
                refine g_iload_n (pc := 144) 3 dX0_reckon_144 rfl rfl ?_
                refine g_iand (pc := 145) dX0_reckon_145 ?_
                obtain rfl := Option.some.inj hf
                exact g_iret (pc := 146) rfl dX0_reckon_146
set_option maxRecDepth 100000 in
set_option maxHeartbeats 4000000 in
theorem ok_X0_reckon (l : Launch) (X : Cx) {h : AH} {a0 : Int32} {a1 : Int32} {a2 : Int32} {q : Int32} (hf : f_X0_reckon h a0 a1 a2 = some q) : Go l X k_X0_reckon 0 [(0, .int a0), (1, .int a1), (2, .int a2)] [] h (rI (q, h)) := by
  unfold f_X0_reckon at hf
  refine g_iload_n (pc := 0) 0 dX0_reckon_0 rfl rfl ?_
  refine g_bipush (pc := 1) (v := (25 : Int32)) dX0_reckon_1 (by decide) ?_
  refine g_iushr (pc := 3) dX0_reckon_3 ?_
  refine g_bipush (pc := 4) (v := (32 : Int32)) dX0_reckon_4 (by decide) ?_
  rcases it_some hf with ⟨c1, hf⟩ | ⟨c1, hf⟩
  · refine g_icne_t (pc := 6) (tgt := 13) dX0_reckon_6 (by decide) c1 ?_
    refine g_iconst (pc := 13) (v := (0 : Int32)) dX0_reckon_13 (by decide) ?_
    exact ok_X0_reckon_L14 l X h a0 a1 a2 (0 : Int32) q hf
  · refine g_icne_f (pc := 6) (tgt := 13) dX0_reckon_6 (by decide) (Decidable.of_not_not c1) ?_
    refine g_iconst (pc := 9) (v := (1 : Int32)) dX0_reckon_9 (by decide) ?_
    refine g_goto (pc := 10) (tgt := 14) dX0_reckon_10 (by decide) ?_
    exact ok_X0_reckon_L14 l X h a0 a1 a2 (1 : Int32) q hf
theorem ct_X0_reckon (l : Launch) (X : Cx) {h : AH} {a0 : Int32} {a1 : Int32} {a2 : Int32} {q : Int32} (hf : f_X0_reckon h a0 a1 a2 = some q) : Ct l X k_X0_reckon [.int a0, .int a1, .int a2] h (rI (q, h)) := ct_of ck_X0_reckon (by simp [lg_sl, rf_cat, rq_cat, ca_i, ca_l, ca_r]) (by simp [lv_args, rf_cat, rq_cat, ca_i, ca_l, ca_r]) (ok_X0_reckon l X hf)
set_option maxRecDepth 100000 in
set_option maxHeartbeats 4000000 in
theorem ok_X0_branches (l : Launch) (X : Cx) {h : AH} {a0 : Int32} {a1 : Int32} {a2 : Int32} {q : Int32} (hf : f_X0_branches h a0 a1 a2 = some q) : Go l X k_X0_branches 0 [(0, .int a0), (1, .int a1), (2, .int a2)] [] h (rI (q, h)) := by
  unfold f_X0_branches at hf
  refine g_iload_n (pc := 0) 0 dX0_branches_0 rfl rfl ?_
  obtain ⟨v1, hcv1, hf⟩ := bd_some hf
  refine g_cSI (pc := 1) (k2 := k_X0_variant) (av := [.int a0]) (q := (v1, h)) rfl dX0_branches_1 ck_X0_variant m_1077 m_1064 (by decide) (by decide) rfl (by simp [rf_cat, rq_cat, ca_i, ca_l, ca_r]) (ct_X0_variant l X hcv1) ?_
  rcases it_some hf with ⟨c2, hf⟩ | ⟨c2, hf⟩
  · refine g_tsw (pc := 4) (tgt := 48) (0 : Int32) dX0_branches_4 c2 (by decide +kernel) (by decide +kernel) (off := 44) (by decide +kernel) (by decide) ?_
    refine g_iload_n (pc := 48) 1 dX0_branches_48 rfl rfl ?_
    refine g_iload_n (pc := 49) 2 dX0_branches_49 rfl rfl ?_
    rcases it_some hf with ⟨c3, hf⟩ | ⟨c3, hf⟩
    · refine g_icne_t (pc := 50) (tgt := 57) dX0_branches_50 (by decide) c3 ?_
      refine g_iconst (pc := 57) (v := (0 : Int32)) dX0_branches_57 (by decide) ?_
      obtain rfl := Option.some.inj hf
      exact g_zret (pc := 58) rfl rfl dX0_branches_58
    · refine g_icne_f (pc := 50) (tgt := 57) dX0_branches_50 (by decide) (Decidable.of_not_not c3) ?_
      refine g_iconst (pc := 53) (v := (1 : Int32)) dX0_branches_53 (by decide) ?_
      refine g_goto (pc := 54) (tgt := 58) dX0_branches_54 (by decide) ?_
      obtain rfl := Option.some.inj hf
      exact g_zret (pc := 58) rfl rfl dX0_branches_58
  ·
    rcases it_some hf with ⟨c4, hf⟩ | ⟨c4, hf⟩
    · refine g_tsw (pc := 4) (tgt := 59) (1 : Int32) dX0_branches_4 c4 (by decide +kernel) (by decide +kernel) (off := 55) (by decide +kernel) (by decide) ?_
      refine g_iload_n (pc := 59) 1 dX0_branches_59 rfl rfl ?_
      refine g_iload_n (pc := 60) 2 dX0_branches_60 rfl rfl ?_
      rcases it_some hf with ⟨c5, hf⟩ | ⟨c5, hf⟩
      · refine g_iceq_t (pc := 61) (tgt := 68) dX0_branches_61 (by decide) c5 ?_
        refine g_iconst (pc := 68) (v := (0 : Int32)) dX0_branches_68 (by decide) ?_
        obtain rfl := Option.some.inj hf
        exact g_zret (pc := 69) rfl rfl dX0_branches_69
      · refine g_iceq_f (pc := 61) (tgt := 68) dX0_branches_61 (by decide) c5 ?_
        refine g_iconst (pc := 64) (v := (1 : Int32)) dX0_branches_64 (by decide) ?_
        refine g_goto (pc := 65) (tgt := 69) dX0_branches_65 (by decide) ?_
        obtain rfl := Option.some.inj hf
        exact g_zret (pc := 69) rfl rfl dX0_branches_69
    ·
      rcases it_some hf with ⟨c6, hf⟩ | ⟨c6, hf⟩
      · refine g_tsw (pc := 4) (tgt := 70) (4 : Int32) dX0_branches_4 c6 (by decide +kernel) (by decide +kernel) (off := 66) (by decide +kernel) (by decide) ?_
        refine g_iload_n (pc := 70) 1 dX0_branches_70 rfl rfl ?_
        refine g_iload_n (pc := 71) 2 dX0_branches_71 rfl rfl ?_
        rcases it_some hf with ⟨c7, hf⟩ | ⟨c7, hf⟩
        · refine g_icge_t (pc := 72) (tgt := 79) dX0_branches_72 (by decide) c7 ?_
          refine g_iconst (pc := 79) (v := (0 : Int32)) dX0_branches_79 (by decide) ?_
          obtain rfl := Option.some.inj hf
          exact g_zret (pc := 80) rfl rfl dX0_branches_80
        · refine g_icge_f (pc := 72) (tgt := 79) dX0_branches_72 (by decide) c7 ?_
          refine g_iconst (pc := 75) (v := (1 : Int32)) dX0_branches_75 (by decide) ?_
          refine g_goto (pc := 76) (tgt := 80) dX0_branches_76 (by decide) ?_
          obtain rfl := Option.some.inj hf
          exact g_zret (pc := 80) rfl rfl dX0_branches_80
      ·
        rcases it_some hf with ⟨c8, hf⟩ | ⟨c8, hf⟩
        · refine g_tsw (pc := 4) (tgt := 81) (5 : Int32) dX0_branches_4 c8 (by decide +kernel) (by decide +kernel) (off := 77) (by decide +kernel) (by decide) ?_
          refine g_iload_n (pc := 81) 1 dX0_branches_81 rfl rfl ?_
          refine g_iload_n (pc := 82) 2 dX0_branches_82 rfl rfl ?_
          rcases it_some hf with ⟨c9, hf⟩ | ⟨c9, hf⟩
          · refine g_iclt_t (pc := 83) (tgt := 90) dX0_branches_83 (by decide) c9 ?_
            refine g_iconst (pc := 90) (v := (0 : Int32)) dX0_branches_90 (by decide) ?_
            obtain rfl := Option.some.inj hf
            exact g_zret (pc := 91) rfl rfl dX0_branches_91
          · refine g_iclt_f (pc := 83) (tgt := 90) dX0_branches_83 (by decide) c9 ?_
            refine g_iconst (pc := 86) (v := (1 : Int32)) dX0_branches_86 (by decide) ?_
            refine g_goto (pc := 87) (tgt := 91) dX0_branches_87 (by decide) ?_
            obtain rfl := Option.some.inj hf
            exact g_zret (pc := 91) rfl rfl dX0_branches_91
        ·
          rcases it_some hf with ⟨c10, hf⟩ | ⟨c10, hf⟩
          · refine g_tsw (pc := 4) (tgt := 92) (6 : Int32) dX0_branches_4 c10 (by decide +kernel) (by decide +kernel) (off := 88) (by decide +kernel) (by decide) ?_
            refine g_iload_n (pc := 92) 1 dX0_branches_92 rfl rfl ?_
            refine g_iload_n (pc := 93) 2 dX0_branches_93 rfl rfl ?_
            obtain ⟨v11, hcv11, hf⟩ := bd_some hf
            refine g_cSI (pc := 94) (k2 := k_X0_isBelow) (av := [.int a1, .int a2]) (q := (v11, h)) rfl dX0_branches_94 ck_X0_isBelow m_1081 m_1082 (by decide) (by decide) rfl (by simp [rf_cat, rq_cat, ca_i, ca_l, ca_r]) (ct_X0_isBelow l X hcv11) ?_
            obtain ⟨b12, hf⟩ := gb_some hf
            obtain rfl := Option.some.inj hf
            exact g_zret (pc := 97) rfl b12 dX0_branches_97
          ·
            refine g_tswD (pc := 4) (tgt := 98) [(0 : Int32), (1 : Int32), (4 : Int32), (5 : Int32), (6 : Int32)] dX0_branches_4 (cons_ne c2 (cons_ne c4 (cons_ne c6 (cons_ne c8 (cons_ne c10 nil_ne))))) (by decide +kernel) (by decide +kernel) (by decide) ?_
            refine g_iload_n (pc := 98) 1 dX0_branches_98 rfl rfl ?_
            refine g_iload_n (pc := 99) 2 dX0_branches_99 rfl rfl ?_
            obtain ⟨v13, hcv13, hf⟩ := bd_some hf
            refine g_cSI (pc := 100) (k2 := k_X0_isBelow) (av := [.int a1, .int a2]) (q := (v13, h)) rfl dX0_branches_100 ck_X0_isBelow m_1081 m_1082 (by decide) (by decide) rfl (by simp [rf_cat, rq_cat, ca_i, ca_l, ca_r]) (ct_X0_isBelow l X hcv13) ?_
            rcases it_some hf with ⟨c14, hf⟩ | ⟨c14, hf⟩
            · refine g_ifne_t (pc := 103) (tgt := 110) dX0_branches_103 (by decide) c14 ?_
              refine g_iconst (pc := 110) (v := (0 : Int32)) dX0_branches_110 (by decide) ?_
              obtain rfl := Option.some.inj hf
              exact g_zret (pc := 111) rfl rfl dX0_branches_111
            · refine g_ifne_f (pc := 103) (tgt := 110) dX0_branches_103 (by decide) (Decidable.of_not_not c14) ?_
              refine g_iconst (pc := 106) (v := (1 : Int32)) dX0_branches_106 (by decide) ?_
              refine g_goto (pc := 107) (tgt := 111) dX0_branches_107 (by decide) ?_
              obtain rfl := Option.some.inj hf
              exact g_zret (pc := 111) rfl rfl dX0_branches_111
theorem ct_X0_branches (l : Launch) (X : Cx) {h : AH} {a0 : Int32} {a1 : Int32} {a2 : Int32} {q : Int32} (hf : f_X0_branches h a0 a1 a2 = some q) : Ct l X k_X0_branches [.int a0, .int a1, .int a2] h (rI (q, h)) := ct_of ck_X0_branches (by simp [lg_sl, rf_cat, rq_cat, ca_i, ca_l, ca_r]) (by simp [lv_args, rf_cat, rq_cat, ca_i, ca_l, ca_r]) (ok_X0_branches l X hf)
set_option maxRecDepth 100000 in
set_option maxHeartbeats 4000000 in
theorem ok_X0_extend (l : Launch) (X : Cx) {h : AH} {a0 : Int32} {a1 : Int32} {q : Int32} (hf : f_X0_extend h a0 a1 = some q) : Go l X k_X0_extend 0 [(0, .int a0), (1, .int a1)] [] h (rI (q, h)) := by
  unfold f_X0_extend at hf
  refine g_iload_n (pc := 0) 1 dX0_extend_0 rfl rfl ?_
  rcases it_some hf with ⟨c1, hf⟩ | ⟨c1, hf⟩
  · refine g_tsw (pc := 1) (tgt := 40) (0 : Int32) dX0_extend_1 c1 (by decide +kernel) (by decide +kernel) (off := 39) (by decide +kernel) (by decide) ?_
    refine g_iload_n (pc := 40) 0 dX0_extend_40 rfl rfl ?_
    refine g_bipush (pc := 41) (v := (24 : Int32)) dX0_extend_41 (by decide) ?_
    refine g_ishl (pc := 43) dX0_extend_43 ?_
    refine g_bipush (pc := 44) (v := (24 : Int32)) dX0_extend_44 (by decide) ?_
    refine g_ishr (pc := 46) dX0_extend_46 ?_
    obtain rfl := Option.some.inj hf
    exact g_iret (pc := 47) rfl dX0_extend_47
  ·
    rcases it_some hf with ⟨c2, hf⟩ | ⟨c2, hf⟩
    · refine g_tsw (pc := 1) (tgt := 48) (1 : Int32) dX0_extend_1 c2 (by decide +kernel) (by decide +kernel) (off := 47) (by decide +kernel) (by decide) ?_
      refine g_iload_n (pc := 48) 0 dX0_extend_48 rfl rfl ?_
      refine g_bipush (pc := 49) (v := (16 : Int32)) dX0_extend_49 (by decide) ?_
      refine g_ishl (pc := 51) dX0_extend_51 ?_
      refine g_bipush (pc := 52) (v := (16 : Int32)) dX0_extend_52 (by decide) ?_
      refine g_ishr (pc := 54) dX0_extend_54 ?_
      obtain rfl := Option.some.inj hf
      exact g_iret (pc := 55) rfl dX0_extend_55
    ·
      rcases it_some hf with ⟨c3, hf⟩ | ⟨c3, hf⟩
      · refine g_tsw (pc := 1) (tgt := 56) (4 : Int32) dX0_extend_1 c3 (by decide +kernel) (by decide +kernel) (off := 55) (by decide +kernel) (by decide) ?_
        refine g_iload_n (pc := 56) 0 dX0_extend_56 rfl rfl ?_
        refine g_sipush (pc := 57) (v := (255 : Int32)) dX0_extend_57 (by decide) ?_
        refine g_iand (pc := 60) dX0_extend_60 ?_
        obtain rfl := Option.some.inj hf
        exact g_iret (pc := 61) rfl dX0_extend_61
      ·
        rcases it_some hf with ⟨c4, hf⟩ | ⟨c4, hf⟩
        · refine g_tsw (pc := 1) (tgt := 62) (5 : Int32) dX0_extend_1 c4 (by decide +kernel) (by decide +kernel) (off := 61) (by decide +kernel) (by decide) ?_
          refine g_iload_n (pc := 62) 0 dX0_extend_62 rfl rfl ?_
          refine g_ldc (pc := 63) (v := (65535 : Int32)) m_1095 dX0_extend_63 ?_
          refine g_iand (pc := 65) dX0_extend_65 ?_
          obtain rfl := Option.some.inj hf
          exact g_iret (pc := 66) rfl dX0_extend_66
        ·
          refine g_tswD (pc := 1) (tgt := 67) [(0 : Int32), (1 : Int32), (4 : Int32), (5 : Int32)] dX0_extend_1 (cons_ne c1 (cons_ne c2 (cons_ne c3 (cons_ne c4 nil_ne)))) (by decide +kernel) (by decide +kernel) (by decide) ?_
          refine g_iload_n (pc := 67) 0 dX0_extend_67 rfl rfl ?_
          obtain rfl := Option.some.inj hf
          exact g_iret (pc := 68) rfl dX0_extend_68
theorem ct_X0_extend (l : Launch) (X : Cx) {h : AH} {a0 : Int32} {a1 : Int32} {q : Int32} (hf : f_X0_extend h a0 a1 = some q) : Ct l X k_X0_extend [.int a0, .int a1] h (rI (q, h)) := ct_of ck_X0_extend (by simp [lg_sl, rf_cat, rq_cat, ca_i, ca_l, ca_r]) (by simp [lv_args, rf_cat, rq_cat, ca_i, ca_l, ca_r]) (ok_X0_extend l X hf)
set_option maxRecDepth 100000 in
set_option maxHeartbeats 4000000 in
theorem ok_X0_atomic (l : Launch) (X : Cx) {h : AH} {a0 : Int32} {a1 : Int32} {a2 : Int32} {q : Int32} (hf : f_X0_atomic h a0 a1 a2 = some q) : Go l X k_X0_atomic 0 [(0, .int a0), (1, .int a1), (2, .int a2)] [] h (rI (q, h)) := by
  unfold f_X0_atomic at hf
  refine g_iload_n (pc := 0) 0 dX0_atomic_0 rfl rfl ?_
  refine g_bipush (pc := 1) (v := (27 : Int32)) dX0_atomic_1 (by decide) ?_
  refine g_iushr (pc := 3) dX0_atomic_3 ?_
  rcases it_some hf with ⟨c1, hf⟩ | ⟨c1, hf⟩
  · refine g_tsw (pc := 4) (tgt := 120) (0 : Int32) dX0_atomic_4 c1 (by decide +kernel) (by decide +kernel) (off := 116) (by decide +kernel) (by decide) ?_
    refine g_iload_n (pc := 120) 1 dX0_atomic_120 rfl rfl ?_
    refine g_iload_n (pc := 121) 2 dX0_atomic_121 rfl rfl ?_
    refine g_iadd (pc := 122) dX0_atomic_122 ?_
    obtain rfl := Option.some.inj hf
    exact g_iret (pc := 123) rfl dX0_atomic_123
  ·
    rcases it_some hf with ⟨c2, hf⟩ | ⟨c2, hf⟩
    · refine g_tsw (pc := 4) (tgt := 124) (1 : Int32) dX0_atomic_4 c2 (by decide +kernel) (by decide +kernel) (off := 120) (by decide +kernel) (by decide) ?_
      refine g_iload_n (pc := 124) 2 dX0_atomic_124 rfl rfl ?_
      obtain rfl := Option.some.inj hf
      exact g_iret (pc := 125) rfl dX0_atomic_125
    ·
      rcases it_some hf with ⟨c3, hf⟩ | ⟨c3, hf⟩
      · refine g_tsw (pc := 4) (tgt := 126) (4 : Int32) dX0_atomic_4 c3 (by decide +kernel) (by decide +kernel) (off := 122) (by decide +kernel) (by decide) ?_
        refine g_iload_n (pc := 126) 1 dX0_atomic_126 rfl rfl ?_
        refine g_iload_n (pc := 127) 2 dX0_atomic_127 rfl rfl ?_
        refine g_ixor (pc := 128) dX0_atomic_128 ?_
        obtain rfl := Option.some.inj hf
        exact g_iret (pc := 129) rfl dX0_atomic_129
      ·
        rcases it_some hf with ⟨c4, hf⟩ | ⟨c4, hf⟩
        · refine g_tsw (pc := 4) (tgt := 130) (8 : Int32) dX0_atomic_4 c4 (by decide +kernel) (by decide +kernel) (off := 126) (by decide +kernel) (by decide) ?_
          refine g_iload_n (pc := 130) 1 dX0_atomic_130 rfl rfl ?_
          refine g_iload_n (pc := 131) 2 dX0_atomic_131 rfl rfl ?_
          refine g_ior (pc := 132) dX0_atomic_132 ?_
          obtain rfl := Option.some.inj hf
          exact g_iret (pc := 133) rfl dX0_atomic_133
        ·
          rcases it_some hf with ⟨c5, hf⟩ | ⟨c5, hf⟩
          · refine g_tsw (pc := 4) (tgt := 134) (12 : Int32) dX0_atomic_4 c5 (by decide +kernel) (by decide +kernel) (off := 130) (by decide +kernel) (by decide) ?_
            refine g_iload_n (pc := 134) 1 dX0_atomic_134 rfl rfl ?_
            refine g_iload_n (pc := 135) 2 dX0_atomic_135 rfl rfl ?_
            refine g_iand (pc := 136) dX0_atomic_136 ?_
            obtain rfl := Option.some.inj hf
            exact g_iret (pc := 137) rfl dX0_atomic_137
          ·
            rcases it_some hf with ⟨c6, hf⟩ | ⟨c6, hf⟩
            · refine g_tsw (pc := 4) (tgt := 138) (16 : Int32) dX0_atomic_4 c6 (by decide +kernel) (by decide +kernel) (off := 134) (by decide +kernel) (by decide) ?_
              refine g_iload_n (pc := 138) 1 dX0_atomic_138 rfl rfl ?_
              refine g_iload_n (pc := 139) 2 dX0_atomic_139 rfl rfl ?_
              refine g_min (pc := 140) mmmin_X0_20 (by decide) (by decide) (by simp [rf_cat, rq_cat, ca_i, ca_l, ca_r]) dX0_atomic_140 ?_
              obtain rfl := Option.some.inj hf
              exact g_iret (pc := 143) rfl dX0_atomic_143
            ·
              rcases it_some hf with ⟨c7, hf⟩ | ⟨c7, hf⟩
              · refine g_tsw (pc := 4) (tgt := 144) (20 : Int32) dX0_atomic_4 c7 (by decide +kernel) (by decide +kernel) (off := 140) (by decide +kernel) (by decide) ?_
                refine g_iload_n (pc := 144) 1 dX0_atomic_144 rfl rfl ?_
                refine g_iload_n (pc := 145) 2 dX0_atomic_145 rfl rfl ?_
                refine g_max (pc := 146) mmmax_X0_26 (by decide) (by decide) (by simp [rf_cat, rq_cat, ca_i, ca_l, ca_r]) dX0_atomic_146 ?_
                obtain rfl := Option.some.inj hf
                exact g_iret (pc := 149) rfl dX0_atomic_149
              ·
                rcases it_some hf with ⟨c8, hf⟩ | ⟨c8, hf⟩
                · refine g_tsw (pc := 4) (tgt := 150) (24 : Int32) dX0_atomic_4 c8 (by decide +kernel) (by decide +kernel) (off := 146) (by decide +kernel) (by decide) ?_
                  refine g_iload_n (pc := 150) 1 dX0_atomic_150 rfl rfl ?_
                  refine g_iload_n (pc := 151) 2 dX0_atomic_151 rfl rfl ?_
                  obtain ⟨v9, hcv9, hf⟩ := bd_some hf
                  refine g_cSI (pc := 152) (k2 := k_X0_isBelow) (av := [.int a1, .int a2]) (q := (v9, h)) rfl dX0_atomic_152 ck_X0_isBelow m_1081 m_1082 (by decide) (by decide) rfl (by simp [rf_cat, rq_cat, ca_i, ca_l, ca_r]) (ct_X0_isBelow l X hcv9) ?_
                  rcases it_some hf with ⟨c10, hf⟩ | ⟨c10, hf⟩
                  · refine g_ifeq_t (pc := 155) (tgt := 162) dX0_atomic_155 (by decide) c10 ?_
                    refine g_iload_n (pc := 162) 2 dX0_atomic_162 rfl rfl ?_
                    obtain rfl := Option.some.inj hf
                    exact g_iret (pc := 163) rfl dX0_atomic_163
                  · refine g_ifeq_f (pc := 155) (tgt := 162) dX0_atomic_155 (by decide) c10 ?_
                    refine g_iload_n (pc := 158) 1 dX0_atomic_158 rfl rfl ?_
                    refine g_goto (pc := 159) (tgt := 163) dX0_atomic_159 (by decide) ?_
                    obtain rfl := Option.some.inj hf
                    exact g_iret (pc := 163) rfl dX0_atomic_163
                ·
                  refine g_tswD (pc := 4) (tgt := 164) [(0 : Int32), (1 : Int32), (4 : Int32), (8 : Int32), (12 : Int32), (16 : Int32), (20 : Int32), (24 : Int32)] dX0_atomic_4 (cons_ne c1 (cons_ne c2 (cons_ne c3 (cons_ne c4 (cons_ne c5 (cons_ne c6 (cons_ne c7 (cons_ne c8 nil_ne)))))))) (by decide +kernel) (by decide +kernel) (by decide) ?_
                  refine g_iload_n (pc := 164) 1 dX0_atomic_164 rfl rfl ?_
                  refine g_iload_n (pc := 165) 2 dX0_atomic_165 rfl rfl ?_
                  obtain ⟨v11, hcv11, hf⟩ := bd_some hf
                  refine g_cSI (pc := 166) (k2 := k_X0_isBelow) (av := [.int a1, .int a2]) (q := (v11, h)) rfl dX0_atomic_166 ck_X0_isBelow m_1081 m_1082 (by decide) (by decide) rfl (by simp [rf_cat, rq_cat, ca_i, ca_l, ca_r]) (ct_X0_isBelow l X hcv11) ?_
                  rcases it_some hf with ⟨c12, hf⟩ | ⟨c12, hf⟩
                  · refine g_ifeq_t (pc := 169) (tgt := 176) dX0_atomic_169 (by decide) c12 ?_
                    refine g_iload_n (pc := 176) 1 dX0_atomic_176 rfl rfl ?_
                    obtain rfl := Option.some.inj hf
                    exact g_iret (pc := 177) rfl dX0_atomic_177
                  · refine g_ifeq_f (pc := 169) (tgt := 176) dX0_atomic_169 (by decide) c12 ?_
                    refine g_iload_n (pc := 172) 2 dX0_atomic_172 rfl rfl ?_
                    refine g_goto (pc := 173) (tgt := 177) dX0_atomic_173 (by decide) ?_
                    obtain rfl := Option.some.inj hf
                    exact g_iret (pc := 177) rfl dX0_atomic_177
theorem ct_X0_atomic (l : Launch) (X : Cx) {h : AH} {a0 : Int32} {a1 : Int32} {a2 : Int32} {q : Int32} (hf : f_X0_atomic h a0 a1 a2 = some q) : Ct l X k_X0_atomic [.int a0, .int a1, .int a2] h (rI (q, h)) := ct_of ck_X0_atomic (by simp [lg_sl, rf_cat, rq_cat, ca_i, ca_l, ca_r]) (by simp [lv_args, rf_cat, rq_cat, ca_i, ca_l, ca_r]) (ok_X0_atomic l X hf)
set_option maxRecDepth 100000 in
set_option maxHeartbeats 4000000 in
theorem ok_X1_init (l : Launch) (X : Cx) {h : AH} {a0 : Nat} {a1 : Nat} {q : AH} (hf : f_X1_init h a0 a1 = some q) : Go l X k_X1_init 0 [(0, rf X a0), (1, rf X a1)] [] h (rV q) := by
  unfold f_X1_init at hf
  refine g_aload_n (pc := 0) 0 dX1_init_0 rfl rfl ?_
  obtain ⟨g1, hf⟩ := gs_some hf
  refine g_objInit (pc := 1) m_193 m_154 m_155 g1 (by decide) (by decide) (by decide) (by simp [rf_cat, rq_cat, ca_i, ca_l, ca_r]) dX1_init_1 ?_
  refine g_aload_n (pc := 4) 0 dX1_init_4 rfl rfl ?_
  refine g_sipush (pc := 5) (v := (375 : Int32)) dX1_init_5 (by decide) ?_
  obtain ⟨h2, eh2, hf⟩ := lt_some hf
  refine g_newI (pc := 8) m_252 dX1_init_8 (by decide) eh2 ?_
  obtain ⟨g3, hf⟩ := gs_some hf
  obtain ⟨h4, eh4, hf⟩ := lt_some hf
  refine g_putRF (pc := 10) fl_X1_9 rfl (cl_own rfl) (Or.inr ⟨_, rfl⟩) dX1_init_10 g3 eh4 ?_
  refine g_aload_n (pc := 13) 0 dX1_init_13 rfl rfl ?_
  refine g_sipush (pc := 14) (v := (375 : Int32)) dX1_init_14 (by decide) ?_
  obtain ⟨h5, eh5, hf⟩ := lt_some hf
  refine g_newI (pc := 17) m_252 dX1_init_17 (by decide) eh5 ?_
  obtain ⟨g6, hf⟩ := gs_some hf
  obtain ⟨h7, eh7, hf⟩ := lt_some hf
  refine g_putRF (pc := 19) fl_X1_15 rfl (cl_own rfl) (Or.inr ⟨_, rfl⟩) dX1_init_19 g6 eh7 ?_
  refine g_aload_n (pc := 22) 0 dX1_init_22 rfl rfl ?_
  refine g_sipush (pc := 23) (v := (375 : Int32)) dX1_init_23 (by decide) ?_
  obtain ⟨h8, eh8, hf⟩ := lt_some hf
  refine g_newI (pc := 26) m_252 dX1_init_26 (by decide) eh8 ?_
  obtain ⟨g9, hf⟩ := gs_some hf
  obtain ⟨h10, eh10, hf⟩ := lt_some hf
  refine g_putRF (pc := 28) fl_X1_18 rfl (cl_own rfl) (Or.inr ⟨_, rfl⟩) dX1_init_28 g9 eh10 ?_
  refine g_aload_n (pc := 31) 0 dX1_init_31 rfl rfl ?_
  refine g_sipush (pc := 32) (v := (375 : Int32)) dX1_init_32 (by decide) ?_
  obtain ⟨h11, eh11, hf⟩ := lt_some hf
  refine g_newI (pc := 35) m_252 dX1_init_35 (by decide) eh11 ?_
  obtain ⟨g12, hf⟩ := gs_some hf
  obtain ⟨h13, eh13, hf⟩ := lt_some hf
  refine g_putRF (pc := 37) fl_X1_21 rfl (cl_own rfl) (Or.inr ⟨_, rfl⟩) dX1_init_37 g12 eh13 ?_
  refine g_aload_n (pc := 40) 0 dX1_init_40 rfl rfl ?_
  refine g_sipush (pc := 41) (v := (375 : Int32)) dX1_init_41 (by decide) ?_
  obtain ⟨h14, eh14, hf⟩ := lt_some hf
  refine g_newI (pc := 44) m_252 dX1_init_44 (by decide) eh14 ?_
  obtain ⟨g15, hf⟩ := gs_some hf
  obtain ⟨h16, eh16, hf⟩ := lt_some hf
  refine g_putRF (pc := 46) fl_X1_24 rfl (cl_own rfl) (Or.inr ⟨_, rfl⟩) dX1_init_46 g15 eh16 ?_
  refine g_aload_n (pc := 49) 0 dX1_init_49 rfl rfl ?_
  refine g_sipush (pc := 50) (v := (375 : Int32)) dX1_init_50 (by decide) ?_
  obtain ⟨h17, eh17, hf⟩ := lt_some hf
  refine g_newI (pc := 53) m_252 dX1_init_53 (by decide) eh17 ?_
  obtain ⟨g18, hf⟩ := gs_some hf
  obtain ⟨h19, eh19, hf⟩ := lt_some hf
  refine g_putRF (pc := 55) fl_X1_27 rfl (cl_own rfl) (Or.inr ⟨_, rfl⟩) dX1_init_55 g18 eh19 ?_
  refine g_aload_n (pc := 58) 0 dX1_init_58 rfl rfl ?_
  refine g_sipush (pc := 59) (v := (375 : Int32)) dX1_init_59 (by decide) ?_
  obtain ⟨h20, eh20, hf⟩ := lt_some hf
  refine g_newJ (pc := 62) m_253 dX1_init_62 (by decide) eh20 ?_
  obtain ⟨g21, hf⟩ := gs_some hf
  obtain ⟨h22, eh22, hf⟩ := lt_some hf
  refine g_putRF (pc := 64) fl_X1_30 rfl (cl_own rfl) (Or.inr ⟨_, rfl⟩) dX1_init_64 g21 eh22 ?_
  refine g_aload_n (pc := 67) 0 dX1_init_67 rfl rfl ?_
  refine g_sipush (pc := 68) (v := (750 : Int32)) dX1_init_68 (by decide) ?_
  obtain ⟨h23, eh23, hf⟩ := lt_some hf
  refine g_newJ (pc := 71) m_253 dX1_init_71 (by decide) eh23 ?_
  obtain ⟨g24, hf⟩ := gs_some hf
  obtain ⟨h25, eh25, hf⟩ := lt_some hf
  refine g_putRF (pc := 73) fl_X1_34 rfl (cl_own rfl) (Or.inr ⟨_, rfl⟩) dX1_init_73 g24 eh25 ?_
  refine g_aload_n (pc := 76) 0 dX1_init_76 rfl rfl ?_
  refine g_sipush (pc := 77) (v := (750 : Int32)) dX1_init_77 (by decide) ?_
  obtain ⟨h26, eh26, hf⟩ := lt_some hf
  refine g_newI (pc := 80) m_252 dX1_init_80 (by decide) eh26 ?_
  obtain ⟨g27, hf⟩ := gs_some hf
  obtain ⟨h28, eh28, hf⟩ := lt_some hf
  refine g_putRF (pc := 82) fl_X1_37 rfl (cl_own rfl) (Or.inr ⟨_, rfl⟩) dX1_init_82 g27 eh28 ?_
  refine g_aload_n (pc := 85) 0 dX1_init_85 rfl rfl ?_
  refine g_sipush (pc := 86) (v := (750 : Int32)) dX1_init_86 (by decide) ?_
  obtain ⟨h29, eh29, hf⟩ := lt_some hf
  refine g_newI (pc := 89) m_252 dX1_init_89 (by decide) eh29 ?_
  obtain ⟨g30, hf⟩ := gs_some hf
  obtain ⟨h31, eh31, hf⟩ := lt_some hf
  refine g_putRF (pc := 91) fl_X1_40 rfl (cl_own rfl) (Or.inr ⟨_, rfl⟩) dX1_init_91 g30 eh31 ?_
  refine g_aload_n (pc := 94) 0 dX1_init_94 rfl rfl ?_
  refine g_bipush (pc := 95) (v := (16 : Int32)) dX1_init_95 (by decide) ?_
  obtain ⟨h32, eh32, hf⟩ := lt_some hf
  refine g_newI (pc := 97) m_252 dX1_init_97 (by decide) eh32 ?_
  obtain ⟨g33, hf⟩ := gs_some hf
  obtain ⟨h34, eh34, hf⟩ := lt_some hf
  refine g_putRF (pc := 99) fl_X1_43 rfl (cl_own rfl) (Or.inr ⟨_, rfl⟩) dX1_init_99 g33 eh34 ?_
  refine g_aload_n (pc := 102) 0 dX1_init_102 rfl rfl ?_
  refine g_aload_n (pc := 103) 1 dX1_init_103 rfl rfl ?_
  have g35 : hS h34 a0 = 1 := (hS_tR eh34 g33)
  obtain ⟨h36, eh36, hf⟩ := lt_some hf
  refine g_putRF (pc := 104) fl_X1_46 rfl (cl_own rfl) (Or.inl ⟨_, rfl⟩) dX1_init_104 g35 eh36 ?_
  obtain rfl := Option.some.inj hf
  exact g_vret (pc := 107) rfl dX1_init_107
theorem ct_X1_init (l : Launch) (X : Cx) {h : AH} {a0 : Nat} {a1 : Nat} {q : AH} (hf : f_X1_init h a0 a1 = some q) : Ct l X k_X1_init [rf X a0, rf X a1] h (rV q) := ct_of ck_X1_init (by simp [lg_sl, rf_cat, rq_cat, ca_i, ca_l, ca_r]) (by simp [lv_args, rf_cat, rq_cat, ca_i, ca_l, ca_r]) (ok_X1_init l X hf)
set_option maxRecDepth 100000 in
set_option maxHeartbeats 4000000 in
theorem ok_J7_fill_53178_L5 (l : Launch) (X : Cx) : ∀ (n : Nat) (h : AH) (a0 : Nat) (a1 : Int32) (a2 : Int32) (a3 : Int32) (q : AH), f_J7_fill_53178_L5 n h a0 a1 a2 a3 = some q → Go l X k_J7_fill_53178 5 [(0, rf X a0), (1, .int a1), (2, .int a2), (3, .int a3)] [] h (rV q) := by
  intro n
  induction n with
  | zero =>
    intro h a0 a1 a2 a3 q hf
    unfold f_J7_fill_53178_L5 at hf
    cases hf
  | succ n ih =>
    intro h a0 a1 a2 a3 q hf
    unfold f_J7_fill_53178_L5 at hf
    refine g_iload_n (pc := 5) 2 dJ7_fill_53178_5 rfl rfl ?_
    refine g_iload_n (pc := 6) 3 dJ7_fill_53178_6 rfl rfl ?_
    rcases it_some hf with ⟨c1, hf⟩ | ⟨c1, hf⟩
    · refine g_icge_t (pc := 7) (tgt := 20) dJ7_fill_53178_7 (by decide) c1 ?_
      obtain rfl := Option.some.inj hf
      exact g_vret (pc := 20) rfl dJ7_fill_53178_20
    · refine g_icge_f (pc := 7) (tgt := 20) dJ7_fill_53178_7 (by decide) c1 ?_
      refine g_aload_n (pc := 10) 0 dJ7_fill_53178_10 rfl rfl ?_
      refine g_iload_n (pc := 11) 2 dJ7_fill_53178_11 rfl rfl ?_
      refine g_iload_n (pc := 12) 1 dJ7_fill_53178_12 rfl rfl ?_
      obtain ⟨g2, hf⟩ := gs_some hf
      obtain ⟨b3, hf⟩ := gb_some hf
      obtain ⟨h4, eh4, hf⟩ := lt_some hf
      refine g_iast (pc := 13) g2 b3 dJ7_fill_53178_13 eh4 ?_
      obtain ⟨x5, ex5, hf⟩ := lt_some hf
      refine g_iinc (pc := 14) (y := x5) (L' := [(2, .int x5), (0, rf X a0), (1, .int a1), (3, .int a3)]) 2 dJ7_fill_53178_14 rfl (by decide) (ex5.trans rfl) rfl ?_
      refine g_goto (pc := 17) (tgt := 5) dJ7_fill_53178_17 (by decide) ?_
      refine g_sub [1, 2, 0, 3] rfl ?_
      exact ih h4 a0 a1 x5 a3 q hf
set_option maxRecDepth 100000 in
set_option maxHeartbeats 4000000 in
theorem ok_J7_fill_53178 (l : Launch) (X : Cx) {h : AH} {a0 : Nat} {a1 : Int32} {q : AH} (hf : f_J7_fill_53178 h a0 a1 = some q) : Go l X k_J7_fill_53178 0 [(0, rf X a0), (1, .int a1)] [] h (rV q) := by
  unfold f_J7_fill_53178 at hf
  refine g_iconst (pc := 0) (v := (0 : Int32)) dJ7_fill_53178_0 (by decide) ?_
  obtain ⟨x1, ex1, hf⟩ := lt_some hf
  refine g_istore_n (pc := 1) (L' := [(2, .int x1), (0, rf X a0), (1, .int a1)]) dJ7_fill_53178_1 rfl (by decide) ex1 rfl ?_
  refine g_aload_n (pc := 2) 1 dJ7_fill_53178_2 rfl rfl ?_
  obtain ⟨g2, hf⟩ := gs_some hf
  refine g_alen (pc := 3) 0 rfl g2 (by decide) dJ7_fill_53178_3 ?_
  obtain ⟨x3, ex3, hf⟩ := lt_some hf
  refine g_istore_n (pc := 4) (L' := [(3, .int x3), (2, .int x1), (0, rf X a0), (1, .int a1)]) dJ7_fill_53178_4 rfl (by decide) ex3 rfl ?_
  refine g_sub [2, 3, 1, 0] rfl ?_
  exact ok_J7_fill_53178_L5 l X FU h a0 a1 x1 x3 q hf
theorem ct_J7_fill_53178 (l : Launch) (X : Cx) {h : AH} {a0 : Nat} {a1 : Int32} {q : AH} (hf : f_J7_fill_53178 h a0 a1 = some q) : Ct l X k_J7_fill_53178 [rf X a0, .int a1] h (rV q) := ct_of ck_J7_fill_53178 (by simp [lg_sl, rf_cat, rq_cat, ca_i, ca_l, ca_r]) (by simp [lv_args, rf_cat, rq_cat, ca_i, ca_l, ca_r]) (ok_J7_fill_53178 l X hf)
set_option maxRecDepth 100000 in
set_option maxHeartbeats 4000000 in
theorem ok_X8_isLetter (l : Launch) (X : Cx) {h : AH} {a0 : Int32} {q : Int32} (hf : f_X8_isLetter h a0 = some q) : Go l X k_X8_isLetter 0 [(0, .int a0)] [] h (rI (q, h)) := by
  unfold f_X8_isLetter at hf
  refine g_iload_n (pc := 0) 0 dX8_isLetter_0 rfl rfl ?_
  refine g_bipush (pc := 1) (v := (97 : Int32)) dX8_isLetter_1 (by decide) ?_
  rcases it_some hf with ⟨c1, hf⟩ | ⟨c1, hf⟩
  · refine g_iclt_t (pc := 3) (tgt := 16) dX8_isLetter_3 (by decide) c1 ?_
    refine g_iconst (pc := 16) (v := (0 : Int32)) dX8_isLetter_16 (by decide) ?_
    obtain rfl := Option.some.inj hf
    exact g_zret (pc := 17) rfl rfl dX8_isLetter_17
  · refine g_iclt_f (pc := 3) (tgt := 16) dX8_isLetter_3 (by decide) c1 ?_
    refine g_iload_n (pc := 6) 0 dX8_isLetter_6 rfl rfl ?_
    refine g_bipush (pc := 7) (v := (122 : Int32)) dX8_isLetter_7 (by decide) ?_
    rcases it_some hf with ⟨c2, hf⟩ | ⟨c2, hf⟩
    · refine g_icgt_t (pc := 9) (tgt := 16) dX8_isLetter_9 (by decide) c2 ?_
      refine g_iconst (pc := 16) (v := (0 : Int32)) dX8_isLetter_16 (by decide) ?_
      obtain rfl := Option.some.inj hf
      exact g_zret (pc := 17) rfl rfl dX8_isLetter_17
    · refine g_icgt_f (pc := 9) (tgt := 16) dX8_isLetter_9 (by decide) c2 ?_
      refine g_iconst (pc := 12) (v := (1 : Int32)) dX8_isLetter_12 (by decide) ?_
      refine g_goto (pc := 13) (tgt := 17) dX8_isLetter_13 (by decide) ?_
      obtain rfl := Option.some.inj hf
      exact g_zret (pc := 17) rfl rfl dX8_isLetter_17
theorem ct_X8_isLetter (l : Launch) (X : Cx) {h : AH} {a0 : Int32} {q : Int32} (hf : f_X8_isLetter h a0 = some q) : Ct l X k_X8_isLetter [.int a0] h (rI (q, h)) := ct_of ck_X8_isLetter (by simp [lg_sl, rf_cat, rq_cat, ca_i, ca_l, ca_r]) (by simp [lv_args, rf_cat, rq_cat, ca_i, ca_l, ca_r]) (ok_X8_isLetter l X hf)
set_option maxRecDepth 100000 in
set_option maxHeartbeats 4000000 in
theorem ok_X8_scanName_L122 (l : Launch) (X : Cx) (h : AH) (s0 : Nat) (s1 : Int32) (q : AH) (hf : f_X8_scanName_L122 h s0 s1 = some q) : Go l X k_X8_scanName 122 [] [.int s1, rf X s0] h (rV q) := by
  unfold f_X8_scanName_L122 at hf
  obtain ⟨g1, hf⟩ := gs_some hf
  obtain ⟨h2, eh2, hf⟩ := lt_some hf
  refine g_putI (pc := 122) fl_X8_34 dX8_scanName_122 g1 eh2 ?_
  obtain rfl := Option.some.inj hf
  exact g_vret (pc := 125) rfl dX8_scanName_125
set_option maxRecDepth 100000 in
set_option maxHeartbeats 4000000 in
theorem ok_X8_scanName_L102 (l : Launch) (X : Cx) (h : AH) (a0 : Nat) (q : AH) (hf : f_X8_scanName_L102 h a0 = some q) : Go l X k_X8_scanName 102 [(0, rf X a0)] [] h (rV q) := by
  unfold f_X8_scanName_L102 at hf
  refine g_aload_n (pc := 102) 0 dX8_scanName_102 rfl rfl ?_
  refine g_aload_n (pc := 103) 0 dX8_scanName_103 rfl rfl ?_
  obtain ⟨g1, hf⟩ := gs_some hf
  refine g_getI (pc := 104) fl_X8_21 dX8_scanName_104 g1 ?_
  refine g_aload_n (pc := 107) 0 dX8_scanName_107 rfl rfl ?_
  refine g_getI (pc := 108) fl_X8_27 dX8_scanName_108 g1 ?_
  refine g_isub (pc := 111) dX8_scanName_111 ?_
  refine g_bipush (pc := 112) (v := (8 : Int32)) dX8_scanName_112 (by decide) ?_
  rcases it_some hf with ⟨c2, hf⟩ | ⟨c2, hf⟩
  · refine g_icgt_t (pc := 114) (tgt := 121) dX8_scanName_114 (by decide) c2 ?_
    refine g_iconst (pc := 121) (v := (0 : Int32)) dX8_scanName_121 (by decide) ?_
    refine g_sub [] rfl ?_
    exact ok_X8_scanName_L122 l X h a0 (0 : Int32) q hf
  · refine g_icgt_f (pc := 114) (tgt := 121) dX8_scanName_114 (by decide) c2 ?_
    refine g_iconst (pc := 117) (v := (2 : Int32)) dX8_scanName_117 (by decide) ?_
    refine g_goto (pc := 118) (tgt := 122) dX8_scanName_118 (by decide) ?_
    refine g_sub [] rfl ?_
    exact ok_X8_scanName_L122 l X h a0 (2 : Int32) q hf
set_option maxRecDepth 100000 in
set_option maxHeartbeats 4000000 in
theorem ok_X8_scanName_L67 (l : Launch) (X : Cx) (k0 : AH → Nat → Option (AH)) (hk0 : ∀ (h : AH) (a0 : Nat) (q : AH), k0 h a0 = some q → Go l X k_X8_scanName 0 [(0, rf X a0)] [] h (rV q)) (h : AH) (a0 : Nat) (q : AH) (hf : f_X8_scanName_L67 k0 h a0 = some q) : Go l X k_X8_scanName 67 [(0, rf X a0)] [] h (rV q) := by
  unfold f_X8_scanName_L67 at hf
  refine g_aload_n (pc := 67) 0 dX8_scanName_67 rfl rfl ?_
  refine g_aload_n (pc := 68) 0 dX8_scanName_68 rfl rfl ?_
  obtain ⟨g1, hf⟩ := gs_some hf
  refine g_getL (pc := 69) fl_X8_30 dX8_scanName_69 g1 ?_
  refine g_bipush (pc := 72) (v := (8 : Int32)) dX8_scanName_72 (by decide) ?_
  refine g_lshl (pc := 74) dX8_scanName_74 ?_
  refine g_aload_n (pc := 75) 0 dX8_scanName_75 rfl rfl ?_
  refine g_getR (pc := 76) fl_X8_9 dX8_scanName_76 g1 ?_
  refine g_aload_n (pc := 79) 0 dX8_scanName_79 rfl rfl ?_
  refine g_getI (pc := 80) fl_X8_21 dX8_scanName_80 g1 ?_
  obtain ⟨g2, hf⟩ := gs_some hf
  obtain ⟨b3, hf⟩ := gb_some hf
  refine g_cald (pc := 83) g2 b3 dX8_scanName_83 ?_
  refine g_i2l (pc := 84) dX8_scanName_84 ?_
  refine g_lor (pc := 85) dX8_scanName_85 ?_
  obtain ⟨h4, eh4, hf⟩ := lt_some hf
  refine g_putL (pc := 86) fl_X8_30 dX8_scanName_86 g1 eh4 ?_
  refine g_aload_n (pc := 89) 0 dX8_scanName_89 rfl rfl ?_
  refine g_dup (pc := 90) dX8_scanName_90 (rf_cat X _) ?_
  have g5 : hS h4 a0 = 7 := (hS_tL eh4 g1)
  refine g_getI (pc := 91) fl_X8_21 dX8_scanName_91 g5 ?_
  refine g_iconst (pc := 94) (v := (1 : Int32)) dX8_scanName_94 (by decide) ?_
  refine g_iadd (pc := 95) dX8_scanName_95 ?_
  obtain ⟨h6, eh6, hf⟩ := lt_some hf
  refine g_putI (pc := 96) fl_X8_21 dX8_scanName_96 g5 eh6 ?_
  refine g_goto (pc := 99) (tgt := 0) dX8_scanName_99 (by decide) ?_
  exact hk0 h6 a0 q hf
set_option maxRecDepth 100000 in
set_option maxHeartbeats 4000000 in
theorem ok_X8_scanName_L39 (l : Launch) (X : Cx) (k0 : AH → Nat → Option (AH)) (hk0 : ∀ (h : AH) (a0 : Nat) (q : AH), k0 h a0 = some q → Go l X k_X8_scanName 0 [(0, rf X a0)] [] h (rV q)) (h : AH) (a0 : Nat) (q : AH) (hf : f_X8_scanName_L39 k0 h a0 = some q) : Go l X k_X8_scanName 39 [(0, rf X a0)] [] h (rV q) := by
  unfold f_X8_scanName_L39 at hf
  refine g_aload_n (pc := 39) 0 dX8_scanName_39 rfl rfl ?_
  obtain ⟨g1, hf⟩ := gs_some hf
  refine g_getR (pc := 40) fl_X8_9 dX8_scanName_40 g1 ?_
  refine g_aload_n (pc := 43) 0 dX8_scanName_43 rfl rfl ?_
  refine g_getI (pc := 44) fl_X8_21 dX8_scanName_44 g1 ?_
  obtain ⟨g2, hf⟩ := gs_some hf
  obtain ⟨b3, hf⟩ := gb_some hf
  refine g_cald (pc := 47) g2 b3 dX8_scanName_47 ?_
  refine g_bipush (pc := 48) (v := (48 : Int32)) dX8_scanName_48 (by decide) ?_
  rcases it_some hf with ⟨c4, hf⟩ | ⟨c4, hf⟩
  · refine g_iclt_t (pc := 50) (tgt := 102) dX8_scanName_50 (by decide) c4 ?_
    exact ok_X8_scanName_L102 l X h a0 q hf
  · refine g_iclt_f (pc := 50) (tgt := 102) dX8_scanName_50 (by decide) c4 ?_
    refine g_aload_n (pc := 53) 0 dX8_scanName_53 rfl rfl ?_
    refine g_getR (pc := 54) fl_X8_9 dX8_scanName_54 g1 ?_
    refine g_aload_n (pc := 57) 0 dX8_scanName_57 rfl rfl ?_
    refine g_getI (pc := 58) fl_X8_21 dX8_scanName_58 g1 ?_
    obtain ⟨b5, hf⟩ := gb_some hf
    refine g_cald (pc := 61) g2 b5 dX8_scanName_61 ?_
    refine g_bipush (pc := 62) (v := (57 : Int32)) dX8_scanName_62 (by decide) ?_
    rcases it_some hf with ⟨c6, hf⟩ | ⟨c6, hf⟩
    · refine g_icgt_t (pc := 64) (tgt := 102) dX8_scanName_64 (by decide) c6 ?_
      exact ok_X8_scanName_L102 l X h a0 q hf
    · refine g_icgt_f (pc := 64) (tgt := 102) dX8_scanName_64 (by decide) c6 ?_
      exact ok_X8_scanName_L67 l X k0 hk0 h a0 q hf
set_option maxRecDepth 100000 in
set_option maxHeartbeats 4000000 in
theorem ok_X8_scanName_L0 (l : Launch) (X : Cx) : ∀ (n : Nat) (h : AH) (a0 : Nat) (q : AH), f_X8_scanName_L0 n h a0 = some q → Go l X k_X8_scanName 0 [(0, rf X a0)] [] h (rV q) := by
  intro n
  induction n with
  | zero =>
    intro h a0 q hf
    unfold f_X8_scanName_L0 at hf
    cases hf
  | succ n ih =>
    intro h a0 q hf
    unfold f_X8_scanName_L0 at hf
    refine g_aload_n (pc := 0) 0 dX8_scanName_0 rfl rfl ?_
    obtain ⟨g1, hf⟩ := gs_some hf
    refine g_getI (pc := 1) fl_X8_21 dX8_scanName_1 g1 ?_
    refine g_aload_n (pc := 4) 0 dX8_scanName_4 rfl rfl ?_
    refine g_getI (pc := 5) fl_X8_15 dX8_scanName_5 g1 ?_
    rcases it_some hf with ⟨c2, hf⟩ | ⟨c2, hf⟩
    · refine g_icge_t (pc := 8) (tgt := 102) dX8_scanName_8 (by decide) c2 ?_
      exact ok_X8_scanName_L102 l X h a0 q hf
    · refine g_icge_f (pc := 8) (tgt := 102) dX8_scanName_8 (by decide) c2 ?_
      refine g_aload_n (pc := 11) 0 dX8_scanName_11 rfl rfl ?_
      refine g_getR (pc := 12) fl_X8_9 dX8_scanName_12 g1 ?_
      refine g_aload_n (pc := 15) 0 dX8_scanName_15 rfl rfl ?_
      refine g_getI (pc := 16) fl_X8_21 dX8_scanName_16 g1 ?_
      obtain ⟨g3, hf⟩ := gs_some hf
      obtain ⟨b4, hf⟩ := gb_some hf
      refine g_cald (pc := 19) g3 b4 dX8_scanName_19 ?_
      refine g_bipush (pc := 20) (v := (97 : Int32)) dX8_scanName_20 (by decide) ?_
      rcases it_some hf with ⟨c5, hf⟩ | ⟨c5, hf⟩
      · refine g_iclt_t (pc := 22) (tgt := 39) dX8_scanName_22 (by decide) c5 ?_
        exact ok_X8_scanName_L39 l X (f_X8_scanName_L0 n) ih h a0 q hf
      · refine g_iclt_f (pc := 22) (tgt := 39) dX8_scanName_22 (by decide) c5 ?_
        refine g_aload_n (pc := 25) 0 dX8_scanName_25 rfl rfl ?_
        refine g_getR (pc := 26) fl_X8_9 dX8_scanName_26 g1 ?_
        refine g_aload_n (pc := 29) 0 dX8_scanName_29 rfl rfl ?_
        refine g_getI (pc := 30) fl_X8_21 dX8_scanName_30 g1 ?_
        obtain ⟨b6, hf⟩ := gb_some hf
        refine g_cald (pc := 33) g3 b6 dX8_scanName_33 ?_
        refine g_bipush (pc := 34) (v := (122 : Int32)) dX8_scanName_34 (by decide) ?_
        rcases it_some hf with ⟨c7, hf⟩ | ⟨c7, hf⟩
        · refine g_icle_t (pc := 36) (tgt := 67) dX8_scanName_36 (by decide) c7 ?_
          exact ok_X8_scanName_L67 l X (f_X8_scanName_L0 n) ih h a0 q hf
        · refine g_icle_f (pc := 36) (tgt := 67) dX8_scanName_36 (by decide) c7 ?_
          exact ok_X8_scanName_L39 l X (f_X8_scanName_L0 n) ih h a0 q hf
set_option maxRecDepth 100000 in
set_option maxHeartbeats 4000000 in
theorem ok_X8_scanName (l : Launch) (X : Cx) {h : AH} {a0 : Nat} {q : AH} (hf : f_X8_scanName h a0 = some q) : Go l X k_X8_scanName 0 [(0, rf X a0)] [] h (rV q) := by
  unfold f_X8_scanName at hf
  exact ok_X8_scanName_L0 l X FU h a0 q hf
theorem ct_X8_scanName (l : Launch) (X : Cx) {h : AH} {a0 : Nat} {q : AH} (hf : f_X8_scanName h a0 = some q) : Ct l X k_X8_scanName [rf X a0] h (rV q) := ct_of ck_X8_scanName (by simp [lg_sl, rf_cat, rq_cat, ca_i, ca_l, ca_r]) (by simp [lv_args, rf_cat, rq_cat, ca_i, ca_l, ca_r]) (ok_X8_scanName l X hf)
set_option maxRecDepth 100000 in
set_option maxHeartbeats 4000000 in
theorem ok_X8_isDigit (l : Launch) (X : Cx) {h : AH} {a0 : Int32} {q : Int32} (hf : f_X8_isDigit h a0 = some q) : Go l X k_X8_isDigit 0 [(0, .int a0)] [] h (rI (q, h)) := by
  unfold f_X8_isDigit at hf
  refine g_iload_n (pc := 0) 0 dX8_isDigit_0 rfl rfl ?_
  refine g_bipush (pc := 1) (v := (48 : Int32)) dX8_isDigit_1 (by decide) ?_
  rcases it_some hf with ⟨c1, hf⟩ | ⟨c1, hf⟩
  · refine g_iclt_t (pc := 3) (tgt := 16) dX8_isDigit_3 (by decide) c1 ?_
    refine g_iconst (pc := 16) (v := (0 : Int32)) dX8_isDigit_16 (by decide) ?_
    obtain rfl := Option.some.inj hf
    exact g_zret (pc := 17) rfl rfl dX8_isDigit_17
  · refine g_iclt_f (pc := 3) (tgt := 16) dX8_isDigit_3 (by decide) c1 ?_
    refine g_iload_n (pc := 6) 0 dX8_isDigit_6 rfl rfl ?_
    refine g_bipush (pc := 7) (v := (57 : Int32)) dX8_isDigit_7 (by decide) ?_
    rcases it_some hf with ⟨c2, hf⟩ | ⟨c2, hf⟩
    · refine g_icgt_t (pc := 9) (tgt := 16) dX8_isDigit_9 (by decide) c2 ?_
      refine g_iconst (pc := 16) (v := (0 : Int32)) dX8_isDigit_16 (by decide) ?_
      obtain rfl := Option.some.inj hf
      exact g_zret (pc := 17) rfl rfl dX8_isDigit_17
    · refine g_icgt_f (pc := 9) (tgt := 16) dX8_isDigit_9 (by decide) c2 ?_
      refine g_iconst (pc := 12) (v := (1 : Int32)) dX8_isDigit_12 (by decide) ?_
      refine g_goto (pc := 13) (tgt := 17) dX8_isDigit_13 (by decide) ?_
      obtain rfl := Option.some.inj hf
      exact g_zret (pc := 17) rfl rfl dX8_isDigit_17
theorem ct_X8_isDigit (l : Launch) (X : Cx) {h : AH} {a0 : Int32} {q : Int32} (hf : f_X8_isDigit h a0 = some q) : Ct l X k_X8_isDigit [.int a0] h (rI (q, h)) := ct_of ck_X8_isDigit (by simp [lg_sl, rf_cat, rq_cat, ca_i, ca_l, ca_r]) (by simp [lv_args, rf_cat, rq_cat, ca_i, ca_l, ca_r]) (ok_X8_isDigit l X hf)
set_option maxRecDepth 100000 in
set_option maxHeartbeats 4000000 in
theorem ok_X8_scanNumber_L279 (l : Launch) (X : Cx) (h : AH) (s0 : Nat) (s1 : Int32) (q : AH) (hf : f_X8_scanNumber_L279 h s0 s1 = some q) : Go l X k_X8_scanNumber 279 [] [.int s1, rf X s0] h (rV q) := by
  unfold f_X8_scanNumber_L279 at hf
  obtain ⟨g1, hf⟩ := gs_some hf
  obtain ⟨h2, eh2, hf⟩ := lt_some hf
  refine g_putI (pc := 279) fl_X8_34 dX8_scanNumber_279 g1 eh2 ?_
  obtain rfl := Option.some.inj hf
  exact g_vret (pc := 282) rfl dX8_scanNumber_282
set_option maxRecDepth 100000 in
set_option maxHeartbeats 4000000 in
theorem ok_X8_scanNumber_L278 (l : Launch) (X : Cx) (h : AH) (s0 : Nat) (q : AH) (hf : f_X8_scanNumber_L278 h s0 = some q) : Go l X k_X8_scanNumber 278 [] [rf X s0] h (rV q) := by
  unfold f_X8_scanNumber_L278 at hf
  refine g_iconst (pc := 278) (v := (0 : Int32)) dX8_scanNumber_278 (by decide) ?_
  exact ok_X8_scanNumber_L279 l X h s0 (0 : Int32) q hf
set_option maxRecDepth 100000 in
set_option maxHeartbeats 4000000 in
theorem ok_X8_scanNumber_L271 (l : Launch) (X : Cx) (h : AH) (s0 : Nat) (s1 : Int32) (s2 : Int32) (q : AH) (hf : f_X8_scanNumber_L271 h s0 s1 s2 = some q) : Go l X k_X8_scanNumber 271 [] [.int s2, .int s1, rf X s0] h (rV q) := by
  unfold f_X8_scanNumber_L271 at hf
  rcases it_some hf with ⟨c1, hf⟩ | ⟨c1, hf⟩
  · refine g_icgt_t (pc := 271) (tgt := 278) dX8_scanNumber_271 (by decide) c1 ?_
    exact ok_X8_scanNumber_L278 l X h s0 q hf
  · refine g_icgt_f (pc := 271) (tgt := 278) dX8_scanNumber_271 (by decide) c1 ?_
    refine g_iconst (pc := 274) (v := (3 : Int32)) dX8_scanNumber_274 (by decide) ?_
    refine g_goto (pc := 275) (tgt := 279) dX8_scanNumber_275 (by decide) ?_
    exact ok_X8_scanNumber_L279 l X h s0 (3 : Int32) q hf
set_option maxRecDepth 100000 in
set_option maxHeartbeats 4000000 in
theorem ok_X8_scanNumber_L243 (l : Launch) (X : Cx) (h : AH) (a0 : Nat) (a1 : Int32) (a3 : Int32) (q : AH) (hf : f_X8_scanNumber_L243 h a0 a1 a3 = some q) : Go l X k_X8_scanNumber 243 [(0, rf X a0), (1, .int a1), (3, .int a3)] [] h (rV q) := by
  unfold f_X8_scanNumber_L243 at hf
  refine g_aload_n (pc := 243) 0 dX8_scanNumber_243 rfl rfl ?_
  obtain ⟨g1, hf⟩ := gs_some hf
  refine g_getI (pc := 244) fl_X8_21 dX8_scanNumber_244 g1 ?_
  refine g_iload_n (pc := 247) 2 dX8_scanNumber_247 rfl rfl ?_
  refine g_isub (pc := 248) dX8_scanNumber_248 ?_
  obtain ⟨x2, ex2, hf⟩ := lt_some hf
  refine g_istore (pc := 249) (L' := [(4, .int x2), (0, rf X a0), (1, .int a1), (3, .int a3)]) dX8_scanNumber_249 (by decide) ex2 rfl ?_
  refine g_aload_n (pc := 251) 1 dX8_scanNumber_251 rfl rfl ?_
  refine g_iload (pc := 252) 0 dX8_scanNumber_252 rfl ?_
  refine g_iconst (pc := 254) (v := (1 : Int32)) dX8_scanNumber_254 (by decide) ?_
  rcases it_some hf with ⟨c3, hf⟩ | ⟨c3, hf⟩
  · refine g_iclt_t (pc := 255) (tgt := 278) dX8_scanNumber_255 (by decide) c3 ?_
    refine g_sub [] rfl ?_
    exact ok_X8_scanNumber_L278 l X h a0 q hf
  · refine g_iclt_f (pc := 255) (tgt := 278) dX8_scanNumber_255 (by decide) c3 ?_
    refine g_iload (pc := 258) 0 dX8_scanNumber_258 rfl ?_
    refine g_iload_n (pc := 260) 2 dX8_scanNumber_260 rfl rfl ?_
    rcases it_some hf with ⟨c4, hf⟩ | ⟨c4, hf⟩
    · refine g_ifeq_t (pc := 261) (tgt := 269) dX8_scanNumber_261 (by decide) c4 ?_
      refine g_bipush (pc := 269) (v := (10 : Int32)) dX8_scanNumber_269 (by decide) ?_
      refine g_sub [] rfl ?_
      exact ok_X8_scanNumber_L271 l X h a0 x2 (10 : Int32) q hf
    · refine g_ifeq_f (pc := 261) (tgt := 269) dX8_scanNumber_261 (by decide) c4 ?_
      refine g_bipush (pc := 264) (v := (8 : Int32)) dX8_scanNumber_264 (by decide) ?_
      refine g_goto (pc := 266) (tgt := 271) dX8_scanNumber_266 (by decide) ?_
      refine g_sub [] rfl ?_
      exact ok_X8_scanNumber_L271 l X h a0 x2 (8 : Int32) q hf
set_option maxRecDepth 100000 in
set_option maxHeartbeats 4000000 in
theorem ok_X8_scanNumber_L225 (l : Launch) (X : Cx) (k84 : AH → Nat → Int32 → Int32 → Int32 → Option (AH)) (hk84 : ∀ (h : AH) (a0 : Nat) (a1 : Int32) (a2 : Int32) (a3 : Int32) (q : AH), k84 h a0 a1 a2 a3 = some q → Go l X k_X8_scanNumber 84 [(0, rf X a0), (1, .int a1), (2, .int a2), (3, .int a3)] [] h (rV q)) (h : AH) (a0 : Nat) (a1 : Int32) (a2 : Int32) (a3 : Int32) (s0 : Nat) (s1 : Int64) (s2 : Int32) (q : AH) (hf : f_X8_scanNumber_L225 k84 h a0 a1 a2 a3 s0 s1 s2 = some q) : Go l X k_X8_scanNumber 225 [(0, rf X a0), (1, .int a1), (2, .int a2), (3, .int a3)] [.int s2, .long s1, rf X s0] h (rV q) := by
  unfold f_X8_scanNumber_L225 at hf
  refine g_i2l (pc := 225) dX8_scanNumber_225 ?_
  refine g_ladd (pc := 226) dX8_scanNumber_226 ?_
  obtain ⟨g1, hf⟩ := gs_some hf
  obtain ⟨h2, eh2, hf⟩ := lt_some hf
  refine g_putL (pc := 227) fl_X8_30 dX8_scanNumber_227 g1 eh2 ?_
  refine g_aload_n (pc := 230) 0 dX8_scanNumber_230 rfl rfl ?_
  refine g_dup (pc := 231) dX8_scanNumber_231 (rf_cat X _) ?_
  obtain ⟨g3, hf⟩ := gs_some hf
  refine g_getI (pc := 232) fl_X8_21 dX8_scanNumber_232 g3 ?_
  refine g_iconst (pc := 235) (v := (1 : Int32)) dX8_scanNumber_235 (by decide) ?_
  refine g_iadd (pc := 236) dX8_scanNumber_236 ?_
  obtain ⟨h4, eh4, hf⟩ := lt_some hf
  refine g_putI (pc := 237) fl_X8_21 dX8_scanNumber_237 g3 eh4 ?_
  refine g_goto (pc := 240) (tgt := 84) dX8_scanNumber_240 (by decide) ?_
  exact hk84 h4 a0 a1 a2 a3 q hf
set_option maxRecDepth 100000 in
set_option maxHeartbeats 4000000 in
theorem ok_X8_scanNumber_L182 (l : Launch) (X : Cx) (k84 : AH → Nat → Int32 → Int32 → Int32 → Option (AH)) (hk84 : ∀ (h : AH) (a0 : Nat) (a1 : Int32) (a2 : Int32) (a3 : Int32) (q : AH), k84 h a0 a1 a2 a3 = some q → Go l X k_X8_scanNumber 84 [(0, rf X a0), (1, .int a1), (2, .int a2), (3, .int a3)] [] h (rV q)) (h : AH) (a0 : Nat) (a1 : Int32) (a2 : Int32) (a3 : Int32) (a4 : Int32) (q : AH) (hf : f_X8_scanNumber_L182 k84 h a0 a1 a2 a3 a4 = some q) : Go l X k_X8_scanNumber 182 [(0, rf X a0), (1, .int a1), (2, .int a2), (3, .int a3), (4, .int a4)] [] h (rV q) := by
  unfold f_X8_scanNumber_L182 at hf
  refine g_aload_n (pc := 182) 0 dX8_scanNumber_182 rfl rfl ?_
  refine g_aload_n (pc := 183) 0 dX8_scanNumber_183 rfl rfl ?_
  obtain ⟨g1, hf⟩ := gs_some hf
  refine g_getL (pc := 184) fl_X8_30 dX8_scanNumber_184 g1 ?_
  refine g_iload_n (pc := 187) 2 dX8_scanNumber_187 rfl rfl ?_
  refine g_i2l (pc := 188) dX8_scanNumber_188 ?_
  refine g_lmul (pc := 189) dX8_scanNumber_189 ?_
  refine g_iload (pc := 190) 4 dX8_scanNumber_190 rfl ?_
  rcases it_some hf with ⟨c2, hf⟩ | ⟨c2, hf⟩
  · refine g_ifeq_t (pc := 192) (tgt := 210) dX8_scanNumber_192 (by decide) c2 ?_
    refine g_aload_n (pc := 210) 0 dX8_scanNumber_210 rfl rfl ?_
    refine g_getR (pc := 211) fl_X8_9 dX8_scanNumber_211 g1 ?_
    refine g_aload_n (pc := 214) 0 dX8_scanNumber_214 rfl rfl ?_
    refine g_getI (pc := 215) fl_X8_21 dX8_scanNumber_215 g1 ?_
    obtain ⟨g3, hf⟩ := gs_some hf
    obtain ⟨b4, hf⟩ := gb_some hf
    refine g_cald (pc := 218) g3 b4 dX8_scanNumber_218 ?_
    refine g_bipush (pc := 219) (v := (97 : Int32)) dX8_scanNumber_219 (by decide) ?_
    refine g_isub (pc := 221) dX8_scanNumber_221 ?_
    refine g_bipush (pc := 222) (v := (10 : Int32)) dX8_scanNumber_222 (by decide) ?_
    refine g_iadd (pc := 224) dX8_scanNumber_224 ?_
    refine g_sub [0, 1, 2, 3] rfl ?_
    exact ok_X8_scanNumber_L225 l X k84 hk84 h a0 a1 a2 a3 a0 ((hL h a0 5) * (a2.toInt64)) (((hI h (hR h a0 0) (hI h a0 2).toNatClampNeg) - (97 : Int32)) + (10 : Int32)) q hf
  · refine g_ifeq_f (pc := 192) (tgt := 210) dX8_scanNumber_192 (by decide) c2 ?_
    refine g_aload_n (pc := 195) 0 dX8_scanNumber_195 rfl rfl ?_
    refine g_getR (pc := 196) fl_X8_9 dX8_scanNumber_196 g1 ?_
    refine g_aload_n (pc := 199) 0 dX8_scanNumber_199 rfl rfl ?_
    refine g_getI (pc := 200) fl_X8_21 dX8_scanNumber_200 g1 ?_
    obtain ⟨g5, hf⟩ := gs_some hf
    obtain ⟨b6, hf⟩ := gb_some hf
    refine g_cald (pc := 203) g5 b6 dX8_scanNumber_203 ?_
    refine g_bipush (pc := 204) (v := (48 : Int32)) dX8_scanNumber_204 (by decide) ?_
    refine g_isub (pc := 206) dX8_scanNumber_206 ?_
    refine g_goto (pc := 207) (tgt := 225) dX8_scanNumber_207 (by decide) ?_
    refine g_sub [0, 1, 2, 3] rfl ?_
    exact ok_X8_scanNumber_L225 l X k84 hk84 h a0 a1 a2 a3 a0 ((hL h a0 5) * (a2.toInt64)) ((hI h (hR h a0 0) (hI h a0 2).toNatClampNeg) - (48 : Int32)) q hf
set_option maxRecDepth 100000 in
set_option maxHeartbeats 4000000 in
theorem ok_X8_scanNumber_L167 (l : Launch) (X : Cx) (k84 : AH → Nat → Int32 → Int32 → Int32 → Option (AH)) (hk84 : ∀ (h : AH) (a0 : Nat) (a1 : Int32) (a2 : Int32) (a3 : Int32) (q : AH), k84 h a0 a1 a2 a3 = some q → Go l X k_X8_scanNumber 84 [(0, rf X a0), (1, .int a1), (2, .int a2), (3, .int a3)] [] h (rV q)) (h : AH) (a0 : Nat) (a1 : Int32) (a2 : Int32) (a3 : Int32) (a4 : Int32) (s0 : Int32) (q : AH) (hf : f_X8_scanNumber_L167 k84 h a0 a1 a2 a3 a4 s0 = some q) : Go l X k_X8_scanNumber 167 [(0, rf X a0), (1, .int a1), (2, .int a2), (3, .int a3), (4, .int a4)] [.int s0] h (rV q) := by
  unfold f_X8_scanNumber_L167 at hf
  refine g_istore (pc := 167) (L' := [(5, .int s0), (0, rf X a0), (1, .int a1), (2, .int a2), (3, .int a3), (4, .int a4)]) dX8_scanNumber_167 (by decide) rfl rfl ?_
  refine g_iload (pc := 169) 5 dX8_scanNumber_169 rfl ?_
  rcases it_some hf with ⟨c1, hf⟩ | ⟨c1, hf⟩
  · refine g_ifne_t (pc := 171) (tgt := 182) dX8_scanNumber_171 (by decide) c1 ?_
    refine g_sub [1, 2, 3, 4, 5] rfl ?_
    exact ok_X8_scanNumber_L182 l X k84 hk84 h a0 a1 a2 a3 a4 q hf
  · refine g_ifne_f (pc := 171) (tgt := 182) dX8_scanNumber_171 (by decide) (Decidable.of_not_not c1) ?_
    refine g_iload (pc := 174) 0 dX8_scanNumber_174 rfl ?_
    rcases it_some hf with ⟨c2, hf⟩ | ⟨c2, hf⟩
    · refine g_ifne_t (pc := 176) (tgt := 182) dX8_scanNumber_176 (by decide) c2 ?_
      refine g_sub [1, 2, 3, 4, 5] rfl ?_
      exact ok_X8_scanNumber_L182 l X k84 hk84 h a0 a1 a2 a3 a4 q hf
    · refine g_ifne_f (pc := 176) (tgt := 182) dX8_scanNumber_176 (by decide) (Decidable.of_not_not c2) ?_
      refine g_goto (pc := 179) (tgt := 243) dX8_scanNumber_179 (by decide) ?_
      refine g_sub [1, 2, 4] rfl ?_
      exact ok_X8_scanNumber_L243 l X h a0 a1 a3 q hf
set_option maxRecDepth 100000 in
set_option maxHeartbeats 4000000 in
theorem ok_X8_scanNumber_L166 (l : Launch) (X : Cx) (k84 : AH → Nat → Int32 → Int32 → Int32 → Option (AH)) (hk84 : ∀ (h : AH) (a0 : Nat) (a1 : Int32) (a2 : Int32) (a3 : Int32) (q : AH), k84 h a0 a1 a2 a3 = some q → Go l X k_X8_scanNumber 84 [(0, rf X a0), (1, .int a1), (2, .int a2), (3, .int a3)] [] h (rV q)) (h : AH) (a0 : Nat) (a1 : Int32) (a2 : Int32) (a3 : Int32) (a4 : Int32) (q : AH) (hf : f_X8_scanNumber_L166 k84 h a0 a1 a2 a3 a4 = some q) : Go l X k_X8_scanNumber 166 [(0, rf X a0), (1, .int a1), (2, .int a2), (3, .int a3), (4, .int a4)] [] h (rV q) := by
  unfold f_X8_scanNumber_L166 at hf
  refine g_iconst (pc := 166) (v := (0 : Int32)) dX8_scanNumber_166 (by decide) ?_
  exact ok_X8_scanNumber_L167 l X k84 hk84 h a0 a1 a2 a3 a4 (0 : Int32) q hf
set_option maxRecDepth 100000 in
set_option maxHeartbeats 4000000 in
theorem ok_X8_scanNumber_L128 (l : Launch) (X : Cx) (k84 : AH → Nat → Int32 → Int32 → Int32 → Option (AH)) (hk84 : ∀ (h : AH) (a0 : Nat) (a1 : Int32) (a2 : Int32) (a3 : Int32) (q : AH), k84 h a0 a1 a2 a3 = some q → Go l X k_X8_scanNumber 84 [(0, rf X a0), (1, .int a1), (2, .int a2), (3, .int a3)] [] h (rV q)) (h : AH) (a0 : Nat) (a1 : Int32) (a2 : Int32) (a3 : Int32) (s0 : Int32) (q : AH) (hf : f_X8_scanNumber_L128 k84 h a0 a1 a2 a3 s0 = some q) : Go l X k_X8_scanNumber 128 [(0, rf X a0), (1, .int a1), (2, .int a2), (3, .int a3)] [.int s0] h (rV q) := by
  unfold f_X8_scanNumber_L128 at hf
  refine g_istore (pc := 128) (L' := [(4, .int s0), (0, rf X a0), (1, .int a1), (2, .int a2), (3, .int a3)]) dX8_scanNumber_128 (by decide) rfl rfl ?_
  refine g_iload_n (pc := 130) 2 dX8_scanNumber_130 rfl rfl ?_
  rcases it_some hf with ⟨c1, hf⟩ | ⟨c1, hf⟩
  · refine g_ifeq_t (pc := 131) (tgt := 166) dX8_scanNumber_131 (by decide) c1 ?_
    refine g_sub [1, 2, 3, 4, 0] rfl ?_
    exact ok_X8_scanNumber_L166 l X k84 hk84 h a0 a1 a2 a3 s0 q hf
  · refine g_ifeq_f (pc := 131) (tgt := 166) dX8_scanNumber_131 (by decide) c1 ?_
    refine g_aload_n (pc := 134) 1 dX8_scanNumber_134 rfl rfl ?_
    obtain ⟨g2, hf⟩ := gs_some hf
    refine g_getR (pc := 135) fl_X8_9 dX8_scanNumber_135 g2 ?_
    refine g_aload_n (pc := 138) 1 dX8_scanNumber_138 rfl rfl ?_
    refine g_getI (pc := 139) fl_X8_21 dX8_scanNumber_139 g2 ?_
    obtain ⟨g3, hf⟩ := gs_some hf
    obtain ⟨b4, hf⟩ := gb_some hf
    refine g_cald (pc := 142) g3 b4 dX8_scanNumber_142 ?_
    refine g_bipush (pc := 143) (v := (97 : Int32)) dX8_scanNumber_143 (by decide) ?_
    rcases it_some hf with ⟨c5, hf⟩ | ⟨c5, hf⟩
    · refine g_iclt_t (pc := 145) (tgt := 166) dX8_scanNumber_145 (by decide) c5 ?_
      refine g_sub [1, 2, 3, 4, 0] rfl ?_
      exact ok_X8_scanNumber_L166 l X k84 hk84 h a0 a1 a2 a3 s0 q hf
    · refine g_iclt_f (pc := 145) (tgt := 166) dX8_scanNumber_145 (by decide) c5 ?_
      refine g_aload_n (pc := 148) 1 dX8_scanNumber_148 rfl rfl ?_
      refine g_getR (pc := 149) fl_X8_9 dX8_scanNumber_149 g2 ?_
      refine g_aload_n (pc := 152) 1 dX8_scanNumber_152 rfl rfl ?_
      refine g_getI (pc := 153) fl_X8_21 dX8_scanNumber_153 g2 ?_
      obtain ⟨b6, hf⟩ := gb_some hf
      refine g_cald (pc := 156) g3 b6 dX8_scanNumber_156 ?_
      refine g_bipush (pc := 157) (v := (102 : Int32)) dX8_scanNumber_157 (by decide) ?_
      rcases it_some hf with ⟨c7, hf⟩ | ⟨c7, hf⟩
      · refine g_icgt_t (pc := 159) (tgt := 166) dX8_scanNumber_159 (by decide) c7 ?_
        refine g_sub [1, 2, 3, 4, 0] rfl ?_
        exact ok_X8_scanNumber_L166 l X k84 hk84 h a0 a1 a2 a3 s0 q hf
      · refine g_icgt_f (pc := 159) (tgt := 166) dX8_scanNumber_159 (by decide) c7 ?_
        refine g_iconst (pc := 162) (v := (1 : Int32)) dX8_scanNumber_162 (by decide) ?_
        refine g_goto (pc := 163) (tgt := 167) dX8_scanNumber_163 (by decide) ?_
        refine g_sub [1, 2, 3, 4, 0] rfl ?_
        exact ok_X8_scanNumber_L167 l X k84 hk84 h a0 a1 a2 a3 s0 (1 : Int32) q hf
set_option maxRecDepth 100000 in
set_option maxHeartbeats 4000000 in
theorem ok_X8_scanNumber_L127 (l : Launch) (X : Cx) (k84 : AH → Nat → Int32 → Int32 → Int32 → Option (AH)) (hk84 : ∀ (h : AH) (a0 : Nat) (a1 : Int32) (a2 : Int32) (a3 : Int32) (q : AH), k84 h a0 a1 a2 a3 = some q → Go l X k_X8_scanNumber 84 [(0, rf X a0), (1, .int a1), (2, .int a2), (3, .int a3)] [] h (rV q)) (h : AH) (a0 : Nat) (a1 : Int32) (a2 : Int32) (a3 : Int32) (q : AH) (hf : f_X8_scanNumber_L127 k84 h a0 a1 a2 a3 = some q) : Go l X k_X8_scanNumber 127 [(0, rf X a0), (1, .int a1), (2, .int a2), (3, .int a3)] [] h (rV q) := by
  unfold f_X8_scanNumber_L127 at hf
  refine g_iconst (pc := 127) (v := (0 : Int32)) dX8_scanNumber_127 (by decide) ?_
  exact ok_X8_scanNumber_L128 l X k84 hk84 h a0 a1 a2 a3 (0 : Int32) q hf
set_option maxRecDepth 100000 in
set_option maxHeartbeats 4000000 in
theorem ok_X8_scanNumber_L84 (l : Launch) (X : Cx) : ∀ (n : Nat) (h : AH) (a0 : Nat) (a1 : Int32) (a2 : Int32) (a3 : Int32) (q : AH), f_X8_scanNumber_L84 n h a0 a1 a2 a3 = some q → Go l X k_X8_scanNumber 84 [(0, rf X a0), (1, .int a1), (2, .int a2), (3, .int a3)] [] h (rV q) := by
  intro n
  induction n with
  | zero =>
    intro h a0 a1 a2 a3 q hf
    unfold f_X8_scanNumber_L84 at hf
    cases hf
  | succ n ih =>
    intro h a0 a1 a2 a3 q hf
    unfold f_X8_scanNumber_L84 at hf
    refine g_aload_n (pc := 84) 0 dX8_scanNumber_84 rfl rfl ?_
    obtain ⟨g1, hf⟩ := gs_some hf
    refine g_getI (pc := 85) fl_X8_21 dX8_scanNumber_85 g1 ?_
    refine g_aload_n (pc := 88) 0 dX8_scanNumber_88 rfl rfl ?_
    refine g_getI (pc := 89) fl_X8_15 dX8_scanNumber_89 g1 ?_
    rcases it_some hf with ⟨c2, hf⟩ | ⟨c2, hf⟩
    · refine g_icge_t (pc := 92) (tgt := 243) dX8_scanNumber_92 (by decide) c2 ?_
      refine g_sub [0, 1, 3] rfl ?_
      exact ok_X8_scanNumber_L243 l X h a0 a1 a3 q hf
    · refine g_icge_f (pc := 92) (tgt := 243) dX8_scanNumber_92 (by decide) c2 ?_
      refine g_aload_n (pc := 95) 0 dX8_scanNumber_95 rfl rfl ?_
      refine g_getR (pc := 96) fl_X8_9 dX8_scanNumber_96 g1 ?_
      refine g_aload_n (pc := 99) 0 dX8_scanNumber_99 rfl rfl ?_
      refine g_getI (pc := 100) fl_X8_21 dX8_scanNumber_100 g1 ?_
      obtain ⟨g3, hf⟩ := gs_some hf
      obtain ⟨b4, hf⟩ := gb_some hf
      refine g_cald (pc := 103) g3 b4 dX8_scanNumber_103 ?_
      refine g_bipush (pc := 104) (v := (48 : Int32)) dX8_scanNumber_104 (by decide) ?_
      rcases it_some hf with ⟨c5, hf⟩ | ⟨c5, hf⟩
      · refine g_iclt_t (pc := 106) (tgt := 127) dX8_scanNumber_106 (by decide) c5 ?_
        exact ok_X8_scanNumber_L127 l X (f_X8_scanNumber_L84 n) ih h a0 a1 a2 a3 q hf
      · refine g_iclt_f (pc := 106) (tgt := 127) dX8_scanNumber_106 (by decide) c5 ?_
        refine g_aload_n (pc := 109) 0 dX8_scanNumber_109 rfl rfl ?_
        refine g_getR (pc := 110) fl_X8_9 dX8_scanNumber_110 g1 ?_
        refine g_aload_n (pc := 113) 0 dX8_scanNumber_113 rfl rfl ?_
        refine g_getI (pc := 114) fl_X8_21 dX8_scanNumber_114 g1 ?_
        obtain ⟨b6, hf⟩ := gb_some hf
        refine g_cald (pc := 117) g3 b6 dX8_scanNumber_117 ?_
        refine g_bipush (pc := 118) (v := (57 : Int32)) dX8_scanNumber_118 (by decide) ?_
        rcases it_some hf with ⟨c7, hf⟩ | ⟨c7, hf⟩
        · refine g_icgt_t (pc := 120) (tgt := 127) dX8_scanNumber_120 (by decide) c7 ?_
          exact ok_X8_scanNumber_L127 l X (f_X8_scanNumber_L84 n) ih h a0 a1 a2 a3 q hf
        · refine g_icgt_f (pc := 120) (tgt := 127) dX8_scanNumber_120 (by decide) c7 ?_
          refine g_iconst (pc := 123) (v := (1 : Int32)) dX8_scanNumber_123 (by decide) ?_
          refine g_goto (pc := 124) (tgt := 128) dX8_scanNumber_124 (by decide) ?_
          exact ok_X8_scanNumber_L128 l X (f_X8_scanNumber_L84 n) ih h a0 a1 a2 a3 (1 : Int32) q hf
set_option maxRecDepth 100000 in
set_option maxHeartbeats 4000000 in
theorem ok_X8_scanNumber_L78 (l : Launch) (X : Cx) (h : AH) (a0 : Nat) (a1 : Int32) (a2 : Int32) (s0 : Int32) (q : AH) (hf : f_X8_scanNumber_L78 h a0 a1 a2 s0 = some q) : Go l X k_X8_scanNumber 78 [(0, rf X a0), (1, .int a1), (2, .int a2)] [.int s0] h (rV q) := by
  unfold f_X8_scanNumber_L78 at hf
  refine g_istore_n (pc := 78) (L' := [(3, .int s0), (0, rf X a0), (1, .int a1), (2, .int a2)]) dX8_scanNumber_78 rfl (by decide) rfl rfl ?_
  refine g_aload_n (pc := 79) 1 dX8_scanNumber_79 rfl rfl ?_
  refine g_iload_n (pc := 80) 0 dX8_scanNumber_80 rfl rfl ?_
  obtain ⟨g1, hf⟩ := gs_some hf
  obtain ⟨h2, eh2, hf⟩ := lt_some hf
  refine g_putI (pc := 81) fl_X8_21 dX8_scanNumber_81 g1 eh2 ?_
  refine g_sub [1, 2, 3, 0] rfl ?_
  exact ok_X8_scanNumber_L84 l X FU h2 a0 a1 a2 s0 q hf
set_option maxRecDepth 100000 in
set_option maxHeartbeats 4000000 in
theorem ok_X8_scanNumber_L60 (l : Launch) (X : Cx) (h : AH) (a0 : Nat) (a1 : Int32) (s0 : Int32) (q : AH) (hf : f_X8_scanNumber_L60 h a0 a1 s0 = some q) : Go l X k_X8_scanNumber 60 [(0, rf X a0), (1, .int a1)] [.int s0] h (rV q) := by
  unfold f_X8_scanNumber_L60 at hf
  refine g_istore_n (pc := 60) (L' := [(2, .int s0), (0, rf X a0), (1, .int a1)]) dX8_scanNumber_60 rfl (by decide) rfl rfl ?_
  refine g_iload_n (pc := 61) 2 dX8_scanNumber_61 rfl rfl ?_
  rcases it_some hf with ⟨c1, hf⟩ | ⟨c1, hf⟩
  · refine g_ifeq_t (pc := 62) (tgt := 74) dX8_scanNumber_62 (by decide) c1 ?_
    refine g_aload_n (pc := 74) 1 dX8_scanNumber_74 rfl rfl ?_
    obtain ⟨g2, hf⟩ := gs_some hf
    refine g_getI (pc := 75) fl_X8_21 dX8_scanNumber_75 g2 ?_
    refine g_sub [1, 2, 0] rfl ?_
    exact ok_X8_scanNumber_L78 l X h a0 a1 s0 (hI h a0 2) q hf
  · refine g_ifeq_f (pc := 62) (tgt := 74) dX8_scanNumber_62 (by decide) c1 ?_
    refine g_aload_n (pc := 65) 1 dX8_scanNumber_65 rfl rfl ?_
    obtain ⟨g3, hf⟩ := gs_some hf
    refine g_getI (pc := 66) fl_X8_21 dX8_scanNumber_66 g3 ?_
    refine g_iconst (pc := 69) (v := (2 : Int32)) dX8_scanNumber_69 (by decide) ?_
    refine g_iadd (pc := 70) dX8_scanNumber_70 ?_
    refine g_goto (pc := 71) (tgt := 78) dX8_scanNumber_71 (by decide) ?_
    refine g_sub [1, 2, 0] rfl ?_
    exact ok_X8_scanNumber_L78 l X h a0 a1 s0 ((hI h a0 2) + (2 : Int32)) q hf
set_option maxRecDepth 100000 in
set_option maxHeartbeats 4000000 in
theorem ok_X8_scanNumber_L48 (l : Launch) (X : Cx) (h : AH) (a0 : Nat) (s0 : Int32) (q : AH) (hf : f_X8_scanNumber_L48 h a0 s0 = some q) : Go l X k_X8_scanNumber 48 [(0, rf X a0)] [.int s0] h (rV q) := by
  unfold f_X8_scanNumber_L48 at hf
  refine g_istore_n (pc := 48) (L' := [(1, .int s0), (0, rf X a0)]) dX8_scanNumber_48 rfl (by decide) rfl (by simp [rf_cat, rq_cat]) ?_
  refine g_iload_n (pc := 49) 0 dX8_scanNumber_49 rfl rfl ?_
  rcases it_some hf with ⟨c1, hf⟩ | ⟨c1, hf⟩
  · refine g_ifeq_t (pc := 50) (tgt := 58) dX8_scanNumber_50 (by decide) c1 ?_
    refine g_bipush (pc := 58) (v := (10 : Int32)) dX8_scanNumber_58 (by decide) ?_
    refine g_sub [1, 0] rfl ?_
    exact ok_X8_scanNumber_L60 l X h a0 s0 (10 : Int32) q hf
  · refine g_ifeq_f (pc := 50) (tgt := 58) dX8_scanNumber_50 (by decide) c1 ?_
    refine g_bipush (pc := 53) (v := (16 : Int32)) dX8_scanNumber_53 (by decide) ?_
    refine g_goto (pc := 55) (tgt := 60) dX8_scanNumber_55 (by decide) ?_
    refine g_sub [1, 0] rfl ?_
    exact ok_X8_scanNumber_L60 l X h a0 s0 (16 : Int32) q hf
set_option maxRecDepth 100000 in
set_option maxHeartbeats 4000000 in
theorem ok_X8_scanNumber_L47 (l : Launch) (X : Cx) (h : AH) (a0 : Nat) (q : AH) (hf : f_X8_scanNumber_L47 h a0 = some q) : Go l X k_X8_scanNumber 47 [(0, rf X a0)] [] h (rV q) := by
  unfold f_X8_scanNumber_L47 at hf
  refine g_iconst (pc := 47) (v := (0 : Int32)) dX8_scanNumber_47 (by decide) ?_
  exact ok_X8_scanNumber_L48 l X h a0 (0 : Int32) q hf
set_option maxRecDepth 100000 in
set_option maxHeartbeats 4000000 in
theorem ok_X8_scanNumber (l : Launch) (X : Cx) {h : AH} {a0 : Nat} {q : AH} (hf : f_X8_scanNumber h a0 = some q) : Go l X k_X8_scanNumber 0 [(0, rf X a0)] [] h (rV q) := by
  unfold f_X8_scanNumber at hf
  refine g_aload_n (pc := 0) 0 dX8_scanNumber_0 rfl rfl ?_
  obtain ⟨g1, hf⟩ := gs_some hf
  refine g_getR (pc := 1) fl_X8_9 dX8_scanNumber_1 g1 ?_
  refine g_aload_n (pc := 4) 0 dX8_scanNumber_4 rfl rfl ?_
  refine g_getI (pc := 5) fl_X8_21 dX8_scanNumber_5 g1 ?_
  obtain ⟨g2, hf⟩ := gs_some hf
  obtain ⟨b3, hf⟩ := gb_some hf
  refine g_cald (pc := 8) g2 b3 dX8_scanNumber_8 ?_
  refine g_bipush (pc := 9) (v := (48 : Int32)) dX8_scanNumber_9 (by decide) ?_
  rcases it_some hf with ⟨c4, hf⟩ | ⟨c4, hf⟩
  · refine g_icne_t (pc := 11) (tgt := 47) dX8_scanNumber_11 (by decide) c4 ?_
    exact ok_X8_scanNumber_L47 l X h a0 q hf
  · refine g_icne_f (pc := 11) (tgt := 47) dX8_scanNumber_11 (by decide) (Decidable.of_not_not c4) ?_
    refine g_aload_n (pc := 14) 0 dX8_scanNumber_14 rfl rfl ?_
    refine g_getI (pc := 15) fl_X8_21 dX8_scanNumber_15 g1 ?_
    refine g_iconst (pc := 18) (v := (1 : Int32)) dX8_scanNumber_18 (by decide) ?_
    refine g_iadd (pc := 19) dX8_scanNumber_19 ?_
    refine g_aload_n (pc := 20) 0 dX8_scanNumber_20 rfl rfl ?_
    refine g_getI (pc := 21) fl_X8_15 dX8_scanNumber_21 g1 ?_
    rcases it_some hf with ⟨c5, hf⟩ | ⟨c5, hf⟩
    · refine g_icge_t (pc := 24) (tgt := 47) dX8_scanNumber_24 (by decide) c5 ?_
      exact ok_X8_scanNumber_L47 l X h a0 q hf
    · refine g_icge_f (pc := 24) (tgt := 47) dX8_scanNumber_24 (by decide) c5 ?_
      refine g_aload_n (pc := 27) 0 dX8_scanNumber_27 rfl rfl ?_
      refine g_getR (pc := 28) fl_X8_9 dX8_scanNumber_28 g1 ?_
      refine g_aload_n (pc := 31) 0 dX8_scanNumber_31 rfl rfl ?_
      refine g_getI (pc := 32) fl_X8_21 dX8_scanNumber_32 g1 ?_
      refine g_iconst (pc := 35) (v := (1 : Int32)) dX8_scanNumber_35 (by decide) ?_
      refine g_iadd (pc := 36) dX8_scanNumber_36 ?_
      obtain ⟨b6, hf⟩ := gb_some hf
      refine g_cald (pc := 37) g2 b6 dX8_scanNumber_37 ?_
      refine g_bipush (pc := 38) (v := (120 : Int32)) dX8_scanNumber_38 (by decide) ?_
      rcases it_some hf with ⟨c7, hf⟩ | ⟨c7, hf⟩
      · refine g_icne_t (pc := 40) (tgt := 47) dX8_scanNumber_40 (by decide) c7 ?_
        exact ok_X8_scanNumber_L47 l X h a0 q hf
      · refine g_icne_f (pc := 40) (tgt := 47) dX8_scanNumber_40 (by decide) (Decidable.of_not_not c7) ?_
        refine g_iconst (pc := 43) (v := (1 : Int32)) dX8_scanNumber_43 (by decide) ?_
        refine g_goto (pc := 44) (tgt := 48) dX8_scanNumber_44 (by decide) ?_
        exact ok_X8_scanNumber_L48 l X h a0 (1 : Int32) q hf
theorem ct_X8_scanNumber (l : Launch) (X : Cx) {h : AH} {a0 : Nat} {q : AH} (hf : f_X8_scanNumber h a0 = some q) : Ct l X k_X8_scanNumber [rf X a0] h (rV q) := ct_of ck_X8_scanNumber (by simp [lg_sl, rf_cat, rq_cat, ca_i, ca_l, ca_r]) (by simp [lv_args, rf_cat, rq_cat, ca_i, ca_l, ca_r]) (ok_X8_scanNumber l X hf)
set_option maxRecDepth 100000 in
set_option maxHeartbeats 4000000 in
theorem ok_X8_isSign_L36 (l : Launch) (X : Cx) (h : AH)  (q : Int32) (hf : f_X8_isSign_L36 h  = some q) : Go l X k_X8_isSign 36 [] [] h (rI (q, h)) := by
  unfold f_X8_isSign_L36 at hf
  refine g_iconst (pc := 36) (v := (1 : Int32)) dX8_isSign_36 (by decide) ?_
  refine g_goto (pc := 37) (tgt := 41) dX8_isSign_37 (by decide) ?_
  obtain rfl := Option.some.inj hf
  exact g_zret (pc := 41) rfl rfl dX8_isSign_41
set_option maxRecDepth 100000 in
set_option maxHeartbeats 4000000 in
theorem ok_X8_isSign (l : Launch) (X : Cx) {h : AH} {a0 : Int32} {q : Int32} (hf : f_X8_isSign h a0 = some q) : Go l X k_X8_isSign 0 [(0, .int a0)] [] h (rI (q, h)) := by
  unfold f_X8_isSign at hf
  refine g_iload_n (pc := 0) 0 dX8_isSign_0 rfl rfl ?_
  refine g_bipush (pc := 1) (v := (58 : Int32)) dX8_isSign_1 (by decide) ?_
  rcases it_some hf with ⟨c1, hf⟩ | ⟨c1, hf⟩
  · refine g_iceq_t (pc := 3) (tgt := 36) dX8_isSign_3 (by decide) c1 ?_
    refine g_sub [] rfl ?_
    exact ok_X8_isSign_L36 l X h  q hf
  · refine g_iceq_f (pc := 3) (tgt := 36) dX8_isSign_3 (by decide) c1 ?_
    refine g_iload_n (pc := 6) 0 dX8_isSign_6 rfl rfl ?_
    refine g_bipush (pc := 7) (v := (59 : Int32)) dX8_isSign_7 (by decide) ?_
    rcases it_some hf with ⟨c2, hf⟩ | ⟨c2, hf⟩
    · refine g_iceq_t (pc := 9) (tgt := 36) dX8_isSign_9 (by decide) c2 ?_
      refine g_sub [] rfl ?_
      exact ok_X8_isSign_L36 l X h  q hf
    · refine g_iceq_f (pc := 9) (tgt := 36) dX8_isSign_9 (by decide) c2 ?_
      refine g_iload_n (pc := 12) 0 dX8_isSign_12 rfl rfl ?_
      refine g_bipush (pc := 13) (v := (44 : Int32)) dX8_isSign_13 (by decide) ?_
      rcases it_some hf with ⟨c3, hf⟩ | ⟨c3, hf⟩
      · refine g_iceq_t (pc := 15) (tgt := 36) dX8_isSign_15 (by decide) c3 ?_
        refine g_sub [] rfl ?_
        exact ok_X8_isSign_L36 l X h  q hf
      · refine g_iceq_f (pc := 15) (tgt := 36) dX8_isSign_15 (by decide) c3 ?_
        refine g_iload_n (pc := 18) 0 dX8_isSign_18 rfl rfl ?_
        refine g_bipush (pc := 19) (v := (40 : Int32)) dX8_isSign_19 (by decide) ?_
        rcases it_some hf with ⟨c4, hf⟩ | ⟨c4, hf⟩
        · refine g_iceq_t (pc := 21) (tgt := 36) dX8_isSign_21 (by decide) c4 ?_
          refine g_sub [] rfl ?_
          exact ok_X8_isSign_L36 l X h  q hf
        · refine g_iceq_f (pc := 21) (tgt := 36) dX8_isSign_21 (by decide) c4 ?_
          refine g_iload_n (pc := 24) 0 dX8_isSign_24 rfl rfl ?_
          refine g_bipush (pc := 25) (v := (41 : Int32)) dX8_isSign_25 (by decide) ?_
          rcases it_some hf with ⟨c5, hf⟩ | ⟨c5, hf⟩
          · refine g_iceq_t (pc := 27) (tgt := 36) dX8_isSign_27 (by decide) c5 ?_
            refine g_sub [] rfl ?_
            exact ok_X8_isSign_L36 l X h  q hf
          · refine g_iceq_f (pc := 27) (tgt := 36) dX8_isSign_27 (by decide) c5 ?_
            refine g_iload_n (pc := 30) 0 dX8_isSign_30 rfl rfl ?_
            refine g_bipush (pc := 31) (v := (45 : Int32)) dX8_isSign_31 (by decide) ?_
            rcases it_some hf with ⟨c6, hf⟩ | ⟨c6, hf⟩
            · refine g_icne_t (pc := 33) (tgt := 40) dX8_isSign_33 (by decide) c6 ?_
              refine g_iconst (pc := 40) (v := (0 : Int32)) dX8_isSign_40 (by decide) ?_
              obtain rfl := Option.some.inj hf
              exact g_zret (pc := 41) rfl rfl dX8_isSign_41
            · refine g_icne_f (pc := 33) (tgt := 40) dX8_isSign_33 (by decide) (Decidable.of_not_not c6) ?_
              refine g_sub [] rfl ?_
              exact ok_X8_isSign_L36 l X h  q hf
theorem ct_X8_isSign (l : Launch) (X : Cx) {h : AH} {a0 : Int32} {q : Int32} (hf : f_X8_isSign h a0 = some q) : Ct l X k_X8_isSign [.int a0] h (rI (q, h)) := ct_of ck_X8_isSign (by simp [lg_sl, rf_cat, rq_cat, ca_i, ca_l, ca_r]) (by simp [lv_args, rf_cat, rq_cat, ca_i, ca_l, ca_r]) (ok_X8_isSign l X hf)
set_option maxRecDepth 100000 in
set_option maxHeartbeats 4000000 in
theorem ok_X8_next_L143 (l : Launch) (X : Cx) (h : AH) (a0 : Nat) (s0 : Nat) (s1 : Int32) (q : AH) (hf : f_X8_next_L143 h a0 s0 s1 = some q) : Go l X k_X8_next 143 [(0, rf X a0)] [.int s1, rf X s0] h (rV q) := by
  unfold f_X8_next_L143 at hf
  obtain ⟨g1, hf⟩ := gs_some hf
  obtain ⟨h2, eh2, hf⟩ := lt_some hf
  refine g_putI (pc := 143) fl_X8_34 dX8_next_143 g1 eh2 ?_
  refine g_aload_n (pc := 146) 0 dX8_next_146 rfl rfl ?_
  refine g_dup (pc := 147) dX8_next_147 (rf_cat X _) ?_
  obtain ⟨g3, hf⟩ := gs_some hf
  refine g_getI (pc := 148) fl_X8_21 dX8_next_148 g3 ?_
  refine g_iconst (pc := 151) (v := (1 : Int32)) dX8_next_151 (by decide) ?_
  refine g_iadd (pc := 152) dX8_next_152 ?_
  obtain ⟨h4, eh4, hf⟩ := lt_some hf
  refine g_putI (pc := 153) fl_X8_21 dX8_next_153 g3 eh4 ?_
  obtain rfl := Option.some.inj hf
  exact g_vret (pc := 156) rfl dX8_next_156
set_option maxRecDepth 100000 in
set_option maxHeartbeats 4000000 in
theorem ok_X8_next_L38 (l : Launch) (X : Cx) (h : AH) (a0 : Nat) (q : AH) (hf : f_X8_next_L38 h a0 = some q) : Go l X k_X8_next 38 [(0, rf X a0)] [] h (rV q) := by
  unfold f_X8_next_L38 at hf
  refine g_aload_n (pc := 38) 0 dX8_next_38 rfl rfl ?_
  refine g_aload_n (pc := 39) 0 dX8_next_39 rfl rfl ?_
  obtain ⟨g1, hf⟩ := gs_some hf
  refine g_getI (pc := 40) fl_X8_21 dX8_next_40 g1 ?_
  obtain ⟨h2, eh2, hf⟩ := lt_some hf
  refine g_putI (pc := 43) fl_X8_27 dX8_next_43 g1 eh2 ?_
  refine g_aload_n (pc := 46) 0 dX8_next_46 rfl rfl ?_
  refine g_lconst (pc := 47) (v := (0 : Int64)) dX8_next_47 (by decide) ?_
  have g3 : hS h2 a0 = 7 := (hS_tI eh2 g1)
  obtain ⟨h4, eh4, hf⟩ := lt_some hf
  refine g_putL (pc := 48) fl_X8_30 dX8_next_48 g3 eh4 ?_
  refine g_aload_n (pc := 51) 0 dX8_next_51 rfl rfl ?_
  have g5 : hS h4 a0 = 7 := (hS_tL eh4 g3)
  refine g_getI (pc := 52) fl_X8_21 dX8_next_52 g5 ?_
  refine g_aload_n (pc := 55) 0 dX8_next_55 rfl rfl ?_
  refine g_getI (pc := 56) fl_X8_15 dX8_next_56 g5 ?_
  rcases it_some hf with ⟨c6, hf⟩ | ⟨c6, hf⟩
  · refine g_iclt_t (pc := 59) (tgt := 70) dX8_next_59 (by decide) c6 ?_
    refine g_aload_n (pc := 70) 0 dX8_next_70 rfl rfl ?_
    refine g_getR (pc := 71) fl_X8_9 dX8_next_71 g5 ?_
    refine g_aload_n (pc := 74) 0 dX8_next_74 rfl rfl ?_
    refine g_getI (pc := 75) fl_X8_21 dX8_next_75 g5 ?_
    obtain ⟨g7, hf⟩ := gs_some hf
    obtain ⟨b8, hf⟩ := gb_some hf
    refine g_cald (pc := 78) g7 b8 dX8_next_78 ?_
    obtain ⟨v9, hcv9, hf⟩ := bd_some hf
    refine g_cSI (pc := 79) (k2 := k_X8_isLetter) (av := [.int (hI h4 (hR h4 a0 0) (hI h4 a0 2).toNatClampNeg)]) (q := (v9, h4)) rfl dX8_next_79 ck_X8_isLetter m_735 m_736 (by decide) (by decide) rfl (by simp [rf_cat, rq_cat, ca_i, ca_l, ca_r]) (ct_X8_isLetter l X hcv9) ?_
    rcases it_some hf with ⟨c10, hf⟩ | ⟨c10, hf⟩
    · refine g_ifeq_t (pc := 82) (tgt := 92) dX8_next_82 (by decide) c10 ?_
      refine g_aload_n (pc := 92) 0 dX8_next_92 rfl rfl ?_
      refine g_getR (pc := 93) fl_X8_9 dX8_next_93 g5 ?_
      refine g_aload_n (pc := 96) 0 dX8_next_96 rfl rfl ?_
      refine g_getI (pc := 97) fl_X8_21 dX8_next_97 g5 ?_
      obtain ⟨b11, hf⟩ := gb_some hf
      refine g_cald (pc := 100) g7 b11 dX8_next_100 ?_
      obtain ⟨v12, hcv12, hf⟩ := bd_some hf
      refine g_cSI (pc := 101) (k2 := k_X8_isDigit) (av := [.int (hI h4 (hR h4 a0 0) (hI h4 a0 2).toNatClampNeg)]) (q := (v12, h4)) rfl dX8_next_101 ck_X8_isDigit m_742 m_743 (by decide) (by decide) rfl (by simp [rf_cat, rq_cat, ca_i, ca_l, ca_r]) (ct_X8_isDigit l X hcv12) ?_
      rcases it_some hf with ⟨c13, hf⟩ | ⟨c13, hf⟩
      · refine g_ifeq_t (pc := 104) (tgt := 114) dX8_next_104 (by decide) c13 ?_
        refine g_aload_n (pc := 114) 0 dX8_next_114 rfl rfl ?_
        refine g_aload_n (pc := 115) 0 dX8_next_115 rfl rfl ?_
        refine g_getR (pc := 116) fl_X8_9 dX8_next_116 g5 ?_
        refine g_aload_n (pc := 119) 0 dX8_next_119 rfl rfl ?_
        refine g_getI (pc := 120) fl_X8_21 dX8_next_120 g5 ?_
        obtain ⟨b14, hf⟩ := gb_some hf
        refine g_cald (pc := 123) g7 b14 dX8_next_123 ?_
        obtain ⟨v15, hcv15, hf⟩ := bd_some hf
        refine g_cSI (pc := 124) (k2 := k_X8_isSign) (av := [.int (hI h4 (hR h4 a0 0) (hI h4 a0 2).toNatClampNeg)]) (q := (v15, h4)) rfl dX8_next_124 ck_X8_isSign m_749 m_750 (by decide) (by decide) rfl (by simp [rf_cat, rq_cat, ca_i, ca_l, ca_r]) (ct_X8_isSign l X hcv15) ?_
        rcases it_some hf with ⟨c16, hf⟩ | ⟨c16, hf⟩
        · refine g_ifeq_t (pc := 127) (tgt := 142) dX8_next_127 (by decide) c16 ?_
          refine g_iconst (pc := 142) (v := (0 : Int32)) dX8_next_142 (by decide) ?_
          exact ok_X8_next_L143 l X h4 a0 a0 (0 : Int32) q hf
        · refine g_ifeq_f (pc := 127) (tgt := 142) dX8_next_127 (by decide) c16 ?_
          refine g_aload_n (pc := 130) 0 dX8_next_130 rfl rfl ?_
          refine g_getR (pc := 131) fl_X8_9 dX8_next_131 g5 ?_
          refine g_aload_n (pc := 134) 0 dX8_next_134 rfl rfl ?_
          refine g_getI (pc := 135) fl_X8_21 dX8_next_135 g5 ?_
          obtain ⟨b17, hf⟩ := gb_some hf
          refine g_cald (pc := 138) g7 b17 dX8_next_138 ?_
          refine g_goto (pc := 139) (tgt := 143) dX8_next_139 (by decide) ?_
          exact ok_X8_next_L143 l X h4 a0 a0 (hI h4 (hR h4 a0 0) (hI h4 a0 2).toNatClampNeg) q hf
      · refine g_ifeq_f (pc := 104) (tgt := 114) dX8_next_104 (by decide) c13 ?_
        refine g_aload_n (pc := 107) 0 dX8_next_107 rfl rfl ?_
        obtain ⟨q18, hcq18, hf⟩ := bd_some hf
        refine g_cVV (pc := 108) (k2 := k_X8_scanNumber) (av := []) (q := q18) rfl dX8_next_108 ck_X8_scanNumber m_745 m_747 m_21 (ci := 6) rfl (by decide) g5 (by decide) (by decide) rfl (by simp [rf_cat, rq_cat, ca_i, ca_l, ca_r]) (ct_X8_scanNumber l X hcq18) ?_
        refine g_goto (pc := 111) (tgt := 156) dX8_next_111 (by decide) ?_
        obtain rfl := Option.some.inj hf
        exact g_vret (pc := 156) rfl dX8_next_156
    · refine g_ifeq_f (pc := 82) (tgt := 92) dX8_next_82 (by decide) c10 ?_
      refine g_aload_n (pc := 85) 0 dX8_next_85 rfl rfl ?_
      obtain ⟨q19, hcq19, hf⟩ := bd_some hf
      refine g_cVV (pc := 86) (k2 := k_X8_scanName) (av := []) (q := q19) rfl dX8_next_86 ck_X8_scanName m_738 m_740 m_20 (ci := 6) rfl (by decide) g5 (by decide) (by decide) rfl (by simp [rf_cat, rq_cat, ca_i, ca_l, ca_r]) (ct_X8_scanName l X hcq19) ?_
      refine g_goto (pc := 89) (tgt := 156) dX8_next_89 (by decide) ?_
      obtain rfl := Option.some.inj hf
      exact g_vret (pc := 156) rfl dX8_next_156
  · refine g_iclt_f (pc := 59) (tgt := 70) dX8_next_59 (by decide) c6 ?_
    refine g_aload_n (pc := 62) 0 dX8_next_62 rfl rfl ?_
    refine g_iconst (pc := 63) (v := (1 : Int32)) dX8_next_63 (by decide) ?_
    obtain ⟨h20, eh20, hf⟩ := lt_some hf
    refine g_putI (pc := 64) fl_X8_34 dX8_next_64 g5 eh20 ?_
    refine g_goto (pc := 67) (tgt := 156) dX8_next_67 (by decide) ?_
    obtain rfl := Option.some.inj hf
    exact g_vret (pc := 156) rfl dX8_next_156
set_option maxRecDepth 100000 in
set_option maxHeartbeats 4000000 in
theorem ok_X8_next_L0 (l : Launch) (X : Cx) : ∀ (n : Nat) (h : AH) (a0 : Nat) (q : AH), f_X8_next_L0 n h a0 = some q → Go l X k_X8_next 0 [(0, rf X a0)] [] h (rV q) := by
  intro n
  induction n with
  | zero =>
    intro h a0 q hf
    unfold f_X8_next_L0 at hf
    cases hf
  | succ n ih =>
    intro h a0 q hf
    unfold f_X8_next_L0 at hf
    refine g_aload_n (pc := 0) 0 dX8_next_0 rfl rfl ?_
    obtain ⟨g1, hf⟩ := gs_some hf
    refine g_getI (pc := 1) fl_X8_21 dX8_next_1 g1 ?_
    refine g_aload_n (pc := 4) 0 dX8_next_4 rfl rfl ?_
    refine g_getI (pc := 5) fl_X8_15 dX8_next_5 g1 ?_
    rcases it_some hf with ⟨c2, hf⟩ | ⟨c2, hf⟩
    · refine g_icge_t (pc := 8) (tgt := 38) dX8_next_8 (by decide) c2 ?_
      exact ok_X8_next_L38 l X h a0 q hf
    · refine g_icge_f (pc := 8) (tgt := 38) dX8_next_8 (by decide) c2 ?_
      refine g_aload_n (pc := 11) 0 dX8_next_11 rfl rfl ?_
      refine g_getR (pc := 12) fl_X8_9 dX8_next_12 g1 ?_
      refine g_aload_n (pc := 15) 0 dX8_next_15 rfl rfl ?_
      refine g_getI (pc := 16) fl_X8_21 dX8_next_16 g1 ?_
      obtain ⟨g3, hf⟩ := gs_some hf
      obtain ⟨b4, hf⟩ := gb_some hf
      refine g_cald (pc := 19) g3 b4 dX8_next_19 ?_
      refine g_bipush (pc := 20) (v := (32 : Int32)) dX8_next_20 (by decide) ?_
      rcases it_some hf with ⟨c5, hf⟩ | ⟨c5, hf⟩
      · refine g_icne_t (pc := 22) (tgt := 38) dX8_next_22 (by decide) c5 ?_
        exact ok_X8_next_L38 l X h a0 q hf
      · refine g_icne_f (pc := 22) (tgt := 38) dX8_next_22 (by decide) (Decidable.of_not_not c5) ?_
        refine g_aload_n (pc := 25) 0 dX8_next_25 rfl rfl ?_
        refine g_dup (pc := 26) dX8_next_26 (rf_cat X _) ?_
        refine g_getI (pc := 27) fl_X8_21 dX8_next_27 g1 ?_
        refine g_iconst (pc := 30) (v := (1 : Int32)) dX8_next_30 (by decide) ?_
        refine g_iadd (pc := 31) dX8_next_31 ?_
        obtain ⟨h6, eh6, hf⟩ := lt_some hf
        refine g_putI (pc := 32) fl_X8_21 dX8_next_32 g1 eh6 ?_
        refine g_goto (pc := 35) (tgt := 0) dX8_next_35 (by decide) ?_
        exact ih h6 a0 q hf
set_option maxRecDepth 100000 in
set_option maxHeartbeats 4000000 in
theorem ok_X8_next (l : Launch) (X : Cx) {h : AH} {a0 : Nat} {q : AH} (hf : f_X8_next h a0 = some q) : Go l X k_X8_next 0 [(0, rf X a0)] [] h (rV q) := by
  unfold f_X8_next at hf
  exact ok_X8_next_L0 l X FU h a0 q hf
theorem ct_X8_next (l : Launch) (X : Cx) {h : AH} {a0 : Nat} {q : AH} (hf : f_X8_next h a0 = some q) : Ct l X k_X8_next [rf X a0] h (rV q) := ct_of ck_X8_next (by simp [lg_sl, rf_cat, rq_cat, ca_i, ca_l, ca_r]) (by simp [lv_args, rf_cat, rq_cat, ca_i, ca_l, ca_r]) (ok_X8_next l X hf)
set_option maxRecDepth 100000 in
set_option maxHeartbeats 4000000 in
theorem ok_X8_rewind (l : Launch) (X : Cx) {h : AH} {a0 : Nat} {q : AH} (hf : f_X8_rewind h a0 = some q) : Go l X k_X8_rewind 0 [(0, rf X a0)] [] h (rV q) := by
  unfold f_X8_rewind at hf
  refine g_aload_n (pc := 0) 0 dX8_rewind_0 rfl rfl ?_
  refine g_iconst (pc := 1) (v := (0 : Int32)) dX8_rewind_1 (by decide) ?_
  obtain ⟨g1, hf⟩ := gs_some hf
  obtain ⟨h2, eh2, hf⟩ := lt_some hf
  refine g_putI (pc := 2) fl_X8_21 dX8_rewind_2 g1 eh2 ?_
  refine g_aload_n (pc := 5) 0 dX8_rewind_5 rfl rfl ?_
  have g3 : hS h2 a0 = 7 := (hS_tI eh2 g1)
  obtain ⟨q4, hcq4, hf⟩ := bd_some hf
  refine g_cVV (pc := 6) (k2 := k_X8_next) (av := []) (q := q4) rfl dX8_rewind_6 ck_X8_next m_731 m_732 m_733 (ci := 6) rfl (by decide) g3 (by decide) (by decide) rfl (by simp [rf_cat, rq_cat, ca_i, ca_l, ca_r]) (ct_X8_next l X hcq4) ?_
  obtain rfl := Option.some.inj hf
  exact g_vret (pc := 9) rfl dX8_rewind_9
theorem ct_X8_rewind (l : Launch) (X : Cx) {h : AH} {a0 : Nat} {q : AH} (hf : f_X8_rewind h a0 = some q) : Ct l X k_X8_rewind [rf X a0] h (rV q) := ct_of ck_X8_rewind (by simp [lg_sl, rf_cat, rq_cat, ca_i, ca_l, ca_r]) (by simp [lv_args, rf_cat, rq_cat, ca_i, ca_l, ca_r]) (ok_X8_rewind l X hf)
set_option maxRecDepth 100000 in
set_option maxHeartbeats 4000000 in
theorem ok_X1_addLabel (l : Launch) (X : Cx) {h : AH} {a0 : Nat} {a1 : Int64} {a3 : Int32} {q : AH} (hf : f_X1_addLabel h a0 a1 a3 = some q) : Go l X k_X1_addLabel 0 [(0, rf X a0), (1, .long a1), (3, .int a3)] [] h (rV q) := by
  unfold f_X1_addLabel at hf
  refine g_aload_n (pc := 0) 0 dX1_addLabel_0 rfl rfl ?_
  obtain ⟨g1, hf⟩ := gs_some hf
  refine g_getI (pc := 1) fl_X1_54 dX1_addLabel_1 g1 ?_
  refine g_sipush (pc := 4) (v := (750 : Int32)) dX1_addLabel_4 (by decide) ?_
  rcases it_some hf with ⟨c2, hf⟩ | ⟨c2, hf⟩
  · refine g_icge_t (pc := 7) (tgt := 53) dX1_addLabel_7 (by decide) c2 ?_
    obtain rfl := Option.some.inj hf
    exact g_vret (pc := 53) rfl dX1_addLabel_53
  · refine g_icge_f (pc := 7) (tgt := 53) dX1_addLabel_7 (by decide) c2 ?_
    refine g_aload_n (pc := 10) 0 dX1_addLabel_10 rfl rfl ?_
    refine g_getR (pc := 11) fl_X1_34 dX1_addLabel_11 g1 ?_
    refine g_aload_n (pc := 14) 0 dX1_addLabel_14 rfl rfl ?_
    refine g_getI (pc := 15) fl_X1_54 dX1_addLabel_15 g1 ?_
    refine g_lload_n (pc := 18) 1 dX1_addLabel_18 rfl rfl ?_
    obtain ⟨g3, hf⟩ := gs_some hf
    obtain ⟨b4, hf⟩ := gb_some hf
    obtain ⟨h5, eh5, hf⟩ := lt_some hf
    refine g_last (pc := 19) g3 b4 dX1_addLabel_19 eh5 ?_
    refine g_aload_n (pc := 20) 0 dX1_addLabel_20 rfl rfl ?_
    have g6 : hS h5 a0 = 1 := (hS_tL eh5 g1)
    refine g_getR (pc := 21) fl_X1_37 dX1_addLabel_21 g6 ?_
    refine g_aload_n (pc := 24) 0 dX1_addLabel_24 rfl rfl ?_
    refine g_getI (pc := 25) fl_X1_54 dX1_addLabel_25 g6 ?_
    refine g_iload_n (pc := 28) 2 dX1_addLabel_28 rfl rfl ?_
    obtain ⟨g7, hf⟩ := gs_some hf
    obtain ⟨b8, hf⟩ := gb_some hf
    obtain ⟨h9, eh9, hf⟩ := lt_some hf
    refine g_iast (pc := 29) g7 b8 dX1_addLabel_29 eh9 ?_
    refine g_aload_n (pc := 30) 0 dX1_addLabel_30 rfl rfl ?_
    have g10 : hS h9 a0 = 1 := (hS_tI eh9 g6)
    refine g_getR (pc := 31) fl_X1_40 dX1_addLabel_31 g10 ?_
    refine g_aload_n (pc := 34) 0 dX1_addLabel_34 rfl rfl ?_
    refine g_getI (pc := 35) fl_X1_54 dX1_addLabel_35 g10 ?_
    refine g_aload_n (pc := 38) 0 dX1_addLabel_38 rfl rfl ?_
    refine g_getI (pc := 39) fl_X1_57 dX1_addLabel_39 g10 ?_
    obtain ⟨g11, hf⟩ := gs_some hf
    obtain ⟨b12, hf⟩ := gb_some hf
    obtain ⟨h13, eh13, hf⟩ := lt_some hf
    refine g_iast (pc := 42) g11 b12 dX1_addLabel_42 eh13 ?_
    refine g_aload_n (pc := 43) 0 dX1_addLabel_43 rfl rfl ?_
    refine g_dup (pc := 44) dX1_addLabel_44 (rf_cat X _) ?_
    have g14 : hS h13 a0 = 1 := (hS_tI eh13 g10)
    refine g_getI (pc := 45) fl_X1_54 dX1_addLabel_45 g14 ?_
    refine g_iconst (pc := 48) (v := (1 : Int32)) dX1_addLabel_48 (by decide) ?_
    refine g_iadd (pc := 49) dX1_addLabel_49 ?_
    obtain ⟨h15, eh15, hf⟩ := lt_some hf
    refine g_putI (pc := 50) fl_X1_54 dX1_addLabel_50 g14 eh15 ?_
    obtain rfl := Option.some.inj hf
    exact g_vret (pc := 53) rfl dX1_addLabel_53
theorem ct_X1_addLabel (l : Launch) (X : Cx) {h : AH} {a0 : Nat} {a1 : Int64} {a3 : Int32} {q : AH} (hf : f_X1_addLabel h a0 a1 a3 = some q) : Ct l X k_X1_addLabel [rf X a0, .long a1, .int a3] h (rV q) := ct_of ck_X1_addLabel (by simp [lg_sl, rf_cat, rq_cat, ca_i, ca_l, ca_r]) (by simp [lv_args, rf_cat, rq_cat, ca_i, ca_l, ca_r]) (ok_X1_addLabel l X hf)
set_option maxRecDepth 100000 in
set_option maxHeartbeats 4000000 in
theorem ok_X1_refuse (l : Launch) (X : Cx) {h : AH} {a0 : Nat} {a1 : Int32} {q : Int32 × AH} (hf : f_X1_refuse h a0 a1 = some q) : Go l X k_X1_refuse 0 [(0, rf X a0), (1, .int a1)] [] h (rI q) := by
  unfold f_X1_refuse at hf
  refine g_aload_n (pc := 0) 0 dX1_refuse_0 rfl rfl ?_
  refine g_iconst (pc := 1) (v := (1 : Int32)) dX1_refuse_1 (by decide) ?_
  obtain ⟨g1, hf⟩ := gs_some hf
  obtain ⟨h2, eh2, hf⟩ := lt_some hf
  refine g_putI (pc := 2) fl_X1_63 dX1_refuse_2 g1 eh2 ?_
  refine g_aload_n (pc := 5) 0 dX1_refuse_5 rfl rfl ?_
  refine g_iload_n (pc := 6) 1 dX1_refuse_6 rfl rfl ?_
  have g3 : hS h2 a0 = 1 := (hS_tI eh2 g1)
  obtain ⟨h4, eh4, hf⟩ := lt_some hf
  refine g_putI (pc := 7) fl_X1_66 dX1_refuse_7 g3 eh4 ?_
  refine g_iconst (pc := 10) (v := (0 : Int32)) dX1_refuse_10 (by decide) ?_
  obtain rfl := Option.some.inj hf
  exact g_zret (pc := 11) rfl rfl dX1_refuse_11
theorem ct_X1_refuse (l : Launch) (X : Cx) {h : AH} {a0 : Nat} {a1 : Int32} {q : Int32 × AH} (hf : f_X1_refuse h a0 a1 = some q) : Ct l X k_X1_refuse [rf X a0, .int a1] h (rI q) := ct_of ck_X1_refuse (by simp [lg_sl, rf_cat, rq_cat, ca_i, ca_l, ca_r]) (by simp [lv_args, rf_cat, rq_cat, ca_i, ca_l, ca_r]) (ok_X1_refuse l X hf)
set_option maxRecDepth 100000 in
set_option maxHeartbeats 4000000 in
theorem ok_X1_findWord_L2 (l : Launch) (X : Cx) (h : AH) : ∀ (n : Nat) (a0 : Int64) (a2 : Int32) (q : Int32), f_X1_findWord_L2 h n a0 a2 = some q → Go l X k_X1_findWord 2 [(0, .long a0), (2, .int a2)] [] h (rI (q, h)) := by
  intro n
  induction n with
  | zero =>
    intro a0 a2 q hf
    unfold f_X1_findWord_L2 at hf
    cases hf
  | succ n ih =>
    intro a0 a2 q hf
    unfold f_X1_findWord_L2 at hf
    refine g_iload_n (pc := 2) 1 dX1_findWord_2 rfl rfl ?_
    refine g_sMNN (pc := 3) 1 rfl dX1_findWord_3 ?_
    refine g_lMN (pc := 6) dX1_findWord_6 ?_
    rcases it_some hf with ⟨c1, hf⟩ | ⟨c1, hf⟩
    · refine g_icge_t (pc := 7) (tgt := 31) dX1_findWord_7 (by decide) c1 ?_
      refine g_iconst (pc := 31) (v := (-1 : Int32)) dX1_findWord_31 (by decide) ?_
      obtain rfl := Option.some.inj hf
      exact g_iret (pc := 32) rfl dX1_findWord_32
    · refine g_icge_f (pc := 7) (tgt := 31) dX1_findWord_7 (by decide) c1 ?_
      refine g_sMNN (pc := 10) 1 rfl dX1_findWord_10 ?_
      refine g_iload_n (pc := 13) 1 dX1_findWord_13 rfl rfl ?_
      obtain ⟨b2, hf⟩ := gb_some hf
      refine g_tMN (pc := 14) b2 dX1_findWord_14 ?_
      obtain ⟨b3, hf⟩ := gb_some hf
      refine g_mKey (pc := 15) m_2047 b3 dX1_findWord_15 ?_
      refine g_lload_n (pc := 18) 0 dX1_findWord_18 rfl rfl ?_
      refine g_lcmp (pc := 19) dX1_findWord_19 ?_
      rcases it_some hf with ⟨c4, hf⟩ | ⟨c4, hf⟩
      · refine g_ifne_t (pc := 20) (tgt := 25) dX1_findWord_20 (by decide) c4 ?_
        obtain ⟨x5, ex5, hf⟩ := lt_some hf
        refine g_iinc (pc := 25) (y := x5) (L' := [(2, .int x5), (0, .long a0)]) 1 dX1_findWord_25 rfl (by decide) (ex5.trans rfl) rfl ?_
        refine g_goto (pc := 28) (tgt := 2) dX1_findWord_28 (by decide) ?_
        refine g_sub [1, 0] rfl ?_
        exact ih a0 x5 q hf
      · refine g_ifne_f (pc := 20) (tgt := 25) dX1_findWord_20 (by decide) (Decidable.of_not_not c4) ?_
        refine g_iload_n (pc := 23) 1 dX1_findWord_23 rfl rfl ?_
        obtain rfl := Option.some.inj hf
        exact g_iret (pc := 24) rfl dX1_findWord_24
set_option maxRecDepth 100000 in
set_option maxHeartbeats 4000000 in
theorem ok_X1_findWord (l : Launch) (X : Cx) {h : AH} {a0 : Int64} {q : Int32} (hf : f_X1_findWord h a0 = some q) : Go l X k_X1_findWord 0 [(0, .long a0)] [] h (rI (q, h)) := by
  unfold f_X1_findWord at hf
  refine g_iconst (pc := 0) (v := (0 : Int32)) dX1_findWord_0 (by decide) ?_
  obtain ⟨x1, ex1, hf⟩ := lt_some hf
  refine g_istore_n (pc := 1) (L' := [(2, .int x1), (0, .long a0)]) dX1_findWord_1 rfl (by decide) ex1 rfl ?_
  refine g_sub [1, 0] rfl ?_
  exact ok_X1_findWord_L2 l X h FU a0 x1 q hf
theorem ct_X1_findWord (l : Launch) (X : Cx) {h : AH} {a0 : Int64} {q : Int32} (hf : f_X1_findWord h a0 = some q) : Ct l X k_X1_findWord [.long a0] h (rI (q, h)) := ct_of ck_X1_findWord (by simp [lg_sl, rf_cat, rq_cat, ca_i, ca_l, ca_r]) (by simp [lv_args, rf_cat, rq_cat, ca_i, ca_l, ca_r]) (ok_X1_findWord l X hf)
set_option maxRecDepth 100000 in
set_option maxHeartbeats 4000000 in
theorem ok_J0_coder_7d493 (l : Launch) (X : Cx) {h : AH} {a0 : Nat} {q : Int32} (hf : f_J0_coder_7d493 h a0 = some q) : Go l X k_J0_coder_7d493 0 [(0, .ref (xA X (1000 + a0)))] [] h (rI (q, h)) := by
  unfold f_J0_coder_7d493 at hf
  refine g_sCS (pc := 0) m_782 dJ0_coder_7d493_0 ?_
  rcases it_some hf with ⟨c1, hf⟩ | ⟨c1, hf⟩
  · refine g_ifeq_t (pc := 3) (tgt := 13) dJ0_coder_7d493_3 (by decide) c1 ?_
    refine g_iconst (pc := 13) (v := (1 : Int32)) dJ0_coder_7d493_13 (by decide) ?_
    obtain ⟨b2, hf⟩ := gb_some hf
    obtain rfl := Option.some.inj hf
    exact g_bret (pc := 14) rfl b2 dJ0_coder_7d493_14
  · refine g_ifeq_f (pc := 3) (tgt := 13) dJ0_coder_7d493_3 (by decide) c1 ?_
    refine g_aload_nC (pc := 6) 0 dJ0_coder_7d493_6 rfl rfl ?_
    obtain ⟨b3, hf⟩ := gb_some hf
    refine g_sCod (pc := 7) m_2051 b3 dJ0_coder_7d493_7 ?_
    refine g_goto (pc := 10) (tgt := 14) dJ0_coder_7d493_10 (by decide) ?_
    obtain ⟨b4, hf⟩ := gb_some hf
    obtain rfl := Option.some.inj hf
    exact g_bret (pc := 14) rfl b4 dJ0_coder_7d493_14
theorem ct_J0_coder_7d493 (l : Launch) (X : Cx) {h : AH} {a0 : Nat} {q : Int32} (hf : f_J0_coder_7d493 h a0 = some q) : Ct l X k_J0_coder_7d493 [.ref (xA X (1000 + a0))] h (rI (q, h)) := ct_of ck_J0_coder_7d493 (by simp [lg_sl, rf_cat, rq_cat, ca_i, ca_l, ca_r]) (by simp [lv_args, rf_cat, rq_cat, ca_i, ca_l, ca_r]) (ok_J0_coder_7d493 l X hf)
set_option maxRecDepth 100000 in
set_option maxHeartbeats 4000000 in
theorem ok_J0_length_8abf5 (l : Launch) (X : Cx) {h : AH} {a0 : Nat} {q : Int32} (hf : f_J0_length_8abf5 h a0 = some q) : Go l X k_J0_length_8abf5 0 [(0, .ref (xA X (1000 + a0)))] [] h (rI (q, h)) := by
  unfold f_J0_length_8abf5 at hf
  refine g_aload_nC (pc := 0) 0 dJ0_length_8abf5_0 rfl rfl ?_
  obtain ⟨b1, hf⟩ := gb_some hf
  refine g_sVal (pc := 1) m_2050 b1 dJ0_length_8abf5_1 ?_
  obtain ⟨b2, hf⟩ := gb_some hf
  refine g_vLen (pc := 4) b2 dJ0_length_8abf5_4 ?_
  refine g_aload_nC (pc := 5) 0 dJ0_length_8abf5_5 rfl rfl ?_
  obtain ⟨b3, hf⟩ := gb_some hf
  obtain ⟨v4, hcv4, hf⟩ := bd_some hf
  refine g_sVI (pc := 6) (k2 := k_J0_coder_7d493) (av := []) (q := (v4, h)) rfl dJ0_length_8abf5_6 ck_J0_coder_7d493 m_778 m_779 m_780 rfl b3 (by decide) (by decide) rfl (by simp [rf_cat, rq_cat, ca_i, ca_l, ca_r]) (ct_J0_coder_7d493 l X hcv4) ?_
  refine g_ishr (pc := 9) dJ0_length_8abf5_9 ?_
  obtain rfl := Option.some.inj hf
  exact g_iret (pc := 10) rfl dJ0_length_8abf5_10
theorem ct_J0_length_8abf5 (l : Launch) (X : Cx) {h : AH} {a0 : Nat} {q : Int32} (hf : f_J0_length_8abf5 h a0 = some q) : Ct l X k_J0_length_8abf5 [.ref (xA X (1000 + a0))] h (rI (q, h)) := ct_of ck_J0_length_8abf5 (by simp [lg_sl, rf_cat, rq_cat, ca_i, ca_l, ca_r]) (by simp [lv_args, rf_cat, rq_cat, ca_i, ca_l, ca_r]) (ok_J0_length_8abf5 l X hf)
set_option maxRecDepth 100000 in
set_option maxHeartbeats 4000000 in
theorem ok_J0_isLatin1_aae02 (l : Launch) (X : Cx) {h : AH} {a0 : Nat} {q : Int32} (hf : f_J0_isLatin1_aae02 h a0 = some q) : Go l X k_J0_isLatin1_aae02 0 [(0, .ref (xA X (1000 + a0)))] [] h (rI (q, h)) := by
  unfold f_J0_isLatin1_aae02 at hf
  refine g_sCS (pc := 0) m_782 dJ0_isLatin1_aae02_0 ?_
  rcases it_some hf with ⟨c1, hf⟩ | ⟨c1, hf⟩
  · refine g_ifeq_t (pc := 3) (tgt := 17) dJ0_isLatin1_aae02_3 (by decide) c1 ?_
    refine g_iconst (pc := 17) (v := (0 : Int32)) dJ0_isLatin1_aae02_17 (by decide) ?_
    obtain rfl := Option.some.inj hf
    exact g_zret (pc := 18) rfl rfl dJ0_isLatin1_aae02_18
  · refine g_ifeq_f (pc := 3) (tgt := 17) dJ0_isLatin1_aae02_3 (by decide) c1 ?_
    refine g_aload_nC (pc := 6) 0 dJ0_isLatin1_aae02_6 rfl rfl ?_
    obtain ⟨b2, hf⟩ := gb_some hf
    refine g_sCod (pc := 7) m_2051 b2 dJ0_isLatin1_aae02_7 ?_
    rcases it_some hf with ⟨c3, hf⟩ | ⟨c3, hf⟩
    · refine g_ifne_t (pc := 10) (tgt := 17) dJ0_isLatin1_aae02_10 (by decide) c3 ?_
      refine g_iconst (pc := 17) (v := (0 : Int32)) dJ0_isLatin1_aae02_17 (by decide) ?_
      obtain rfl := Option.some.inj hf
      exact g_zret (pc := 18) rfl rfl dJ0_isLatin1_aae02_18
    · refine g_ifne_f (pc := 10) (tgt := 17) dJ0_isLatin1_aae02_10 (by decide) (Decidable.of_not_not c3) ?_
      refine g_iconst (pc := 13) (v := (1 : Int32)) dJ0_isLatin1_aae02_13 (by decide) ?_
      refine g_goto (pc := 14) (tgt := 18) dJ0_isLatin1_aae02_14 (by decide) ?_
      obtain rfl := Option.some.inj hf
      exact g_zret (pc := 18) rfl rfl dJ0_isLatin1_aae02_18
theorem ct_J0_isLatin1_aae02 (l : Launch) (X : Cx) {h : AH} {a0 : Nat} {q : Int32} (hf : f_J0_isLatin1_aae02 h a0 = some q) : Ct l X k_J0_isLatin1_aae02 [.ref (xA X (1000 + a0))] h (rI (q, h)) := ct_of ck_J0_isLatin1_aae02 (by simp [lg_sl, rf_cat, rq_cat, ca_i, ca_l, ca_r]) (by simp [lv_args, rf_cat, rq_cat, ca_i, ca_l, ca_r]) (ok_J0_isLatin1_aae02 l X hf)
set_option maxRecDepth 100000 in
set_option maxHeartbeats 4000000 in
theorem ok_J3_checkIndex_8e157_L9 (l : Launch) (X : Cx) (h : AH) (a0 : Int32) (a1 : Int32) (q : Int32) (hf : f_J3_checkIndex_8e157_L9 h a0 a1 = some q) : Go l X k_J3_checkIndex_8e157 9 [(0, .int a0), (1, .int a1), (2, rq X)] [] h (rI (q, h)) := by
  unfold f_J3_checkIndex_8e157_L9 at hf
  cases hf
set_option maxRecDepth 100000 in
set_option maxHeartbeats 4000000 in
theorem ok_J3_checkIndex_8e157 (l : Launch) (X : Cx) {h : AH} {a0 : Int32} {a1 : Int32} {q : Int32} (hf : f_J3_checkIndex_8e157 h a0 a1 = some q) : Go l X k_J3_checkIndex_8e157 0 [(0, .int a0), (1, .int a1), (2, rq X)] [] h (rI (q, h)) := by
  unfold f_J3_checkIndex_8e157 at hf
  refine g_iload_n (pc := 0) 0 dJ3_checkIndex_8e157_0 rfl rfl ?_
  rcases it_some hf with ⟨c1, hf⟩ | ⟨c1, hf⟩
  · refine g_iflt_t (pc := 1) (tgt := 9) dJ3_checkIndex_8e157_1 (by decide) c1 ?_
    exact ok_J3_checkIndex_8e157_L9 l X h a0 a1 q hf
  · refine g_iflt_f (pc := 1) (tgt := 9) dJ3_checkIndex_8e157_1 (by decide) c1 ?_
    refine g_iload_n (pc := 4) 0 dJ3_checkIndex_8e157_4 rfl rfl ?_
    refine g_iload_n (pc := 5) 1 dJ3_checkIndex_8e157_5 rfl rfl ?_
    rcases it_some hf with ⟨c2, hf⟩ | ⟨c2, hf⟩
    · refine g_iclt_t (pc := 6) (tgt := 16) dJ3_checkIndex_8e157_6 (by decide) c2 ?_
      refine g_iload_n (pc := 16) 0 dJ3_checkIndex_8e157_16 rfl rfl ?_
      obtain rfl := Option.some.inj hf
      exact g_iret (pc := 17) rfl dJ3_checkIndex_8e157_17
    · refine g_iclt_f (pc := 6) (tgt := 16) dJ3_checkIndex_8e157_6 (by decide) c2 ?_
      exact ok_J3_checkIndex_8e157_L9 l X h a0 a1 q hf
theorem ct_J3_checkIndex_8e157 (l : Launch) (X : Cx) {h : AH} {a0 : Int32} {a1 : Int32} {q : Int32} (hf : f_J3_checkIndex_8e157 h a0 a1 = some q) : Ct l X k_J3_checkIndex_8e157 [.int a0, .int a1, rq X] h (rI (q, h)) := ct_of ck_J3_checkIndex_8e157 (by simp [lg_sl, rf_cat, rq_cat, ca_i, ca_l, ca_r]) (by simp [lv_args, rf_cat, rq_cat, ca_i, ca_l, ca_r]) (ok_J3_checkIndex_8e157 l X hf)
set_option maxRecDepth 100000 in
set_option maxHeartbeats 4000000 in
theorem ok_J0_checkIndex_df160 (l : Launch) (X : Cx) {h : AH} {a0 : Int32} {a1 : Int32} {q : AH} (hf : f_J0_checkIndex_df160 h a0 a1 = some q) : Go l X k_J0_checkIndex_df160 0 [(0, .int a0), (1, .int a1)] [] h (rV q) := by
  unfold f_J0_checkIndex_df160 at hf
  refine g_iload_n (pc := 0) 0 dJ0_checkIndex_df160_0 rfl rfl ?_
  refine g_iload_n (pc := 1) 1 dJ0_checkIndex_df160_1 rfl rfl ?_
  refine g_sFM (pc := 2) m_798 dJ0_checkIndex_df160_2 ?_
  obtain ⟨v1, hcv1, hf⟩ := bd_some hf
  refine g_cSI (pc := 5) (k2 := k_J3_checkIndex_8e157) (av := [.int a0, .int a1, rq X]) (q := (v1, h)) rfl dJ0_checkIndex_df160_5 ck_J3_checkIndex_8e157 m_800 m_801 (by decide) (by decide) rfl (by simp [rf_cat, rq_cat, ca_i, ca_l, ca_r]) (ct_J3_checkIndex_8e157 l X hcv1) ?_
  refine g_pop (pc := 8) dJ0_checkIndex_df160_8 rfl ?_
  obtain rfl := Option.some.inj hf
  exact g_vret (pc := 9) rfl dJ0_checkIndex_df160_9
theorem ct_J0_checkIndex_df160 (l : Launch) (X : Cx) {h : AH} {a0 : Int32} {a1 : Int32} {q : AH} (hf : f_J0_checkIndex_df160 h a0 a1 = some q) : Ct l X k_J0_checkIndex_df160 [.int a0, .int a1] h (rV q) := ct_of ck_J0_checkIndex_df160 (by simp [lg_sl, rf_cat, rq_cat, ca_i, ca_l, ca_r]) (by simp [lv_args, rf_cat, rq_cat, ca_i, ca_l, ca_r]) (ok_J0_checkIndex_df160 l X hf)
set_option maxRecDepth 100000 in
set_option maxHeartbeats 4000000 in
theorem ok_J1_charAt_3b067 (l : Launch) (X : Cx) {h : AH} {a0 : Nat} {a1 : Int32} {q : Int32 × AH} (hf : f_J1_charAt_3b067 h a0 a1 = some q) : Go l X k_J1_charAt_3b067 0 [(0, .ref (xA X (2000 + a0))), (1, .int a1)] [] h (rI q) := by
  unfold f_J1_charAt_3b067 at hf
  refine g_iload_n (pc := 0) 1 dJ1_charAt_3b067_0 rfl rfl ?_
  refine g_aload_nC (pc := 1) 0 dJ1_charAt_3b067_1 rfl rfl ?_
  obtain ⟨b1, hf⟩ := gb_some hf
  refine g_vLen (pc := 2) b1 dJ1_charAt_3b067_2 ?_
  obtain ⟨q2, hcq2, hf⟩ := bd_some hf
  refine g_cSV (pc := 3) (k2 := k_J0_checkIndex_df160) (av := [.int a1, .int (nI (sLen.getD (a0 - 1) 0))]) (q := q2) rfl dJ1_charAt_3b067_3 ck_J0_checkIndex_df160 m_795 m_796 (by decide) (by decide) rfl (by simp [rf_cat, rq_cat, ca_i, ca_l, ca_r]) (ct_J0_checkIndex_df160 l X hcq2) ?_
  refine g_aload_nC (pc := 6) 0 dJ1_charAt_3b067_6 rfl rfl ?_
  refine g_iload_n (pc := 7) 1 dJ1_charAt_3b067_7 rfl rfl ?_
  obtain ⟨b3, hf⟩ := gb_some hf
  obtain ⟨b4, hf⟩ := gb_some hf
  refine g_vAld (pc := 8) b3 b4 dJ1_charAt_3b067_8 ?_
  refine g_sipush (pc := 9) (v := (255 : Int32)) dJ1_charAt_3b067_9 (by decide) ?_
  refine g_iand (pc := 12) dJ1_charAt_3b067_12 ?_
  refine g_i2c (pc := 13) dJ1_charAt_3b067_13 ?_
  obtain ⟨b5, hf⟩ := gb_some hf
  obtain rfl := Option.some.inj hf
  exact g_cret (pc := 14) rfl b5 dJ1_charAt_3b067_14
theorem ct_J1_charAt_3b067 (l : Launch) (X : Cx) {h : AH} {a0 : Nat} {a1 : Int32} {q : Int32 × AH} (hf : f_J1_charAt_3b067 h a0 a1 = some q) : Ct l X k_J1_charAt_3b067 [.ref (xA X (2000 + a0)), .int a1] h (rI q) := ct_of ck_J1_charAt_3b067 (by simp [lg_sl, rf_cat, rq_cat, ca_i, ca_l, ca_r]) (by simp [lv_args, rf_cat, rq_cat, ca_i, ca_l, ca_r]) (ok_J1_charAt_3b067 l X hf)
set_option maxRecDepth 100000 in
set_option maxHeartbeats 4000000 in
theorem ok_J0_charAt_5068e (l : Launch) (X : Cx) {h : AH} {a0 : Nat} {a1 : Int32} {q : Int32 × AH} (hf : f_J0_charAt_5068e h a0 a1 = some q) : Go l X k_J0_charAt_5068e 0 [(0, .ref (xA X (1000 + a0))), (1, .int a1)] [] h (rI q) := by
  unfold f_J0_charAt_5068e at hf
  refine g_aload_nC (pc := 0) 0 dJ0_charAt_5068e_0 rfl rfl ?_
  obtain ⟨b1, hf⟩ := gb_some hf
  obtain ⟨v2, hcv2, hf⟩ := bd_some hf
  refine g_sVI (pc := 1) (k2 := k_J0_isLatin1_aae02) (av := []) (q := (v2, h)) rfl dJ0_charAt_5068e_1 ck_J0_isLatin1_aae02 m_788 m_789 m_790 rfl b1 (by decide) (by decide) rfl (by simp [rf_cat, rq_cat, ca_i, ca_l, ca_r]) (ct_J0_isLatin1_aae02 l X hcv2) ?_
  rcases it_some hf with ⟨c3, hf⟩ | ⟨c3, hf⟩
  · refine g_ifeq_t (pc := 4) (tgt := 16) dJ0_charAt_5068e_4 (by decide) c3 ?_
    refine g_aload_nC (pc := 16) 0 dJ0_charAt_5068e_16 rfl rfl ?_
    obtain ⟨b4, hf⟩ := gb_some hf
    refine g_sVal (pc := 17) m_2050 b4 dJ0_charAt_5068e_17 ?_
    refine g_iload_n (pc := 20) 1 dJ0_charAt_5068e_20 rfl rfl ?_
    cases hf
  · refine g_ifeq_f (pc := 4) (tgt := 16) dJ0_charAt_5068e_4 (by decide) c3 ?_
    refine g_aload_nC (pc := 7) 0 dJ0_charAt_5068e_7 rfl rfl ?_
    obtain ⟨b5, hf⟩ := gb_some hf
    refine g_sVal (pc := 8) m_2050 b5 dJ0_charAt_5068e_8 ?_
    refine g_iload_n (pc := 11) 1 dJ0_charAt_5068e_11 rfl rfl ?_
    obtain ⟨q6, hcq6, hf⟩ := bd_some hf
    refine g_cSI (pc := 12) (k2 := k_J1_charAt_3b067) (av := [.ref (xA X (2000 + a0)), .int a1]) (q := q6) rfl dJ0_charAt_5068e_12 ck_J1_charAt_3b067 m_792 m_793 (by decide) (by decide) rfl (by simp [rf_cat, rq_cat, ca_i, ca_l, ca_r]) (ct_J1_charAt_3b067 l X hcq6) ?_
    obtain ⟨b7, hf⟩ := gb_some hf
    obtain rfl := Option.some.inj hf
    exact g_cret (pc := 15) rfl b7 dJ0_charAt_5068e_15
theorem ct_J0_charAt_5068e (l : Launch) (X : Cx) {h : AH} {a0 : Nat} {a1 : Int32} {q : Int32 × AH} (hf : f_J0_charAt_5068e h a0 a1 = some q) : Ct l X k_J0_charAt_5068e [.ref (xA X (1000 + a0)), .int a1] h (rI q) := ct_of ck_J0_charAt_5068e (by simp [lg_sl, rf_cat, rq_cat, ca_i, ca_l, ca_r]) (by simp [lv_args, rf_cat, rq_cat, ca_i, ca_l, ca_r]) (ok_J0_charAt_5068e l X hf)
