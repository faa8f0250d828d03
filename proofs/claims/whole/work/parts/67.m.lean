set_option maxRecDepth 100000 in
set_option maxHeartbeats 4000000 in
theorem ok_X11_init_L1529 (l : Launch) (X : Cx) : ∀ (n : Nat) (h : AH) (a0 : Nat) (a1 : Int32) (q : AH), f_X11_init_L1529 n h a0 a1 = some q → Go l X k_X11_init 1529 [(0, rf X a0), (1, .int a1)] [] h (rV q) := by
  intro n
  induction n with
  | zero =>
    intro h a0 a1 q hf
    unfold f_X11_init_L1529 at hf
    cases hf
  | succ n ih =>
    intro h a0 a1 q hf
    unfold f_X11_init_L1529 at hf
    refine g_iload_n (pc := 1529) 1 dX11_init_1529 rfl rfl ?_
    refine g_bipush (pc := 1530) (v := (6 : Int32)) dX11_init_1530 (by decide) ?_
    rcases it_some hf with ⟨c1, hf⟩ | ⟨c1, hf⟩
    · refine g_icge_t (pc := 1532) (tgt := 1548) dX11_init_1532 (by decide) c1 ?_
      refine g_aload_n (pc := 1548) 0 dX11_init_1548 rfl rfl ?_
      obtain ⟨g2, hf⟩ := gs_some hf
      obtain ⟨q3, hcq3, hf⟩ := bd_some hf
      refine g_cVV (pc := 1549) (k2 := k_X11_clear) (av := []) (q := q3) rfl dX11_init_1549 ck_X11_clear m_1390 m_1392 m_56 (ci := 9) rfl (by decide) g2 (by decide) (by decide) rfl (by simp [rf_cat, rq_cat, ca_i, ca_l, ca_r]) (ct_X11_clear l X hcq3) ?_
      obtain rfl := Option.some.inj hf
      exact g_vret (pc := 1552) rfl dX11_init_1552
    · refine g_icge_f (pc := 1532) (tgt := 1548) dX11_init_1532 (by decide) c1 ?_
      refine g_aload_n (pc := 1535) 0 dX11_init_1535 rfl rfl ?_
      obtain ⟨g4, hf⟩ := gs_some hf
      refine g_getR (pc := 1536) fl_X11_50 dX11_init_1536 g4 ?_
      refine g_iload_n (pc := 1539) 1 dX11_init_1539 rfl rfl ?_
      refine g_iconst (pc := 1540) (v := (1 : Int32)) dX11_init_1540 (by decide) ?_
      obtain ⟨g5, hf⟩ := gs_some hf
      obtain ⟨b6, hf⟩ := gb_some hf
      obtain ⟨h7, eh7, hf⟩ := lt_some hf
      refine g_iast (pc := 1541) g5 b6 dX11_init_1541 eh7 ?_
      obtain ⟨x8, ex8, hf⟩ := lt_some hf
      refine g_iinc (pc := 1542) (y := x8) (L' := [(1, .int x8), (0, rf X a0)]) 1 dX11_init_1542 rfl (by decide) (ex8.trans rfl) (by simp [rf_cat, rq_cat]) ?_
      refine g_goto (pc := 1545) (tgt := 1529) dX11_init_1545 (by decide) ?_
      refine g_sub [1, 0] rfl ?_
      exact ih h7 a0 x8 q hf
set_option maxRecDepth 100000 in
set_option maxHeartbeats 4000000 in
theorem ok_X11_init_L1470 (l : Launch) (X : Cx) (h : AH) (a0 : Nat) (s0 : Nat) (s1 : Nat) (q : AH) (hf : f_X11_init_L1470 h a0 s0 s1 = some q) : Go l X k_X11_init 1470 [(0, rf X a0)] [rf X s1, rf X s0] h (rV q) := by
  unfold f_X11_init_L1470 at hf
  refine g_dup (pc := 1470) dX11_init_1470 (rf_cat X _) ?_
  refine g_bipush (pc := 1471) (v := (53 : Int32)) dX11_init_1471 (by decide) ?_
  refine g_bipush (pc := 1473) (v := (111 : Int32)) dX11_init_1473 (by decide) ?_
  obtain ⟨g1, hf⟩ := gs_some hf
  obtain ⟨b2, hf⟩ := gb_some hf
  obtain ⟨h3, eh3, hf⟩ := lt_some hf
  refine g_iast (pc := 1475) g1 b2 dX11_init_1475 eh3 ?_
  refine g_dup (pc := 1476) dX11_init_1476 (rf_cat X _) ?_
  refine g_bipush (pc := 1477) (v := (54 : Int32)) dX11_init_1477 (by decide) ?_
  refine g_ldcw (pc := 1479) (v := (32871 : Int32)) m_1389 dX11_init_1479 ?_
  have g4 : hS h3 s1 = 21 := (hS_tI eh3 g1)
  obtain ⟨b5, hf⟩ := gb_some hf
  obtain ⟨h6, eh6, hf⟩ := lt_some hf
  refine g_iast (pc := 1482) g4 b5 dX11_init_1482 eh6 ?_
  refine g_dup (pc := 1483) dX11_init_1483 (rf_cat X _) ?_
  refine g_bipush (pc := 1484) (v := (55 : Int32)) dX11_init_1484 (by decide) ?_
  refine g_bipush (pc := 1486) (v := (99 : Int32)) dX11_init_1486 (by decide) ?_
  have g7 : hS h6 s1 = 21 := (hS_tI eh6 g4)
  obtain ⟨b8, hf⟩ := gb_some hf
  obtain ⟨h9, eh9, hf⟩ := lt_some hf
  refine g_iast (pc := 1488) g7 b8 dX11_init_1488 eh9 ?_
  refine g_dup (pc := 1489) dX11_init_1489 (rf_cat X _) ?_
  refine g_bipush (pc := 1490) (v := (56 : Int32)) dX11_init_1490 (by decide) ?_
  refine g_sipush (pc := 1492) (v := (4195 : Int32)) dX11_init_1492 (by decide) ?_
  have g10 : hS h9 s1 = 21 := (hS_tI eh9 g7)
  obtain ⟨b11, hf⟩ := gb_some hf
  obtain ⟨h12, eh12, hf⟩ := lt_some hf
  refine g_iast (pc := 1495) g10 b11 dX11_init_1495 eh12 ?_
  refine g_dup (pc := 1496) dX11_init_1496 (rf_cat X _) ?_
  refine g_bipush (pc := 1497) (v := (57 : Int32)) dX11_init_1497 (by decide) ?_
  refine g_iconst (pc := 1499) (v := (0 : Int32)) dX11_init_1499 (by decide) ?_
  have g13 : hS h12 s1 = 21 := (hS_tI eh12 g10)
  obtain ⟨b14, hf⟩ := gb_some hf
  obtain ⟨h15, eh15, hf⟩ := lt_some hf
  refine g_iast (pc := 1500) g13 b14 dX11_init_1500 eh15 ?_
  refine g_dup (pc := 1501) dX11_init_1501 (rf_cat X _) ?_
  refine g_bipush (pc := 1502) (v := (58 : Int32)) dX11_init_1502 (by decide) ?_
  refine g_iconst (pc := 1504) (v := (0 : Int32)) dX11_init_1504 (by decide) ?_
  have g16 : hS h15 s1 = 21 := (hS_tI eh15 g13)
  obtain ⟨b17, hf⟩ := gb_some hf
  obtain ⟨h18, eh18, hf⟩ := lt_some hf
  refine g_iast (pc := 1505) g16 b17 dX11_init_1505 eh18 ?_
  refine g_dup (pc := 1506) dX11_init_1506 (rf_cat X _) ?_
  refine g_bipush (pc := 1507) (v := (59 : Int32)) dX11_init_1507 (by decide) ?_
  refine g_iconst (pc := 1509) (v := (0 : Int32)) dX11_init_1509 (by decide) ?_
  have g19 : hS h18 s1 = 21 := (hS_tI eh18 g16)
  obtain ⟨b20, hf⟩ := gb_some hf
  obtain ⟨h21, eh21, hf⟩ := lt_some hf
  refine g_iast (pc := 1510) g19 b20 dX11_init_1510 eh21 ?_
  refine g_dup (pc := 1511) dX11_init_1511 (rf_cat X _) ?_
  refine g_bipush (pc := 1512) (v := (60 : Int32)) dX11_init_1512 (by decide) ?_
  refine g_iconst (pc := 1514) (v := (0 : Int32)) dX11_init_1514 (by decide) ?_
  have g22 : hS h21 s1 = 21 := (hS_tI eh21 g19)
  obtain ⟨b23, hf⟩ := gb_some hf
  obtain ⟨h24, eh24, hf⟩ := lt_some hf
  refine g_iast (pc := 1515) g22 b23 dX11_init_1515 eh24 ?_
  obtain ⟨g25, hf⟩ := gs_some hf
  obtain ⟨h26, eh26, hf⟩ := lt_some hf
  refine g_putRF (pc := 1516) fl_X11_297 rfl (cl_own rfl) (Or.inr ⟨_, rfl⟩) dX11_init_1516 g25 eh26 ?_
  refine g_aload_n (pc := 1519) 0 dX11_init_1519 rfl rfl ?_
  refine g_bipush (pc := 1520) (v := (9 : Int32)) dX11_init_1520 (by decide) ?_
  obtain ⟨h27, eh27, hf⟩ := lt_some hf
  refine g_newI (pc := 1522) m_252 dX11_init_1522 (by decide) eh27 ?_
  obtain ⟨g28, hf⟩ := gs_some hf
  obtain ⟨h29, eh29, hf⟩ := lt_some hf
  refine g_putRF (pc := 1524) fl_X11_300 rfl (cl_own rfl) (Or.inr ⟨_, rfl⟩) dX11_init_1524 g28 eh29 ?_
  refine g_iconst (pc := 1527) (v := (0 : Int32)) dX11_init_1527 (by decide) ?_
  obtain ⟨x30, ex30, hf⟩ := lt_some hf
  refine g_istore_n (pc := 1528) (L' := [(1, .int x30), (0, rf X a0)]) dX11_init_1528 rfl (by decide) ex30 (by simp [rf_cat, rq_cat]) ?_
  refine g_sub [1, 0] rfl ?_
  exact ok_X11_init_L1529 l X FU h29 a0 x30 q hf
set_option maxRecDepth 100000 in
set_option maxHeartbeats 4000000 in
theorem ok_X11_init_L1361 (l : Launch) (X : Cx) (h : AH) (a0 : Nat) (s0 : Nat) (s1 : Nat) (q : AH) (hf : f_X11_init_L1361 h a0 s0 s1 = some q) : Go l X k_X11_init 1361 [(0, rf X a0)] [rf X s1, rf X s0] h (rV q) := by
  unfold f_X11_init_L1361 at hf
  refine g_dup (pc := 1361) dX11_init_1361 (rf_cat X _) ?_
  refine g_bipush (pc := 1362) (v := (37 : Int32)) dX11_init_1362 (by decide) ?_
  refine g_ldcw (pc := 1364) (v := (134225967 : Int32)) m_1378 dX11_init_1364 ?_
  obtain ⟨g1, hf⟩ := gs_some hf
  obtain ⟨b2, hf⟩ := gb_some hf
  obtain ⟨h3, eh3, hf⟩ := lt_some hf
  refine g_iast (pc := 1367) g1 b2 dX11_init_1367 eh3 ?_
  refine g_dup (pc := 1368) dX11_init_1368 (rf_cat X _) ?_
  refine g_bipush (pc := 1369) (v := (38 : Int32)) dX11_init_1369 (by decide) ?_
  refine g_sipush (pc := 1371) (v := (8239 : Int32)) dX11_init_1371 (by decide) ?_
  have g4 : hS h3 s1 = 21 := (hS_tI eh3 g1)
  obtain ⟨b5, hf⟩ := gb_some hf
  obtain ⟨h6, eh6, hf⟩ := lt_some hf
  refine g_iast (pc := 1374) g4 b5 dX11_init_1374 eh6 ?_
  refine g_dup (pc := 1375) dX11_init_1375 (rf_cat X _) ?_
  refine g_bipush (pc := 1376) (v := (39 : Int32)) dX11_init_1376 (by decide) ?_
  refine g_ldcw (pc := 1378) (v := (536879151 : Int32)) m_1379 dX11_init_1378 ?_
  have g7 : hS h6 s1 = 21 := (hS_tI eh6 g4)
  obtain ⟨b8, hf⟩ := gb_some hf
  obtain ⟨h9, eh9, hf⟩ := lt_some hf
  refine g_iast (pc := 1381) g7 b8 dX11_init_1381 eh9 ?_
  refine g_dup (pc := 1382) dX11_init_1382 (rf_cat X _) ?_
  refine g_bipush (pc := 1383) (v := (40 : Int32)) dX11_init_1383 (by decide) ?_
  refine g_ldcw (pc := 1385) (v := (1610620975 : Int32)) m_1380 dX11_init_1385 ?_
  have g10 : hS h9 s1 = 21 := (hS_tI eh9 g7)
  obtain ⟨b11, hf⟩ := gb_some hf
  obtain ⟨h12, eh12, hf⟩ := lt_some hf
  refine g_iast (pc := 1388) g10 b11 dX11_init_1388 eh12 ?_
  refine g_dup (pc := 1389) dX11_init_1389 (rf_cat X _) ?_
  refine g_bipush (pc := 1390) (v := (41 : Int32)) dX11_init_1390 (by decide) ?_
  refine g_ldcw (pc := 1392) (v := (1073750063 : Int32)) m_1381 dX11_init_1392 ?_
  have g13 : hS h12 s1 = 21 := (hS_tI eh12 g10)
  obtain ⟨b14, hf⟩ := gb_some hf
  obtain ⟨h15, eh15, hf⟩ := lt_some hf
  refine g_iast (pc := 1395) g13 b14 dX11_init_1395 eh15 ?_
  refine g_dup (pc := 1396) dX11_init_1396 (rf_cat X _) ?_
  refine g_bipush (pc := 1397) (v := (42 : Int32)) dX11_init_1397 (by decide) ?_
  refine g_ldcw (pc := 1399) (v := (-2147475409 : Int32)) m_1382 dX11_init_1399 ?_
  have g16 : hS h15 s1 = 21 := (hS_tI eh15 g13)
  obtain ⟨b17, hf⟩ := gb_some hf
  obtain ⟨h18, eh18, hf⟩ := lt_some hf
  refine g_iast (pc := 1402) g16 b17 dX11_init_1402 eh18 ?_
  refine g_dup (pc := 1403) dX11_init_1403 (rf_cat X _) ?_
  refine g_bipush (pc := 1404) (v := (43 : Int32)) dX11_init_1404 (by decide) ?_
  refine g_ldcw (pc := 1406) (v := (-1610604497 : Int32)) m_1383 dX11_init_1406 ?_
  have g19 : hS h18 s1 = 21 := (hS_tI eh18 g16)
  obtain ⟨b20, hf⟩ := gb_some hf
  obtain ⟨h21, eh21, hf⟩ := lt_some hf
  refine g_iast (pc := 1409) g19 b20 dX11_init_1409 eh21 ?_
  refine g_dup (pc := 1410) dX11_init_1410 (rf_cat X _) ?_
  refine g_bipush (pc := 1411) (v := (44 : Int32)) dX11_init_1411 (by decide) ?_
  refine g_ldcw (pc := 1413) (v := (-1073733585 : Int32)) m_1384 dX11_init_1413 ?_
  have g22 : hS h21 s1 = 21 := (hS_tI eh21 g19)
  obtain ⟨b23, hf⟩ := gb_some hf
  obtain ⟨h24, eh24, hf⟩ := lt_some hf
  refine g_iast (pc := 1416) g22 b23 dX11_init_1416 eh24 ?_
  refine g_dup (pc := 1417) dX11_init_1417 (rf_cat X _) ?_
  refine g_bipush (pc := 1418) (v := (45 : Int32)) dX11_init_1418 (by decide) ?_
  refine g_ldcw (pc := 1420) (v := (-536862673 : Int32)) m_1385 dX11_init_1420 ?_
  have g25 : hS h24 s1 = 21 := (hS_tI eh24 g22)
  obtain ⟨b26, hf⟩ := gb_some hf
  obtain ⟨h27, eh27, hf⟩ := lt_some hf
  refine g_iast (pc := 1423) g25 b26 dX11_init_1423 eh27 ?_
  refine g_dup (pc := 1424) dX11_init_1424 (rf_cat X _) ?_
  refine g_bipush (pc := 1425) (v := (46 : Int32)) dX11_init_1425 (by decide) ?_
  refine g_ldcw (pc := 1427) (v := (267386895 : Int32)) m_1386 dX11_init_1427 ?_
  have g28 : hS h27 s1 = 21 := (hS_tI eh27 g25)
  obtain ⟨b29, hf⟩ := gb_some hf
  obtain ⟨h30, eh30, hf⟩ := lt_some hf
  refine g_iast (pc := 1430) g28 b29 dX11_init_1430 eh30 ?_
  refine g_dup (pc := 1431) dX11_init_1431 (rf_cat X _) ?_
  refine g_bipush (pc := 1432) (v := (47 : Int32)) dX11_init_1432 (by decide) ?_
  refine g_bipush (pc := 1434) (v := (115 : Int32)) dX11_init_1434 (by decide) ?_
  have g31 : hS h30 s1 = 21 := (hS_tI eh30 g28)
  obtain ⟨b32, hf⟩ := gb_some hf
  obtain ⟨h33, eh33, hf⟩ := lt_some hf
  refine g_iast (pc := 1436) g31 b32 dX11_init_1436 eh33 ?_
  refine g_dup (pc := 1437) dX11_init_1437 (rf_cat X _) ?_
  refine g_bipush (pc := 1438) (v := (48 : Int32)) dX11_init_1438 (by decide) ?_
  refine g_ldcw (pc := 1440) (v := (1048691 : Int32)) m_1387 dX11_init_1440 ?_
  have g34 : hS h33 s1 = 21 := (hS_tI eh33 g31)
  obtain ⟨b35, hf⟩ := gb_some hf
  obtain ⟨h36, eh36, hf⟩ := lt_some hf
  refine g_iast (pc := 1443) g34 b35 dX11_init_1443 eh36 ?_
  refine g_dup (pc := 1444) dX11_init_1444 (rf_cat X _) ?_
  refine g_bipush (pc := 1445) (v := (49 : Int32)) dX11_init_1445 (by decide) ?_
  refine g_bipush (pc := 1447) (v := (19 : Int32)) dX11_init_1447 (by decide) ?_
  have g37 : hS h36 s1 = 21 := (hS_tI eh36 g34)
  obtain ⟨b38, hf⟩ := gb_some hf
  obtain ⟨h39, eh39, hf⟩ := lt_some hf
  refine g_iast (pc := 1449) g37 b38 dX11_init_1449 eh39 ?_
  refine g_dup (pc := 1450) dX11_init_1450 (rf_cat X _) ?_
  refine g_bipush (pc := 1451) (v := (50 : Int32)) dX11_init_1451 (by decide) ?_
  refine g_bipush (pc := 1453) (v := (19 : Int32)) dX11_init_1453 (by decide) ?_
  have g40 : hS h39 s1 = 21 := (hS_tI eh39 g37)
  obtain ⟨b41, hf⟩ := gb_some hf
  obtain ⟨h42, eh42, hf⟩ := lt_some hf
  refine g_iast (pc := 1455) g40 b41 dX11_init_1455 eh42 ?_
  refine g_dup (pc := 1456) dX11_init_1456 (rf_cat X _) ?_
  refine g_bipush (pc := 1457) (v := (51 : Int32)) dX11_init_1457 (by decide) ?_
  refine g_ldcw (pc := 1459) (v := (-1032173 : Int32)) m_1388 dX11_init_1459 ?_
  have g43 : hS h42 s1 = 21 := (hS_tI eh42 g40)
  obtain ⟨b44, hf⟩ := gb_some hf
  obtain ⟨h45, eh45, hf⟩ := lt_some hf
  refine g_iast (pc := 1462) g43 b44 dX11_init_1462 eh45 ?_
  refine g_dup (pc := 1463) dX11_init_1463 (rf_cat X _) ?_
  refine g_bipush (pc := 1464) (v := (52 : Int32)) dX11_init_1464 (by decide) ?_
  refine g_ldcw (pc := 1466) (v := (1073741875 : Int32)) m_1375 dX11_init_1466 ?_
  have g46 : hS h45 s1 = 21 := (hS_tI eh45 g43)
  obtain ⟨b47, hf⟩ := gb_some hf
  obtain ⟨h48, eh48, hf⟩ := lt_some hf
  refine g_iast (pc := 1469) g46 b47 dX11_init_1469 eh48 ?_
  exact ok_X11_init_L1470 l X h48 a0 s0 s1 q hf
set_option maxRecDepth 100000 in
set_option maxHeartbeats 4000000 in
theorem ok_X11_init_L1255 (l : Launch) (X : Cx) (h : AH) (a0 : Nat) (s0 : Nat) (s1 : Nat) (q : AH) (hf : f_X11_init_L1255 h a0 s0 s1 = some q) : Go l X k_X11_init 1255 [(0, rf X a0)] [rf X s1, rf X s0] h (rV q) := by
  unfold f_X11_init_L1255 at hf
  refine g_dup (pc := 1255) dX11_init_1255 (rf_cat X _) ?_
  refine g_bipush (pc := 1256) (v := (21 : Int32)) dX11_init_1256 (by decide) ?_
  refine g_sipush (pc := 1258) (v := (8195 : Int32)) dX11_init_1258 (by decide) ?_
  obtain ⟨g1, hf⟩ := gs_some hf
  obtain ⟨b2, hf⟩ := gb_some hf
  obtain ⟨h3, eh3, hf⟩ := lt_some hf
  refine g_iast (pc := 1261) g1 b2 dX11_init_1261 eh3 ?_
  refine g_dup (pc := 1262) dX11_init_1262 (rf_cat X _) ?_
  refine g_bipush (pc := 1263) (v := (22 : Int32)) dX11_init_1263 (by decide) ?_
  refine g_sipush (pc := 1265) (v := (16387 : Int32)) dX11_init_1265 (by decide) ?_
  have g4 : hS h3 s1 = 21 := (hS_tI eh3 g1)
  obtain ⟨b5, hf⟩ := gb_some hf
  obtain ⟨h6, eh6, hf⟩ := lt_some hf
  refine g_iast (pc := 1268) g4 b5 dX11_init_1268 eh6 ?_
  refine g_dup (pc := 1269) dX11_init_1269 (rf_cat X _) ?_
  refine g_bipush (pc := 1270) (v := (23 : Int32)) dX11_init_1270 (by decide) ?_
  refine g_sipush (pc := 1272) (v := (20483 : Int32)) dX11_init_1272 (by decide) ?_
  have g7 : hS h6 s1 = 21 := (hS_tI eh6 g4)
  obtain ⟨b8, hf⟩ := gb_some hf
  obtain ⟨h9, eh9, hf⟩ := lt_some hf
  refine g_iast (pc := 1275) g7 b8 dX11_init_1275 eh9 ?_
  refine g_dup (pc := 1276) dX11_init_1276 (rf_cat X _) ?_
  refine g_bipush (pc := 1277) (v := (24 : Int32)) dX11_init_1277 (by decide) ?_
  refine g_bipush (pc := 1279) (v := (35 : Int32)) dX11_init_1279 (by decide) ?_
  have g10 : hS h9 s1 = 21 := (hS_tI eh9 g7)
  obtain ⟨b11, hf⟩ := gb_some hf
  obtain ⟨h12, eh12, hf⟩ := lt_some hf
  refine g_iast (pc := 1281) g10 b11 dX11_init_1281 eh12 ?_
  refine g_dup (pc := 1282) dX11_init_1282 (rf_cat X _) ?_
  refine g_bipush (pc := 1283) (v := (25 : Int32)) dX11_init_1283 (by decide) ?_
  refine g_sipush (pc := 1285) (v := (4131 : Int32)) dX11_init_1285 (by decide) ?_
  have g13 : hS h12 s1 = 21 := (hS_tI eh12 g10)
  obtain ⟨b14, hf⟩ := gb_some hf
  obtain ⟨h15, eh15, hf⟩ := lt_some hf
  refine g_iast (pc := 1288) g13 b14 dX11_init_1288 eh15 ?_
  refine g_dup (pc := 1289) dX11_init_1289 (rf_cat X _) ?_
  refine g_bipush (pc := 1290) (v := (26 : Int32)) dX11_init_1290 (by decide) ?_
  refine g_sipush (pc := 1292) (v := (8227 : Int32)) dX11_init_1292 (by decide) ?_
  have g16 : hS h15 s1 = 21 := (hS_tI eh15 g13)
  obtain ⟨b17, hf⟩ := gb_some hf
  obtain ⟨h18, eh18, hf⟩ := lt_some hf
  refine g_iast (pc := 1295) g16 b17 dX11_init_1295 eh18 ?_
  refine g_dup (pc := 1296) dX11_init_1296 (rf_cat X _) ?_
  refine g_bipush (pc := 1297) (v := (27 : Int32)) dX11_init_1297 (by decide) ?_
  refine g_bipush (pc := 1299) (v := (99 : Int32)) dX11_init_1299 (by decide) ?_
  have g19 : hS h18 s1 = 21 := (hS_tI eh18 g16)
  obtain ⟨b20, hf⟩ := gb_some hf
  obtain ⟨h21, eh21, hf⟩ := lt_some hf
  refine g_iast (pc := 1301) g19 b20 dX11_init_1301 eh21 ?_
  refine g_dup (pc := 1302) dX11_init_1302 (rf_cat X _) ?_
  refine g_bipush (pc := 1303) (v := (28 : Int32)) dX11_init_1303 (by decide) ?_
  refine g_sipush (pc := 1305) (v := (4195 : Int32)) dX11_init_1305 (by decide) ?_
  have g22 : hS h21 s1 = 21 := (hS_tI eh21 g19)
  obtain ⟨b23, hf⟩ := gb_some hf
  obtain ⟨h24, eh24, hf⟩ := lt_some hf
  refine g_iast (pc := 1308) g22 b23 dX11_init_1308 eh24 ?_
  refine g_dup (pc := 1309) dX11_init_1309 (rf_cat X _) ?_
  refine g_bipush (pc := 1310) (v := (29 : Int32)) dX11_init_1310 (by decide) ?_
  refine g_sipush (pc := 1312) (v := (16483 : Int32)) dX11_init_1312 (by decide) ?_
  have g25 : hS h24 s1 = 21 := (hS_tI eh24 g22)
  obtain ⟨b26, hf⟩ := gb_some hf
  obtain ⟨h27, eh27, hf⟩ := lt_some hf
  refine g_iast (pc := 1315) g25 b26 dX11_init_1315 eh27 ?_
  refine g_dup (pc := 1316) dX11_init_1316 (rf_cat X _) ?_
  refine g_bipush (pc := 1317) (v := (30 : Int32)) dX11_init_1317 (by decide) ?_
  refine g_sipush (pc := 1319) (v := (20579 : Int32)) dX11_init_1319 (by decide) ?_
  have g28 : hS h27 s1 = 21 := (hS_tI eh27 g25)
  obtain ⟨b29, hf⟩ := gb_some hf
  obtain ⟨h30, eh30, hf⟩ := lt_some hf
  refine g_iast (pc := 1322) g28 b29 dX11_init_1322 eh30 ?_
  refine g_dup (pc := 1323) dX11_init_1323 (rf_cat X _) ?_
  refine g_bipush (pc := 1324) (v := (31 : Int32)) dX11_init_1324 (by decide) ?_
  refine g_sipush (pc := 1326) (v := (24675 : Int32)) dX11_init_1326 (by decide) ?_
  have g31 : hS h30 s1 = 21 := (hS_tI eh30 g28)
  obtain ⟨b32, hf⟩ := gb_some hf
  obtain ⟨h33, eh33, hf⟩ := lt_some hf
  refine g_iast (pc := 1329) g31 b32 dX11_init_1329 eh33 ?_
  refine g_dup (pc := 1330) dX11_init_1330 (rf_cat X _) ?_
  refine g_bipush (pc := 1331) (v := (32 : Int32)) dX11_init_1331 (by decide) ?_
  refine g_sipush (pc := 1333) (v := (28771 : Int32)) dX11_init_1333 (by decide) ?_
  have g34 : hS h33 s1 = 21 := (hS_tI eh33 g31)
  obtain ⟨b35, hf⟩ := gb_some hf
  obtain ⟨h36, eh36, hf⟩ := lt_some hf
  refine g_iast (pc := 1336) g34 b35 dX11_init_1336 eh36 ?_
  refine g_dup (pc := 1337) dX11_init_1337 (rf_cat X _) ?_
  refine g_bipush (pc := 1338) (v := (33 : Int32)) dX11_init_1338 (by decide) ?_
  refine g_bipush (pc := 1340) (v := (55 : Int32)) dX11_init_1340 (by decide) ?_
  have g37 : hS h36 s1 = 21 := (hS_tI eh36 g34)
  obtain ⟨b38, hf⟩ := gb_some hf
  obtain ⟨h39, eh39, hf⟩ := lt_some hf
  refine g_iast (pc := 1342) g37 b38 dX11_init_1342 eh39 ?_
  refine g_dup (pc := 1343) dX11_init_1343 (rf_cat X _) ?_
  refine g_bipush (pc := 1344) (v := (34 : Int32)) dX11_init_1344 (by decide) ?_
  refine g_bipush (pc := 1346) (v := (23 : Int32)) dX11_init_1346 (by decide) ?_
  have g40 : hS h39 s1 = 21 := (hS_tI eh39 g37)
  obtain ⟨b41, hf⟩ := gb_some hf
  obtain ⟨h42, eh42, hf⟩ := lt_some hf
  refine g_iast (pc := 1348) g40 b41 dX11_init_1348 eh42 ?_
  refine g_dup (pc := 1349) dX11_init_1349 (rf_cat X _) ?_
  refine g_bipush (pc := 1350) (v := (35 : Int32)) dX11_init_1350 (by decide) ?_
  refine g_bipush (pc := 1352) (v := (111 : Int32)) dX11_init_1352 (by decide) ?_
  have g43 : hS h42 s1 = 21 := (hS_tI eh42 g40)
  obtain ⟨b44, hf⟩ := gb_some hf
  obtain ⟨h45, eh45, hf⟩ := lt_some hf
  refine g_iast (pc := 1354) g43 b44 dX11_init_1354 eh45 ?_
  refine g_dup (pc := 1355) dX11_init_1355 (rf_cat X _) ?_
  refine g_bipush (pc := 1356) (v := (36 : Int32)) dX11_init_1356 (by decide) ?_
  refine g_bipush (pc := 1358) (v := (103 : Int32)) dX11_init_1358 (by decide) ?_
  have g46 : hS h45 s1 = 21 := (hS_tI eh45 g43)
  obtain ⟨b47, hf⟩ := gb_some hf
  obtain ⟨h48, eh48, hf⟩ := lt_some hf
  refine g_iast (pc := 1360) g46 b47 dX11_init_1360 eh48 ?_
  exact ok_X11_init_L1361 l X h48 a0 s0 s1 q hf
set_option maxRecDepth 100000 in
set_option maxHeartbeats 4000000 in
theorem ok_X11_init_L1147 (l : Launch) (X : Cx) (h : AH) (a0 : Nat) (s0 : Nat) (s1 : Nat) (q : AH) (hf : f_X11_init_L1147 h a0 s0 s1 = some q) : Go l X k_X11_init 1147 [(0, rf X a0)] [rf X s1, rf X s0] h (rV q) := by
  unfold f_X11_init_L1147 at hf
  refine g_dup (pc := 1147) dX11_init_1147 (rf_cat X _) ?_
  refine g_iconst (pc := 1148) (v := (5 : Int32)) dX11_init_1148 (by decide) ?_
  refine g_sipush (pc := 1149) (v := (16435 : Int32)) dX11_init_1149 (by decide) ?_
  obtain ⟨g1, hf⟩ := gs_some hf
  obtain ⟨b2, hf⟩ := gb_some hf
  obtain ⟨h3, eh3, hf⟩ := lt_some hf
  refine g_iast (pc := 1152) g1 b2 dX11_init_1152 eh3 ?_
  refine g_dup (pc := 1153) dX11_init_1153 (rf_cat X _) ?_
  refine g_bipush (pc := 1154) (v := (6 : Int32)) dX11_init_1154 (by decide) ?_
  refine g_sipush (pc := 1156) (v := (20531 : Int32)) dX11_init_1156 (by decide) ?_
  have g4 : hS h3 s1 = 21 := (hS_tI eh3 g1)
  obtain ⟨b5, hf⟩ := gb_some hf
  obtain ⟨h6, eh6, hf⟩ := lt_some hf
  refine g_iast (pc := 1159) g4 b5 dX11_init_1159 eh6 ?_
  refine g_dup (pc := 1160) dX11_init_1160 (rf_cat X _) ?_
  refine g_bipush (pc := 1161) (v := (7 : Int32)) dX11_init_1161 (by decide) ?_
  refine g_ldcw (pc := 1163) (v := (1073762355 : Int32)) m_1376 dX11_init_1163 ?_
  have g7 : hS h6 s1 = 21 := (hS_tI eh6 g4)
  obtain ⟨b8, hf⟩ := gb_some hf
  obtain ⟨h9, eh9, hf⟩ := lt_some hf
  refine g_iast (pc := 1166) g7 b8 dX11_init_1166 eh9 ?_
  refine g_dup (pc := 1167) dX11_init_1167 (rf_cat X _) ?_
  refine g_bipush (pc := 1168) (v := (8 : Int32)) dX11_init_1168 (by decide) ?_
  refine g_sipush (pc := 1170) (v := (24627 : Int32)) dX11_init_1170 (by decide) ?_
  have g10 : hS h9 s1 = 21 := (hS_tI eh9 g7)
  obtain ⟨b11, hf⟩ := gb_some hf
  obtain ⟨h12, eh12, hf⟩ := lt_some hf
  refine g_iast (pc := 1173) g10 b11 dX11_init_1173 eh12 ?_
  refine g_dup (pc := 1174) dX11_init_1174 (rf_cat X _) ?_
  refine g_bipush (pc := 1175) (v := (9 : Int32)) dX11_init_1175 (by decide) ?_
  refine g_sipush (pc := 1177) (v := (28723 : Int32)) dX11_init_1177 (by decide) ?_
  have g13 : hS h12 s1 = 21 := (hS_tI eh12 g10)
  obtain ⟨b14, hf⟩ := gb_some hf
  obtain ⟨h15, eh15, hf⟩ := lt_some hf
  refine g_iast (pc := 1180) g13 b14 dX11_init_1180 eh15 ?_
  refine g_dup (pc := 1181) dX11_init_1181 (rf_cat X _) ?_
  refine g_bipush (pc := 1182) (v := (10 : Int32)) dX11_init_1182 (by decide) ?_
  refine g_bipush (pc := 1184) (v := (19 : Int32)) dX11_init_1184 (by decide) ?_
  have g16 : hS h15 s1 = 21 := (hS_tI eh15 g13)
  obtain ⟨b17, hf⟩ := gb_some hf
  obtain ⟨h18, eh18, hf⟩ := lt_some hf
  refine g_iast (pc := 1186) g16 b17 dX11_init_1186 eh18 ?_
  refine g_dup (pc := 1187) dX11_init_1187 (rf_cat X _) ?_
  refine g_bipush (pc := 1188) (v := (11 : Int32)) dX11_init_1188 (by decide) ?_
  refine g_sipush (pc := 1190) (v := (8211 : Int32)) dX11_init_1190 (by decide) ?_
  have g19 : hS h18 s1 = 21 := (hS_tI eh18 g16)
  obtain ⟨b20, hf⟩ := gb_some hf
  obtain ⟨h21, eh21, hf⟩ := lt_some hf
  refine g_iast (pc := 1193) g19 b20 dX11_init_1193 eh21 ?_
  refine g_dup (pc := 1194) dX11_init_1194 (rf_cat X _) ?_
  refine g_bipush (pc := 1195) (v := (12 : Int32)) dX11_init_1195 (by decide) ?_
  refine g_sipush (pc := 1197) (v := (12307 : Int32)) dX11_init_1197 (by decide) ?_
  have g22 : hS h21 s1 = 21 := (hS_tI eh21 g19)
  obtain ⟨b23, hf⟩ := gb_some hf
  obtain ⟨h24, eh24, hf⟩ := lt_some hf
  refine g_iast (pc := 1200) g22 b23 dX11_init_1200 eh24 ?_
  refine g_dup (pc := 1201) dX11_init_1201 (rf_cat X _) ?_
  refine g_bipush (pc := 1202) (v := (13 : Int32)) dX11_init_1202 (by decide) ?_
  refine g_sipush (pc := 1204) (v := (16403 : Int32)) dX11_init_1204 (by decide) ?_
  have g25 : hS h24 s1 = 21 := (hS_tI eh24 g22)
  obtain ⟨b26, hf⟩ := gb_some hf
  obtain ⟨h27, eh27, hf⟩ := lt_some hf
  refine g_iast (pc := 1207) g25 b26 dX11_init_1207 eh27 ?_
  refine g_dup (pc := 1208) dX11_init_1208 (rf_cat X _) ?_
  refine g_bipush (pc := 1209) (v := (14 : Int32)) dX11_init_1209 (by decide) ?_
  refine g_sipush (pc := 1211) (v := (24595 : Int32)) dX11_init_1211 (by decide) ?_
  have g28 : hS h27 s1 = 21 := (hS_tI eh27 g25)
  obtain ⟨b29, hf⟩ := gb_some hf
  obtain ⟨h30, eh30, hf⟩ := lt_some hf
  refine g_iast (pc := 1214) g28 b29 dX11_init_1214 eh30 ?_
  refine g_dup (pc := 1215) dX11_init_1215 (rf_cat X _) ?_
  refine g_bipush (pc := 1216) (v := (15 : Int32)) dX11_init_1216 (by decide) ?_
  refine g_sipush (pc := 1218) (v := (28691 : Int32)) dX11_init_1218 (by decide) ?_
  have g31 : hS h30 s1 = 21 := (hS_tI eh30 g28)
  obtain ⟨b32, hf⟩ := gb_some hf
  obtain ⟨h33, eh33, hf⟩ := lt_some hf
  refine g_iast (pc := 1221) g31 b32 dX11_init_1221 eh33 ?_
  refine g_dup (pc := 1222) dX11_init_1222 (rf_cat X _) ?_
  refine g_bipush (pc := 1223) (v := (16 : Int32)) dX11_init_1223 (by decide) ?_
  refine g_sipush (pc := 1225) (v := (4115 : Int32)) dX11_init_1225 (by decide) ?_
  have g34 : hS h33 s1 = 21 := (hS_tI eh33 g31)
  obtain ⟨b35, hf⟩ := gb_some hf
  obtain ⟨h36, eh36, hf⟩ := lt_some hf
  refine g_iast (pc := 1228) g34 b35 dX11_init_1228 eh36 ?_
  refine g_dup (pc := 1229) dX11_init_1229 (rf_cat X _) ?_
  refine g_bipush (pc := 1230) (v := (17 : Int32)) dX11_init_1230 (by decide) ?_
  refine g_sipush (pc := 1232) (v := (20499 : Int32)) dX11_init_1232 (by decide) ?_
  have g37 : hS h36 s1 = 21 := (hS_tI eh36 g34)
  obtain ⟨b38, hf⟩ := gb_some hf
  obtain ⟨h39, eh39, hf⟩ := lt_some hf
  refine g_iast (pc := 1235) g37 b38 dX11_init_1235 eh39 ?_
  refine g_dup (pc := 1236) dX11_init_1236 (rf_cat X _) ?_
  refine g_bipush (pc := 1237) (v := (18 : Int32)) dX11_init_1237 (by decide) ?_
  refine g_ldcw (pc := 1239) (v := (1073762323 : Int32)) m_1377 dX11_init_1239 ?_
  have g40 : hS h39 s1 = 21 := (hS_tI eh39 g37)
  obtain ⟨b41, hf⟩ := gb_some hf
  obtain ⟨h42, eh42, hf⟩ := lt_some hf
  refine g_iast (pc := 1242) g40 b41 dX11_init_1242 eh42 ?_
  refine g_dup (pc := 1243) dX11_init_1243 (rf_cat X _) ?_
  refine g_bipush (pc := 1244) (v := (19 : Int32)) dX11_init_1244 (by decide) ?_
  refine g_iconst (pc := 1246) (v := (3 : Int32)) dX11_init_1246 (by decide) ?_
  have g43 : hS h42 s1 = 21 := (hS_tI eh42 g40)
  obtain ⟨b44, hf⟩ := gb_some hf
  obtain ⟨h45, eh45, hf⟩ := lt_some hf
  refine g_iast (pc := 1247) g43 b44 dX11_init_1247 eh45 ?_
  refine g_dup (pc := 1248) dX11_init_1248 (rf_cat X _) ?_
  refine g_bipush (pc := 1249) (v := (20 : Int32)) dX11_init_1249 (by decide) ?_
  refine g_sipush (pc := 1251) (v := (4099 : Int32)) dX11_init_1251 (by decide) ?_
  have g46 : hS h45 s1 = 21 := (hS_tI eh45 g43)
  obtain ⟨b47, hf⟩ := gb_some hf
  obtain ⟨h48, eh48, hf⟩ := lt_some hf
  refine g_iast (pc := 1254) g46 b47 dX11_init_1254 eh48 ?_
  exact ok_X11_init_L1255 l X h48 a0 s0 s1 q hf
set_option maxRecDepth 100000 in
set_option maxHeartbeats 4000000 in
theorem ok_X11_init_L1050 (l : Launch) (X : Cx) (h : AH) (a0 : Nat) (s0 : Nat) (s1 : Nat) (q : AH) (hf : f_X11_init_L1050 h a0 s0 s1 = some q) : Go l X k_X11_init 1050 [(0, rf X a0)] [rf X s1, rf X s0] h (rV q) := by
  unfold f_X11_init_L1050 at hf
  refine g_dup (pc := 1050) dX11_init_1050 (rf_cat X _) ?_
  refine g_bipush (pc := 1051) (v := (51 : Int32)) dX11_init_1051 (by decide) ?_
  refine g_bipush (pc := 1053) (v := (9 : Int32)) dX11_init_1053 (by decide) ?_
  obtain ⟨g1, hf⟩ := gs_some hf
  obtain ⟨b2, hf⟩ := gb_some hf
  obtain ⟨h3, eh3, hf⟩ := lt_some hf
  refine g_iast (pc := 1055) g1 b2 dX11_init_1055 eh3 ?_
  refine g_dup (pc := 1056) dX11_init_1056 (rf_cat X _) ?_
  refine g_bipush (pc := 1057) (v := (52 : Int32)) dX11_init_1057 (by decide) ?_
  refine g_bipush (pc := 1059) (v := (10 : Int32)) dX11_init_1059 (by decide) ?_
  have g4 : hS h3 s1 = 21 := (hS_tI eh3 g1)
  obtain ⟨b5, hf⟩ := gb_some hf
  obtain ⟨h6, eh6, hf⟩ := lt_some hf
  refine g_iast (pc := 1061) g4 b5 dX11_init_1061 eh6 ?_
  refine g_dup (pc := 1062) dX11_init_1062 (rf_cat X _) ?_
  refine g_bipush (pc := 1063) (v := (53 : Int32)) dX11_init_1063 (by decide) ?_
  refine g_bipush (pc := 1065) (v := (11 : Int32)) dX11_init_1065 (by decide) ?_
  have g7 : hS h6 s1 = 21 := (hS_tI eh6 g4)
  obtain ⟨b8, hf⟩ := gb_some hf
  obtain ⟨h9, eh9, hf⟩ := lt_some hf
  refine g_iast (pc := 1067) g7 b8 dX11_init_1067 eh9 ?_
  refine g_dup (pc := 1068) dX11_init_1068 (rf_cat X _) ?_
  refine g_bipush (pc := 1069) (v := (54 : Int32)) dX11_init_1069 (by decide) ?_
  refine g_bipush (pc := 1071) (v := (8 : Int32)) dX11_init_1071 (by decide) ?_
  have g10 : hS h9 s1 = 21 := (hS_tI eh9 g7)
  obtain ⟨b11, hf⟩ := gb_some hf
  obtain ⟨h12, eh12, hf⟩ := lt_some hf
  refine g_iast (pc := 1073) g10 b11 dX11_init_1073 eh12 ?_
  refine g_dup (pc := 1074) dX11_init_1074 (rf_cat X _) ?_
  refine g_bipush (pc := 1075) (v := (55 : Int32)) dX11_init_1075 (by decide) ?_
  refine g_bipush (pc := 1077) (v := (12 : Int32)) dX11_init_1077 (by decide) ?_
  have g13 : hS h12 s1 = 21 := (hS_tI eh12 g10)
  obtain ⟨b14, hf⟩ := gb_some hf
  obtain ⟨h15, eh15, hf⟩ := lt_some hf
  refine g_iast (pc := 1079) g13 b14 dX11_init_1079 eh15 ?_
  refine g_dup (pc := 1080) dX11_init_1080 (rf_cat X _) ?_
  refine g_bipush (pc := 1081) (v := (56 : Int32)) dX11_init_1081 (by decide) ?_
  refine g_bipush (pc := 1083) (v := (12 : Int32)) dX11_init_1083 (by decide) ?_
  have g16 : hS h15 s1 = 21 := (hS_tI eh15 g13)
  obtain ⟨b17, hf⟩ := gb_some hf
  obtain ⟨h18, eh18, hf⟩ := lt_some hf
  refine g_iast (pc := 1085) g16 b17 dX11_init_1085 eh18 ?_
  refine g_dup (pc := 1086) dX11_init_1086 (rf_cat X _) ?_
  refine g_bipush (pc := 1087) (v := (57 : Int32)) dX11_init_1087 (by decide) ?_
  refine g_bipush (pc := 1089) (v := (13 : Int32)) dX11_init_1089 (by decide) ?_
  have g19 : hS h18 s1 = 21 := (hS_tI eh18 g16)
  obtain ⟨b20, hf⟩ := gb_some hf
  obtain ⟨h21, eh21, hf⟩ := lt_some hf
  refine g_iast (pc := 1091) g19 b20 dX11_init_1091 eh21 ?_
  refine g_dup (pc := 1092) dX11_init_1092 (rf_cat X _) ?_
  refine g_bipush (pc := 1093) (v := (58 : Int32)) dX11_init_1093 (by decide) ?_
  refine g_bipush (pc := 1095) (v := (14 : Int32)) dX11_init_1095 (by decide) ?_
  have g22 : hS h21 s1 = 21 := (hS_tI eh21 g19)
  obtain ⟨b23, hf⟩ := gb_some hf
  obtain ⟨h24, eh24, hf⟩ := lt_some hf
  refine g_iast (pc := 1097) g22 b23 dX11_init_1097 eh24 ?_
  refine g_dup (pc := 1098) dX11_init_1098 (rf_cat X _) ?_
  refine g_bipush (pc := 1099) (v := (59 : Int32)) dX11_init_1099 (by decide) ?_
  refine g_bipush (pc := 1101) (v := (15 : Int32)) dX11_init_1101 (by decide) ?_
  have g25 : hS h24 s1 = 21 := (hS_tI eh24 g22)
  obtain ⟨b26, hf⟩ := gb_some hf
  obtain ⟨h27, eh27, hf⟩ := lt_some hf
  refine g_iast (pc := 1103) g25 b26 dX11_init_1103 eh27 ?_
  refine g_dup (pc := 1104) dX11_init_1104 (rf_cat X _) ?_
  refine g_bipush (pc := 1105) (v := (60 : Int32)) dX11_init_1105 (by decide) ?_
  refine g_bipush (pc := 1107) (v := (16 : Int32)) dX11_init_1107 (by decide) ?_
  have g28 : hS h27 s1 = 21 := (hS_tI eh27 g25)
  obtain ⟨b29, hf⟩ := gb_some hf
  obtain ⟨h30, eh30, hf⟩ := lt_some hf
  refine g_iast (pc := 1109) g28 b29 dX11_init_1109 eh30 ?_
  obtain ⟨g31, hf⟩ := gs_some hf
  obtain ⟨h32, eh32, hf⟩ := lt_some hf
  refine g_putRF (pc := 1110) fl_X11_279 rfl (cl_own rfl) (Or.inr ⟨_, rfl⟩) dX11_init_1110 g31 eh32 ?_
  refine g_aload_n (pc := 1113) 0 dX11_init_1113 rfl rfl ?_
  refine g_bipush (pc := 1114) (v := (61 : Int32)) dX11_init_1114 (by decide) ?_
  obtain ⟨h33, eh33, hf⟩ := lt_some hf
  refine g_newI (pc := 1116) m_252 dX11_init_1116 (by decide) eh33 ?_
  refine g_dup (pc := 1118) dX11_init_1118 (rf_cat X _) ?_
  refine g_iconst (pc := 1119) (v := (0 : Int32)) dX11_init_1119 (by decide) ?_
  refine g_bipush (pc := 1120) (v := (51 : Int32)) dX11_init_1120 (by decide) ?_
  have g34 : hS h33 (hZ h32 + 1) = 21 := (hS_nw eh33)
  obtain ⟨b35, hf⟩ := gb_some hf
  obtain ⟨h36, eh36, hf⟩ := lt_some hf
  refine g_iast (pc := 1122) g34 b35 dX11_init_1122 eh36 ?_
  refine g_dup (pc := 1123) dX11_init_1123 (rf_cat X _) ?_
  refine g_iconst (pc := 1124) (v := (1 : Int32)) dX11_init_1124 (by decide) ?_
  refine g_ldcw (pc := 1125) (v := (1073741875 : Int32)) m_1375 dX11_init_1125 ?_
  have g37 : hS h36 (hZ h32 + 1) = 21 := (hS_tI eh36 g34)
  obtain ⟨b38, hf⟩ := gb_some hf
  obtain ⟨h39, eh39, hf⟩ := lt_some hf
  refine g_iast (pc := 1128) g37 b38 dX11_init_1128 eh39 ?_
  refine g_dup (pc := 1129) dX11_init_1129 (rf_cat X _) ?_
  refine g_iconst (pc := 1130) (v := (2 : Int32)) dX11_init_1130 (by decide) ?_
  refine g_sipush (pc := 1131) (v := (4147 : Int32)) dX11_init_1131 (by decide) ?_
  have g40 : hS h39 (hZ h32 + 1) = 21 := (hS_tI eh39 g37)
  obtain ⟨b41, hf⟩ := gb_some hf
  obtain ⟨h42, eh42, hf⟩ := lt_some hf
  refine g_iast (pc := 1134) g40 b41 dX11_init_1134 eh42 ?_
  refine g_dup (pc := 1135) dX11_init_1135 (rf_cat X _) ?_
  refine g_iconst (pc := 1136) (v := (3 : Int32)) dX11_init_1136 (by decide) ?_
  refine g_sipush (pc := 1137) (v := (8243 : Int32)) dX11_init_1137 (by decide) ?_
  have g43 : hS h42 (hZ h32 + 1) = 21 := (hS_tI eh42 g40)
  obtain ⟨b44, hf⟩ := gb_some hf
  obtain ⟨h45, eh45, hf⟩ := lt_some hf
  refine g_iast (pc := 1140) g43 b44 dX11_init_1140 eh45 ?_
  refine g_dup (pc := 1141) dX11_init_1141 (rf_cat X _) ?_
  refine g_iconst (pc := 1142) (v := (4 : Int32)) dX11_init_1142 (by decide) ?_
  refine g_sipush (pc := 1143) (v := (12339 : Int32)) dX11_init_1143 (by decide) ?_
  have g46 : hS h45 (hZ h32 + 1) = 21 := (hS_tI eh45 g43)
  obtain ⟨b47, hf⟩ := gb_some hf
  obtain ⟨h48, eh48, hf⟩ := lt_some hf
  refine g_iast (pc := 1146) g46 b47 dX11_init_1146 eh48 ?_
  exact ok_X11_init_L1147 l X h48 a0 a0 (hZ h32 + 1) q hf
set_option maxRecDepth 100000 in
set_option maxHeartbeats 4000000 in
theorem ok_X11_init_L955 (l : Launch) (X : Cx) (h : AH) (a0 : Nat) (s0 : Nat) (s1 : Nat) (q : AH) (hf : f_X11_init_L955 h a0 s0 s1 = some q) : Go l X k_X11_init 955 [(0, rf X a0)] [rf X s1, rf X s0] h (rV q) := by
  unfold f_X11_init_L955 at hf
  refine g_dup (pc := 955) dX11_init_955 (rf_cat X _) ?_
  refine g_bipush (pc := 956) (v := (35 : Int32)) dX11_init_956 (by decide) ?_
  refine g_bipush (pc := 958) (v := (6 : Int32)) dX11_init_958 (by decide) ?_
  obtain ⟨g1, hf⟩ := gs_some hf
  obtain ⟨b2, hf⟩ := gb_some hf
  obtain ⟨h3, eh3, hf⟩ := lt_some hf
  refine g_iast (pc := 960) g1 b2 dX11_init_960 eh3 ?_
  refine g_dup (pc := 961) dX11_init_961 (rf_cat X _) ?_
  refine g_bipush (pc := 962) (v := (36 : Int32)) dX11_init_962 (by decide) ?_
  refine g_iconst (pc := 964) (v := (2 : Int32)) dX11_init_964 (by decide) ?_
  have g4 : hS h3 s1 = 21 := (hS_tI eh3 g1)
  obtain ⟨b5, hf⟩ := gb_some hf
  obtain ⟨h6, eh6, hf⟩ := lt_some hf
  refine g_iast (pc := 965) g4 b5 dX11_init_965 eh6 ?_
  refine g_dup (pc := 966) dX11_init_966 (rf_cat X _) ?_
  refine g_bipush (pc := 967) (v := (37 : Int32)) dX11_init_967 (by decide) ?_
  refine g_bipush (pc := 969) (v := (7 : Int32)) dX11_init_969 (by decide) ?_
  have g7 : hS h6 s1 = 21 := (hS_tI eh6 g4)
  obtain ⟨b8, hf⟩ := gb_some hf
  obtain ⟨h9, eh9, hf⟩ := lt_some hf
  refine g_iast (pc := 971) g7 b8 dX11_init_971 eh9 ?_
  refine g_dup (pc := 972) dX11_init_972 (rf_cat X _) ?_
  refine g_bipush (pc := 973) (v := (38 : Int32)) dX11_init_973 (by decide) ?_
  refine g_bipush (pc := 975) (v := (7 : Int32)) dX11_init_975 (by decide) ?_
  have g10 : hS h9 s1 = 21 := (hS_tI eh9 g7)
  obtain ⟨b11, hf⟩ := gb_some hf
  obtain ⟨h12, eh12, hf⟩ := lt_some hf
  refine g_iast (pc := 977) g10 b11 dX11_init_977 eh12 ?_
  refine g_dup (pc := 978) dX11_init_978 (rf_cat X _) ?_
  refine g_bipush (pc := 979) (v := (39 : Int32)) dX11_init_979 (by decide) ?_
  refine g_bipush (pc := 981) (v := (7 : Int32)) dX11_init_981 (by decide) ?_
  have g13 : hS h12 s1 = 21 := (hS_tI eh12 g10)
  obtain ⟨b14, hf⟩ := gb_some hf
  obtain ⟨h15, eh15, hf⟩ := lt_some hf
  refine g_iast (pc := 983) g13 b14 dX11_init_983 eh15 ?_
  refine g_dup (pc := 984) dX11_init_984 (rf_cat X _) ?_
  refine g_bipush (pc := 985) (v := (40 : Int32)) dX11_init_985 (by decide) ?_
  refine g_bipush (pc := 987) (v := (7 : Int32)) dX11_init_987 (by decide) ?_
  have g16 : hS h15 s1 = 21 := (hS_tI eh15 g13)
  obtain ⟨b17, hf⟩ := gb_some hf
  obtain ⟨h18, eh18, hf⟩ := lt_some hf
  refine g_iast (pc := 989) g16 b17 dX11_init_989 eh18 ?_
  refine g_dup (pc := 990) dX11_init_990 (rf_cat X _) ?_
  refine g_bipush (pc := 991) (v := (41 : Int32)) dX11_init_991 (by decide) ?_
  refine g_bipush (pc := 993) (v := (7 : Int32)) dX11_init_993 (by decide) ?_
  have g19 : hS h18 s1 = 21 := (hS_tI eh18 g16)
  obtain ⟨b20, hf⟩ := gb_some hf
  obtain ⟨h21, eh21, hf⟩ := lt_some hf
  refine g_iast (pc := 995) g19 b20 dX11_init_995 eh21 ?_
  refine g_dup (pc := 996) dX11_init_996 (rf_cat X _) ?_
  refine g_bipush (pc := 997) (v := (42 : Int32)) dX11_init_997 (by decide) ?_
  refine g_bipush (pc := 999) (v := (7 : Int32)) dX11_init_999 (by decide) ?_
  have g22 : hS h21 s1 = 21 := (hS_tI eh21 g19)
  obtain ⟨b23, hf⟩ := gb_some hf
  obtain ⟨h24, eh24, hf⟩ := lt_some hf
  refine g_iast (pc := 1001) g22 b23 dX11_init_1001 eh24 ?_
  refine g_dup (pc := 1002) dX11_init_1002 (rf_cat X _) ?_
  refine g_bipush (pc := 1003) (v := (43 : Int32)) dX11_init_1003 (by decide) ?_
  refine g_bipush (pc := 1005) (v := (7 : Int32)) dX11_init_1005 (by decide) ?_
  have g25 : hS h24 s1 = 21 := (hS_tI eh24 g22)
  obtain ⟨b26, hf⟩ := gb_some hf
  obtain ⟨h27, eh27, hf⟩ := lt_some hf
  refine g_iast (pc := 1007) g25 b26 dX11_init_1007 eh27 ?_
  refine g_dup (pc := 1008) dX11_init_1008 (rf_cat X _) ?_
  refine g_bipush (pc := 1009) (v := (44 : Int32)) dX11_init_1009 (by decide) ?_
  refine g_bipush (pc := 1011) (v := (7 : Int32)) dX11_init_1011 (by decide) ?_
  have g28 : hS h27 s1 = 21 := (hS_tI eh27 g25)
  obtain ⟨b29, hf⟩ := gb_some hf
  obtain ⟨h30, eh30, hf⟩ := lt_some hf
  refine g_iast (pc := 1013) g28 b29 dX11_init_1013 eh30 ?_
  refine g_dup (pc := 1014) dX11_init_1014 (rf_cat X _) ?_
  refine g_bipush (pc := 1015) (v := (45 : Int32)) dX11_init_1015 (by decide) ?_
  refine g_bipush (pc := 1017) (v := (7 : Int32)) dX11_init_1017 (by decide) ?_
  have g31 : hS h30 s1 = 21 := (hS_tI eh30 g28)
  obtain ⟨b32, hf⟩ := gb_some hf
  obtain ⟨h33, eh33, hf⟩ := lt_some hf
  refine g_iast (pc := 1019) g31 b32 dX11_init_1019 eh33 ?_
  refine g_dup (pc := 1020) dX11_init_1020 (rf_cat X _) ?_
  refine g_bipush (pc := 1021) (v := (46 : Int32)) dX11_init_1021 (by decide) ?_
  refine g_bipush (pc := 1023) (v := (8 : Int32)) dX11_init_1023 (by decide) ?_
  have g34 : hS h33 s1 = 21 := (hS_tI eh33 g31)
  obtain ⟨b35, hf⟩ := gb_some hf
  obtain ⟨h36, eh36, hf⟩ := lt_some hf
  refine g_iast (pc := 1025) g34 b35 dX11_init_1025 eh36 ?_
  refine g_dup (pc := 1026) dX11_init_1026 (rf_cat X _) ?_
  refine g_bipush (pc := 1027) (v := (47 : Int32)) dX11_init_1027 (by decide) ?_
  refine g_bipush (pc := 1029) (v := (8 : Int32)) dX11_init_1029 (by decide) ?_
  have g37 : hS h36 s1 = 21 := (hS_tI eh36 g34)
  obtain ⟨b38, hf⟩ := gb_some hf
  obtain ⟨h39, eh39, hf⟩ := lt_some hf
  refine g_iast (pc := 1031) g37 b38 dX11_init_1031 eh39 ?_
  refine g_dup (pc := 1032) dX11_init_1032 (rf_cat X _) ?_
  refine g_bipush (pc := 1033) (v := (48 : Int32)) dX11_init_1033 (by decide) ?_
  refine g_bipush (pc := 1035) (v := (8 : Int32)) dX11_init_1035 (by decide) ?_
  have g40 : hS h39 s1 = 21 := (hS_tI eh39 g37)
  obtain ⟨b41, hf⟩ := gb_some hf
  obtain ⟨h42, eh42, hf⟩ := lt_some hf
  refine g_iast (pc := 1037) g40 b41 dX11_init_1037 eh42 ?_
  refine g_dup (pc := 1038) dX11_init_1038 (rf_cat X _) ?_
  refine g_bipush (pc := 1039) (v := (49 : Int32)) dX11_init_1039 (by decide) ?_
  refine g_bipush (pc := 1041) (v := (8 : Int32)) dX11_init_1041 (by decide) ?_
  have g43 : hS h42 s1 = 21 := (hS_tI eh42 g40)
  obtain ⟨b44, hf⟩ := gb_some hf
  obtain ⟨h45, eh45, hf⟩ := lt_some hf
  refine g_iast (pc := 1043) g43 b44 dX11_init_1043 eh45 ?_
  refine g_dup (pc := 1044) dX11_init_1044 (rf_cat X _) ?_
  refine g_bipush (pc := 1045) (v := (50 : Int32)) dX11_init_1045 (by decide) ?_
  refine g_bipush (pc := 1047) (v := (9 : Int32)) dX11_init_1047 (by decide) ?_
  have g46 : hS h45 s1 = 21 := (hS_tI eh45 g43)
  obtain ⟨b47, hf⟩ := gb_some hf
  obtain ⟨h48, eh48, hf⟩ := lt_some hf
  refine g_iast (pc := 1049) g46 b47 dX11_init_1049 eh48 ?_
  exact ok_X11_init_L1050 l X h48 a0 s0 s1 q hf
set_option maxRecDepth 100000 in
set_option maxHeartbeats 4000000 in
theorem ok_X11_init_L875 (l : Launch) (X : Cx) (h : AH) (a0 : Nat) (s0 : Nat) (s1 : Nat) (q : AH) (hf : f_X11_init_L875 h a0 s0 s1 = some q) : Go l X k_X11_init 875 [(0, rf X a0)] [rf X s1, rf X s0] h (rV q) := by
  unfold f_X11_init_L875 at hf
  refine g_dup (pc := 875) dX11_init_875 (rf_cat X _) ?_
  refine g_bipush (pc := 876) (v := (19 : Int32)) dX11_init_876 (by decide) ?_
  refine g_iconst (pc := 878) (v := (2 : Int32)) dX11_init_878 (by decide) ?_
  obtain ⟨g1, hf⟩ := gs_some hf
  obtain ⟨b2, hf⟩ := gb_some hf
  obtain ⟨h3, eh3, hf⟩ := lt_some hf
  refine g_iast (pc := 879) g1 b2 dX11_init_879 eh3 ?_
  refine g_dup (pc := 880) dX11_init_880 (rf_cat X _) ?_
  refine g_bipush (pc := 881) (v := (20 : Int32)) dX11_init_881 (by decide) ?_
  refine g_iconst (pc := 883) (v := (2 : Int32)) dX11_init_883 (by decide) ?_
  have g4 : hS h3 s1 = 21 := (hS_tI eh3 g1)
  obtain ⟨b5, hf⟩ := gb_some hf
  obtain ⟨h6, eh6, hf⟩ := lt_some hf
  refine g_iast (pc := 884) g4 b5 dX11_init_884 eh6 ?_
  refine g_dup (pc := 885) dX11_init_885 (rf_cat X _) ?_
  refine g_bipush (pc := 886) (v := (21 : Int32)) dX11_init_886 (by decide) ?_
  refine g_iconst (pc := 888) (v := (2 : Int32)) dX11_init_888 (by decide) ?_
  have g7 : hS h6 s1 = 21 := (hS_tI eh6 g4)
  obtain ⟨b8, hf⟩ := gb_some hf
  obtain ⟨h9, eh9, hf⟩ := lt_some hf
  refine g_iast (pc := 889) g7 b8 dX11_init_889 eh9 ?_
  refine g_dup (pc := 890) dX11_init_890 (rf_cat X _) ?_
  refine g_bipush (pc := 891) (v := (22 : Int32)) dX11_init_891 (by decide) ?_
  refine g_iconst (pc := 893) (v := (2 : Int32)) dX11_init_893 (by decide) ?_
  have g10 : hS h9 s1 = 21 := (hS_tI eh9 g7)
  obtain ⟨b11, hf⟩ := gb_some hf
  obtain ⟨h12, eh12, hf⟩ := lt_some hf
  refine g_iast (pc := 894) g10 b11 dX11_init_894 eh12 ?_
  refine g_dup (pc := 895) dX11_init_895 (rf_cat X _) ?_
  refine g_bipush (pc := 896) (v := (23 : Int32)) dX11_init_896 (by decide) ?_
  refine g_iconst (pc := 898) (v := (2 : Int32)) dX11_init_898 (by decide) ?_
  have g13 : hS h12 s1 = 21 := (hS_tI eh12 g10)
  obtain ⟨b14, hf⟩ := gb_some hf
  obtain ⟨h15, eh15, hf⟩ := lt_some hf
  refine g_iast (pc := 899) g13 b14 dX11_init_899 eh15 ?_
  refine g_dup (pc := 900) dX11_init_900 (rf_cat X _) ?_
  refine g_bipush (pc := 901) (v := (24 : Int32)) dX11_init_901 (by decide) ?_
  refine g_iconst (pc := 903) (v := (3 : Int32)) dX11_init_903 (by decide) ?_
  have g16 : hS h15 s1 = 21 := (hS_tI eh15 g13)
  obtain ⟨b17, hf⟩ := gb_some hf
  obtain ⟨h18, eh18, hf⟩ := lt_some hf
  refine g_iast (pc := 904) g16 b17 dX11_init_904 eh18 ?_
  refine g_dup (pc := 905) dX11_init_905 (rf_cat X _) ?_
  refine g_bipush (pc := 906) (v := (25 : Int32)) dX11_init_906 (by decide) ?_
  refine g_iconst (pc := 908) (v := (3 : Int32)) dX11_init_908 (by decide) ?_
  have g19 : hS h18 s1 = 21 := (hS_tI eh18 g16)
  obtain ⟨b20, hf⟩ := gb_some hf
  obtain ⟨h21, eh21, hf⟩ := lt_some hf
  refine g_iast (pc := 909) g19 b20 dX11_init_909 eh21 ?_
  refine g_dup (pc := 910) dX11_init_910 (rf_cat X _) ?_
  refine g_bipush (pc := 911) (v := (26 : Int32)) dX11_init_911 (by decide) ?_
  refine g_iconst (pc := 913) (v := (3 : Int32)) dX11_init_913 (by decide) ?_
  have g22 : hS h21 s1 = 21 := (hS_tI eh21 g19)
  obtain ⟨b23, hf⟩ := gb_some hf
  obtain ⟨h24, eh24, hf⟩ := lt_some hf
  refine g_iast (pc := 914) g22 b23 dX11_init_914 eh24 ?_
  refine g_dup (pc := 915) dX11_init_915 (rf_cat X _) ?_
  refine g_bipush (pc := 916) (v := (27 : Int32)) dX11_init_916 (by decide) ?_
  refine g_iconst (pc := 918) (v := (4 : Int32)) dX11_init_918 (by decide) ?_
  have g25 : hS h24 s1 = 21 := (hS_tI eh24 g22)
  obtain ⟨b26, hf⟩ := gb_some hf
  obtain ⟨h27, eh27, hf⟩ := lt_some hf
  refine g_iast (pc := 919) g25 b26 dX11_init_919 eh27 ?_
  refine g_dup (pc := 920) dX11_init_920 (rf_cat X _) ?_
  refine g_bipush (pc := 921) (v := (28 : Int32)) dX11_init_921 (by decide) ?_
  refine g_iconst (pc := 923) (v := (4 : Int32)) dX11_init_923 (by decide) ?_
  have g28 : hS h27 s1 = 21 := (hS_tI eh27 g25)
  obtain ⟨b29, hf⟩ := gb_some hf
  obtain ⟨h30, eh30, hf⟩ := lt_some hf
  refine g_iast (pc := 924) g28 b29 dX11_init_924 eh30 ?_
  refine g_dup (pc := 925) dX11_init_925 (rf_cat X _) ?_
  refine g_bipush (pc := 926) (v := (29 : Int32)) dX11_init_926 (by decide) ?_
  refine g_iconst (pc := 928) (v := (4 : Int32)) dX11_init_928 (by decide) ?_
  have g31 : hS h30 s1 = 21 := (hS_tI eh30 g28)
  obtain ⟨b32, hf⟩ := gb_some hf
  obtain ⟨h33, eh33, hf⟩ := lt_some hf
  refine g_iast (pc := 929) g31 b32 dX11_init_929 eh33 ?_
  refine g_dup (pc := 930) dX11_init_930 (rf_cat X _) ?_
  refine g_bipush (pc := 931) (v := (30 : Int32)) dX11_init_931 (by decide) ?_
  refine g_iconst (pc := 933) (v := (4 : Int32)) dX11_init_933 (by decide) ?_
  have g34 : hS h33 s1 = 21 := (hS_tI eh33 g31)
  obtain ⟨b35, hf⟩ := gb_some hf
  obtain ⟨h36, eh36, hf⟩ := lt_some hf
  refine g_iast (pc := 934) g34 b35 dX11_init_934 eh36 ?_
  refine g_dup (pc := 935) dX11_init_935 (rf_cat X _) ?_
  refine g_bipush (pc := 936) (v := (31 : Int32)) dX11_init_936 (by decide) ?_
  refine g_iconst (pc := 938) (v := (4 : Int32)) dX11_init_938 (by decide) ?_
  have g37 : hS h36 s1 = 21 := (hS_tI eh36 g34)
  obtain ⟨b38, hf⟩ := gb_some hf
  obtain ⟨h39, eh39, hf⟩ := lt_some hf
  refine g_iast (pc := 939) g37 b38 dX11_init_939 eh39 ?_
  refine g_dup (pc := 940) dX11_init_940 (rf_cat X _) ?_
  refine g_bipush (pc := 941) (v := (32 : Int32)) dX11_init_941 (by decide) ?_
  refine g_iconst (pc := 943) (v := (4 : Int32)) dX11_init_943 (by decide) ?_
  have g40 : hS h39 s1 = 21 := (hS_tI eh39 g37)
  obtain ⟨b41, hf⟩ := gb_some hf
  obtain ⟨h42, eh42, hf⟩ := lt_some hf
  refine g_iast (pc := 944) g40 b41 dX11_init_944 eh42 ?_
  refine g_dup (pc := 945) dX11_init_945 (rf_cat X _) ?_
  refine g_bipush (pc := 946) (v := (33 : Int32)) dX11_init_946 (by decide) ?_
  refine g_iconst (pc := 948) (v := (5 : Int32)) dX11_init_948 (by decide) ?_
  have g43 : hS h42 s1 = 21 := (hS_tI eh42 g40)
  obtain ⟨b44, hf⟩ := gb_some hf
  obtain ⟨h45, eh45, hf⟩ := lt_some hf
  refine g_iast (pc := 949) g43 b44 dX11_init_949 eh45 ?_
  refine g_dup (pc := 950) dX11_init_950 (rf_cat X _) ?_
  refine g_bipush (pc := 951) (v := (34 : Int32)) dX11_init_951 (by decide) ?_
  refine g_iconst (pc := 953) (v := (5 : Int32)) dX11_init_953 (by decide) ?_
  have g46 : hS h45 s1 = 21 := (hS_tI eh45 g43)
  obtain ⟨b47, hf⟩ := gb_some hf
  obtain ⟨h48, eh48, hf⟩ := lt_some hf
  refine g_iast (pc := 954) g46 b47 dX11_init_954 eh48 ?_
  exact ok_X11_init_L955 l X h48 a0 s0 s1 q hf
set_option maxRecDepth 100000 in
set_option maxHeartbeats 4000000 in
theorem ok_X11_init_L798 (l : Launch) (X : Cx) (h : AH) (a0 : Nat) (s0 : Nat) (s1 : Nat) (q : AH) (hf : f_X11_init_L798 h a0 s0 s1 = some q) : Go l X k_X11_init 798 [(0, rf X a0)] [rf X s1, rf X s0] h (rV q) := by
  unfold f_X11_init_L798 at hf
  refine g_dup (pc := 798) dX11_init_798 (rf_cat X _) ?_
  refine g_iconst (pc := 799) (v := (3 : Int32)) dX11_init_799 (by decide) ?_
  refine g_iconst (pc := 800) (v := (0 : Int32)) dX11_init_800 (by decide) ?_
  obtain ⟨g1, hf⟩ := gs_some hf
  obtain ⟨b2, hf⟩ := gb_some hf
  obtain ⟨h3, eh3, hf⟩ := lt_some hf
  refine g_iast (pc := 801) g1 b2 dX11_init_801 eh3 ?_
  refine g_dup (pc := 802) dX11_init_802 (rf_cat X _) ?_
  refine g_iconst (pc := 803) (v := (4 : Int32)) dX11_init_803 (by decide) ?_
  refine g_iconst (pc := 804) (v := (0 : Int32)) dX11_init_804 (by decide) ?_
  have g4 : hS h3 s1 = 21 := (hS_tI eh3 g1)
  obtain ⟨b5, hf⟩ := gb_some hf
  obtain ⟨h6, eh6, hf⟩ := lt_some hf
  refine g_iast (pc := 805) g4 b5 dX11_init_805 eh6 ?_
  refine g_dup (pc := 806) dX11_init_806 (rf_cat X _) ?_
  refine g_iconst (pc := 807) (v := (5 : Int32)) dX11_init_807 (by decide) ?_
  refine g_iconst (pc := 808) (v := (0 : Int32)) dX11_init_808 (by decide) ?_
  have g7 : hS h6 s1 = 21 := (hS_tI eh6 g4)
  obtain ⟨b8, hf⟩ := gb_some hf
  obtain ⟨h9, eh9, hf⟩ := lt_some hf
  refine g_iast (pc := 809) g7 b8 dX11_init_809 eh9 ?_
  refine g_dup (pc := 810) dX11_init_810 (rf_cat X _) ?_
  refine g_bipush (pc := 811) (v := (6 : Int32)) dX11_init_811 (by decide) ?_
  refine g_iconst (pc := 813) (v := (0 : Int32)) dX11_init_813 (by decide) ?_
  have g10 : hS h9 s1 = 21 := (hS_tI eh9 g7)
  obtain ⟨b11, hf⟩ := gb_some hf
  obtain ⟨h12, eh12, hf⟩ := lt_some hf
  refine g_iast (pc := 814) g10 b11 dX11_init_814 eh12 ?_
  refine g_dup (pc := 815) dX11_init_815 (rf_cat X _) ?_
  refine g_bipush (pc := 816) (v := (7 : Int32)) dX11_init_816 (by decide) ?_
  refine g_iconst (pc := 818) (v := (0 : Int32)) dX11_init_818 (by decide) ?_
  have g13 : hS h12 s1 = 21 := (hS_tI eh12 g10)
  obtain ⟨b14, hf⟩ := gb_some hf
  obtain ⟨h15, eh15, hf⟩ := lt_some hf
  refine g_iast (pc := 819) g13 b14 dX11_init_819 eh15 ?_
  refine g_dup (pc := 820) dX11_init_820 (rf_cat X _) ?_
  refine g_bipush (pc := 821) (v := (8 : Int32)) dX11_init_821 (by decide) ?_
  refine g_iconst (pc := 823) (v := (0 : Int32)) dX11_init_823 (by decide) ?_
  have g16 : hS h15 s1 = 21 := (hS_tI eh15 g13)
  obtain ⟨b17, hf⟩ := gb_some hf
  obtain ⟨h18, eh18, hf⟩ := lt_some hf
  refine g_iast (pc := 824) g16 b17 dX11_init_824 eh18 ?_
  refine g_dup (pc := 825) dX11_init_825 (rf_cat X _) ?_
  refine g_bipush (pc := 826) (v := (9 : Int32)) dX11_init_826 (by decide) ?_
  refine g_iconst (pc := 828) (v := (0 : Int32)) dX11_init_828 (by decide) ?_
  have g19 : hS h18 s1 = 21 := (hS_tI eh18 g16)
  obtain ⟨b20, hf⟩ := gb_some hf
  obtain ⟨h21, eh21, hf⟩ := lt_some hf
  refine g_iast (pc := 829) g19 b20 dX11_init_829 eh21 ?_
  refine g_dup (pc := 830) dX11_init_830 (rf_cat X _) ?_
  refine g_bipush (pc := 831) (v := (10 : Int32)) dX11_init_831 (by decide) ?_
  refine g_iconst (pc := 833) (v := (1 : Int32)) dX11_init_833 (by decide) ?_
  have g22 : hS h21 s1 = 21 := (hS_tI eh21 g19)
  obtain ⟨b23, hf⟩ := gb_some hf
  obtain ⟨h24, eh24, hf⟩ := lt_some hf
  refine g_iast (pc := 834) g22 b23 dX11_init_834 eh24 ?_
  refine g_dup (pc := 835) dX11_init_835 (rf_cat X _) ?_
  refine g_bipush (pc := 836) (v := (11 : Int32)) dX11_init_836 (by decide) ?_
  refine g_iconst (pc := 838) (v := (1 : Int32)) dX11_init_838 (by decide) ?_
  have g25 : hS h24 s1 = 21 := (hS_tI eh24 g22)
  obtain ⟨b26, hf⟩ := gb_some hf
  obtain ⟨h27, eh27, hf⟩ := lt_some hf
  refine g_iast (pc := 839) g25 b26 dX11_init_839 eh27 ?_
  refine g_dup (pc := 840) dX11_init_840 (rf_cat X _) ?_
  refine g_bipush (pc := 841) (v := (12 : Int32)) dX11_init_841 (by decide) ?_
  refine g_iconst (pc := 843) (v := (1 : Int32)) dX11_init_843 (by decide) ?_
  have g28 : hS h27 s1 = 21 := (hS_tI eh27 g25)
  obtain ⟨b29, hf⟩ := gb_some hf
  obtain ⟨h30, eh30, hf⟩ := lt_some hf
  refine g_iast (pc := 844) g28 b29 dX11_init_844 eh30 ?_
  refine g_dup (pc := 845) dX11_init_845 (rf_cat X _) ?_
  refine g_bipush (pc := 846) (v := (13 : Int32)) dX11_init_846 (by decide) ?_
  refine g_iconst (pc := 848) (v := (1 : Int32)) dX11_init_848 (by decide) ?_
  have g31 : hS h30 s1 = 21 := (hS_tI eh30 g28)
  obtain ⟨b32, hf⟩ := gb_some hf
  obtain ⟨h33, eh33, hf⟩ := lt_some hf
  refine g_iast (pc := 849) g31 b32 dX11_init_849 eh33 ?_
  refine g_dup (pc := 850) dX11_init_850 (rf_cat X _) ?_
  refine g_bipush (pc := 851) (v := (14 : Int32)) dX11_init_851 (by decide) ?_
  refine g_iconst (pc := 853) (v := (1 : Int32)) dX11_init_853 (by decide) ?_
  have g34 : hS h33 s1 = 21 := (hS_tI eh33 g31)
  obtain ⟨b35, hf⟩ := gb_some hf
  obtain ⟨h36, eh36, hf⟩ := lt_some hf
  refine g_iast (pc := 854) g34 b35 dX11_init_854 eh36 ?_
  refine g_dup (pc := 855) dX11_init_855 (rf_cat X _) ?_
  refine g_bipush (pc := 856) (v := (15 : Int32)) dX11_init_856 (by decide) ?_
  refine g_iconst (pc := 858) (v := (1 : Int32)) dX11_init_858 (by decide) ?_
  have g37 : hS h36 s1 = 21 := (hS_tI eh36 g34)
  obtain ⟨b38, hf⟩ := gb_some hf
  obtain ⟨h39, eh39, hf⟩ := lt_some hf
  refine g_iast (pc := 859) g37 b38 dX11_init_859 eh39 ?_
  refine g_dup (pc := 860) dX11_init_860 (rf_cat X _) ?_
  refine g_bipush (pc := 861) (v := (16 : Int32)) dX11_init_861 (by decide) ?_
  refine g_iconst (pc := 863) (v := (1 : Int32)) dX11_init_863 (by decide) ?_
  have g40 : hS h39 s1 = 21 := (hS_tI eh39 g37)
  obtain ⟨b41, hf⟩ := gb_some hf
  obtain ⟨h42, eh42, hf⟩ := lt_some hf
  refine g_iast (pc := 864) g40 b41 dX11_init_864 eh42 ?_
  refine g_dup (pc := 865) dX11_init_865 (rf_cat X _) ?_
  refine g_bipush (pc := 866) (v := (17 : Int32)) dX11_init_866 (by decide) ?_
  refine g_iconst (pc := 868) (v := (1 : Int32)) dX11_init_868 (by decide) ?_
  have g43 : hS h42 s1 = 21 := (hS_tI eh42 g40)
  obtain ⟨b44, hf⟩ := gb_some hf
  obtain ⟨h45, eh45, hf⟩ := lt_some hf
  refine g_iast (pc := 869) g43 b44 dX11_init_869 eh45 ?_
  refine g_dup (pc := 870) dX11_init_870 (rf_cat X _) ?_
  refine g_bipush (pc := 871) (v := (18 : Int32)) dX11_init_871 (by decide) ?_
  refine g_iconst (pc := 873) (v := (1 : Int32)) dX11_init_873 (by decide) ?_
  have g46 : hS h45 s1 = 21 := (hS_tI eh45 g43)
  obtain ⟨b47, hf⟩ := gb_some hf
  obtain ⟨h48, eh48, hf⟩ := lt_some hf
  refine g_iast (pc := 874) g46 b47 dX11_init_874 eh48 ?_
  exact ok_X11_init_L875 l X h48 a0 s0 s1 q hf
set_option maxRecDepth 100000 in
set_option maxHeartbeats 4000000 in
theorem ok_X11_init_L697 (l : Launch) (X : Cx) (h : AH) (a0 : Nat) (s0 : Nat) (s1 : Nat) (q : AH) (hf : f_X11_init_L697 h a0 s0 s1 = some q) : Go l X k_X11_init 697 [(0, rf X a0)] [rf X s1, rf X s0] h (rV q) := by
  unfold f_X11_init_L697 at hf
  refine g_dup (pc := 697) dX11_init_697 (rf_cat X _) ?_
  refine g_bipush (pc := 698) (v := (49 : Int32)) dX11_init_698 (by decide) ?_
  refine g_ldcS (pc := 700) 49 rfl rfl dX11_init_700 ?_
  obtain ⟨g1, hf⟩ := gs_some hf
  obtain ⟨b2, hf⟩ := gb_some hf
  obtain ⟨h3, eh3, hf⟩ := lt_some hf
  refine g_astS (pc := 702) g1 b2 (by decide) dX11_init_702 eh3 ?_
  refine g_dup (pc := 703) dX11_init_703 (rf_cat X _) ?_
  refine g_bipush (pc := 704) (v := (50 : Int32)) dX11_init_704 (by decide) ?_
  refine g_ldcS (pc := 706) 50 rfl rfl dX11_init_706 ?_
  have g4 : hS h3 s1 = 26 := (hS_tR eh3 g1)
  obtain ⟨b5, hf⟩ := gb_some hf
  obtain ⟨h6, eh6, hf⟩ := lt_some hf
  refine g_astS (pc := 708) g4 b5 (by decide) dX11_init_708 eh6 ?_
  refine g_dup (pc := 709) dX11_init_709 (rf_cat X _) ?_
  refine g_bipush (pc := 710) (v := (51 : Int32)) dX11_init_710 (by decide) ?_
  refine g_ldcS (pc := 712) 51 rfl rfl dX11_init_712 ?_
  have g7 : hS h6 s1 = 26 := (hS_tR eh6 g4)
  obtain ⟨b8, hf⟩ := gb_some hf
  obtain ⟨h9, eh9, hf⟩ := lt_some hf
  refine g_astS (pc := 714) g7 b8 (by decide) dX11_init_714 eh9 ?_
  refine g_dup (pc := 715) dX11_init_715 (rf_cat X _) ?_
  refine g_bipush (pc := 716) (v := (52 : Int32)) dX11_init_716 (by decide) ?_
  refine g_ldcSW (pc := 718) 52 rfl rfl dX11_init_718 ?_
  have g10 : hS h9 s1 = 26 := (hS_tR eh9 g7)
  obtain ⟨b11, hf⟩ := gb_some hf
  obtain ⟨h12, eh12, hf⟩ := lt_some hf
  refine g_astS (pc := 721) g10 b11 (by decide) dX11_init_721 eh12 ?_
  refine g_dup (pc := 722) dX11_init_722 (rf_cat X _) ?_
  refine g_bipush (pc := 723) (v := (53 : Int32)) dX11_init_723 (by decide) ?_
  refine g_ldcSW (pc := 725) 53 rfl rfl dX11_init_725 ?_
  have g13 : hS h12 s1 = 26 := (hS_tR eh12 g10)
  obtain ⟨b14, hf⟩ := gb_some hf
  obtain ⟨h15, eh15, hf⟩ := lt_some hf
  refine g_astS (pc := 728) g13 b14 (by decide) dX11_init_728 eh15 ?_
  refine g_dup (pc := 729) dX11_init_729 (rf_cat X _) ?_
  refine g_bipush (pc := 730) (v := (54 : Int32)) dX11_init_730 (by decide) ?_
  refine g_ldcSW (pc := 732) 54 rfl rfl dX11_init_732 ?_
  have g16 : hS h15 s1 = 26 := (hS_tR eh15 g13)
  obtain ⟨b17, hf⟩ := gb_some hf
  obtain ⟨h18, eh18, hf⟩ := lt_some hf
  refine g_astS (pc := 735) g16 b17 (by decide) dX11_init_735 eh18 ?_
  refine g_dup (pc := 736) dX11_init_736 (rf_cat X _) ?_
  refine g_bipush (pc := 737) (v := (55 : Int32)) dX11_init_737 (by decide) ?_
  refine g_ldcSW (pc := 739) 55 rfl rfl dX11_init_739 ?_
  have g19 : hS h18 s1 = 26 := (hS_tR eh18 g16)
  obtain ⟨b20, hf⟩ := gb_some hf
  obtain ⟨h21, eh21, hf⟩ := lt_some hf
  refine g_astS (pc := 742) g19 b20 (by decide) dX11_init_742 eh21 ?_
  refine g_dup (pc := 743) dX11_init_743 (rf_cat X _) ?_
  refine g_bipush (pc := 744) (v := (56 : Int32)) dX11_init_744 (by decide) ?_
  refine g_ldcSW (pc := 746) 56 rfl rfl dX11_init_746 ?_
  have g22 : hS h21 s1 = 26 := (hS_tR eh21 g19)
  obtain ⟨b23, hf⟩ := gb_some hf
  obtain ⟨h24, eh24, hf⟩ := lt_some hf
  refine g_astS (pc := 749) g22 b23 (by decide) dX11_init_749 eh24 ?_
  refine g_dup (pc := 750) dX11_init_750 (rf_cat X _) ?_
  refine g_bipush (pc := 751) (v := (57 : Int32)) dX11_init_751 (by decide) ?_
  refine g_ldcSW (pc := 753) 57 rfl rfl dX11_init_753 ?_
  have g25 : hS h24 s1 = 26 := (hS_tR eh24 g22)
  obtain ⟨b26, hf⟩ := gb_some hf
  obtain ⟨h27, eh27, hf⟩ := lt_some hf
  refine g_astS (pc := 756) g25 b26 (by decide) dX11_init_756 eh27 ?_
  refine g_dup (pc := 757) dX11_init_757 (rf_cat X _) ?_
  refine g_bipush (pc := 758) (v := (58 : Int32)) dX11_init_758 (by decide) ?_
  refine g_ldcSW (pc := 760) 58 rfl rfl dX11_init_760 ?_
  have g28 : hS h27 s1 = 26 := (hS_tR eh27 g25)
  obtain ⟨b29, hf⟩ := gb_some hf
  obtain ⟨h30, eh30, hf⟩ := lt_some hf
  refine g_astS (pc := 763) g28 b29 (by decide) dX11_init_763 eh30 ?_
  refine g_dup (pc := 764) dX11_init_764 (rf_cat X _) ?_
  refine g_bipush (pc := 765) (v := (59 : Int32)) dX11_init_765 (by decide) ?_
  refine g_ldcSW (pc := 767) 59 rfl rfl dX11_init_767 ?_
  have g31 : hS h30 s1 = 26 := (hS_tR eh30 g28)
  obtain ⟨b32, hf⟩ := gb_some hf
  obtain ⟨h33, eh33, hf⟩ := lt_some hf
  refine g_astS (pc := 770) g31 b32 (by decide) dX11_init_770 eh33 ?_
  refine g_dup (pc := 771) dX11_init_771 (rf_cat X _) ?_
  refine g_bipush (pc := 772) (v := (60 : Int32)) dX11_init_772 (by decide) ?_
  refine g_ldcSW (pc := 774) 60 rfl rfl dX11_init_774 ?_
  have g34 : hS h33 s1 = 26 := (hS_tR eh33 g31)
  obtain ⟨b35, hf⟩ := gb_some hf
  obtain ⟨h36, eh36, hf⟩ := lt_some hf
  refine g_astS (pc := 777) g34 b35 (by decide) dX11_init_777 eh36 ?_
  obtain ⟨g37, hf⟩ := gs_some hf
  obtain ⟨h38, eh38, hf⟩ := lt_some hf
  refine g_putRF (pc := 778) fl_X11_275 rfl (cl_own rfl) (Or.inr ⟨_, rfl⟩) dX11_init_778 g37 eh38 ?_
  refine g_aload_n (pc := 781) 0 dX11_init_781 rfl rfl ?_
  refine g_bipush (pc := 782) (v := (61 : Int32)) dX11_init_782 (by decide) ?_
  obtain ⟨h39, eh39, hf⟩ := lt_some hf
  refine g_newI (pc := 784) m_252 dX11_init_784 (by decide) eh39 ?_
  refine g_dup (pc := 786) dX11_init_786 (rf_cat X _) ?_
  refine g_iconst (pc := 787) (v := (0 : Int32)) dX11_init_787 (by decide) ?_
  refine g_iconst (pc := 788) (v := (0 : Int32)) dX11_init_788 (by decide) ?_
  have g40 : hS h39 (hZ h38 + 1) = 21 := (hS_nw eh39)
  obtain ⟨b41, hf⟩ := gb_some hf
  obtain ⟨h42, eh42, hf⟩ := lt_some hf
  refine g_iast (pc := 789) g40 b41 dX11_init_789 eh42 ?_
  refine g_dup (pc := 790) dX11_init_790 (rf_cat X _) ?_
  refine g_iconst (pc := 791) (v := (1 : Int32)) dX11_init_791 (by decide) ?_
  refine g_iconst (pc := 792) (v := (0 : Int32)) dX11_init_792 (by decide) ?_
  have g43 : hS h42 (hZ h38 + 1) = 21 := (hS_tI eh42 g40)
  obtain ⟨b44, hf⟩ := gb_some hf
  obtain ⟨h45, eh45, hf⟩ := lt_some hf
  refine g_iast (pc := 793) g43 b44 dX11_init_793 eh45 ?_
  refine g_dup (pc := 794) dX11_init_794 (rf_cat X _) ?_
  refine g_iconst (pc := 795) (v := (2 : Int32)) dX11_init_795 (by decide) ?_
  refine g_iconst (pc := 796) (v := (0 : Int32)) dX11_init_796 (by decide) ?_
  have g46 : hS h45 (hZ h38 + 1) = 21 := (hS_tI eh45 g43)
  obtain ⟨b47, hf⟩ := gb_some hf
  obtain ⟨h48, eh48, hf⟩ := lt_some hf
  refine g_iast (pc := 797) g46 b47 dX11_init_797 eh48 ?_
  exact ok_X11_init_L798 l X h48 a0 a0 (hZ h38 + 1) q hf
set_option maxRecDepth 100000 in
set_option maxHeartbeats 4000000 in
theorem ok_X11_init_L601 (l : Launch) (X : Cx) (h : AH) (a0 : Nat) (s0 : Nat) (s1 : Nat) (q : AH) (hf : f_X11_init_L601 h a0 s0 s1 = some q) : Go l X k_X11_init 601 [(0, rf X a0)] [rf X s1, rf X s0] h (rV q) := by
  unfold f_X11_init_L601 at hf
  refine g_dup (pc := 601) dX11_init_601 (rf_cat X _) ?_
  refine g_bipush (pc := 602) (v := (33 : Int32)) dX11_init_602 (by decide) ?_
  refine g_ldcS (pc := 604) 33 rfl rfl dX11_init_604 ?_
  obtain ⟨g1, hf⟩ := gs_some hf
  obtain ⟨b2, hf⟩ := gb_some hf
  obtain ⟨h3, eh3, hf⟩ := lt_some hf
  refine g_astS (pc := 606) g1 b2 (by decide) dX11_init_606 eh3 ?_
  refine g_dup (pc := 607) dX11_init_607 (rf_cat X _) ?_
  refine g_bipush (pc := 608) (v := (34 : Int32)) dX11_init_608 (by decide) ?_
  refine g_ldcS (pc := 610) 34 rfl rfl dX11_init_610 ?_
  have g4 : hS h3 s1 = 26 := (hS_tR eh3 g1)
  obtain ⟨b5, hf⟩ := gb_some hf
  obtain ⟨h6, eh6, hf⟩ := lt_some hf
  refine g_astS (pc := 612) g4 b5 (by decide) dX11_init_612 eh6 ?_
  refine g_dup (pc := 613) dX11_init_613 (rf_cat X _) ?_
  refine g_bipush (pc := 614) (v := (35 : Int32)) dX11_init_614 (by decide) ?_
  refine g_ldcS (pc := 616) 35 rfl rfl dX11_init_616 ?_
  have g7 : hS h6 s1 = 26 := (hS_tR eh6 g4)
  obtain ⟨b8, hf⟩ := gb_some hf
  obtain ⟨h9, eh9, hf⟩ := lt_some hf
  refine g_astS (pc := 618) g7 b8 (by decide) dX11_init_618 eh9 ?_
  refine g_dup (pc := 619) dX11_init_619 (rf_cat X _) ?_
  refine g_bipush (pc := 620) (v := (36 : Int32)) dX11_init_620 (by decide) ?_
  refine g_ldcS (pc := 622) 36 rfl rfl dX11_init_622 ?_
  have g10 : hS h9 s1 = 26 := (hS_tR eh9 g7)
  obtain ⟨b11, hf⟩ := gb_some hf
  obtain ⟨h12, eh12, hf⟩ := lt_some hf
  refine g_astS (pc := 624) g10 b11 (by decide) dX11_init_624 eh12 ?_
  refine g_dup (pc := 625) dX11_init_625 (rf_cat X _) ?_
  refine g_bipush (pc := 626) (v := (37 : Int32)) dX11_init_626 (by decide) ?_
  refine g_ldcS (pc := 628) 37 rfl rfl dX11_init_628 ?_
  have g13 : hS h12 s1 = 26 := (hS_tR eh12 g10)
  obtain ⟨b14, hf⟩ := gb_some hf
  obtain ⟨h15, eh15, hf⟩ := lt_some hf
  refine g_astS (pc := 630) g13 b14 (by decide) dX11_init_630 eh15 ?_
  refine g_dup (pc := 631) dX11_init_631 (rf_cat X _) ?_
  refine g_bipush (pc := 632) (v := (38 : Int32)) dX11_init_632 (by decide) ?_
  refine g_ldcS (pc := 634) 38 rfl rfl dX11_init_634 ?_
  have g16 : hS h15 s1 = 26 := (hS_tR eh15 g13)
  obtain ⟨b17, hf⟩ := gb_some hf
  obtain ⟨h18, eh18, hf⟩ := lt_some hf
  refine g_astS (pc := 636) g16 b17 (by decide) dX11_init_636 eh18 ?_
  refine g_dup (pc := 637) dX11_init_637 (rf_cat X _) ?_
  refine g_bipush (pc := 638) (v := (39 : Int32)) dX11_init_638 (by decide) ?_
  refine g_ldcS (pc := 640) 39 rfl rfl dX11_init_640 ?_
  have g19 : hS h18 s1 = 26 := (hS_tR eh18 g16)
  obtain ⟨b20, hf⟩ := gb_some hf
  obtain ⟨h21, eh21, hf⟩ := lt_some hf
  refine g_astS (pc := 642) g19 b20 (by decide) dX11_init_642 eh21 ?_
  refine g_dup (pc := 643) dX11_init_643 (rf_cat X _) ?_
  refine g_bipush (pc := 644) (v := (40 : Int32)) dX11_init_644 (by decide) ?_
  refine g_ldcS (pc := 646) 40 rfl rfl dX11_init_646 ?_
  have g22 : hS h21 s1 = 26 := (hS_tR eh21 g19)
  obtain ⟨b23, hf⟩ := gb_some hf
  obtain ⟨h24, eh24, hf⟩ := lt_some hf
  refine g_astS (pc := 648) g22 b23 (by decide) dX11_init_648 eh24 ?_
  refine g_dup (pc := 649) dX11_init_649 (rf_cat X _) ?_
  refine g_bipush (pc := 650) (v := (41 : Int32)) dX11_init_650 (by decide) ?_
  refine g_ldcS (pc := 652) 41 rfl rfl dX11_init_652 ?_
  have g25 : hS h24 s1 = 26 := (hS_tR eh24 g22)
  obtain ⟨b26, hf⟩ := gb_some hf
  obtain ⟨h27, eh27, hf⟩ := lt_some hf
  refine g_astS (pc := 654) g25 b26 (by decide) dX11_init_654 eh27 ?_
  refine g_dup (pc := 655) dX11_init_655 (rf_cat X _) ?_
  refine g_bipush (pc := 656) (v := (42 : Int32)) dX11_init_656 (by decide) ?_
  refine g_ldcS (pc := 658) 42 rfl rfl dX11_init_658 ?_
  have g28 : hS h27 s1 = 26 := (hS_tR eh27 g25)
  obtain ⟨b29, hf⟩ := gb_some hf
  obtain ⟨h30, eh30, hf⟩ := lt_some hf
  refine g_astS (pc := 660) g28 b29 (by decide) dX11_init_660 eh30 ?_
  refine g_dup (pc := 661) dX11_init_661 (rf_cat X _) ?_
  refine g_bipush (pc := 662) (v := (43 : Int32)) dX11_init_662 (by decide) ?_
  refine g_ldcS (pc := 664) 43 rfl rfl dX11_init_664 ?_
  have g31 : hS h30 s1 = 26 := (hS_tR eh30 g28)
  obtain ⟨b32, hf⟩ := gb_some hf
  obtain ⟨h33, eh33, hf⟩ := lt_some hf
  refine g_astS (pc := 666) g31 b32 (by decide) dX11_init_666 eh33 ?_
  refine g_dup (pc := 667) dX11_init_667 (rf_cat X _) ?_
  refine g_bipush (pc := 668) (v := (44 : Int32)) dX11_init_668 (by decide) ?_
  refine g_ldcS (pc := 670) 44 rfl rfl dX11_init_670 ?_
  have g34 : hS h33 s1 = 26 := (hS_tR eh33 g31)
  obtain ⟨b35, hf⟩ := gb_some hf
  obtain ⟨h36, eh36, hf⟩ := lt_some hf
  refine g_astS (pc := 672) g34 b35 (by decide) dX11_init_672 eh36 ?_
  refine g_dup (pc := 673) dX11_init_673 (rf_cat X _) ?_
  refine g_bipush (pc := 674) (v := (45 : Int32)) dX11_init_674 (by decide) ?_
  refine g_ldcS (pc := 676) 45 rfl rfl dX11_init_676 ?_
  have g37 : hS h36 s1 = 26 := (hS_tR eh36 g34)
  obtain ⟨b38, hf⟩ := gb_some hf
  obtain ⟨h39, eh39, hf⟩ := lt_some hf
  refine g_astS (pc := 678) g37 b38 (by decide) dX11_init_678 eh39 ?_
  refine g_dup (pc := 679) dX11_init_679 (rf_cat X _) ?_
  refine g_bipush (pc := 680) (v := (46 : Int32)) dX11_init_680 (by decide) ?_
  refine g_ldcS (pc := 682) 46 rfl rfl dX11_init_682 ?_
  have g40 : hS h39 s1 = 26 := (hS_tR eh39 g37)
  obtain ⟨b41, hf⟩ := gb_some hf
  obtain ⟨h42, eh42, hf⟩ := lt_some hf
  refine g_astS (pc := 684) g40 b41 (by decide) dX11_init_684 eh42 ?_
  refine g_dup (pc := 685) dX11_init_685 (rf_cat X _) ?_
  refine g_bipush (pc := 686) (v := (47 : Int32)) dX11_init_686 (by decide) ?_
  refine g_ldcS (pc := 688) 47 rfl rfl dX11_init_688 ?_
  have g43 : hS h42 s1 = 26 := (hS_tR eh42 g40)
  obtain ⟨b44, hf⟩ := gb_some hf
  obtain ⟨h45, eh45, hf⟩ := lt_some hf
  refine g_astS (pc := 690) g43 b44 (by decide) dX11_init_690 eh45 ?_
  refine g_dup (pc := 691) dX11_init_691 (rf_cat X _) ?_
  refine g_bipush (pc := 692) (v := (48 : Int32)) dX11_init_692 (by decide) ?_
  refine g_ldcS (pc := 694) 48 rfl rfl dX11_init_694 ?_
  have g46 : hS h45 s1 = 26 := (hS_tR eh45 g43)
  obtain ⟨b47, hf⟩ := gb_some hf
  obtain ⟨h48, eh48, hf⟩ := lt_some hf
  refine g_astS (pc := 696) g46 b47 (by decide) dX11_init_696 eh48 ?_
  exact ok_X11_init_L697 l X h48 a0 s0 s1 q hf
set_option maxRecDepth 100000 in
set_option maxHeartbeats 4000000 in
theorem ok_X11_init_L505 (l : Launch) (X : Cx) (h : AH) (a0 : Nat) (s0 : Nat) (s1 : Nat) (q : AH) (hf : f_X11_init_L505 h a0 s0 s1 = some q) : Go l X k_X11_init 505 [(0, rf X a0)] [rf X s1, rf X s0] h (rV q) := by
  unfold f_X11_init_L505 at hf
  refine g_dup (pc := 505) dX11_init_505 (rf_cat X _) ?_
  refine g_bipush (pc := 506) (v := (17 : Int32)) dX11_init_506 (by decide) ?_
  refine g_ldcS (pc := 508) 17 rfl rfl dX11_init_508 ?_
  obtain ⟨g1, hf⟩ := gs_some hf
  obtain ⟨b2, hf⟩ := gb_some hf
  obtain ⟨h3, eh3, hf⟩ := lt_some hf
  refine g_astS (pc := 510) g1 b2 (by decide) dX11_init_510 eh3 ?_
  refine g_dup (pc := 511) dX11_init_511 (rf_cat X _) ?_
  refine g_bipush (pc := 512) (v := (18 : Int32)) dX11_init_512 (by decide) ?_
  refine g_ldcS (pc := 514) 18 rfl rfl dX11_init_514 ?_
  have g4 : hS h3 s1 = 26 := (hS_tR eh3 g1)
  obtain ⟨b5, hf⟩ := gb_some hf
  obtain ⟨h6, eh6, hf⟩ := lt_some hf
  refine g_astS (pc := 516) g4 b5 (by decide) dX11_init_516 eh6 ?_
  refine g_dup (pc := 517) dX11_init_517 (rf_cat X _) ?_
  refine g_bipush (pc := 518) (v := (19 : Int32)) dX11_init_518 (by decide) ?_
  refine g_ldcS (pc := 520) 19 rfl rfl dX11_init_520 ?_
  have g7 : hS h6 s1 = 26 := (hS_tR eh6 g4)
  obtain ⟨b8, hf⟩ := gb_some hf
  obtain ⟨h9, eh9, hf⟩ := lt_some hf
  refine g_astS (pc := 522) g7 b8 (by decide) dX11_init_522 eh9 ?_
  refine g_dup (pc := 523) dX11_init_523 (rf_cat X _) ?_
  refine g_bipush (pc := 524) (v := (20 : Int32)) dX11_init_524 (by decide) ?_
  refine g_ldcS (pc := 526) 20 rfl rfl dX11_init_526 ?_
  have g10 : hS h9 s1 = 26 := (hS_tR eh9 g7)
  obtain ⟨b11, hf⟩ := gb_some hf
  obtain ⟨h12, eh12, hf⟩ := lt_some hf
  refine g_astS (pc := 528) g10 b11 (by decide) dX11_init_528 eh12 ?_
  refine g_dup (pc := 529) dX11_init_529 (rf_cat X _) ?_
  refine g_bipush (pc := 530) (v := (21 : Int32)) dX11_init_530 (by decide) ?_
  refine g_ldcS (pc := 532) 21 rfl rfl dX11_init_532 ?_
  have g13 : hS h12 s1 = 26 := (hS_tR eh12 g10)
  obtain ⟨b14, hf⟩ := gb_some hf
  obtain ⟨h15, eh15, hf⟩ := lt_some hf
  refine g_astS (pc := 534) g13 b14 (by decide) dX11_init_534 eh15 ?_
  refine g_dup (pc := 535) dX11_init_535 (rf_cat X _) ?_
  refine g_bipush (pc := 536) (v := (22 : Int32)) dX11_init_536 (by decide) ?_
  refine g_ldcS (pc := 538) 22 rfl rfl dX11_init_538 ?_
  have g16 : hS h15 s1 = 26 := (hS_tR eh15 g13)
  obtain ⟨b17, hf⟩ := gb_some hf
  obtain ⟨h18, eh18, hf⟩ := lt_some hf
  refine g_astS (pc := 540) g16 b17 (by decide) dX11_init_540 eh18 ?_
  refine g_dup (pc := 541) dX11_init_541 (rf_cat X _) ?_
  refine g_bipush (pc := 542) (v := (23 : Int32)) dX11_init_542 (by decide) ?_
  refine g_ldcS (pc := 544) 23 rfl rfl dX11_init_544 ?_
  have g19 : hS h18 s1 = 26 := (hS_tR eh18 g16)
  obtain ⟨b20, hf⟩ := gb_some hf
  obtain ⟨h21, eh21, hf⟩ := lt_some hf
  refine g_astS (pc := 546) g19 b20 (by decide) dX11_init_546 eh21 ?_
  refine g_dup (pc := 547) dX11_init_547 (rf_cat X _) ?_
  refine g_bipush (pc := 548) (v := (24 : Int32)) dX11_init_548 (by decide) ?_
  refine g_ldcS (pc := 550) 24 rfl rfl dX11_init_550 ?_
  have g22 : hS h21 s1 = 26 := (hS_tR eh21 g19)
  obtain ⟨b23, hf⟩ := gb_some hf
  obtain ⟨h24, eh24, hf⟩ := lt_some hf
  refine g_astS (pc := 552) g22 b23 (by decide) dX11_init_552 eh24 ?_
  refine g_dup (pc := 553) dX11_init_553 (rf_cat X _) ?_
  refine g_bipush (pc := 554) (v := (25 : Int32)) dX11_init_554 (by decide) ?_
  refine g_ldcS (pc := 556) 25 rfl rfl dX11_init_556 ?_
  have g25 : hS h24 s1 = 26 := (hS_tR eh24 g22)
  obtain ⟨b26, hf⟩ := gb_some hf
  obtain ⟨h27, eh27, hf⟩ := lt_some hf
  refine g_astS (pc := 558) g25 b26 (by decide) dX11_init_558 eh27 ?_
  refine g_dup (pc := 559) dX11_init_559 (rf_cat X _) ?_
  refine g_bipush (pc := 560) (v := (26 : Int32)) dX11_init_560 (by decide) ?_
  refine g_ldcS (pc := 562) 26 rfl rfl dX11_init_562 ?_
  have g28 : hS h27 s1 = 26 := (hS_tR eh27 g25)
  obtain ⟨b29, hf⟩ := gb_some hf
  obtain ⟨h30, eh30, hf⟩ := lt_some hf
  refine g_astS (pc := 564) g28 b29 (by decide) dX11_init_564 eh30 ?_
  refine g_dup (pc := 565) dX11_init_565 (rf_cat X _) ?_
  refine g_bipush (pc := 566) (v := (27 : Int32)) dX11_init_566 (by decide) ?_
  refine g_ldcS (pc := 568) 27 rfl rfl dX11_init_568 ?_
  have g31 : hS h30 s1 = 26 := (hS_tR eh30 g28)
  obtain ⟨b32, hf⟩ := gb_some hf
  obtain ⟨h33, eh33, hf⟩ := lt_some hf
  refine g_astS (pc := 570) g31 b32 (by decide) dX11_init_570 eh33 ?_
  refine g_dup (pc := 571) dX11_init_571 (rf_cat X _) ?_
  refine g_bipush (pc := 572) (v := (28 : Int32)) dX11_init_572 (by decide) ?_
  refine g_ldcS (pc := 574) 28 rfl rfl dX11_init_574 ?_
  have g34 : hS h33 s1 = 26 := (hS_tR eh33 g31)
  obtain ⟨b35, hf⟩ := gb_some hf
  obtain ⟨h36, eh36, hf⟩ := lt_some hf
  refine g_astS (pc := 576) g34 b35 (by decide) dX11_init_576 eh36 ?_
  refine g_dup (pc := 577) dX11_init_577 (rf_cat X _) ?_
  refine g_bipush (pc := 578) (v := (29 : Int32)) dX11_init_578 (by decide) ?_
  refine g_ldcS (pc := 580) 29 rfl rfl dX11_init_580 ?_
  have g37 : hS h36 s1 = 26 := (hS_tR eh36 g34)
  obtain ⟨b38, hf⟩ := gb_some hf
  obtain ⟨h39, eh39, hf⟩ := lt_some hf
  refine g_astS (pc := 582) g37 b38 (by decide) dX11_init_582 eh39 ?_
  refine g_dup (pc := 583) dX11_init_583 (rf_cat X _) ?_
  refine g_bipush (pc := 584) (v := (30 : Int32)) dX11_init_584 (by decide) ?_
  refine g_ldcS (pc := 586) 30 rfl rfl dX11_init_586 ?_
  have g40 : hS h39 s1 = 26 := (hS_tR eh39 g37)
  obtain ⟨b41, hf⟩ := gb_some hf
  obtain ⟨h42, eh42, hf⟩ := lt_some hf
  refine g_astS (pc := 588) g40 b41 (by decide) dX11_init_588 eh42 ?_
  refine g_dup (pc := 589) dX11_init_589 (rf_cat X _) ?_
  refine g_bipush (pc := 590) (v := (31 : Int32)) dX11_init_590 (by decide) ?_
  refine g_ldcS (pc := 592) 31 rfl rfl dX11_init_592 ?_
  have g43 : hS h42 s1 = 26 := (hS_tR eh42 g40)
  obtain ⟨b44, hf⟩ := gb_some hf
  obtain ⟨h45, eh45, hf⟩ := lt_some hf
  refine g_astS (pc := 594) g43 b44 (by decide) dX11_init_594 eh45 ?_
  refine g_dup (pc := 595) dX11_init_595 (rf_cat X _) ?_
  refine g_bipush (pc := 596) (v := (32 : Int32)) dX11_init_596 (by decide) ?_
  refine g_ldcS (pc := 598) 32 rfl rfl dX11_init_598 ?_
  have g46 : hS h45 s1 = 26 := (hS_tR eh45 g43)
  obtain ⟨b47, hf⟩ := gb_some hf
  obtain ⟨h48, eh48, hf⟩ := lt_some hf
  refine g_astS (pc := 600) g46 b47 (by decide) dX11_init_600 eh48 ?_
  exact ok_X11_init_L601 l X h48 a0 s0 s1 q hf
set_option maxRecDepth 100000 in
set_option maxHeartbeats 4000000 in
theorem ok_X11_init_L414 (l : Launch) (X : Cx) (h : AH) (a0 : Nat) (s0 : Nat) (s1 : Nat) (q : AH) (hf : f_X11_init_L414 h a0 s0 s1 = some q) : Go l X k_X11_init 414 [(0, rf X a0)] [rf X s1, rf X s0] h (rV q) := by
  unfold f_X11_init_L414 at hf
  refine g_dup (pc := 414) dX11_init_414 (rf_cat X _) ?_
  refine g_iconst (pc := 415) (v := (1 : Int32)) dX11_init_415 (by decide) ?_
  refine g_ldcS (pc := 416) 1 rfl rfl dX11_init_416 ?_
  obtain ⟨g1, hf⟩ := gs_some hf
  obtain ⟨b2, hf⟩ := gb_some hf
  obtain ⟨h3, eh3, hf⟩ := lt_some hf
  refine g_astS (pc := 418) g1 b2 (by decide) dX11_init_418 eh3 ?_
  refine g_dup (pc := 419) dX11_init_419 (rf_cat X _) ?_
  refine g_iconst (pc := 420) (v := (2 : Int32)) dX11_init_420 (by decide) ?_
  refine g_ldcS (pc := 421) 2 rfl rfl dX11_init_421 ?_
  have g4 : hS h3 s1 = 26 := (hS_tR eh3 g1)
  obtain ⟨b5, hf⟩ := gb_some hf
  obtain ⟨h6, eh6, hf⟩ := lt_some hf
  refine g_astS (pc := 423) g4 b5 (by decide) dX11_init_423 eh6 ?_
  refine g_dup (pc := 424) dX11_init_424 (rf_cat X _) ?_
  refine g_iconst (pc := 425) (v := (3 : Int32)) dX11_init_425 (by decide) ?_
  refine g_ldcS (pc := 426) 3 rfl rfl dX11_init_426 ?_
  have g7 : hS h6 s1 = 26 := (hS_tR eh6 g4)
  obtain ⟨b8, hf⟩ := gb_some hf
  obtain ⟨h9, eh9, hf⟩ := lt_some hf
  refine g_astS (pc := 428) g7 b8 (by decide) dX11_init_428 eh9 ?_
  refine g_dup (pc := 429) dX11_init_429 (rf_cat X _) ?_
  refine g_iconst (pc := 430) (v := (4 : Int32)) dX11_init_430 (by decide) ?_
  refine g_ldcS (pc := 431) 4 rfl rfl dX11_init_431 ?_
  have g10 : hS h9 s1 = 26 := (hS_tR eh9 g7)
  obtain ⟨b11, hf⟩ := gb_some hf
  obtain ⟨h12, eh12, hf⟩ := lt_some hf
  refine g_astS (pc := 433) g10 b11 (by decide) dX11_init_433 eh12 ?_
  refine g_dup (pc := 434) dX11_init_434 (rf_cat X _) ?_
  refine g_iconst (pc := 435) (v := (5 : Int32)) dX11_init_435 (by decide) ?_
  refine g_ldcS (pc := 436) 5 rfl rfl dX11_init_436 ?_
  have g13 : hS h12 s1 = 26 := (hS_tR eh12 g10)
  obtain ⟨b14, hf⟩ := gb_some hf
  obtain ⟨h15, eh15, hf⟩ := lt_some hf
  refine g_astS (pc := 438) g13 b14 (by decide) dX11_init_438 eh15 ?_
  refine g_dup (pc := 439) dX11_init_439 (rf_cat X _) ?_
  refine g_bipush (pc := 440) (v := (6 : Int32)) dX11_init_440 (by decide) ?_
  refine g_ldcS (pc := 442) 6 rfl rfl dX11_init_442 ?_
  have g16 : hS h15 s1 = 26 := (hS_tR eh15 g13)
  obtain ⟨b17, hf⟩ := gb_some hf
  obtain ⟨h18, eh18, hf⟩ := lt_some hf
  refine g_astS (pc := 444) g16 b17 (by decide) dX11_init_444 eh18 ?_
  refine g_dup (pc := 445) dX11_init_445 (rf_cat X _) ?_
  refine g_bipush (pc := 446) (v := (7 : Int32)) dX11_init_446 (by decide) ?_
  refine g_ldcS (pc := 448) 7 rfl rfl dX11_init_448 ?_
  have g19 : hS h18 s1 = 26 := (hS_tR eh18 g16)
  obtain ⟨b20, hf⟩ := gb_some hf
  obtain ⟨h21, eh21, hf⟩ := lt_some hf
  refine g_astS (pc := 450) g19 b20 (by decide) dX11_init_450 eh21 ?_
  refine g_dup (pc := 451) dX11_init_451 (rf_cat X _) ?_
  refine g_bipush (pc := 452) (v := (8 : Int32)) dX11_init_452 (by decide) ?_
  refine g_ldcS (pc := 454) 8 rfl rfl dX11_init_454 ?_
  have g22 : hS h21 s1 = 26 := (hS_tR eh21 g19)
  obtain ⟨b23, hf⟩ := gb_some hf
  obtain ⟨h24, eh24, hf⟩ := lt_some hf
  refine g_astS (pc := 456) g22 b23 (by decide) dX11_init_456 eh24 ?_
  refine g_dup (pc := 457) dX11_init_457 (rf_cat X _) ?_
  refine g_bipush (pc := 458) (v := (9 : Int32)) dX11_init_458 (by decide) ?_
  refine g_ldcS (pc := 460) 9 rfl rfl dX11_init_460 ?_
  have g25 : hS h24 s1 = 26 := (hS_tR eh24 g22)
  obtain ⟨b26, hf⟩ := gb_some hf
  obtain ⟨h27, eh27, hf⟩ := lt_some hf
  refine g_astS (pc := 462) g25 b26 (by decide) dX11_init_462 eh27 ?_
  refine g_dup (pc := 463) dX11_init_463 (rf_cat X _) ?_
  refine g_bipush (pc := 464) (v := (10 : Int32)) dX11_init_464 (by decide) ?_
  refine g_ldcS (pc := 466) 10 rfl rfl dX11_init_466 ?_
  have g28 : hS h27 s1 = 26 := (hS_tR eh27 g25)
  obtain ⟨b29, hf⟩ := gb_some hf
  obtain ⟨h30, eh30, hf⟩ := lt_some hf
  refine g_astS (pc := 468) g28 b29 (by decide) dX11_init_468 eh30 ?_
  refine g_dup (pc := 469) dX11_init_469 (rf_cat X _) ?_
  refine g_bipush (pc := 470) (v := (11 : Int32)) dX11_init_470 (by decide) ?_
  refine g_ldcS (pc := 472) 11 rfl rfl dX11_init_472 ?_
  have g31 : hS h30 s1 = 26 := (hS_tR eh30 g28)
  obtain ⟨b32, hf⟩ := gb_some hf
  obtain ⟨h33, eh33, hf⟩ := lt_some hf
  refine g_astS (pc := 474) g31 b32 (by decide) dX11_init_474 eh33 ?_
  refine g_dup (pc := 475) dX11_init_475 (rf_cat X _) ?_
  refine g_bipush (pc := 476) (v := (12 : Int32)) dX11_init_476 (by decide) ?_
  refine g_ldcS (pc := 478) 12 rfl rfl dX11_init_478 ?_
  have g34 : hS h33 s1 = 26 := (hS_tR eh33 g31)
  obtain ⟨b35, hf⟩ := gb_some hf
  obtain ⟨h36, eh36, hf⟩ := lt_some hf
  refine g_astS (pc := 480) g34 b35 (by decide) dX11_init_480 eh36 ?_
  refine g_dup (pc := 481) dX11_init_481 (rf_cat X _) ?_
  refine g_bipush (pc := 482) (v := (13 : Int32)) dX11_init_482 (by decide) ?_
  refine g_ldcS (pc := 484) 13 rfl rfl dX11_init_484 ?_
  have g37 : hS h36 s1 = 26 := (hS_tR eh36 g34)
  obtain ⟨b38, hf⟩ := gb_some hf
  obtain ⟨h39, eh39, hf⟩ := lt_some hf
  refine g_astS (pc := 486) g37 b38 (by decide) dX11_init_486 eh39 ?_
  refine g_dup (pc := 487) dX11_init_487 (rf_cat X _) ?_
  refine g_bipush (pc := 488) (v := (14 : Int32)) dX11_init_488 (by decide) ?_
  refine g_ldcS (pc := 490) 14 rfl rfl dX11_init_490 ?_
  have g40 : hS h39 s1 = 26 := (hS_tR eh39 g37)
  obtain ⟨b41, hf⟩ := gb_some hf
  obtain ⟨h42, eh42, hf⟩ := lt_some hf
  refine g_astS (pc := 492) g40 b41 (by decide) dX11_init_492 eh42 ?_
  refine g_dup (pc := 493) dX11_init_493 (rf_cat X _) ?_
  refine g_bipush (pc := 494) (v := (15 : Int32)) dX11_init_494 (by decide) ?_
  refine g_ldcS (pc := 496) 15 rfl rfl dX11_init_496 ?_
  have g43 : hS h42 s1 = 26 := (hS_tR eh42 g40)
  obtain ⟨b44, hf⟩ := gb_some hf
  obtain ⟨h45, eh45, hf⟩ := lt_some hf
  refine g_astS (pc := 498) g43 b44 (by decide) dX11_init_498 eh45 ?_
  refine g_dup (pc := 499) dX11_init_499 (rf_cat X _) ?_
  refine g_bipush (pc := 500) (v := (16 : Int32)) dX11_init_500 (by decide) ?_
  refine g_ldcS (pc := 502) 16 rfl rfl dX11_init_502 ?_
  have g46 : hS h45 s1 = 26 := (hS_tR eh45 g43)
  obtain ⟨b47, hf⟩ := gb_some hf
  obtain ⟨h48, eh48, hf⟩ := lt_some hf
  refine g_astS (pc := 504) g46 b47 (by decide) dX11_init_504 eh48 ?_
  exact ok_X11_init_L505 l X h48 a0 s0 s1 q hf
set_option maxRecDepth 100000 in
set_option maxHeartbeats 4000000 in
theorem ok_X11_init_L270 (l : Launch) (X : Cx) (h : AH) (a0 : Nat) (q : AH) (hf : f_X11_init_L270 h a0 = some q) : Go l X k_X11_init 270 [(0, rf X a0)] [] h (rV q) := by
  unfold f_X11_init_L270 at hf
  refine g_aload_n (pc := 270) 0 dX11_init_270 rfl rfl ?_
  refine g_sipush (pc := 271) (v := (512 : Int32)) dX11_init_271 (by decide) ?_
  obtain ⟨h1, eh1, hf⟩ := lt_some hf
  refine g_newI (pc := 274) m_252 dX11_init_274 (by decide) eh1 ?_
  obtain ⟨g2, hf⟩ := gs_some hf
  obtain ⟨h3, eh3, hf⟩ := lt_some hf
  refine g_putRF (pc := 276) fl_X11_105 rfl (cl_own rfl) (Or.inr ⟨_, rfl⟩) dX11_init_276 g2 eh3 ?_
  refine g_aload_n (pc := 279) 0 dX11_init_279 rfl rfl ?_
  refine g_sipush (pc := 280) (v := (512 : Int32)) dX11_init_280 (by decide) ?_
  obtain ⟨h4, eh4, hf⟩ := lt_some hf
  refine g_newI (pc := 283) m_252 dX11_init_283 (by decide) eh4 ?_
  obtain ⟨g5, hf⟩ := gs_some hf
  obtain ⟨h6, eh6, hf⟩ := lt_some hf
  refine g_putRF (pc := 285) fl_X11_108 rfl (cl_own rfl) (Or.inr ⟨_, rfl⟩) dX11_init_285 g5 eh6 ?_
  refine g_aload_n (pc := 288) 0 dX11_init_288 rfl rfl ?_
  refine g_sipush (pc := 289) (v := (512 : Int32)) dX11_init_289 (by decide) ?_
  obtain ⟨h7, eh7, hf⟩ := lt_some hf
  refine g_newI (pc := 292) m_252 dX11_init_292 (by decide) eh7 ?_
  obtain ⟨g8, hf⟩ := gs_some hf
  obtain ⟨h9, eh9, hf⟩ := lt_some hf
  refine g_putRF (pc := 294) fl_X11_111 rfl (cl_own rfl) (Or.inr ⟨_, rfl⟩) dX11_init_294 g8 eh9 ?_
  refine g_aload_n (pc := 297) 0 dX11_init_297 rfl rfl ?_
  refine g_sipush (pc := 298) (v := (512 : Int32)) dX11_init_298 (by decide) ?_
  obtain ⟨h10, eh10, hf⟩ := lt_some hf
  refine g_newI (pc := 301) m_252 dX11_init_301 (by decide) eh10 ?_
  obtain ⟨g11, hf⟩ := gs_some hf
  obtain ⟨h12, eh12, hf⟩ := lt_some hf
  refine g_putRF (pc := 303) fl_X11_114 rfl (cl_own rfl) (Or.inr ⟨_, rfl⟩) dX11_init_303 g11 eh12 ?_
  refine g_aload_n (pc := 306) 0 dX11_init_306 rfl rfl ?_
  refine g_sipush (pc := 307) (v := (2048 : Int32)) dX11_init_307 (by decide) ?_
  obtain ⟨h13, eh13, hf⟩ := lt_some hf
  refine g_newI (pc := 310) m_252 dX11_init_310 (by decide) eh13 ?_
  obtain ⟨g14, hf⟩ := gs_some hf
  obtain ⟨h15, eh15, hf⟩ := lt_some hf
  refine g_putRF (pc := 312) fl_X11_117 rfl (cl_own rfl) (Or.inr ⟨_, rfl⟩) dX11_init_312 g14 eh15 ?_
  refine g_aload_n (pc := 315) 0 dX11_init_315 rfl rfl ?_
  refine g_sipush (pc := 316) (v := (512 : Int32)) dX11_init_316 (by decide) ?_
  obtain ⟨h16, eh16, hf⟩ := lt_some hf
  refine g_newZ (pc := 319) m_346 dX11_init_319 (by decide) eh16 ?_
  obtain ⟨g17, hf⟩ := gs_some hf
  obtain ⟨h18, eh18, hf⟩ := lt_some hf
  refine g_putRF (pc := 321) fl_X11_120 rfl (cl_own rfl) (Or.inr ⟨_, rfl⟩) dX11_init_321 g17 eh18 ?_
  refine g_aload_n (pc := 324) 0 dX11_init_324 rfl rfl ?_
  refine g_sipush (pc := 325) (v := (512 : Int32)) dX11_init_325 (by decide) ?_
  obtain ⟨h19, eh19, hf⟩ := lt_some hf
  refine g_newI (pc := 328) m_252 dX11_init_328 (by decide) eh19 ?_
  obtain ⟨g20, hf⟩ := gs_some hf
  obtain ⟨h21, eh21, hf⟩ := lt_some hf
  refine g_putRF (pc := 330) fl_X11_123 rfl (cl_own rfl) (Or.inr ⟨_, rfl⟩) dX11_init_330 g20 eh21 ?_
  refine g_aload_n (pc := 333) 0 dX11_init_333 rfl rfl ?_
  refine g_sipush (pc := 334) (v := (512 : Int32)) dX11_init_334 (by decide) ?_
  obtain ⟨h22, eh22, hf⟩ := lt_some hf
  refine g_newI (pc := 337) m_252 dX11_init_337 (by decide) eh22 ?_
  obtain ⟨g23, hf⟩ := gs_some hf
  obtain ⟨h24, eh24, hf⟩ := lt_some hf
  refine g_putRF (pc := 339) fl_X11_126 rfl (cl_own rfl) (Or.inr ⟨_, rfl⟩) dX11_init_339 g23 eh24 ?_
  refine g_aload_n (pc := 342) 0 dX11_init_342 rfl rfl ?_
  refine g_sipush (pc := 343) (v := (512 : Int32)) dX11_init_343 (by decide) ?_
  obtain ⟨h25, eh25, hf⟩ := lt_some hf
  refine g_newI (pc := 346) m_252 dX11_init_346 (by decide) eh25 ?_
  obtain ⟨g26, hf⟩ := gs_some hf
  obtain ⟨h27, eh27, hf⟩ := lt_some hf
  refine g_putRF (pc := 348) fl_X11_129 rfl (cl_own rfl) (Or.inr ⟨_, rfl⟩) dX11_init_348 g26 eh27 ?_
  refine g_aload_n (pc := 351) 0 dX11_init_351 rfl rfl ?_
  refine g_sipush (pc := 352) (v := (512 : Int32)) dX11_init_352 (by decide) ?_
  obtain ⟨h28, eh28, hf⟩ := lt_some hf
  refine g_newI (pc := 355) m_252 dX11_init_355 (by decide) eh28 ?_
  obtain ⟨g29, hf⟩ := gs_some hf
  obtain ⟨h30, eh30, hf⟩ := lt_some hf
  refine g_putRF (pc := 357) fl_X11_132 rfl (cl_own rfl) (Or.inr ⟨_, rfl⟩) dX11_init_357 g29 eh30 ?_
  refine g_aload_n (pc := 360) 0 dX11_init_360 rfl rfl ?_
  refine g_sipush (pc := 361) (v := (512 : Int32)) dX11_init_361 (by decide) ?_
  obtain ⟨h31, eh31, hf⟩ := lt_some hf
  refine g_newI (pc := 364) m_252 dX11_init_364 (by decide) eh31 ?_
  obtain ⟨g32, hf⟩ := gs_some hf
  obtain ⟨h33, eh33, hf⟩ := lt_some hf
  refine g_putRF (pc := 366) fl_X11_135 rfl (cl_own rfl) (Or.inr ⟨_, rfl⟩) dX11_init_366 g32 eh33 ?_
  refine g_aload_n (pc := 369) 0 dX11_init_369 rfl rfl ?_
  refine g_sipush (pc := 370) (v := (512 : Int32)) dX11_init_370 (by decide) ?_
  obtain ⟨h34, eh34, hf⟩ := lt_some hf
  refine g_newI (pc := 373) m_252 dX11_init_373 (by decide) eh34 ?_
  obtain ⟨g35, hf⟩ := gs_some hf
  obtain ⟨h36, eh36, hf⟩ := lt_some hf
  refine g_putRF (pc := 375) fl_X11_138 rfl (cl_own rfl) (Or.inr ⟨_, rfl⟩) dX11_init_375 g35 eh36 ?_
  refine g_aload_n (pc := 378) 0 dX11_init_378 rfl rfl ?_
  refine g_sipush (pc := 379) (v := (700 : Int32)) dX11_init_379 (by decide) ?_
  obtain ⟨h37, eh37, hf⟩ := lt_some hf
  refine g_newI (pc := 382) m_252 dX11_init_382 (by decide) eh37 ?_
  obtain ⟨g38, hf⟩ := gs_some hf
  obtain ⟨h39, eh39, hf⟩ := lt_some hf
  refine g_putRF (pc := 384) fl_X11_141 rfl (cl_own rfl) (Or.inr ⟨_, rfl⟩) dX11_init_384 g38 eh39 ?_
  refine g_aload_n (pc := 387) 0 dX11_init_387 rfl rfl ?_
  refine g_ldc (pc := 388) (v := (75600 : Int32)) m_1311 dX11_init_388 ?_
  obtain ⟨h40, eh40, hf⟩ := lt_some hf
  refine g_newI (pc := 390) m_252 dX11_init_390 (by decide) eh40 ?_
  obtain ⟨g41, hf⟩ := gs_some hf
  obtain ⟨h42, eh42, hf⟩ := lt_some hf
  refine g_putRF (pc := 392) fl_X11_145 rfl (cl_own rfl) (Or.inr ⟨_, rfl⟩) dX11_init_392 g41 eh42 ?_
  refine g_aload_n (pc := 395) 0 dX11_init_395 rfl rfl ?_
  refine g_bipush (pc := 396) (v := (9 : Int32)) dX11_init_396 (by decide) ?_
  obtain ⟨h43, eh43, hf⟩ := lt_some hf
  refine g_newI (pc := 398) m_252 dX11_init_398 (by decide) eh43 ?_
  obtain ⟨g44, hf⟩ := gs_some hf
  obtain ⟨h45, eh45, hf⟩ := lt_some hf
  refine g_putRF (pc := 400) fl_X11_148 rfl (cl_own rfl) (Or.inr ⟨_, rfl⟩) dX11_init_400 g44 eh45 ?_
  refine g_aload_n (pc := 403) 0 dX11_init_403 rfl rfl ?_
  refine g_bipush (pc := 404) (v := (61 : Int32)) dX11_init_404 (by decide) ?_
  obtain ⟨h46, eh46, hf⟩ := lt_some hf
  refine g_newQS (pc := 406) m_1312 dX11_init_406 (by decide) eh46 ?_
  refine g_dup (pc := 409) dX11_init_409 (rf_cat X _) ?_
  refine g_iconst (pc := 410) (v := (0 : Int32)) dX11_init_410 (by decide) ?_
  refine g_ldcS (pc := 411) 0 rfl rfl dX11_init_411 ?_
  have g47 : hS h46 (hZ h45 + 1) = 26 := (hS_nw eh46)
  obtain ⟨b48, hf⟩ := gb_some hf
  obtain ⟨h49, eh49, hf⟩ := lt_some hf
  refine g_astS (pc := 413) g47 b48 (by decide) dX11_init_413 eh49 ?_
  exact ok_X11_init_L414 l X h49 a0 a0 (hZ h45 + 1) q hf
set_option maxRecDepth 100000 in
set_option maxHeartbeats 4000000 in
theorem ok_X11_init_L136 (l : Launch) (X : Cx) (h : AH) (a0 : Nat) (q : AH) (hf : f_X11_init_L136 h a0 = some q) : Go l X k_X11_init 136 [(0, rf X a0)] [] h (rV q) := by
  unfold f_X11_init_L136 at hf
  refine g_aload_n (pc := 136) 0 dX11_init_136 rfl rfl ?_
  refine g_sipush (pc := 137) (v := (2048 : Int32)) dX11_init_137 (by decide) ?_
  obtain ⟨h1, eh1, hf⟩ := lt_some hf
  refine g_newI (pc := 140) m_252 dX11_init_140 (by decide) eh1 ?_
  obtain ⟨g2, hf⟩ := gs_some hf
  obtain ⟨h3, eh3, hf⟩ := lt_some hf
  refine g_putRF (pc := 142) fl_X11_56 rfl (cl_own rfl) (Or.inr ⟨_, rfl⟩) dX11_init_142 g2 eh3 ?_
  refine g_aload_n (pc := 145) 0 dX11_init_145 rfl rfl ?_
  refine g_sipush (pc := 146) (v := (512 : Int32)) dX11_init_146 (by decide) ?_
  obtain ⟨h4, eh4, hf⟩ := lt_some hf
  refine g_newI (pc := 149) m_252 dX11_init_149 (by decide) eh4 ?_
  obtain ⟨g5, hf⟩ := gs_some hf
  obtain ⟨h6, eh6, hf⟩ := lt_some hf
  refine g_putRF (pc := 151) fl_X11_59 rfl (cl_own rfl) (Or.inr ⟨_, rfl⟩) dX11_init_151 g5 eh6 ?_
  refine g_aload_n (pc := 154) 0 dX11_init_154 rfl rfl ?_
  refine g_bipush (pc := 155) (v := (16 : Int32)) dX11_init_155 (by decide) ?_
  obtain ⟨h7, eh7, hf⟩ := lt_some hf
  refine g_newI (pc := 157) m_252 dX11_init_157 (by decide) eh7 ?_
  obtain ⟨g8, hf⟩ := gs_some hf
  obtain ⟨h9, eh9, hf⟩ := lt_some hf
  refine g_putRF (pc := 159) fl_X11_62 rfl (cl_own rfl) (Or.inr ⟨_, rfl⟩) dX11_init_159 g8 eh9 ?_
  refine g_aload_n (pc := 162) 0 dX11_init_162 rfl rfl ?_
  refine g_bipush (pc := 163) (v := (16 : Int32)) dX11_init_163 (by decide) ?_
  obtain ⟨h10, eh10, hf⟩ := lt_some hf
  refine g_newI (pc := 165) m_252 dX11_init_165 (by decide) eh10 ?_
  obtain ⟨g11, hf⟩ := gs_some hf
  obtain ⟨h12, eh12, hf⟩ := lt_some hf
  refine g_putRF (pc := 167) fl_X11_65 rfl (cl_own rfl) (Or.inr ⟨_, rfl⟩) dX11_init_167 g11 eh12 ?_
  refine g_aload_n (pc := 170) 0 dX11_init_170 rfl rfl ?_
  refine g_bipush (pc := 171) (v := (16 : Int32)) dX11_init_171 (by decide) ?_
  obtain ⟨h13, eh13, hf⟩ := lt_some hf
  refine g_newI (pc := 173) m_252 dX11_init_173 (by decide) eh13 ?_
  obtain ⟨g14, hf⟩ := gs_some hf
  obtain ⟨h15, eh15, hf⟩ := lt_some hf
  refine g_putRF (pc := 175) fl_X11_68 rfl (cl_own rfl) (Or.inr ⟨_, rfl⟩) dX11_init_175 g14 eh15 ?_
  refine g_aload_n (pc := 178) 0 dX11_init_178 rfl rfl ?_
  refine g_bipush (pc := 179) (v := (16 : Int32)) dX11_init_179 (by decide) ?_
  obtain ⟨h16, eh16, hf⟩ := lt_some hf
  refine g_newI (pc := 181) m_252 dX11_init_181 (by decide) eh16 ?_
  obtain ⟨g17, hf⟩ := gs_some hf
  obtain ⟨h18, eh18, hf⟩ := lt_some hf
  refine g_putRF (pc := 183) fl_X11_71 rfl (cl_own rfl) (Or.inr ⟨_, rfl⟩) dX11_init_183 g17 eh18 ?_
  refine g_aload_n (pc := 186) 0 dX11_init_186 rfl rfl ?_
  refine g_bipush (pc := 187) (v := (16 : Int32)) dX11_init_187 (by decide) ?_
  obtain ⟨h19, eh19, hf⟩ := lt_some hf
  refine g_newI (pc := 189) m_252 dX11_init_189 (by decide) eh19 ?_
  obtain ⟨g20, hf⟩ := gs_some hf
  obtain ⟨h21, eh21, hf⟩ := lt_some hf
  refine g_putRF (pc := 191) fl_X11_74 rfl (cl_own rfl) (Or.inr ⟨_, rfl⟩) dX11_init_191 g20 eh21 ?_
  refine g_aload_n (pc := 194) 0 dX11_init_194 rfl rfl ?_
  refine g_sipush (pc := 195) (v := (256 : Int32)) dX11_init_195 (by decide) ?_
  obtain ⟨h22, eh22, hf⟩ := lt_some hf
  refine g_newI (pc := 198) m_252 dX11_init_198 (by decide) eh22 ?_
  obtain ⟨g23, hf⟩ := gs_some hf
  obtain ⟨h24, eh24, hf⟩ := lt_some hf
  refine g_putRF (pc := 200) fl_X11_77 rfl (cl_own rfl) (Or.inr ⟨_, rfl⟩) dX11_init_200 g23 eh24 ?_
  refine g_aload_n (pc := 203) 0 dX11_init_203 rfl rfl ?_
  refine g_sipush (pc := 204) (v := (256 : Int32)) dX11_init_204 (by decide) ?_
  obtain ⟨h25, eh25, hf⟩ := lt_some hf
  refine g_newI (pc := 207) m_252 dX11_init_207 (by decide) eh25 ?_
  obtain ⟨g26, hf⟩ := gs_some hf
  obtain ⟨h27, eh27, hf⟩ := lt_some hf
  refine g_putRF (pc := 209) fl_X11_80 rfl (cl_own rfl) (Or.inr ⟨_, rfl⟩) dX11_init_209 g26 eh27 ?_
  refine g_aload_n (pc := 212) 0 dX11_init_212 rfl rfl ?_
  refine g_sipush (pc := 213) (v := (256 : Int32)) dX11_init_213 (by decide) ?_
  obtain ⟨h28, eh28, hf⟩ := lt_some hf
  refine g_newI (pc := 216) m_252 dX11_init_216 (by decide) eh28 ?_
  obtain ⟨g29, hf⟩ := gs_some hf
  obtain ⟨h30, eh30, hf⟩ := lt_some hf
  refine g_putRF (pc := 218) fl_X11_83 rfl (cl_own rfl) (Or.inr ⟨_, rfl⟩) dX11_init_218 g29 eh30 ?_
  refine g_aload_n (pc := 221) 0 dX11_init_221 rfl rfl ?_
  refine g_bipush (pc := 222) (v := (16 : Int32)) dX11_init_222 (by decide) ?_
  obtain ⟨h31, eh31, hf⟩ := lt_some hf
  refine g_newI (pc := 224) m_252 dX11_init_224 (by decide) eh31 ?_
  obtain ⟨g32, hf⟩ := gs_some hf
  obtain ⟨h33, eh33, hf⟩ := lt_some hf
  refine g_putRF (pc := 226) fl_X11_86 rfl (cl_own rfl) (Or.inr ⟨_, rfl⟩) dX11_init_226 g32 eh33 ?_
  refine g_aload_n (pc := 229) 0 dX11_init_229 rfl rfl ?_
  refine g_bipush (pc := 230) (v := (16 : Int32)) dX11_init_230 (by decide) ?_
  obtain ⟨h34, eh34, hf⟩ := lt_some hf
  refine g_newI (pc := 232) m_252 dX11_init_232 (by decide) eh34 ?_
  obtain ⟨g35, hf⟩ := gs_some hf
  obtain ⟨h36, eh36, hf⟩ := lt_some hf
  refine g_putRF (pc := 234) fl_X11_89 rfl (cl_own rfl) (Or.inr ⟨_, rfl⟩) dX11_init_234 g35 eh36 ?_
  refine g_aload_n (pc := 237) 0 dX11_init_237 rfl rfl ?_
  refine g_bipush (pc := 238) (v := (16 : Int32)) dX11_init_238 (by decide) ?_
  obtain ⟨h37, eh37, hf⟩ := lt_some hf
  refine g_newZ (pc := 240) m_346 dX11_init_240 (by decide) eh37 ?_
  obtain ⟨g38, hf⟩ := gs_some hf
  obtain ⟨h39, eh39, hf⟩ := lt_some hf
  refine g_putRF (pc := 242) fl_X11_92 rfl (cl_own rfl) (Or.inr ⟨_, rfl⟩) dX11_init_242 g38 eh39 ?_
  refine g_aload_n (pc := 245) 0 dX11_init_245 rfl rfl ?_
  refine g_bipush (pc := 246) (v := (16 : Int32)) dX11_init_246 (by decide) ?_
  obtain ⟨h40, eh40, hf⟩ := lt_some hf
  refine g_newI (pc := 248) m_252 dX11_init_248 (by decide) eh40 ?_
  obtain ⟨g41, hf⟩ := gs_some hf
  obtain ⟨h42, eh42, hf⟩ := lt_some hf
  refine g_putRF (pc := 250) fl_X11_96 rfl (cl_own rfl) (Or.inr ⟨_, rfl⟩) dX11_init_250 g41 eh42 ?_
  refine g_aload_n (pc := 253) 0 dX11_init_253 rfl rfl ?_
  refine g_bipush (pc := 254) (v := (16 : Int32)) dX11_init_254 (by decide) ?_
  obtain ⟨h43, eh43, hf⟩ := lt_some hf
  refine g_newI (pc := 256) m_252 dX11_init_256 (by decide) eh43 ?_
  obtain ⟨g44, hf⟩ := gs_some hf
  obtain ⟨h45, eh45, hf⟩ := lt_some hf
  refine g_putRF (pc := 258) fl_X11_99 rfl (cl_own rfl) (Or.inr ⟨_, rfl⟩) dX11_init_258 g44 eh45 ?_
  refine g_aload_n (pc := 261) 0 dX11_init_261 rfl rfl ?_
  refine g_sipush (pc := 262) (v := (3584 : Int32)) dX11_init_262 (by decide) ?_
  obtain ⟨h46, eh46, hf⟩ := lt_some hf
  refine g_newI (pc := 265) m_252 dX11_init_265 (by decide) eh46 ?_
  obtain ⟨g47, hf⟩ := gs_some hf
  obtain ⟨h48, eh48, hf⟩ := lt_some hf
  refine g_putRF (pc := 267) fl_X11_102 rfl (cl_own rfl) (Or.inr ⟨_, rfl⟩) dX11_init_267 g47 eh48 ?_
  exact ok_X11_init_L270 l X h48 a0 q hf
set_option maxRecDepth 100000 in
set_option maxHeartbeats 4000000 in
theorem ok_X11_init (l : Launch) (X : Cx) {h : AH} {a0 : Nat} {q : AH} (hf : f_X11_init h a0 = some q) : Go l X k_X11_init 0 [(0, rf X a0)] [] h (rV q) := by
  unfold f_X11_init at hf
  refine g_aload_n (pc := 0) 0 dX11_init_0 rfl rfl ?_
  obtain ⟨g1, hf⟩ := gs_some hf
  refine g_objInit (pc := 1) m_1310 m_154 m_155 g1 (by decide) (by decide) (by decide) (by simp [rf_cat, rq_cat, ca_i, ca_l, ca_r]) dX11_init_1 ?_
  refine g_aload_n (pc := 4) 0 dX11_init_4 rfl rfl ?_
  refine g_sipush (pc := 5) (v := (1500 : Int32)) dX11_init_5 (by decide) ?_
  obtain ⟨h2, eh2, hf⟩ := lt_some hf
  refine g_newI (pc := 8) m_252 dX11_init_8 (by decide) eh2 ?_
  obtain ⟨g3, hf⟩ := gs_some hf
  obtain ⟨h4, eh4, hf⟩ := lt_some hf
  refine g_putRF (pc := 10) fl_X11_7 rfl (cl_own rfl) (Or.inr ⟨_, rfl⟩) dX11_init_10 g3 eh4 ?_
  refine g_aload_n (pc := 13) 0 dX11_init_13 rfl rfl ?_
  refine g_sipush (pc := 14) (v := (1502 : Int32)) dX11_init_14 (by decide) ?_
  obtain ⟨h5, eh5, hf⟩ := lt_some hf
  refine g_newI (pc := 17) m_252 dX11_init_17 (by decide) eh5 ?_
  obtain ⟨g6, hf⟩ := gs_some hf
  obtain ⟨h7, eh7, hf⟩ := lt_some hf
  refine g_putRF (pc := 19) fl_X11_13 rfl (cl_own rfl) (Or.inr ⟨_, rfl⟩) dX11_init_19 g6 eh7 ?_
  refine g_aload_n (pc := 22) 0 dX11_init_22 rfl rfl ?_
  refine g_sipush (pc := 23) (v := (1502 : Int32)) dX11_init_23 (by decide) ?_
  obtain ⟨h8, eh8, hf⟩ := lt_some hf
  refine g_newI (pc := 26) m_252 dX11_init_26 (by decide) eh8 ?_
  obtain ⟨g9, hf⟩ := gs_some hf
  obtain ⟨h10, eh10, hf⟩ := lt_some hf
  refine g_putRF (pc := 28) fl_X11_16 rfl (cl_own rfl) (Or.inr ⟨_, rfl⟩) dX11_init_28 g9 eh10 ?_
  refine g_aload_n (pc := 31) 0 dX11_init_31 rfl rfl ?_
  refine g_sipush (pc := 32) (v := (1502 : Int32)) dX11_init_32 (by decide) ?_
  obtain ⟨h11, eh11, hf⟩ := lt_some hf
  refine g_newJ (pc := 35) m_253 dX11_init_35 (by decide) eh11 ?_
  obtain ⟨g12, hf⟩ := gs_some hf
  obtain ⟨h13, eh13, hf⟩ := lt_some hf
  refine g_putRF (pc := 37) fl_X11_19 rfl (cl_own rfl) (Or.inr ⟨_, rfl⟩) dX11_init_37 g12 eh13 ?_
  refine g_aload_n (pc := 40) 0 dX11_init_40 rfl rfl ?_
  refine g_sipush (pc := 41) (v := (760 : Int32)) dX11_init_41 (by decide) ?_
  obtain ⟨h14, eh14, hf⟩ := lt_some hf
  refine g_newJ (pc := 44) m_253 dX11_init_44 (by decide) eh14 ?_
  obtain ⟨g15, hf⟩ := gs_some hf
  obtain ⟨h16, eh16, hf⟩ := lt_some hf
  refine g_putRF (pc := 46) fl_X11_23 rfl (cl_own rfl) (Or.inr ⟨_, rfl⟩) dX11_init_46 g15 eh16 ?_
  refine g_aload_n (pc := 49) 0 dX11_init_49 rfl rfl ?_
  refine g_sipush (pc := 50) (v := (760 : Int32)) dX11_init_50 (by decide) ?_
  obtain ⟨h17, eh17, hf⟩ := lt_some hf
  refine g_newI (pc := 53) m_252 dX11_init_53 (by decide) eh17 ?_
  obtain ⟨g18, hf⟩ := gs_some hf
  obtain ⟨h19, eh19, hf⟩ := lt_some hf
  refine g_putRF (pc := 55) fl_X11_26 rfl (cl_own rfl) (Or.inr ⟨_, rfl⟩) dX11_init_55 g18 eh19 ?_
  refine g_aload_n (pc := 58) 0 dX11_init_58 rfl rfl ?_
  refine g_sipush (pc := 59) (v := (700 : Int32)) dX11_init_59 (by decide) ?_
  obtain ⟨h20, eh20, hf⟩ := lt_some hf
  refine g_newI (pc := 62) m_252 dX11_init_62 (by decide) eh20 ?_
  obtain ⟨g21, hf⟩ := gs_some hf
  obtain ⟨h22, eh22, hf⟩ := lt_some hf
  refine g_putRF (pc := 64) fl_X11_29 rfl (cl_own rfl) (Or.inr ⟨_, rfl⟩) dX11_init_64 g21 eh22 ?_
  refine g_aload_n (pc := 67) 0 dX11_init_67 rfl rfl ?_
  refine g_sipush (pc := 68) (v := (700 : Int32)) dX11_init_68 (by decide) ?_
  obtain ⟨h23, eh23, hf⟩ := lt_some hf
  refine g_newI (pc := 71) m_252 dX11_init_71 (by decide) eh23 ?_
  obtain ⟨g24, hf⟩ := gs_some hf
  obtain ⟨h25, eh25, hf⟩ := lt_some hf
  refine g_putRF (pc := 73) fl_X11_32 rfl (cl_own rfl) (Or.inr ⟨_, rfl⟩) dX11_init_73 g24 eh25 ?_
  refine g_aload_n (pc := 76) 0 dX11_init_76 rfl rfl ?_
  refine g_sipush (pc := 77) (v := (700 : Int32)) dX11_init_77 (by decide) ?_
  obtain ⟨h26, eh26, hf⟩ := lt_some hf
  refine g_newI (pc := 80) m_252 dX11_init_80 (by decide) eh26 ?_
  obtain ⟨g27, hf⟩ := gs_some hf
  obtain ⟨h28, eh28, hf⟩ := lt_some hf
  refine g_putRF (pc := 82) fl_X11_35 rfl (cl_own rfl) (Or.inr ⟨_, rfl⟩) dX11_init_82 g27 eh28 ?_
  refine g_aload_n (pc := 85) 0 dX11_init_85 rfl rfl ?_
  refine g_sipush (pc := 86) (v := (700 : Int32)) dX11_init_86 (by decide) ?_
  obtain ⟨h29, eh29, hf⟩ := lt_some hf
  refine g_newJ (pc := 89) m_253 dX11_init_89 (by decide) eh29 ?_
  obtain ⟨g30, hf⟩ := gs_some hf
  obtain ⟨h31, eh31, hf⟩ := lt_some hf
  refine g_putRF (pc := 91) fl_X11_38 rfl (cl_own rfl) (Or.inr ⟨_, rfl⟩) dX11_init_91 g30 eh31 ?_
  refine g_aload_n (pc := 94) 0 dX11_init_94 rfl rfl ?_
  refine g_sipush (pc := 95) (v := (700 : Int32)) dX11_init_95 (by decide) ?_
  obtain ⟨h32, eh32, hf⟩ := lt_some hf
  refine g_newI (pc := 98) m_252 dX11_init_98 (by decide) eh32 ?_
  obtain ⟨g33, hf⟩ := gs_some hf
  obtain ⟨h34, eh34, hf⟩ := lt_some hf
  refine g_putRF (pc := 100) fl_X11_41 rfl (cl_own rfl) (Or.inr ⟨_, rfl⟩) dX11_init_100 g33 eh34 ?_
  refine g_aload_n (pc := 103) 0 dX11_init_103 rfl rfl ?_
  refine g_bipush (pc := 104) (v := (16 : Int32)) dX11_init_104 (by decide) ?_
  obtain ⟨h35, eh35, hf⟩ := lt_some hf
  refine g_newI (pc := 106) m_252 dX11_init_106 (by decide) eh35 ?_
  obtain ⟨g36, hf⟩ := gs_some hf
  obtain ⟨h37, eh37, hf⟩ := lt_some hf
  refine g_putRF (pc := 108) fl_X11_44 rfl (cl_own rfl) (Or.inr ⟨_, rfl⟩) dX11_init_108 g36 eh37 ?_
  refine g_aload_n (pc := 111) 0 dX11_init_111 rfl rfl ?_
  refine g_bipush (pc := 112) (v := (6 : Int32)) dX11_init_112 (by decide) ?_
  obtain ⟨h38, eh38, hf⟩ := lt_some hf
  refine g_newI (pc := 114) m_252 dX11_init_114 (by decide) eh38 ?_
  obtain ⟨g39, hf⟩ := gs_some hf
  obtain ⟨h40, eh40, hf⟩ := lt_some hf
  refine g_putRF (pc := 116) fl_X11_47 rfl (cl_own rfl) (Or.inr ⟨_, rfl⟩) dX11_init_116 g39 eh40 ?_
  refine g_aload_n (pc := 119) 0 dX11_init_119 rfl rfl ?_
  refine g_bipush (pc := 120) (v := (6 : Int32)) dX11_init_120 (by decide) ?_
  obtain ⟨h41, eh41, hf⟩ := lt_some hf
  refine g_newI (pc := 122) m_252 dX11_init_122 (by decide) eh41 ?_
  obtain ⟨g42, hf⟩ := gs_some hf
  obtain ⟨h43, eh43, hf⟩ := lt_some hf
  refine g_putRF (pc := 124) fl_X11_50 rfl (cl_own rfl) (Or.inr ⟨_, rfl⟩) dX11_init_124 g42 eh43 ?_
  refine g_aload_n (pc := 127) 0 dX11_init_127 rfl rfl ?_
  refine g_sipush (pc := 128) (v := (2048 : Int32)) dX11_init_128 (by decide) ?_
  obtain ⟨h44, eh44, hf⟩ := lt_some hf
  refine g_newI (pc := 131) m_252 dX11_init_131 (by decide) eh44 ?_
  obtain ⟨g45, hf⟩ := gs_some hf
  obtain ⟨h46, eh46, hf⟩ := lt_some hf
  refine g_putRF (pc := 133) fl_X11_53 rfl (cl_own rfl) (Or.inr ⟨_, rfl⟩) dX11_init_133 g45 eh46 ?_
  exact ok_X11_init_L136 l X h46 a0 q hf
theorem ct_X11_init (l : Launch) (X : Cx) {h : AH} {a0 : Nat} {q : AH} (hf : f_X11_init h a0 = some q) : Ct l X k_X11_init [rf X a0] h (rV q) := ct_of ck_X11_init (by simp [lg_sl, rf_cat, rq_cat, ca_i, ca_l, ca_r]) (by simp [lv_args, rf_cat, rq_cat, ca_i, ca_l, ca_r]) (ok_X11_init l X hf)
set_option maxRecDepth 100000 in
set_option maxHeartbeats 4000000 in
theorem ok_X11_thrown (l : Launch) (X : Cx) {h : AH} {a0 : Nat} {q : Int32} (hf : f_X11_thrown h a0 = some q) : Go l X k_X11_thrown 0 [(0, rf X a0)] [] h (rI (q, h)) := by
  unfold f_X11_thrown at hf
  refine g_aload_n (pc := 0) 0 dX11_thrown_0 rfl rfl ?_
  obtain ⟨g1, hf⟩ := gs_some hf
  refine g_getI (pc := 1) fl_X11_306 dX11_thrown_1 g1 ?_
  obtain rfl := Option.some.inj hf
  exact g_iret (pc := 4) rfl dX11_thrown_4
theorem ct_X11_thrown (l : Launch) (X : Cx) {h : AH} {a0 : Nat} {q : Int32} (hf : f_X11_thrown h a0 = some q) : Ct l X k_X11_thrown [rf X a0] h (rI (q, h)) := ct_of ck_X11_thrown (by simp [lg_sl, rf_cat, rq_cat, ca_i, ca_l, ca_r]) (by simp [lv_args, rf_cat, rq_cat, ca_i, ca_l, ca_r]) (ok_X11_thrown l X hf)
set_option maxRecDepth 100000 in
set_option maxHeartbeats 4000000 in
theorem ok_X11_raise (l : Launch) (X : Cx) {h : AH} {a0 : Nat} {a1 : Int32} {q : Int32 × AH} (hf : f_X11_raise h a0 a1 = some q) : Go l X k_X11_raise 0 [(0, rf X a0), (1, .int a1)] [] h (rI q) := by
  unfold f_X11_raise at hf
  refine g_aload_n (pc := 0) 0 dX11_raise_0 rfl rfl ?_
  refine g_iload_n (pc := 1) 1 dX11_raise_1 rfl rfl ?_
  obtain ⟨g1, hf⟩ := gs_some hf
  obtain ⟨h2, eh2, hf⟩ := lt_some hf
  refine g_putI (pc := 2) fl_X11_306 dX11_raise_2 g1 eh2 ?_
  refine g_iconst (pc := 5) (v := (0 : Int32)) dX11_raise_5 (by decide) ?_
  obtain rfl := Option.some.inj hf
  exact g_iret (pc := 6) rfl dX11_raise_6
theorem ct_X11_raise (l : Launch) (X : Cx) {h : AH} {a0 : Nat} {a1 : Int32} {q : Int32 × AH} (hf : f_X11_raise h a0 a1 = some q) : Ct l X k_X11_raise [rf X a0, .int a1] h (rI q) := ct_of ck_X11_raise (by simp [lg_sl, rf_cat, rq_cat, ca_i, ca_l, ca_r]) (by simp [lv_args, rf_cat, rq_cat, ca_i, ca_l, ca_r]) (ok_X11_raise l X hf)
