set_option maxRecDepth 20000 in
theorem CL_X1 : CL 0 RX1 TX1 18 tyX1 := ⟨rfl, by decide, gw_of [215, 217, 219, 221, 223, 225, 227, 229, 231, 233, 235, 237, 239, 241, 243, 245, 247, 249] (by decide +kernel) (by decide +kernel), tyX1_ok, nmX1, rfl⟩
theorem nw_X1 : ∀ j, j < 18 → ∃ t, (fk 0)[j]? = some t ∧ defaultValue (tyX1 j) = if t = 0 then .int 0 else if t = 1 then .long 0 else .null := nw_of (by decide +kernel)
set_option maxRecDepth 20000 in
theorem CL_X2 : CL 1 RX2 TX2 7 tyX2 := ⟨rfl, by decide, gw_of [389, 391, 393, 395, 397, 399, 401] (by decide +kernel) (by decide +kernel), tyX2_ok, nmX2, rfl⟩
theorem nw_X2 : ∀ j, j < 7 → ∃ t, (fk 1)[j]? = some t ∧ defaultValue (tyX2 j) = if t = 0 then .int 0 else if t = 1 then .long 0 else .null := nw_of (by decide +kernel)
set_option maxRecDepth 20000 in
theorem CL_X3 : CL 2 RX3 TX3 17 tyX3 := ⟨rfl, by decide, gw_of [456, 458, 460, 462, 464, 466, 468, 470, 472, 474, 476, 478, 480, 482, 484, 486, 488] (by decide +kernel) (by decide +kernel), tyX3_ok, nmX3, rfl⟩
theorem nw_X3 : ∀ j, j < 17 → ∃ t, (fk 2)[j]? = some t ∧ defaultValue (tyX3 j) = if t = 0 then .int 0 else if t = 1 then .long 0 else .null := nw_of (by decide +kernel)
set_option maxRecDepth 20000 in
theorem CL_X4 : CL 3 RX4 TX4 17 tyX4 := ⟨rfl, by decide, gw_of [311, 313, 315, 317, 319, 321, 323, 325, 327, 329, 331, 333, 335, 337, 339, 341, 343] (by decide +kernel) (by decide +kernel), tyX4_ok, nmX4, rfl⟩
theorem nw_X4 : ∀ j, j < 17 → ∃ t, (fk 3)[j]? = some t ∧ defaultValue (tyX4 j) = if t = 0 then .int 0 else if t = 1 then .long 0 else .null := nw_of (by decide +kernel)
set_option maxRecDepth 20000 in
theorem CL_X6 : CL 4 RX6 TX6 4 tyX6 := ⟨rfl, by decide, gw_of [267, 269, 271, 273] (by decide +kernel) (by decide +kernel), tyX6_ok, nmX6, rfl⟩
theorem nw_X6 : ∀ j, j < 4 → ∃ t, (fk 4)[j]? = some t ∧ defaultValue (tyX6 j) = if t = 0 then .int 0 else if t = 1 then .long 0 else .null := nw_of (by decide +kernel)
set_option maxRecDepth 20000 in
theorem CL_X7 : CL 5 RX7 TX7 3 tyX7 := ⟨rfl, by decide, gw_of [364, 366, 368] (by decide +kernel) (by decide +kernel), tyX7_ok, nmX7, rfl⟩
theorem nw_X7 : ∀ j, j < 3 → ∃ t, (fk 5)[j]? = some t ∧ defaultValue (tyX7 j) = if t = 0 then .int 0 else if t = 1 then .long 0 else .null := nw_of (by decide +kernel)
set_option maxRecDepth 20000 in
theorem CL_X8 : CL 6 RX8 TX8 6 tyX8 := ⟨rfl, by decide, gw_of [174, 176, 178, 180, 182, 184] (by decide +kernel) (by decide +kernel), tyX8_ok, nmX8, rfl⟩
theorem nw_X8 : ∀ j, j < 6 → ∃ t, (fk 6)[j]? = some t ∧ defaultValue (tyX8 j) = if t = 0 then .int 0 else if t = 1 then .long 0 else .null := nw_of (by decide +kernel)
set_option maxRecDepth 20000 in
theorem CL_X9 : CL 7 RX9 TX9 2 tyX9 := ⟨rfl, by decide, gw_of [414, 416] (by decide +kernel) (by decide +kernel), tyX9_ok, nmX9, rfl⟩
theorem nw_X9 : ∀ j, j < 2 → ∃ t, (fk 7)[j]? = some t ∧ defaultValue (tyX9 j) = if t = 0 then .int 0 else if t = 1 then .long 0 else .null := nw_of (by decide +kernel)
set_option maxRecDepth 20000 in
theorem CL_X10 : CL 8 RX10 TX10 11 tyX10 := ⟨rfl, by decide, gw_of [502, 504, 506, 508, 510, 512, 514, 516, 518, 520, 522] (by decide +kernel) (by decide +kernel), tyX10_ok, nmX10, rfl⟩
theorem nw_X10 : ∀ j, j < 11 → ∃ t, (fk 8)[j]? = some t ∧ defaultValue (tyX10 j) = if t = 0 then .int 0 else if t = 1 then .long 0 else .null := nw_of (by decide +kernel)
set_option maxRecDepth 20000 in
theorem CL_X11 : CL 9 RX11 TX11 81 tyX11 := ⟨rfl, by decide, gw_of [1475, 1477, 1479, 1481, 1483, 1485, 1487, 1489, 1491, 1493, 1495, 1497, 1499, 1501, 1503, 1505, 1507, 1509, 1511, 1513, 1515, 1517, 1519, 1521, 1523, 1525, 1527, 1529, 1531, 1533, 1535, 1537, 1539, 1541, 1543, 1545, 1547, 1549, 1551, 1553, 1555, 1557, 1559, 1561, 1563, 1565, 1567, 1569, 1571, 1573, 1575, 1577, 1579, 1581, 1583, 1585, 1587, 1589, 1591, 1593, 1595, 1597, 1599, 1601, 1603, 1605, 1607, 1609, 1611, 1613, 1615, 1617, 1619, 1621, 1623, 1625, 1627, 1629, 1631, 1633, 1635] (by decide +kernel) (by decide +kernel), tyX11_ok, nmX11, rfl⟩
theorem nw_X11 : ∀ j, j < 81 → ∃ t, (fk 9)[j]? = some t ∧ defaultValue (tyX11 j) = if t = 0 then .int 0 else if t = 1 then .long 0 else .null := nw_of (by decide +kernel)
