/-! NAMES: the law's tables (printed by wip/gen/mk72.py) -/
def T_La_14_0 : List (Nat × RowE) := [(1363, .aload_n 1, 1, 1364, 0, 1, 0, 0, 0),
  (1364, .aload_n 0, 1, 1365, 0, 0, 0, 0, 0),
  (1365, .iload 4, 2, 1367, 0, 4, 0, 0, 0),
  (1367, .iconst 1, 1, 1368, 0, 0, 0, 1, 0),
  (1368, .iadd, 1, 1369, 0, 0, 0, 0, 0),
  (1369, .iaload, 1, 1370, 0, 0, 0, 0, 0),
  (1370, .aload_n 3, 1, 1371, 0, 3, 0, 0, 0),
  (1371, .invokestatic 138, 3, 1374, 0, 0, 0, 0, 0),
  (1374, .istore 5, 2, 1376, 0, 5, 0, 0, 0),
  (1376, .aload_n 2, 1, 1377, 0, 2, 0, 0, 0),
  (1377, .aload_n 0, 1, 1378, 0, 0, 0, 0, 0),
  (1378, .iload 4, 2, 1380, 0, 4, 0, 0, 0),
  (1380, .iconst 1, 1, 1381, 0, 0, 0, 1, 0),
  (1381, .iadd, 1, 1382, 0, 0, 0, 0, 0),
  (1382, .iaload, 1, 1383, 0, 0, 0, 0, 0),
  (1383, .invokevirtual 140, 3, 1386, 0, 0, 0, 0, 0),
  (1386, .istore 6, 2, 1388, 0, 6, 0, 0, 0),
  (1388, .aload_n 2, 1, 1389, 0, 2, 0, 0, 0),
  (1389, .invokevirtual 87, 3, 1392, 0, 0, 0, 0, 0),
  (1392, .iload 5, 2, 1394, 0, 5, 0, 0, 0),
  (1394, .if_icmp .eq 5, 3, 1397, 1399, 0, 0, 0, 0),
  (1397, .iconst 0, 1, 1398, 0, 0, 0, 0, 0),
  (1398, .ireturn, 1, 1399, 0, 0, 0, 0, 0),
  (1399, .iload 5, 2, 1401, 0, 5, 0, 0, 0),
  (1401, .ifCond .ne 15, 3, 1404, 1416, 0, 0, 0, 0),
  (1404, .aload_n 3, 1, 1405, 0, 3, 0, 0, 0),
  (1405, .iconst 0, 1, 1406, 0, 0, 0, 0, 0),
  (1406, .laload, 1, 1407, 0, 0, 0, 0, 0),
  (1407, .iload 6, 2, 1409, 0, 6, 0, 0, 0),
  (1409, .i2l, 1, 1410, 0, 0, 0, 0, 0)]
set_option maxRecDepth 20000 in
theorem tk_La_14_0 : T_La_14_0.all (rowOk code "TogetherOrdersLaw" wg 7 cls) = true := by decide +kernel
def T_La_14_1 : List (Nat × RowE) := [(1410, .lcmp, 1, 1411, 0, 0, 0, 0, 0),
  (1411, .ifCond .eq 5, 3, 1414, 1416, 0, 0, 0, 0),
  (1414, .iconst 0, 1, 1415, 0, 0, 0, 0, 0),
  (1415, .ireturn, 1, 1416, 0, 0, 0, 0, 0),
  (1416, .goto 253, 3, 1419, 1669, 0, 0, 0, 0)]
set_option maxRecDepth 20000 in
theorem tk_La_14_1 : T_La_14_1.all (rowOk code "TogetherOrdersLaw" wg 7 cls) = true := by decide +kernel
def T_La_14 : List (Nat × RowE) := T_La_14_0 ++ T_La_14_1
theorem tk_La_14 : T_La_14.all (rowOk code "TogetherOrdersLaw" wg 7 cls) = true := by
  unfold T_La_14
  simp only [List.all_append, tk_La_14_0, tk_La_14_1, Bool.and_self]
def T_La_15_0 : List (Nat × RowE) := [(1419, .aload_n 1, 1, 1420, 0, 1, 0, 0, 0),
  (1420, .aload_n 0, 1, 1421, 0, 0, 0, 0, 0),
  (1421, .iload 4, 2, 1423, 0, 4, 0, 0, 0),
  (1423, .iconst 1, 1, 1424, 0, 0, 0, 1, 0),
  (1424, .iadd, 1, 1425, 0, 0, 0, 0, 0),
  (1425, .iaload, 1, 1426, 0, 0, 0, 0, 0),
  (1426, .aload_n 0, 1, 1427, 0, 0, 0, 0, 0),
  (1427, .iload 4, 2, 1429, 0, 4, 0, 0, 0),
  (1429, .iconst 2, 1, 1430, 0, 0, 0, 2, 0),
  (1430, .iadd, 1, 1431, 0, 0, 0, 0, 0),
  (1431, .iaload, 1, 1432, 0, 0, 0, 0, 0),
  (1432, .aload_n 0, 1, 1433, 0, 0, 0, 0, 0),
  (1433, .iload 4, 2, 1435, 0, 4, 0, 0, 0),
  (1435, .iconst 3, 1, 1436, 0, 0, 0, 3, 0),
  (1436, .iadd, 1, 1437, 0, 0, 0, 0, 0),
  (1437, .iaload, 1, 1438, 0, 0, 0, 0, 0),
  (1438, .aload_n 3, 1, 1439, 0, 3, 0, 0, 0),
  (1439, .invokestatic 141, 3, 1442, 0, 0, 0, 0, 0),
  (1442, .istore 5, 2, 1444, 0, 5, 0, 0, 0),
  (1444, .aload_n 2, 1, 1445, 0, 2, 0, 0, 0),
  (1445, .aload_n 0, 1, 1446, 0, 0, 0, 0, 0),
  (1446, .iload 4, 2, 1448, 0, 4, 0, 0, 0),
  (1448, .iconst 1, 1, 1449, 0, 0, 0, 1, 0),
  (1449, .iadd, 1, 1450, 0, 0, 0, 0, 0),
  (1450, .iaload, 1, 1451, 0, 0, 0, 0, 0),
  (1451, .aload_n 0, 1, 1452, 0, 0, 0, 0, 0),
  (1452, .iload 4, 2, 1454, 0, 4, 0, 0, 0),
  (1454, .iconst 2, 1, 1455, 0, 0, 0, 2, 0),
  (1455, .iadd, 1, 1456, 0, 0, 0, 0, 0),
  (1456, .iaload, 1, 1457, 0, 0, 0, 0, 0)]
set_option maxRecDepth 20000 in
theorem tk_La_15_0 : T_La_15_0.all (rowOk code "TogetherOrdersLaw" wg 7 cls) = true := by decide +kernel
def T_La_15_1 : List (Nat × RowE) := [(1457, .aload_n 0, 1, 1458, 0, 0, 0, 0, 0),
  (1458, .iload 4, 2, 1460, 0, 4, 0, 0, 0),
  (1460, .iconst 3, 1, 1461, 0, 0, 0, 3, 0),
  (1461, .iadd, 1, 1462, 0, 0, 0, 0, 0),
  (1462, .iaload, 1, 1463, 0, 0, 0, 0, 0),
  (1463, .invokevirtual 144, 3, 1466, 0, 0, 0, 0, 0),
  (1466, .istore 6, 2, 1468, 0, 6, 0, 0, 0),
  (1468, .aload_n 2, 1, 1469, 0, 2, 0, 0, 0),
  (1469, .invokevirtual 87, 3, 1472, 0, 0, 0, 0, 0),
  (1472, .iload 5, 2, 1474, 0, 5, 0, 0, 0),
  (1474, .if_icmp .eq 5, 3, 1477, 1479, 0, 0, 0, 0),
  (1477, .iconst 0, 1, 1478, 0, 0, 0, 0, 0),
  (1478, .ireturn, 1, 1479, 0, 0, 0, 0, 0),
  (1479, .iload 5, 2, 1481, 0, 5, 0, 0, 0),
  (1481, .ifCond .ne 22, 3, 1484, 1503, 0, 0, 0, 0),
  (1484, .aload_n 3, 1, 1485, 0, 3, 0, 0, 0),
  (1485, .iconst 0, 1, 1486, 0, 0, 0, 0, 0),
  (1486, .laload, 1, 1487, 0, 0, 0, 0, 0),
  (1487, .iload 6, 2, 1489, 0, 6, 0, 0, 0),
  (1489, .ifCond .eq 7, 3, 1492, 1496, 0, 0, 0, 0),
  (1492, .lconst 1, 1, 1493, 0, 0, 0, 0, 1),
  (1493, .goto 4, 3, 1496, 1497, 0, 0, 0, 0),
  (1496, .lconst 0, 1, 1497, 0, 0, 0, 0, 0),
  (1497, .lcmp, 1, 1498, 0, 0, 0, 0, 0),
  (1498, .ifCond .eq 5, 3, 1501, 1503, 0, 0, 0, 0),
  (1501, .iconst 0, 1, 1502, 0, 0, 0, 0, 0),
  (1502, .ireturn, 1, 1503, 0, 0, 0, 0, 0),
  (1503, .goto 166, 3, 1506, 1669, 0, 0, 0, 0)]
set_option maxRecDepth 20000 in
theorem tk_La_15_1 : T_La_15_1.all (rowOk code "TogetherOrdersLaw" wg 7 cls) = true := by decide +kernel
def T_La_15 : List (Nat × RowE) := T_La_15_0 ++ T_La_15_1
theorem tk_La_15 : T_La_15.all (rowOk code "TogetherOrdersLaw" wg 7 cls) = true := by
  unfold T_La_15
  simp only [List.all_append, tk_La_15_0, tk_La_15_1, Bool.and_self]
def T_La_16_0 : List (Nat × RowE) := [(1506, .aload_n 1, 1, 1507, 0, 1, 0, 0, 0),
  (1507, .aload_n 3, 1, 1508, 0, 3, 0, 0, 0),
  (1508, .invokestatic 145, 3, 1511, 0, 0, 0, 0, 0),
  (1511, .istore 5, 2, 1513, 0, 5, 0, 0, 0),
  (1513, .aload_n 2, 1, 1514, 0, 2, 0, 0, 0),
  (1514, .invokevirtual 147, 3, 1517, 0, 0, 0, 0, 0),
  (1517, .istore 6, 2, 1519, 0, 6, 0, 0, 0),
  (1519, .aload_n 2, 1, 1520, 0, 2, 0, 0, 0),
  (1520, .invokevirtual 87, 3, 1523, 0, 0, 0, 0, 0),
  (1523, .iload 5, 2, 1525, 0, 5, 0, 0, 0),
  (1525, .if_icmp .eq 5, 3, 1528, 1530, 0, 0, 0, 0),
  (1528, .iconst 0, 1, 1529, 0, 0, 0, 0, 0),
  (1529, .ireturn, 1, 1530, 0, 0, 0, 0, 0),
  (1530, .iload 5, 2, 1532, 0, 5, 0, 0, 0),
  (1532, .ifCond .ne 22, 3, 1535, 1554, 0, 0, 0, 0),
  (1535, .aload_n 3, 1, 1536, 0, 3, 0, 0, 0),
  (1536, .iconst 0, 1, 1537, 0, 0, 0, 0, 0),
  (1537, .laload, 1, 1538, 0, 0, 0, 0, 0),
  (1538, .iload 6, 2, 1540, 0, 6, 0, 0, 0),
  (1540, .ifCond .eq 7, 3, 1543, 1547, 0, 0, 0, 0),
  (1543, .lconst 1, 1, 1544, 0, 0, 0, 0, 1),
  (1544, .goto 4, 3, 1547, 1548, 0, 0, 0, 0),
  (1547, .lconst 0, 1, 1548, 0, 0, 0, 0, 0),
  (1548, .lcmp, 1, 1549, 0, 0, 0, 0, 0),
  (1549, .ifCond .eq 5, 3, 1552, 1554, 0, 0, 0, 0),
  (1552, .iconst 0, 1, 1553, 0, 0, 0, 0, 0),
  (1553, .ireturn, 1, 1554, 0, 0, 0, 0, 0),
  (1554, .goto 115, 3, 1557, 1669, 0, 0, 0, 0)]
set_option maxRecDepth 20000 in
theorem tk_La_16_0 : T_La_16_0.all (rowOk code "TogetherOrdersLaw" wg 7 cls) = true := by decide +kernel
def T_La_16 : List (Nat × RowE) := T_La_16_0
theorem tk_La_16 : T_La_16.all (rowOk code "TogetherOrdersLaw" wg 7 cls) = true := by
  unfold T_La_16
  simp only [List.all_append, tk_La_16_0, Bool.and_self]
def T_La_17_0 : List (Nat × RowE) := [(1557, .aload_n 1, 1, 1558, 0, 1, 0, 0, 0),
  (1558, .aload_n 0, 1, 1559, 0, 0, 0, 0, 0),
  (1559, .iload 4, 2, 1561, 0, 4, 0, 0, 0),
  (1561, .iconst 1, 1, 1562, 0, 0, 0, 1, 0),
  (1562, .iadd, 1, 1563, 0, 0, 0, 0, 0),
  (1563, .iaload, 1, 1564, 0, 0, 0, 0, 0),
  (1564, .aload_n 0, 1, 1565, 0, 0, 0, 0, 0),
  (1565, .iload 4, 2, 1567, 0, 4, 0, 0, 0),
  (1567, .iconst 2, 1, 1568, 0, 0, 0, 2, 0),
  (1568, .iadd, 1, 1569, 0, 0, 0, 0, 0),
  (1569, .iaload, 1, 1570, 0, 0, 0, 0, 0),
  (1570, .aload_n 0, 1, 1571, 0, 0, 0, 0, 0),
  (1571, .iload 4, 2, 1573, 0, 4, 0, 0, 0),
  (1573, .iconst 3, 1, 1574, 0, 0, 0, 3, 0),
  (1574, .iadd, 1, 1575, 0, 0, 0, 0, 0),
  (1575, .iaload, 1, 1576, 0, 0, 0, 0, 0),
  (1576, .i2l, 1, 1577, 0, 0, 0, 0, 0),
  (1577, .bipush 32, 2, 1579, 0, 0, 0, 32, 0),
  (1579, .lshl, 1, 1580, 0, 0, 0, 0, 0),
  (1580, .aload_n 0, 1, 1581, 0, 0, 0, 0, 0),
  (1581, .iload 4, 2, 1583, 0, 4, 0, 0, 0),
  (1583, .iconst 4, 1, 1584, 0, 0, 0, 4, 0),
  (1584, .iadd, 1, 1585, 0, 0, 0, 0, 0),
  (1585, .iaload, 1, 1586, 0, 0, 0, 0, 0),
  (1586, .i2l, 1, 1587, 0, 0, 0, 0, 0),
  (1587, .ldc2_w 90, 3, 1590, 0, 0, 976, 0, 4294967295),
  (1590, .land, 1, 1591, 0, 0, 0, 0, 0),
  (1591, .lor, 1, 1592, 0, 0, 0, 0, 0),
  (1592, .aload_n 3, 1, 1593, 0, 3, 0, 0, 0),
  (1593, .invokestatic 148, 3, 1596, 0, 0, 0, 0, 0)]
set_option maxRecDepth 20000 in
theorem tk_La_17_0 : T_La_17_0.all (rowOk code "TogetherOrdersLaw" wg 7 cls) = true := by decide +kernel
def T_La_17_1 : List (Nat × RowE) := [(1596, .istore 5, 2, 1598, 0, 5, 0, 0, 0),
  (1598, .aload_n 2, 1, 1599, 0, 2, 0, 0, 0),
  (1599, .aload_n 0, 1, 1600, 0, 0, 0, 0, 0),
  (1600, .iload 4, 2, 1602, 0, 4, 0, 0, 0),
  (1602, .iconst 1, 1, 1603, 0, 0, 0, 1, 0),
  (1603, .iadd, 1, 1604, 0, 0, 0, 0, 0),
  (1604, .iaload, 1, 1605, 0, 0, 0, 0, 0),
  (1605, .aload_n 0, 1, 1606, 0, 0, 0, 0, 0),
  (1606, .iload 4, 2, 1608, 0, 4, 0, 0, 0),
  (1608, .iconst 2, 1, 1609, 0, 0, 0, 2, 0),
  (1609, .iadd, 1, 1610, 0, 0, 0, 0, 0),
  (1610, .iaload, 1, 1611, 0, 0, 0, 0, 0),
  (1611, .aload_n 0, 1, 1612, 0, 0, 0, 0, 0),
  (1612, .iload 4, 2, 1614, 0, 4, 0, 0, 0),
  (1614, .iconst 3, 1, 1615, 0, 0, 0, 3, 0),
  (1615, .iadd, 1, 1616, 0, 0, 0, 0, 0),
  (1616, .iaload, 1, 1617, 0, 0, 0, 0, 0),
  (1617, .i2l, 1, 1618, 0, 0, 0, 0, 0),
  (1618, .bipush 32, 2, 1620, 0, 0, 0, 32, 0),
  (1620, .lshl, 1, 1621, 0, 0, 0, 0, 0),
  (1621, .aload_n 0, 1, 1622, 0, 0, 0, 0, 0),
  (1622, .iload 4, 2, 1624, 0, 4, 0, 0, 0),
  (1624, .iconst 4, 1, 1625, 0, 0, 0, 4, 0),
  (1625, .iadd, 1, 1626, 0, 0, 0, 0, 0),
  (1626, .iaload, 1, 1627, 0, 0, 0, 0, 0),
  (1627, .i2l, 1, 1628, 0, 0, 0, 0, 0),
  (1628, .ldc2_w 90, 3, 1631, 0, 0, 976, 0, 4294967295),
  (1631, .land, 1, 1632, 0, 0, 0, 0, 0),
  (1632, .lor, 1, 1633, 0, 0, 0, 0, 0),
  (1633, .invokevirtual 150, 3, 1636, 0, 0, 0, 0, 0)]
set_option maxRecDepth 20000 in
theorem tk_La_17_1 : T_La_17_1.all (rowOk code "TogetherOrdersLaw" wg 7 cls) = true := by decide +kernel
def T_La_17_2 : List (Nat × RowE) := [(1636, .istore 6, 2, 1638, 0, 6, 0, 0, 0),
  (1638, .aload_n 2, 1, 1639, 0, 2, 0, 0, 0),
  (1639, .invokevirtual 87, 3, 1642, 0, 0, 0, 0, 0),
  (1642, .iload 5, 2, 1644, 0, 5, 0, 0, 0),
  (1644, .if_icmp .eq 5, 3, 1647, 1649, 0, 0, 0, 0),
  (1647, .iconst 0, 1, 1648, 0, 0, 0, 0, 0),
  (1648, .ireturn, 1, 1649, 0, 0, 0, 0, 0),
  (1649, .iload 5, 2, 1651, 0, 5, 0, 0, 0),
  (1651, .ifCond .ne 15, 3, 1654, 1666, 0, 0, 0, 0),
  (1654, .aload_n 3, 1, 1655, 0, 3, 0, 0, 0),
  (1655, .iconst 0, 1, 1656, 0, 0, 0, 0, 0),
  (1656, .laload, 1, 1657, 0, 0, 0, 0, 0),
  (1657, .iload 6, 2, 1659, 0, 6, 0, 0, 0),
  (1659, .i2l, 1, 1660, 0, 0, 0, 0, 0),
  (1660, .lcmp, 1, 1661, 0, 0, 0, 0, 0),
  (1661, .ifCond .eq 5, 3, 1664, 1666, 0, 0, 0, 0),
  (1664, .iconst 0, 1, 1665, 0, 0, 0, 0, 0),
  (1665, .ireturn, 1, 1666, 0, 0, 0, 0, 0),
  (1666, .goto 3, 3, 1669, 1669, 0, 0, 0, 0)]
set_option maxRecDepth 20000 in
theorem tk_La_17_2 : T_La_17_2.all (rowOk code "TogetherOrdersLaw" wg 7 cls) = true := by decide +kernel
def T_La_17 : List (Nat × RowE) := T_La_17_0 ++ T_La_17_1 ++ T_La_17_2
theorem tk_La_17 : T_La_17.all (rowOk code "TogetherOrdersLaw" wg 7 cls) = true := by
  unfold T_La_17
  simp only [List.all_append, tk_La_17_0, tk_La_17_1, tk_La_17_2, Bool.and_self]
def T_La_e_0 : List (Nat × RowE) := [(1669, .iinc 4 12, 3, 1672, 0, 4, 0, 12, 0),
  (1672, .goto (-1649), 3, 1675, 23, 0, 0, 0, 0),
  (1675, .iconst 1, 1, 1676, 0, 0, 0, 1, 0),
  (1676, .ireturn, 1, 1677, 0, 0, 0, 0, 0)]
set_option maxRecDepth 20000 in
theorem tk_La_e_0 : T_La_e_0.all (rowOk code "TogetherOrdersLaw" wg 7 cls) = true := by decide +kernel
def T_La_e : List (Nat × RowE) := T_La_e_0
theorem tk_La_e : T_La_e.all (rowOk code "TogetherOrdersLaw" wg 7 cls) = true := by
  unfold T_La_e
  simp only [List.all_append, tk_La_e_0, Bool.and_self]
