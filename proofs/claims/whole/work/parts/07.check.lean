/-- places of a method's words: its code, static or of an object, selected, its class initialised -/
def zmpT : List (List (Nat × Nat × Nat × Nat)) := [[(0, 0, 0, 0), (761, 760, 0, 127), (492, 490, 491, 119), (496, 494, 495, 119), (504, 503, 0, 119), (543, 541, 542, 119), (547, 545, 546, 119), (551, 549, 550, 119), (555, 553, 554, 119), (501, 500, 0, 120), (558, 557, 0, 120), (561, 560, 0, 120), (568, 567, 0, 120), (682, 681, 0, 125), (509, 508, 0, 121), (132, 131, 0, 108)], [(433, 431, 432, 108), (437, 436, 0, 108), (441, 439, 440, 108), (444, 443, 0, 108), (447, 446, 0, 108), (451, 449, 450, 108), (454, 453, 0, 108), (458, 456, 457, 108), (462, 461, 0, 108), (466, 464, 465, 108), (470, 468, 469, 108), (717, 715, 716, 108), (721, 719, 720, 108), (729, 727, 728, 108), (733, 732, 20, 108), (873, 871, 872, 108)], [(882, 880, 881, 108), (886, 885, 27, 108), (890, 888, 889, 108), (893, 892, 0, 108), (897, 896, 28, 108), (901, 900, 29, 108), (917, 915, 916, 108), (936, 934, 935, 108), (940, 939, 30, 108), (944, 942, 943, 108), (952, 950, 951, 108), (956, 955, 31, 108), (970, 968, 969, 108), (976, 974, 975, 108), (980, 978, 979, 108), (984, 982, 983, 108)], [(988, 986, 987, 108), (992, 990, 991, 108), (996, 994, 995, 108), (1004, 1002, 1003, 108), (1009, 1007, 1008, 108), (1013, 1011, 1012, 108), (1017, 1015, 1016, 108), (1021, 1019, 1020, 108), (1025, 1023, 1024, 108), (1029, 1027, 1028, 108), (1033, 1031, 1032, 108), (1037, 1035, 1036, 108), (1067, 1065, 1066, 108), (1072, 1070, 1071, 108), (1080, 1078, 1079, 108), (1084, 1082, 1083, 108)], [(1089, 1087, 1088, 108), (1093, 1091, 1092, 108), (1105, 1103, 1104, 108), (1109, 1107, 1108, 108), (1113, 1111, 1112, 108), (1117, 1115, 1116, 108), (1139, 1137, 1138, 108), (1144, 1142, 1143, 108), (1149, 1147, 1148, 108), (1153, 1151, 1152, 108), (1169, 1167, 1168, 108), (1173, 1171, 1172, 108), (1177, 1175, 1176, 108), (1181, 1179, 1180, 108), (1185, 1183, 1184, 108), (1189, 1187, 1188, 108)], [(1193, 1191, 1192, 108), (1197, 1195, 1196, 108), (1201, 1199, 1200, 108), (1205, 1203, 1204, 108), (1219, 1217, 1218, 108), (1223, 1221, 1222, 108), (301, 300, 0, 113), (1041, 1039, 1040, 113), (1045, 1044, 32, 113), (1057, 1055, 1056, 113), (1063, 1062, 33, 113), (1076, 1074, 1075, 113), (1157, 1155, 1156, 113), (1161, 1160, 34, 113), (1165, 1164, 35, 113), (285, 284, 0, 112)], [(774, 772, 773, 112), (782, 781, 0, 112), (786, 785, 21, 112), (802, 801, 22, 112), (806, 805, 23, 112), (811, 810, 24, 112), (830, 829, 25, 112), (833, 832, 0, 112), (836, 835, 0, 112), (839, 838, 0, 112), (325, 324, 0, 114), (1122, 1120, 1121, 114), (1126, 1124, 1125, 114), (1131, 1129, 1130, 114), (1135, 1134, 0, 114), (345, 344, 0, 115)], [(474, 472, 473, 115), (478, 477, 1, 115), (484, 483, 0, 115), (532, 531, 2, 115), (535, 534, 0, 115), (607, 606, 3, 115), (611, 610, 4, 115), (615, 614, 5, 115), (619, 618, 6, 115), (623, 622, 7, 115), (627, 626, 8, 115), (631, 630, 9, 115), (638, 637, 10, 115), (642, 641, 11, 115), (646, 645, 12, 115), (650, 649, 13, 115)], [(654, 653, 14, 115), (658, 657, 15, 115), (665, 664, 16, 115), (669, 668, 17, 115), (673, 672, 18, 115), (677, 676, 19, 115), (148, 147, 0, 110), (758, 756, 757, 110), (816, 814, 815, 110), (820, 818, 819, 110), (859, 857, 858, 110), (864, 862, 863, 110), (868, 866, 867, 110), (877, 875, 876, 110), (905, 903, 904, 110), (909, 907, 908, 110)], [(913, 911, 912, 110), (962, 960, 961, 110), (1000, 998, 999, 110), (487, 486, 0, 118), (538, 537, 0, 118), (634, 633, 0, 118), (661, 660, 0, 118), (826, 825, 0, 118), (183, 182, 0, 111), (851, 849, 850, 111), (855, 854, 26, 111), (948, 946, 947, 111), (1215, 1213, 1214, 111), (698, 697, 0, 124), (778, 776, 777, 124), (790, 788, 789, 124)], [(794, 792, 793, 124), (798, 796, 797, 124), (921, 919, 920, 124), (925, 923, 924, 124), (140, 139, 0, 109), (725, 723, 724, 109), (737, 735, 736, 109), (741, 739, 740, 109), (746, 744, 745, 109), (750, 748, 749, 109), (754, 752, 753, 109), (769, 767, 768, 109), (966, 964, 965, 109), (1049, 1047, 1048, 109), (1097, 1095, 1096, 109), (1101, 1099, 1100, 109)], [(1209, 1207, 1208, 109), (1228, 1227, 0, 116), (1232, 1231, 0, 116), (1328, 1326, 1327, 116), (1332, 1331, 0, 116), (1335, 1334, 0, 116), (1339, 1338, 36, 116), (1343, 1341, 1342, 116), (1346, 1345, 0, 116), (1350, 1348, 1349, 116), (1354, 1352, 1353, 116), (1358, 1357, 37, 116), (1362, 1360, 1361, 116), (1366, 1364, 1365, 116), (1370, 1369, 38, 116), (1374, 1373, 39, 116)], [(1378, 1377, 40, 116), (1381, 1380, 0, 116), (1385, 1384, 0, 116), (1389, 1388, 0, 116), (1393, 1392, 41, 116), (1397, 1396, 42, 116), (1400, 1399, 0, 116), (1403, 1402, 0, 116), (1406, 1405, 0, 116), (1409, 1408, 0, 116), (1413, 1412, 43, 116), (1416, 1415, 0, 116), (1420, 1419, 44, 116), (1424, 1423, 45, 116), (1428, 1427, 46, 116), (1432, 1431, 47, 116)], [(1436, 1435, 48, 116), (1440, 1439, 49, 116), (1444, 1443, 50, 116), (1448, 1447, 51, 116), (1452, 1451, 52, 116), (1456, 1455, 53, 116), (1460, 1459, 54, 116), (1464, 1463, 55, 116), (1468, 1467, 56, 116), (1471, 1470, 0, 116), (1475, 1474, 57, 116), (1479, 1478, 58, 116), (1483, 1482, 59, 116), (1487, 1486, 60, 116), (1491, 1490, 61, 116), (1495, 1494, 62, 116)], [(1499, 1498, 63, 116), (1503, 1502, 64, 116), (1507, 1505, 1506, 116), (1511, 1509, 1510, 116), (1515, 1513, 1514, 116), (1519, 1518, 65, 116), (1523, 1521, 1522, 116), (1527, 1526, 66, 116), (1531, 1530, 67, 116), (1535, 1534, 68, 116), (1539, 1538, 69, 116), (1543, 1542, 70, 116), (1546, 1545, 0, 116), (1550, 1549, 71, 116), (1554, 1553, 72, 116), (1558, 1557, 73, 116)], [(1562, 1561, 74, 116), (1566, 1565, 75, 116), (1570, 1569, 76, 116), (1574, 1573, 77, 116), (1577, 1576, 0, 116), (1581, 1580, 78, 116), (1584, 1583, 0, 116), (1587, 1586, 0, 116), (1592, 1591, 0, 116), (1595, 1594, 0, 116), (1598, 1597, 0, 116), (1602, 1601, 79, 116), (1606, 1604, 1605, 116), (1610, 1609, 80, 116), (1614, 1612, 1613, 116), (1618, 1617, 81, 116)], [(1622, 1620, 1621, 116), (1626, 1625, 82, 116), (1630, 1629, 83, 116), (1634, 1633, 84, 116), (1638, 1637, 85, 116), (1642, 1641, 86, 116), (1649, 1648, 87, 116), (1653, 1651, 1652, 116), (1657, 1656, 88, 116), (1667, 1665, 1666, 116), (1671, 1670, 89, 116), (1675, 1673, 1674, 116), (1679, 1678, 90, 116), (1683, 1682, 91, 116), (1687, 1686, 92, 116), (1691, 1690, 93, 116)], [(1695, 1693, 1694, 116), (1699, 1698, 94, 116), (1703, 1701, 1702, 116), (1707, 1705, 1706, 116), (1711, 1709, 1710, 116), (1715, 1713, 1714, 116), (1719, 1717, 1718, 116), (1723, 1721, 1722, 116), (1727, 1726, 95, 116), (1731, 1729, 1730, 116), (1735, 1733, 1734, 116), (1739, 1737, 1738, 116), (1743, 1741, 1742, 116), (1747, 1746, 96, 116), (1751, 1749, 1750, 116), (1755, 1753, 1754, 116)], [(1759, 1757, 1758, 116), (1763, 1761, 1762, 116), (1767, 1765, 1766, 116), (1771, 1769, 1770, 116), (1775, 1773, 1774, 116), (1779, 1777, 1778, 116), (1783, 1781, 1782, 116), (1787, 1785, 1786, 116), (1791, 1789, 1790, 116), (1795, 1793, 1794, 116), (1799, 1798, 97, 116), (1803, 1802, 98, 116), (1807, 1806, 99, 116), (1811, 1810, 100, 116), (1815, 1814, 101, 116), (1820, 1819, 102, 116)], [(1824, 1823, 103, 116), (1828, 1826, 1827, 116), (1832, 1830, 1831, 116), (1836, 1834, 1835, 116), (1840, 1838, 1839, 116), (1844, 1842, 1843, 116), (1848, 1846, 1847, 116), (1852, 1851, 104, 116), (1856, 1854, 1855, 116), (1860, 1858, 1859, 116), (1864, 1862, 1863, 116), (1868, 1866, 1867, 116), (1873, 1872, 0, 116), (1877, 1875, 1876, 116), (1881, 1879, 1880, 116), (1885, 1883, 1884, 116)], [(1889, 1887, 1888, 116), (1892, 1891, 0, 116), (1896, 1895, 105, 116), (1900, 1899, 106, 116), (1904, 1902, 1903, 116), (1908, 1906, 1907, 116), (1912, 1910, 1911, 116), (1916, 1914, 1915, 116), (1920, 1918, 1919, 116)]]
def zmp (j : Nat) : Nat × Nat × Nat × Nat := znth2 (0, 0, 0, 0) zmpT j
def zciP : List (Nat × Nat) := [(298, 113), (282, 112), (322, 114), (342, 115), (145, 110), (180, 111), (679, 124), (137, 109), (129, 108), (1225, 116)]
def zcl (j : Nat) : String := (zy j).cls
def zdc (j k : Nat) (i : Instr) (len : Nat) : Bool := decide (decode (zm j).2.1 (zpc j k) = .ok (i, len)) && decide (zpc j (k + 1) = zpc j k + len)
def znx (j k len : Nat) : Bool := decide (zpc j (k + 1) = zpc j k + len)
def ztg (j k : Nat) (off t : Int) : Bool := decide ((zpc j k : Int) + off = (zpc j t.toNat : Int))
def ztgs (j k : Nat) : List Int → List Int → Bool
  | [], [] => true
  | a :: l, b :: m => ztg j k a b && ztgs j k l m
  | _, _ => false
def ztgp (j k : Nat) : List (Int × Int) → List (Int × Int) → Bool
  | [], [] => true
  | a :: l, b :: m => decide (a.1 = b.1) && ztg j k a.2 b.2 && ztgp j k l m
  | _, _ => false
def zFl (c k : Nat) : String × String × String × Bool := match vwCl[c]? with
  | some q => q.2.1 k
  | none => ("", "", "", false)
/-- the link of a field -/
def zfl (j idx c k : Nat) : Bool := decide (c < 10) && decide (k < znf c) && zwd j idx (.fieldLink (zcl j) idx (zFl c k).1 (zFl c k).2.1 (zFl c k).2.2.1)
/-- 0 int, 1 long, 2 reference, 3 none, by what is returned -/
def zrk : Option FieldType → Nat
  | none => 3
  | some .long => 1
  | some (.object _) => 2
  | some (.array _) => 2
  | _ => 0
def zrkc (j : Nat) : Bool := match (zm j).2.2.2.1 with
  | 0 => zPP.2.2 j == 0
  | _ => decide (zPP.2.2 j ≠ 0) && (match vwCl[zPP.2.2 j - 1]? with
    | some q => decide (q.1 = zcl j)
    | none => decide (zPP.2.2 j = 32) && decide (zcl j = "java/lang/String"))
/-- a method that may be called: its words stand -/
def zmok (j : Nat) : Bool :=
  zhas (zmp j).1 (.code (zy j) (zm j).2.1 (zPP.2.1 j) (zm j).2.2.1) && goodWord (.code (zy j) (zm j).2.1 (zPP.2.1 j) (zm j).2.2.1) &&
  (match (zm j).2.2.2.1 with
    | 0 => zhas (zmp j).2.1 (.static (zy j))
    | 1 => zhas (zmp j).2.1 (.instanceMethod (zy j)) && zhas (zmp j).2.2.1 (.selects (zcl j) (zy j) (zy j))
    | _ => zhas (zmp j).2.1 (.instanceMethod (zy j)) && decide ((zy j).name = "<init>") && decide ((zm j).2.2.1 = none)) &&
  zhas (zmp j).2.2.2 (.initialized (zcl j)) && plainName (zcl j) && decide (zcl j ≠ "java/lang/invoke/MethodHandle") && decide (zcl j ≠ "java/lang/invoke/VarHandle") &&
  decide ((parseMethodDescriptor (zy j).desc).map (fun d => d.parameters.length) = some (zm j).2.2.2.2) && decide (zPP.2.1 j ≤ 40) && zrkc j
/-- may be called -/
def zcb (i : Nat) : Bool := decide (0 < i) && decide (i < 329)
def zid (l : List (Nat × Nat)) (k : Nat) : Nat × Nat := znth (0, 0) l k
def znest (own : String) (idx i : Nat) : Bool := decide (i = 19) && ((decide (own = "TreesLendRings$Town") && decide (idx = 95)) || (decide (own = "TreesLendRings$Judge") && decide (idx = 25)) || (decide (own = "TreesLendRings$Rings") && decide (idx = 50)))
/-- THE CHECK of an instruction: the machine's bytes there say what the small machine has -/
def zck (j k : Nat) (ins : Instr) : Bool :=
  match ins with
  | .nop => true
  | .iload n => zdc j k (.iload n) 2 || (decide (n < 4) && zdc j k (.iload_n (Fin.ofNat 4 n)) 1)
  | .lload n => zdc j k (.lload n) 2 || (decide (n < 4) && zdc j k (.lload_n (Fin.ofNat 4 n)) 1)
  | .aload n => zdc j k (.aload n) 2 || (decide (n < 4) && zdc j k (.aload_n (Fin.ofNat 4 n)) 1)
  | .istore n => decide (n < zPP.2.1 j) && (zdc j k (.istore n) 2 || (decide (n < 4) && zdc j k (.istore_n (Fin.ofNat 4 n)) 1))
  | .lstore n => decide (n + 1 < zPP.2.1 j) && (zdc j k (.lstore n) 2 || (decide (n < 4) && zdc j k (.lstore_n (Fin.ofNat 4 n)) 1))
  | .astore n => decide (n < zPP.2.1 j) && (zdc j k (.astore n) 2 || (decide (n < 4) && zdc j k (.astore_n (Fin.ofNat 4 n)) 1))
  | .bipush v => decide (-2147483648 ≤ v ∧ v < 2147483648) && (zdc j k (.iconst v) 1 || (zdc j k (.bipush v) 2 && decide ((Int8.ofInt v).toInt32 = Int32.ofInt v)) || (zdc j k (.sipush v) 3 && decide ((Int16.ofInt v).toInt32 = Int32.ofInt v)) ||
      (match decode (zm j).2.1 (zpc j k) with
        | .ok (.ldc idx, 2) => znx j k 2 && zwd j idx (.constant (zcl j) idx (Int32.ofInt v))
        | .ok (.ldc_w idx, 3) => znx j k 3 && zwd j idx (.constant (zcl j) idx (Int32.ofInt v))
        | _ => false))
  | .iconst v => match decode (zm j).2.1 (zpc j k) with
      | .ok (.getstatic idx, 3) => znx j k 3 && decide (v = 1) && zwd j idx (.fieldLink (zcl j) idx "java/lang/String" "COMPACT_STRINGS" "Z")
      | _ => false
  | .sipush v => decide (-9223372036854775808 ≤ v ∧ v < 9223372036854775808) && ((decide (v = 0 ∨ v = 1) && zdc j k (.lconst (Fin.ofNat 2 v.toNat)) 1) ||
      (match decode (zm j).2.1 (zpc j k) with
        | .ok (.ldc2_w idx, 3) => znx j k 3 && zwd j idx (.constantLong (zcl j) idx (Int64.ofInt v))
        | _ => false))
  | .ldc q => match decode (zm j).2.1 (zpc j k) with
      | .ok (.ldc idx, 2) => znx j k 2 && decide (zcl j = "TreesLendRings$Sign") && ((decide (q = 4) && decide (idx = 9)) || (decide (q = 5) && decide (idx = 17)))
      | _ => false
  | .getstatic q => match decode (zm j).2.1 (zpc j k) with
      | .ok (.getstatic idx, 3) => znx j k 3 && ((decide (q = 2) && zwd j idx (.fieldLink (zcl j) idx "TreesLendRings$Judge" "LEAST" "[I")) || (decide (q = 3) && zwd j idx (.fieldLink (zcl j) idx "TreesLendRings$Judge" "MOST" "[I")) || (decide (q = 8) && zwd j idx (.fieldLink (zcl j) idx "jdk/internal/util/Preconditions" "SIOOBE_FORMATTER" "Ljava/util/function/BiFunction;")))
      | _ => false
  | .iinc n c => decide (n < zPP.2.1 j) && zdc j k (.iinc n c) 3
  | .goto t => match decode (zm j).2.1 (zpc j k) with
      | .ok (.goto off, 3) => ztg j k off t
      | _ => false
  | .ifCond c t => match decode (zm j).2.1 (zpc j k) with
      | .ok (.ifCond c' off, 3) => decide (c' = c) && ztg j k off t && znx j k 3
      | _ => false
  | .if_icmp c t => match decode (zm j).2.1 (zpc j k) with
      | .ok (.if_icmp c' off, 3) => decide (c' = c) && ztg j k off t && znx j k 3
      | _ => false
  | .ifnull t => match decode (zm j).2.1 (zpc j k) with
      | .ok (.ifnull off, 3) => ztg j k off t && znx j k 3
      | _ => false
  | .ifnonnull t => match decode (zm j).2.1 (zpc j k) with
      | .ok (.ifnonnull off, 3) => ztg j k off t && znx j k 3
      | _ => false
  | .tableswitch d lo hi offs => match decode (zm j).2.1 (zpc j k) with
      | .ok (.tableswitch d' lo' hi' offs', _) => decide (lo' = lo) && decide (hi' = hi) && ztg j k d' d && ztgs j k offs'.toList offs.toList && decide ((offs.toList.length : Int) = hi - lo + 1)
      | _ => false
  | .lookupswitch d ps => match decode (zm j).2.1 (zpc j k) with
      | .ok (.lookupswitch d' ps', _) => ztg j k d' d && ztgp j k ps'.toList ps.toList && (ps'.toList.zip (ps'.toList.drop 1)).all (fun (a, next) => a.1 < next.1)
      | _ => false
  | .getfield f => match decode (zm j).2.1 (zpc j k) with
      | .ok (.getfield idx, 3) => znx j k 3 && ((zfl j idx (f / 128) (f / 4 % 32) && decide (f % 4 = zft (f / 128) (f / 4 % 32))) ||
          (decide (f = (31 * 32 + 0) * 4 + 2) && zwd j idx (.fieldLink (zcl j) idx "java/lang/String" "value" "[B")) || (decide (f = (31 * 32 + 1) * 4) && zwd j idx (.fieldLink (zcl j) idx "java/lang/String" "coder" "B")))
      | _ => false
  | .putfield f => match decode (zm j).2.1 (zpc j k) with
      | .ok (.putfield idx, 3) => znx j k 3 && zfl j idx (f / 128) (f / 4 % 32) && (decide (f % 4 = 3 ∧ (zFl (f / 128) (f / 4 % 32)).2.2.1 = "Z") || (decide (f % 4 = zft (f / 128) (f / 4 % 32)) && decide ((zFl (f / 128) (f / 4 % 32)).2.2.1 ≠ "Z"))) &&
          (decide ((zFl (f / 128) (f / 4 % 32)).2.2.2 = false) || (decide ((zy j).name = "<init>") && decide ((zFl (f / 128) (f / 4 % 32)).1 = zcl j)))
      | _ => false
  | .multianewarray c n => match decode (zm j).2.1 (zpc j k), vwCl[c]? with
      | .ok (.new idx, 3), some q => znx j k 3 && decide (n = q.2.2) && zwd j idx (.classLink (zcl j) idx q.1) && zhas (zid zciP c).1 (.instantiable q.1 q.2.2) && zhas (zid zciP c).2 (.initialized q.1)
      | _, _ => false
  | .anewarray t => match decode (zm j).2.1 (zpc j k) with
      | .ok (.newarray .int, 2) => znx j k 2 && decide (t = 20) && zhas 178 (.arrayClass .int)
      | .ok (.newarray .char, 2) => znx j k 2 && decide (t = 21) && zhas 429 (.arrayClass .char)
      | .ok (.newarray .long, 2) => znx j k 2 && decide (t = 22) && zhas 338 (.arrayClass .long)
      | .ok (.newarray .boolean, 2) => znx j k 2 && decide (t = 23) && zhas 1324 (.arrayClass .boolean)
      | .ok (.anewarray idx, 3) => znx j k 3 && ((decide (t = 24) && zwd j idx (.classLink (zcl j) idx "TreesLendRings$Rings") && zhas 186 (.arrayOver (.object "TreesLendRings$Rings"))) || (decide (t = 25) && zwd j idx (.classLink (zcl j) idx "TreesLendRings$Text") && zhas 143 (.arrayOver (.object "TreesLendRings$Text"))))
      | _ => false
  | .invokeinterface i nt => match decode (zm j).2.1 (zpc j k) with
      | .ok (.invokestatic idx, 3) => znx j k 3 && zcb i && decide ((zm i).2.2.2.1 = 0) && (zwd j idx (.methodLink (zcl j) idx (zy i)) || znest (zcl j) idx i) && decide (nt / 4 = (zm i).2.2.2.2) && decide (nt % 4 = zrk (zm i).2.2.1)
      | .ok (.invokevirtual idx, 3) => znx j k 3 && zcb i && decide ((zm i).2.2.2.1 = 1) && zwd j idx (.methodLink (zcl j) idx (zy i)) && decide (nt / 4 = (zm i).2.2.2.2 + 1) && decide (nt % 4 = zrk (zm i).2.2.1)
      | .ok (.invokespecial idx, 3) => znx j k 3 && zcb i && decide ((zm i).2.2.2.1 = 2) && zwd j idx (.methodLink (zcl j) idx (zy i)) && decide (nt / 4 = (zm i).2.2.2.2 + 1) && decide (nt % 4 = 3)
      | _ => false
  | .monitorexit => match decode (zm j).2.1 (zpc j k) with
      | .ok (.invokestatic idx, 3) => znx j k 3 && zwd j idx (.methodLink (zcl j) idx arraycopyName)
      | _ => false
  | .fadd => match decode (zm j).2.1 (zpc j k) with
      | .ok (.invokestatic idx, 3) => znx j k 3 && zwd j idx (.methodLink (zcl j) idx Lib.Math.max.name)
      | _ => false
  | .fsub => match decode (zm j).2.1 (zpc j k) with
      | .ok (.invokestatic idx, 3) => znx j k 3 && zwd j idx (.methodLink (zcl j) idx Lib.Math.min.name)
      | _ => false
  | .swap => match decode (zm j).2.1 (zpc j k) with
      | .ok (.invokevirtual idx, 3) => znx j k 3 && zwd j idx (.methodLink (zcl j) idx ⟨"[I", "clone", "()Ljava/lang/Object;"⟩)
      | _ => false
  | .monitorenter => match decode (zm j).2.1 (zpc j k) with
      | .ok (.invokespecial idx, 3) => znx j k 3 && zwd j idx (.methodLink (zcl j) idx objectInit)
      | _ => false
  | .checkcast _ => match decode (zm j).2.1 (zpc j k) with
      | .ok (.checkcast idx, 3) => znx j k 3 && zwd j idx (.classLink (zcl j) idx "[I")
      | _ => false
  | .ireturn => zdc j k .ireturn 1 && decide ((zm j).2.2.1 = some .int)
  | .ret t => zdc j k .ireturn 1 && decide ((t = 4 ∧ (zm j).2.2.1 = some .boolean) ∨ (t = 5 ∧ (zm j).2.2.1 = some .char) ∨ (t = 6 ∧ (zm j).2.2.1 = some .byte))
  | .lreturn => zdc j k .lreturn 1 && decide ((zm j).2.2.1 = some .long)
  | .areturn => zdc j k .areturn 1 && decide (zrk (zm j).2.2.1 = 2)
  | .return_ => zdc j k .return_ 1 && decide ((zm j).2.2.1 = none)
  | i => zdc j k i 1
def zckr (j lo : Nat) : Nat → Bool
  | 0 => true
  | k + 1 => zck j (lo + k) (znth2 .nop (zPP.1 j) (lo + k)) && zckr j lo k
theorem zckr_at {j lo : Nat} : ∀ (n : Nat), zckr j lo n = true → ∀ k, lo ≤ k → k < lo + n → zck j k (znth2 .nop (zPP.1 j) k) = true
  | 0, _, k, _, hk => by omega
  | n + 1, h, k, hl, hk => by
    unfold zckr at h
    rw [Bool.and_eq_true] at h
    rcases Nat.lt_or_ge k (lo + n) with q | q
    · exact zckr_at n h.2 k hl q
    · rw [show k = lo + n by omega]; exact h.1
/-- the check of a whole method -/
def zcm (j : Nat) : Prop := ∀ k, zck j k (znth2 .nop (zPP.1 j) k) = true
def zmokr (lo : Nat) : Nat → Bool
  | 0 => true
  | k + 1 => zmok (lo + k) && zmokr lo k
theorem zmokr_at {lo : Nat} : ∀ (n : Nat), zmokr lo n = true → ∀ k, lo ≤ k → k < lo + n → zmok k = true
  | 0, _, k, _, hk => by omega
  | n + 1, h, k, hl, hk => by
    unfold zmokr at h
    rw [Bool.and_eq_true] at h
    rcases Nat.lt_or_ge k (lo + n) with q | q
    · exact zmokr_at n h.2 k hl q
    · rw [show k = lo + n by omega]; exact h.1
theorem znth_out {α : Type} (d : α) : ∀ (l : List α) (n : Nat), l.length ≤ n → znth d l n = d
  | [], _, _ => rfl
  | _ :: l, 0, h => by simp at h
  | _ :: l, n + 1, h => znth_out d l n (by simpa using h)
theorem znth2_out {α : Type} (d : α) (l : List (List α)) (n : Nat) (h : l.length ≤ n / 16) : znth2 d l n = d := by
  unfold znth2
  rw [znth_out _ _ _ h]
  rfl
theorem zcm_out {j n : Nat} (h : (zPP.1 j).length ≤ n) {k : Nat} (hk : 16 * n ≤ k) : zck j k (znth2 .nop (zPP.1 j) k) = true := by
  rw [znth2_out _ _ _ (by omega)]
  rfl
