theorem goodIn_c1 {big a : List Cond} {c : Cond} (hc : GoodIn big [c]) (ha : GoodIn big a) : GoodIn big (c :: a) := fun w h => (List.mem_cons.mp h).elim (fun e => hc w (List.mem_cons.mpr (Or.inl e))) (ha w)

theorem goodPl {big ws : List Cond} {ps : List Nat} (hp : ws = ps.filterMap (fun i => big[i]?)) : ∀ w ∈ ws, w ∈ big := by
  intro w hw
  rw [hp] at hw
  obtain ⟨i, -, hi⟩ := List.mem_filterMap.mp hw
  first | exact List.mem_of_getElem? hi | exact List.getElem?_mem hi
/-! three words of a class over private methods of the one above it: the law's words name them, the tables don't -/
def lwx : List Cond := lw_tbl ++ [Cond.selects "java/lang/StringBuilder" ⟨"java/lang/AbstractStringBuilder", "ensureCapacityInternal", "(I)V"⟩ ⟨"java/lang/AbstractStringBuilder", "ensureCapacityInternal", "(I)V"⟩, Cond.selects "java/lang/StringBuilder" ⟨"java/lang/AbstractStringBuilder", "newCapacity", "(I)I"⟩ ⟨"java/lang/AbstractStringBuilder", "newCapacity", "(I)I"⟩, Cond.selects "java/lang/StringBuilder" ⟨"java/lang/AbstractStringBuilder", "inflate", "()V"⟩ ⟨"java/lang/AbstractStringBuilder", "inflate", "()V"⟩]
theorem lwx_sel {y z : MethodName} {C : String} {s : State} {args : Array Value} (hy : y.cls ≠ "java/lang/invoke/MethodHandle" ∧ y.cls ≠ "java/lang/invoke/VarHandle") (hyz : y.cls = z.cls) (hsel : (Cond.selects C z z).before args s = true) (hpriv : (Cond.privateMethod y).before args s = true) (hinst : (Cond.instanceMethod y).before args s = true) : (Cond.selects C y y).before args s = true := by
  obtain ⟨c, r, m, hc, -, hm, -, k, hk, hni⟩ := Cond.selects_spec hsel
  obtain ⟨mk, methM, hnamed, hmethM, -, -⟩ := Cond.instanceMethod_spec hinst
  have hfound : s.methodFound? y.cls y.name y.desc = some mk := State.methodFound?_of_named hnamed hy
  have hcls : mk.cls = m.cls := Option.some.inj ((findClass_of_methodNamed hnamed).symm.trans (by rw [hyz]; exact findClass_of_methodNamed hm))
  have hsel2 : selectMethod {} s.vm c mk = .method mk := selectMethod_private hmethM (Cond.privateMethod_at hpriv mk methM hnamed hmethM)
  simp only [Cond.before, Cond.holds, Cond.value, hc, hfound, hnamed, hsel2, hcls, hk]
  simp; exact hni
theorem lwx_ok {s : State} {a : Array Value} (h : ∀ w ∈ lw_tbl, w.before a s = true) : ∀ w ∈ lwx, w.before a s = true := by
  intro w hw
  rcases List.mem_append.mp hw with hw | hw
  · exact h w hw
  · simp only [List.mem_cons, List.not_mem_nil, or_false] at hw
    rcases hw with rfl | rfl | rfl
    · exact lwx_sel (z := ⟨"java/lang/AbstractStringBuilder", "isLatin1", "()Z"⟩) (by decide) rfl (h _ (List.mem_of_getElem? (i := 1467) (by decide +kernel))) (h _ (List.mem_of_getElem? (i := 1436) (by decide +kernel))) (h _ (List.mem_of_getElem? (i := 1437) (by decide +kernel)))
    · exact lwx_sel (z := ⟨"java/lang/AbstractStringBuilder", "isLatin1", "()Z"⟩) (by decide) rfl (h _ (List.mem_of_getElem? (i := 1467) (by decide +kernel))) (h _ (List.mem_of_getElem? (i := 1440) (by decide +kernel))) (h _ (List.mem_of_getElem? (i := 1441) (by decide +kernel)))
    · exact lwx_sel (z := ⟨"java/lang/AbstractStringBuilder", "isLatin1", "()Z"⟩) (by decide) rfl (h _ (List.mem_of_getElem? (i := 1467) (by decide +kernel))) (h _ (List.mem_of_getElem? (i := 1473) (by decide +kernel))) (h _ (List.mem_of_getElem? (i := 1474) (by decide +kernel)))
set_option maxRecDepth 20000 in
theorem in0_r1 : ∀ w ∈ wsL_law0_r1, w ∈ lwx := goodPl (ps := [102, 103, 73, 1150, 1151, 79, 1845, 1846, 104, 105, 106, 107, 108, 109, 110, 111, 74, 259, 230, 231, 78, 260, 261, 112]) (by decide +kernel)
set_option maxRecDepth 20000 in
theorem in0_r2 : ∀ w ∈ wsL_law0_r2, w ∈ lwx := goodPl (ps := [113, 114, 115, 116, 117, 75, 197, 200, 157, 158, 76, 203, 206, 182, 183, 77, 208, 118, 119, 120, 121, 155, 129, 130]) (by decide +kernel)
set_option maxRecDepth 20000 in
theorem in0_r3 : ∀ w ∈ wsL_law0_r3, w ∈ lwx := goodPl (ps := [156, 131, 122, 132, 133, 134, 159, 160, 161, 162, 163, 164, 165, 166, 167, 184, 185, 186, 187, 188, 232, 233, 234, 235]) (by decide +kernel)
set_option maxRecDepth 20000 in
theorem in0_r4 : ∀ w ∈ wsL_law0_r4, w ∈ lwx := goodPl (ps := [239, 240, 241, 236, 238, 237, 1152, 1153, 1154, 1155, 1156, 1157, 1158, 1159, 1160, 1214, 1161, 1162, 1163, 1164, 1165, 1166, 1167, 1168]) (by decide +kernel)
set_option maxRecDepth 20000 in
theorem in0_r5 : ∀ w ∈ wsL_law0_r5, w ∈ lwx := goodPl (ps := [1170, 1171, 511, 512, 72, 513, 514, 515, 516, 517, 518, 519, 604, 84, 520, 522, 18, 523, 524, 525, 526, 527, 83, 599]) (by decide +kernel)
set_option maxRecDepth 20000 in
theorem in0_r6 : ∀ w ∈ wsL_law0_r6, w ∈ lwx := goodPl (ps := [336, 337, 338, 600, 601, 602, 603, 124, 273, 275, 0, 276, 1219, 1220, 1221, 1222, 1172, 1223, 1224, 1225, 1215, 1216, 1217, 1218]) (by decide +kernel)
set_option maxRecDepth 20000 in
theorem in0_r7 : ∀ w ∈ wsL_law0_r7, w ∈ lwx := goodPl (ps := [620, 621, 622, 623, 624, 625, 626, 627, 629, 631, 20, 632, 637, 85, 633, 634, 635, 636, 653, 654, 655, 656, 300, 301]) (by decide +kernel)
set_option maxRecDepth 20000 in
theorem in0_r8 : ∀ w ∈ wsL_law0_r8, w ∈ lwx := goodPl (ps := [302, 303, 658, 659, 660, 661, 1226, 1227, 1228, 1229, 1230, 1231, 1232, 1233, 1234, 1235, 1237, 34, 1238, 662, 663, 664, 665, 666]) (by decide +kernel)
set_option maxRecDepth 20000 in
theorem in0_r9 : ∀ w ∈ wsL_law0_r9, w ∈ lwx := goodPl (ps := [667, 668, 669, 670, 671, 673, 674, 675, 678, 679, 680, 681, 128, 1239, 1240, 1241, 1242, 1243, 1244, 1246, 35, 1247, 683, 684]) (by decide +kernel)
set_option maxRecDepth 20000 in
theorem in0_r10 : ∀ w ∈ wsL_law0_r10, w ∈ lwx := goodPl (ps := [685, 686, 687, 688, 689, 690, 692, 21, 693, 694, 357, 358, 359, 360, 361, 362, 363, 696, 697, 698, 699, 700, 701, 702]) (by decide +kernel)
set_option maxRecDepth 20000 in
theorem in0_r11 : ∀ w ∈ wsL_law0_r11, w ∈ lwx := goodPl (ps := [703, 704, 705, 706, 707, 308, 309, 310, 311, 284, 285, 286, 287, 1248, 1249, 1250, 1251, 1252, 1254, 36, 1255, 1256, 1258, 37]) (by decide +kernel)
set_option maxRecDepth 20000 in
theorem in0_r12 : ∀ w ∈ wsL_law0_r12, w ∈ lwx := goodPl (ps := [1259, 1260, 1262, 38, 1263, 708, 709, 710, 711, 712, 713, 714, 715, 1264, 1265, 1266, 1267, 1268, 1270, 39, 1271, 716, 717, 718]) (by decide +kernel)
set_option maxRecDepth 20000 in
theorem in0_r13 : ∀ w ∈ wsL_law0_r13, w ∈ lwx := goodPl (ps := [719, 743, 744, 745, 746, 747, 766, 89, 748, 750, 22, 751, 753, 86, 752, 781, 1272, 1273, 1274, 1275, 1276, 1278, 40, 1279]) (by decide +kernel)
set_option maxRecDepth 20000 in
theorem in0_r14 : ∀ w ∈ wsL_law0_r14, w ∈ lwx := goodPl (ps := [1280, 1281, 1282, 1283, 1285, 41, 1286, 782, 783, 784, 785, 786, 787, 788, 789, 404, 405, 406, 407, 365, 366, 367, 791, 792]) (by decide +kernel)
set_option maxRecDepth 20000 in
theorem in0_r15 : ∀ w ∈ wsL_law0_r15, w ∈ lwx := goodPl (ps := [793, 794, 795, 1287, 1288, 1289, 1290, 269, 270, 271, 272, 277, 278, 279, 280, 281, 283, 282, 90, 1291, 1292, 1293, 1294, 796]) (by decide +kernel)
set_option maxRecDepth 20000 in
theorem in0_r16 : ∀ w ∈ wsL_law0_r16, w ∈ lwx := goodPl (ps := [797, 798, 799, 800, 801, 802, 803, 804, 805, 806, 807, 809, 23, 810, 811, 813, 24, 814, 815, 817, 25, 818, 819, 348]) (by decide +kernel)
set_option maxRecDepth 20000 in
theorem in0_r17 : ∀ w ∈ wsL_law0_r17, w ∈ lwx := goodPl (ps := [349, 350, 1295, 1296, 1297, 1298, 1299, 1301, 42, 1302, 1303, 1305, 43, 1306, 1307, 1309, 44, 1310, 1311, 1313, 45, 1314, 1315, 1317]) (by decide +kernel)
set_option maxRecDepth 20000 in
theorem in0_r18 : ∀ w ∈ wsL_law0_r18, w ∈ lwx := goodPl (ps := [46, 1318, 1319, 1321, 47, 1322, 1323, 1325, 48, 1326, 820, 821, 822, 823, 824, 825, 826, 827, 828, 829, 830, 316, 317, 91]) (by decide +kernel)
set_option maxRecDepth 20000 in
theorem in0_r19 : ∀ w ∈ wsL_law0_r19, w ∈ lwx := goodPl (ps := [318, 832, 833, 834, 831, 835, 836, 837, 838, 840, 26, 841, 842, 1327, 1328, 1329, 1330, 1331, 1332, 1333, 1335, 49, 1336, 844]) (by decide +kernel)
set_option maxRecDepth 20000 in
theorem in0_r20 : ∀ w ∈ wsL_law0_r20, w ∈ lwx := goodPl (ps := [845, 846, 847, 848, 849, 850, 851, 852, 853, 854, 855, 857, 27, 858, 859, 1337, 1338, 1339, 1340, 1341, 1343, 50, 1344, 860]) (by decide +kernel)
set_option maxRecDepth 20000 in
theorem in0_r21 : ∀ w ∈ wsL_law0_r21, w ∈ lwx := goodPl (ps := [861, 862, 863, 864, 865, 866, 1345, 1346, 1347, 1348, 867, 868, 869, 870, 871, 872, 873, 1349, 1350, 1351, 1352, 874, 875, 876]) (by decide +kernel)
set_option maxRecDepth 20000 in
theorem in0_r22 : ∀ w ∈ wsL_law0_r22, w ∈ lwx := goodPl (ps := [877, 878, 879, 880, 881, 1353, 1354, 1355, 1356, 882, 883, 884, 885, 886, 887, 888, 889, 1357, 1358, 1359, 1360, 890, 891, 892]) (by decide +kernel)
set_option maxRecDepth 20000 in
theorem in0_r23 : ∀ w ∈ wsL_law0_r23, w ∈ lwx := goodPl (ps := [893, 894, 895, 896, 1361, 1362, 1363, 1364, 897, 898, 899, 900, 901, 902, 903, 904, 1365, 1366, 1367, 1368, 1369, 1371, 51, 1372]) (by decide +kernel)
set_option maxRecDepth 20000 in
theorem in0_r24 : ∀ w ∈ wsL_law0_r24, w ∈ lwx := goodPl (ps := [905, 906, 907, 908, 909, 910, 911, 912, 1373, 1374, 1375, 1376, 913, 914, 915, 916, 917, 918, 919, 920, 297, 298, 299, 304]) (by decide +kernel)
set_option maxRecDepth 20000 in
theorem in0_r25 : ∀ w ∈ wsL_law0_r25, w ∈ lwx := goodPl (ps := [305, 306, 307, 312, 313, 314, 315, 319, 321, 1, 322, 921, 1377, 1378, 1379, 1380, 1381, 1383, 52, 1384, 1385, 1387, 53, 1388]) (by decide +kernel)
set_option maxRecDepth 20000 in
theorem in0_r26 : ∀ w ∈ wsL_law0_r26, w ∈ lwx := goodPl (ps := [922, 923, 924, 925, 926, 927, 928, 929, 930, 931, 932, 135, 933, 935, 28, 936, 937, 939, 29, 940, 1389, 1390, 1391, 1392]) (by decide +kernel)
set_option maxRecDepth 20000 in
theorem in0_r27 : ∀ w ∈ wsL_law0_r27, w ∈ lwx := goodPl (ps := [1393, 1395, 54, 1396, 1397, 1398, 93, 1399, 1400, 1401, 1402, 1403, 92, 1404, 1405, 1406, 598, 1415, 1416, 1408, 1409, 94, 1410, 1411]) (by decide +kernel)
set_option maxRecDepth 20000 in
theorem in0_r28 : ∀ w ∈ wsL_law0_r28, w ∈ lwx := goodPl (ps := [1412, 1413, 1414, 1428, 1429, 1430, 1431, 1432, 1848, 1427, 1433, 1434, 1418, 1435, 1849, 1875, 1437, 1438, 1439, 1850, 1876, 1441, 1442, 1451]) (by decide +kernel)
set_option maxRecDepth 20000 in
theorem in0_r29 : ∀ w ∈ wsL_law0_r29, w ∈ lwx := goodPl (ps := [1443, 1444, 95, 1445, 1446, 1447, 1448, 1449, 1450, 1452, 1453, 96, 1454, 1455, 1456, 1457, 1458, 1459, 1461, 1462, 1463, 1464, 1466, 1467]) (by decide +kernel)
set_option maxRecDepth 20000 in
theorem in0_r30 : ∀ w ∈ wsL_law0_r30, w ∈ lwx := goodPl (ps := [1465, 1468, 1469, 1470, 97, 1471, 1472, 1851, 1877, 1474, 1475, 1476, 1477, 1478, 1479, 1480, 1481, 1482, 1483, 1484, 1485, 1486, 1487, 1488]) (by decide +kernel)
set_option maxRecDepth 20000 in
theorem in0_r31 : ∀ w ∈ wsL_law0_r31, w ∈ lwx := goodPl (ps := [1489, 88, 1490, 1491, 1493, 1494, 98, 1495, 1496, 1497, 1498, 1499, 1501, 1503, 1505, 1506, 1507, 1508, 1509, 1510, 1511, 1512, 1513, 1514]) (by decide +kernel)
set_option maxRecDepth 20000 in
theorem in0_r32 : ∀ w ∈ wsL_law0_r32, w ∈ lwx := goodPl (ps := [1515, 1516, 1517, 1518, 1519, 1520, 1521, 1852, 1522, 1523, 1524, 1525, 100, 1526, 1527, 1528, 1529, 1530, 1532, 1534, 1535, 1536, 1537, 1538]) (by decide +kernel)
set_option maxRecDepth 20000 in
theorem in0_r33 : ∀ w ∈ wsL_law0_r33, w ∈ lwx := goodPl (ps := [1539, 1540, 1541, 1542, 1543, 1544, 1545, 1546, 1547, 1548, 1549, 1550, 1551, 1552, 1553, 1554, 1555, 738, 1556, 1557, 1558, 1559, 1560, 1561]) (by decide +kernel)
set_option maxRecDepth 20000 in
theorem in0_r34 : ∀ w ∈ wsL_law0_r34, w ∈ lwx := goodPl (ps := [1562, 1645, 1644, 1613, 1417, 1563, 1565, 1566, 1564, 1567, 1568, 1570, 1569, 1571, 1572, 1573, 1574, 1569, 1575, 1576, 1577, 1578, 1579, 1580]) (by decide +kernel)
set_option maxRecDepth 20000 in
theorem in0_r35 : ∀ w ∈ wsL_law0_r35, w ∈ lwx := goodPl (ps := [1581, 1582, 1583, 1584, 1585, 1587, 1631, 1632, 1633, 1634, 1635, 1636, 1637, 1638, 1639, 1640, 1641, 1642, 1643, 1651, 1606, 1607, 1608, 1609]) (by decide +kernel)
set_option maxRecDepth 20000 in
theorem in0_r36 : ∀ w ∈ wsL_law0_r36, w ∈ lwx := goodPl (ps := [1610, 1611, 1612, 941, 942, 943, 944, 945, 946, 947, 949, 950, 951, 952, 1652, 1653, 1654, 1655, 1656, 1657, 1658, 1659, 1660, 1661]) (by decide +kernel)
set_option maxRecDepth 20000 in
theorem in0_r37 : ∀ w ∈ wsL_law0_r37, w ∈ lwx := goodPl (ps := [1662, 1663, 1664, 1665, 1666, 1667, 1668, 1669, 1670, 288, 289, 290, 291, 292, 293, 294, 295, 213, 211, 296, 323, 325, 2, 326]) (by decide +kernel)
set_option maxRecDepth 20000 in
theorem in0_r38 : ∀ w ∈ wsL_law0_r38, w ∈ lwx := goodPl (ps := [327, 328, 329, 330, 331, 333, 3, 334, 335, 340, 341, 342, 343, 344, 345, 346, 347, 351, 352, 353, 354, 355, 356, 364]) (by decide +kernel)
set_option maxRecDepth 20000 in
theorem in0_r39 : ∀ w ∈ wsL_law0_r39, w ∈ lwx := goodPl (ps := [368, 369, 370, 371, 372, 373, 169, 374, 376, 4, 377, 378, 380, 5, 381, 382, 383, 384, 385, 386, 388, 6, 389, 390]) (by decide +kernel)
set_option maxRecDepth 20000 in
theorem in0_r40 : ∀ w ∈ wsL_law0_r40, w ∈ lwx := goodPl (ps := [391, 392, 393, 394, 396, 7, 397, 398, 399, 401, 8, 402, 403, 408, 409, 410, 411, 412, 189, 413, 415, 9, 416, 417]) (by decide +kernel)
set_option maxRecDepth 20000 in
theorem in0_r41 : ∀ w ∈ wsL_law0_r41, w ∈ lwx := goodPl (ps := [418, 419, 420, 422, 423, 424, 425, 426, 427, 428, 429, 430, 431, 432, 433, 434, 1671, 1672, 1673, 1674, 1169, 1675, 1677, 55]) (by decide +kernel)
set_option maxRecDepth 20000 in
theorem in0_r42 : ∀ w ∈ wsL_law0_r42, w ∈ lwx := goodPl (ps := [1678, 1679, 1681, 56, 1682, 1683, 1684, 1685, 1686, 1687, 1688, 1690, 1691, 1692, 1693, 1694, 1695, 1696, 1697, 1699, 57, 1700, 1701, 1703]) (by decide +kernel)
set_option maxRecDepth 20000 in
theorem in0_r43 : ∀ w ∈ wsL_law0_r43, w ∈ lwx := goodPl (ps := [58, 1704, 1705, 1707, 59, 1708, 1709, 1711, 60, 1712, 1713, 1714, 1715, 1716, 1718, 61, 1719, 1720, 1721, 1722, 435, 436, 437, 438]) (by decide +kernel)
set_option maxRecDepth 20000 in
theorem in0_r44 : ∀ w ∈ wsL_law0_r44, w ∈ lwx := goodPl (ps := [1723, 1724, 1725, 1726, 439, 440, 441, 442, 1727, 1728, 1729, 1730, 953, 954, 955, 956, 957, 958, 959, 960, 961, 962, 1731, 1732]) (by decide +kernel)
set_option maxRecDepth 20000 in
theorem in0_r45 : ∀ w ∈ wsL_law0_r45, w ∈ lwx := goodPl (ps := [1733, 1734, 1735, 1736, 1737, 963, 964, 965, 966, 967, 968, 969, 1738, 1739, 1740, 1741, 970, 971, 972, 973, 974, 975, 976, 977]) (by decide +kernel)
set_option maxRecDepth 20000 in
theorem in0_r46 : ∀ w ∈ wsL_law0_r46, w ∈ lwx := goodPl (ps := [496, 497, 498, 1742, 1743, 1744, 1745, 443, 444, 445, 446, 447, 448, 449, 450, 244, 242, 451, 452, 454, 10, 455, 456, 457]) (by decide +kernel)
set_option maxRecDepth 20000 in
theorem in0_r47 : ∀ w ∈ wsL_law0_r47, w ∈ lwx := goodPl (ps := [458, 459, 461, 11, 462, 463, 464, 466, 12, 467, 468, 469, 471, 13, 472, 473, 474, 475, 477, 14, 478, 479, 480, 481]) (by decide +kernel)
set_option maxRecDepth 20000 in
theorem in0_r48 : ∀ w ∈ wsL_law0_r48, w ∈ lwx := goodPl (ps := [482, 483, 485, 15, 486, 487, 488, 489, 490, 491, 492, 493, 494, 495, 499, 501, 16, 502, 503, 505, 17, 506, 1746, 1747]) (by decide +kernel)
set_option maxRecDepth 20000 in
theorem in0_r49 : ∀ w ∈ wsL_law0_r49, w ∈ lwx := goodPl (ps := [1748, 1749, 1750, 1752, 62, 1753, 1754, 1756, 63, 1757, 1758, 1760, 64, 1761, 1762, 1764, 65, 1765, 1766, 1768, 66, 1769, 978, 979]) (by decide +kernel)
set_option maxRecDepth 20000 in
theorem in0_r50 : ∀ w ∈ wsL_law0_r50, w ∈ lwx := goodPl (ps := [980, 981, 982, 983, 984, 985, 987, 30, 988, 989, 990, 991, 992, 994, 995, 996, 997, 998, 999, 1000, 1001, 1002, 1003, 1005]) (by decide +kernel)
set_option maxRecDepth 20000 in
theorem in0_r51 : ∀ w ∈ wsL_law0_r51, w ∈ lwx := goodPl (ps := [31, 1006, 1007, 1770, 1771, 1772, 1773, 1774, 1776, 67, 1777, 1008, 1009, 1010, 1011, 1012, 1013, 1014, 1015, 1016, 1017, 1019, 1778, 1779]) (by decide +kernel)
set_option maxRecDepth 20000 in
theorem in0_r52 : ∀ w ∈ wsL_law0_r52, w ∈ lwx := goodPl (ps := [1780, 1781, 1020, 1021, 1022, 1023, 1024, 1025, 1026, 1782, 1783, 1784, 1785, 1027, 1028, 1029, 1030, 1031, 1032, 1033, 1034, 1035, 1036, 1037]) (by decide +kernel)
set_option maxRecDepth 20000 in
theorem in0_r53 : ∀ w ∈ wsL_law0_r53, w ∈ lwx := goodPl (ps := [1786, 1787, 1788, 1789, 1038, 1039, 1040, 1041, 1042, 1043, 1044, 1045, 1046, 1047, 1048, 1049, 1790, 1791, 1792, 1793, 507, 508, 509, 510]) (by decide +kernel)
set_option maxRecDepth 20000 in
theorem in0_r54 : ∀ w ∈ wsL_law0_r54, w ∈ lwx := goodPl (ps := [1794, 1795, 1796, 1797, 1798, 1800, 68, 1801, 1802, 1804, 69, 1805, 1806, 1808, 70, 1809, 1810, 1811, 1812, 1050, 1051, 1052, 1053, 1054]) (by decide +kernel)
set_option maxRecDepth 20000 in
theorem in0_r55 : ∀ w ∈ wsL_law0_r55, w ∈ lwx := goodPl (ps := [1055, 1056, 1057, 1059, 32, 1060, 1062, 1063, 1064, 1065, 1066, 1068, 33, 1069, 1813, 1814, 1815, 1816, 1173, 1817, 1819, 71, 1820, 1174]) (by decide +kernel)
set_option maxRecDepth 20000 in
theorem in0_r56 : ∀ w ∈ wsL_law0_r56, w ∈ lwx := goodPl (ps := [1070, 1071, 1072, 1073, 1074, 1075, 1076, 1077, 1078, 1079, 1080, 1821, 1822, 1823, 1824, 1081, 1082, 1083, 1084, 1085, 1086, 1087, 1088, 1089]) (by decide +kernel)
set_option maxRecDepth 20000 in
theorem in0_r57 : ∀ w ∈ wsL_law0_r57, w ∈ lwx := goodPl (ps := [1090, 1091, 1825, 1826, 1827, 1828, 1092, 1093, 1094, 1095, 1096, 1097, 1098, 1099, 1100, 1101, 1102, 1103, 1104, 1105, 1106, 1107, 1108, 1829]) (by decide +kernel)
set_option maxRecDepth 20000 in
theorem in0_r58 : ∀ w ∈ wsL_law0_r58, w ∈ lwx := goodPl (ps := [1830, 1831, 1832, 1110, 1111, 1112, 1113, 1127, 1128, 1129, 1130, 1132, 101, 1131, 1833, 1834, 1835, 1836, 1135, 1136, 1137, 1138, 1139, 1140]) (by decide +kernel)
set_option maxRecDepth 20000 in
theorem in0_r59 : ∀ w ∈ wsL_law0_r59, w ∈ lwx := goodPl (ps := [1141, 1837, 1838, 1839, 1840, 1143, 1144, 1145, 1146, 1147, 1148, 1149, 1841, 1842, 1843, 1844]) (by decide +kernel)
set_option maxRecDepth 20000 in
theorem in0_wsX50 : ∀ w ∈ wsX50, w ∈ lwx := by decide +kernel
set_option maxRecDepth 20000 in
theorem in0_wsX60 : ∀ w ∈ wsX60, w ∈ lwx := by decide +kernel
set_option maxRecDepth 20000 in
theorem in0_wsX40 : ∀ w ∈ wsX40, w ∈ lwx := by decide +kernel
set_option maxRecDepth 20000 in
theorem in0_wsX20 : ∀ w ∈ wsX20, w ∈ lwx := by decide +kernel
set_option maxRecDepth 20000 in
theorem in0_wsX00 : ∀ w ∈ wsX00, w ∈ lwx := by decide +kernel
set_option maxRecDepth 20000 in
theorem in0_wsX30 : ∀ w ∈ wsX30, w ∈ lwx := by decide +kernel
set_option maxRecDepth 20000 in
theorem in0_wsX10 : ∀ w ∈ wsX10, w ∈ lwx := by decide +kernel
set_option maxRecDepth 20000 in
theorem in0_wsJ40 : ∀ w ∈ wsJ40, w ∈ lwx := by decide +kernel
set_option maxRecDepth 20000 in
theorem in0_wsJ00 : ∀ w ∈ wsJ00, w ∈ lwx := by decide +kernel
set_option maxRecDepth 20000 in
theorem wsL_law_in0 : ∀ w ∈ wsL_law0, w ∈ lwx := List.forall_mem_append.mpr ⟨List.forall_mem_append.mpr ⟨List.forall_mem_append.mpr ⟨List.forall_mem_append.mpr ⟨List.forall_mem_append.mpr ⟨List.forall_mem_append.mpr ⟨List.forall_mem_append.mpr ⟨List.forall_mem_append.mpr ⟨List.forall_mem_append.mpr ⟨List.forall_mem_append.mpr ⟨List.forall_mem_append.mpr ⟨in0_r1, List.forall_mem_append.mpr ⟨in0_r2, List.forall_mem_append.mpr ⟨in0_r3, List.forall_mem_append.mpr ⟨in0_r4, List.forall_mem_append.mpr ⟨in0_r5, List.forall_mem_append.mpr ⟨in0_r6, List.forall_mem_append.mpr ⟨in0_r7, List.forall_mem_append.mpr ⟨in0_r8, List.forall_mem_append.mpr ⟨in0_r9, List.forall_mem_append.mpr ⟨in0_r10, List.forall_mem_append.mpr ⟨in0_r11, List.forall_mem_append.mpr ⟨in0_r12, List.forall_mem_append.mpr ⟨in0_r13, List.forall_mem_append.mpr ⟨in0_r14, List.forall_mem_append.mpr ⟨in0_r15, List.forall_mem_append.mpr ⟨in0_r16, List.forall_mem_append.mpr ⟨in0_r17, List.forall_mem_append.mpr ⟨in0_r18, List.forall_mem_append.mpr ⟨in0_r19, List.forall_mem_append.mpr ⟨in0_r20, List.forall_mem_append.mpr ⟨in0_r21, List.forall_mem_append.mpr ⟨in0_r22, List.forall_mem_append.mpr ⟨in0_r23, List.forall_mem_append.mpr ⟨in0_r24, List.forall_mem_append.mpr ⟨in0_r25, List.forall_mem_append.mpr ⟨in0_r26, List.forall_mem_append.mpr ⟨in0_r27, List.forall_mem_append.mpr ⟨in0_r28, List.forall_mem_append.mpr ⟨in0_r29, List.forall_mem_append.mpr ⟨in0_r30, List.forall_mem_append.mpr ⟨in0_r31, List.forall_mem_append.mpr ⟨in0_r32, List.forall_mem_append.mpr ⟨in0_r33, List.forall_mem_append.mpr ⟨in0_r34, List.forall_mem_append.mpr ⟨in0_r35, List.forall_mem_append.mpr ⟨in0_r36, List.forall_mem_append.mpr ⟨in0_r37, List.forall_mem_append.mpr ⟨in0_r38, List.forall_mem_append.mpr ⟨in0_r39, List.forall_mem_append.mpr ⟨in0_r40, List.forall_mem_append.mpr ⟨in0_r41, List.forall_mem_append.mpr ⟨in0_r42, List.forall_mem_append.mpr ⟨in0_r43, List.forall_mem_append.mpr ⟨in0_r44, List.forall_mem_append.mpr ⟨in0_r45, List.forall_mem_append.mpr ⟨in0_r46, List.forall_mem_append.mpr ⟨in0_r47, List.forall_mem_append.mpr ⟨in0_r48, List.forall_mem_append.mpr ⟨in0_r49, List.forall_mem_append.mpr ⟨in0_r50, List.forall_mem_append.mpr ⟨in0_r51, List.forall_mem_append.mpr ⟨in0_r52, List.forall_mem_append.mpr ⟨in0_r53, List.forall_mem_append.mpr ⟨in0_r54, List.forall_mem_append.mpr ⟨in0_r55, List.forall_mem_append.mpr ⟨in0_r56, List.forall_mem_append.mpr ⟨in0_r57, List.forall_mem_append.mpr ⟨in0_r58, in0_r59⟩⟩⟩⟩⟩⟩⟩⟩⟩⟩⟩⟩⟩⟩⟩⟩⟩⟩⟩⟩⟩⟩⟩⟩⟩⟩⟩⟩⟩⟩⟩⟩⟩⟩⟩⟩⟩⟩⟩⟩⟩⟩⟩⟩⟩⟩⟩⟩⟩⟩⟩⟩⟩⟩⟩⟩⟩⟩, in0_wsX50⟩, in0_wsX60⟩, in0_wsX40⟩, in0_wsX20⟩, in0_wsX00⟩, in0_wsX30⟩, in0_wsX10⟩, in0_wsJ40⟩, in0_wsJ00⟩, (fun _ h => absurd h List.not_mem_nil)⟩

theorem wsL_law_x0 : ∀ w ∈ (vx_atM "java/lang/ArrayIndexOutOfBoundsException" ["java/lang/IndexOutOfBoundsException", "java/lang/RuntimeException", "java/lang/Exception"]).filter goodWord, w ∈ lwx := by decide +kernel
theorem wsL_law_x1 : ∀ w ∈ (vx_atS RX5 42 "java/lang/IllegalStateException" ["java/lang/RuntimeException", "java/lang/Exception"]).filter goodWord, w ∈ lwx := by decide +kernel
theorem wsL_law_x2 : ∀ w ∈ (vx_atS RX5 52 "java/lang/IllegalArgumentException" ["java/lang/RuntimeException", "java/lang/Exception"]).filter goodWord, w ∈ lwx := by decide +kernel
theorem wsL_law_x3 : ∀ w ∈ (nsAt RX5 287).filter goodWord, w ∈ lwx := by decide +kernel
theorem wsL_law_x4 : ∀ w ∈ (vx_atS RX5 108 "java/lang/UnsupportedOperationException" ["java/lang/RuntimeException", "java/lang/Exception"]).filter goodWord, w ∈ lwx := by decide +kernel
theorem wsL_law_x5 : ∀ w ∈ (vx_atS RX5 178 "java/lang/IndexOutOfBoundsException" ["java/lang/RuntimeException", "java/lang/Exception"]).filter goodWord, w ∈ lwx := by decide +kernel
theorem wsL_law_x6 : ∀ w ∈ (vx_atM "java/lang/ArithmeticException" ["java/lang/RuntimeException", "java/lang/Exception"]).filter goodWord, w ∈ lwx := by decide +kernel
theorem wsL_law_x7 : ∀ w ∈ (vx_atS RX5 273 "java/lang/ArithmeticException" ["java/lang/RuntimeException", "java/lang/Exception"]).filter goodWord, w ∈ lwx := by decide +kernel
theorem wsL_law_in : ∀ w ∈ wsL_law, w ∈ lwx := fun w h => (List.mem_append.mp h).elim (fun h => (List.mem_append.mp h).elim (fun h => (List.mem_append.mp h).elim (fun h => (List.mem_append.mp h).elim (fun h => (List.mem_append.mp h).elim (fun h => (List.mem_append.mp h).elim (fun h => (List.mem_append.mp h).elim (fun h => (List.mem_append.mp h).elim (fun h => wsL_law_in0 w h) (fun h => wsL_law_x0 w h)) (fun h => wsL_law_x1 w h)) (fun h => wsL_law_x2 w h)) (fun h => wsL_law_x3 w h)) (fun h => wsL_law_x4 w h)) (fun h => wsL_law_x5 w h)) (fun h => wsL_law_x6 w h)) (fun h => wsL_law_x7 w h)
theorem inlX0 : ∀ w ∈ wsX00, w ∈ wsL_law := fun _ h => List.mem_append_left _ (List.mem_append_left _ (List.mem_append_left _ (List.mem_append_left _ (List.mem_append_left _ (List.mem_append_left _ (List.mem_append_left _ (List.mem_append_left _ (List.mem_append_left _ (List.mem_append_left _ (List.mem_append_left _ (List.mem_append_left _ (List.mem_append_left _ (List.mem_append_right _ h)))))))))))))
theorem inX0 : ∀ w ∈ wsX00, w ∈ lwx := fun w h => wsL_law_in w (inlX0 w h)
theorem inlX1 : ∀ w ∈ wsX10, w ∈ wsL_law := fun _ h => List.mem_append_left _ (List.mem_append_left _ (List.mem_append_left _ (List.mem_append_left _ (List.mem_append_left _ (List.mem_append_left _ (List.mem_append_left _ (List.mem_append_left _ (List.mem_append_left _ (List.mem_append_left _ (List.mem_append_left _ (List.mem_append_right _ h)))))))))))
theorem inX1 : ∀ w ∈ wsX10, w ∈ lwx := fun w h => wsL_law_in w (inlX1 w h)
theorem inlX2 : ∀ w ∈ wsX20, w ∈ wsL_law := fun _ h => List.mem_append_left _ (List.mem_append_left _ (List.mem_append_left _ (List.mem_append_left _ (List.mem_append_left _ (List.mem_append_left _ (List.mem_append_left _ (List.mem_append_left _ (List.mem_append_left _ (List.mem_append_left _ (List.mem_append_left _ (List.mem_append_left _ (List.mem_append_left _ (List.mem_append_left _ (List.mem_append_right _ h))))))))))))))
theorem inX2 : ∀ w ∈ wsX20, w ∈ lwx := fun w h => wsL_law_in w (inlX2 w h)
theorem inlX3 : ∀ w ∈ wsX30, w ∈ wsL_law := fun _ h => List.mem_append_left _ (List.mem_append_left _ (List.mem_append_left _ (List.mem_append_left _ (List.mem_append_left _ (List.mem_append_left _ (List.mem_append_left _ (List.mem_append_left _ (List.mem_append_left _ (List.mem_append_left _ (List.mem_append_left _ (List.mem_append_left _ (List.mem_append_right _ h))))))))))))
theorem inX3 : ∀ w ∈ wsX30, w ∈ lwx := fun w h => wsL_law_in w (inlX3 w h)
theorem inlX4 : ∀ w ∈ wsX40, w ∈ wsL_law := fun _ h => List.mem_append_left _ (List.mem_append_left _ (List.mem_append_left _ (List.mem_append_left _ (List.mem_append_left _ (List.mem_append_left _ (List.mem_append_left _ (List.mem_append_left _ (List.mem_append_left _ (List.mem_append_left _ (List.mem_append_left _ (List.mem_append_left _ (List.mem_append_left _ (List.mem_append_left _ (List.mem_append_left _ (List.mem_append_right _ h)))))))))))))))
theorem inX4 : ∀ w ∈ wsX40, w ∈ lwx := fun w h => wsL_law_in w (inlX4 w h)
theorem inlX5 : ∀ w ∈ wsX50, w ∈ wsL_law := fun _ h => List.mem_append_left _ (List.mem_append_left _ (List.mem_append_left _ (List.mem_append_left _ (List.mem_append_left _ (List.mem_append_left _ (List.mem_append_left _ (List.mem_append_left _ (List.mem_append_left _ (List.mem_append_left _ (List.mem_append_left _ (List.mem_append_left _ (List.mem_append_left _ (List.mem_append_left _ (List.mem_append_left _ (List.mem_append_left _ (List.mem_append_left _ (List.mem_append_right _ h)))))))))))))))))
theorem inX5 : ∀ w ∈ wsX50, w ∈ lwx := fun w h => wsL_law_in w (inlX5 w h)
theorem inlX6 : ∀ w ∈ wsX60, w ∈ wsL_law := fun _ h => List.mem_append_left _ (List.mem_append_left _ (List.mem_append_left _ (List.mem_append_left _ (List.mem_append_left _ (List.mem_append_left _ (List.mem_append_left _ (List.mem_append_left _ (List.mem_append_left _ (List.mem_append_left _ (List.mem_append_left _ (List.mem_append_left _ (List.mem_append_left _ (List.mem_append_left _ (List.mem_append_left _ (List.mem_append_left _ (List.mem_append_right _ h))))))))))))))))
theorem inX6 : ∀ w ∈ wsX60, w ∈ lwx := fun w h => wsL_law_in w (inlX6 w h)
theorem inJx00060 : ∀ w ∈ wsJx000600, w ∈ lwx := by decide +kernel
theorem inlJ0 : ∀ w ∈ wsJ00, w ∈ wsL_law := fun _ h => List.mem_append_left _ (List.mem_append_left _ (List.mem_append_left _ (List.mem_append_left _ (List.mem_append_left _ (List.mem_append_left _ (List.mem_append_left _ (List.mem_append_left _ (List.mem_append_left _ (List.mem_append_right _ h)))))))))
theorem inJ0 : ∀ w ∈ wsJ00, w ∈ lwx := fun w h => wsL_law_in w (inlJ0 w h)
theorem inlJ4 : ∀ w ∈ wsJ40, w ∈ wsL_law := fun _ h => List.mem_append_left _ (List.mem_append_left _ (List.mem_append_left _ (List.mem_append_left _ (List.mem_append_left _ (List.mem_append_left _ (List.mem_append_left _ (List.mem_append_left _ (List.mem_append_left _ (List.mem_append_left _ (List.mem_append_right _ h))))))))))
theorem inJ4 : ∀ w ∈ wsJ40, w ∈ lwx := fun w h => wsL_law_in w (inlJ4 w h)
/-! THE CLAIM OUT OF ONE WALK OF THE LAW'S BODY. Your part is whole_start (and what it stands on); all else here is the same for every law, but numbers. -/
def R_law : String := "NetcompareLaw"
def lw_P (b : Addr) (xs : List Int32) (args : Array Value) (s : State) : Prop := args = #[.ref b] ∧ s.IntsAt b xs ∧ xs.length ≤ 7 ∧ (Jvm.Cond.and given_1 narrow_1).before args s = true
/-- what a walk over the start with the record d0 says of its end, said of the start itself -/
theorem lw_closed {s t : State} {o : Outcome} {d0 : Drawn} {L : List Loc} {k n : Nat} (hd0 : s.drawn.sameBut d0 lw_cs) (hv : ∃ v, o = .returned v) (hW : (s.setDrawn d0).WarmedH t.vm) (hs : (s.setDrawn d0).sameButNew ({ t with vm := s.vm } : State) L k n) : State.butDraws s t lw_cs (fun t1 => Framed s o t1 L k n) := by
  have h2 : t.drawn = d0 := congrArg State.drawn hs.1
  refine ⟨⟨hv, hW, State.sameButNew.setDrawn hs s.drawn⟩, ?_, by decide⟩
  rw [h2]
  exact hd0
def lw_Q (_ : Array Value) (s : State) (o : Outcome) (t : State) : Prop := o = .returned (some (.int 1)) ∧ State.butDraws s t lw_cs (fun t1 => Framed s o t1 [] 600006 7302048)
def lw_Z (below : List Frame) (a : Array Value) (s : State) : State → Prop := fun t => ∃ o, t.status = .running ∧ Ended t below o ∧ lw_Q a s o t
/-- the law's own end, with 1 on the stack, nothing written that was there before, its room as the claim has it; d0: the record of draws at this point (at the entry s.drawn: begin with 'refine W.base ?_' and 'have hd0 := Drawn.sameBut.refl s.drawn lw_cs') -/
theorem lw_ret {p : Program} {l : Launch} {e : Env} {s : State} {m : MethodId} {below : List Frame} {meth : Method} {c : Code} {b : Nat} {d0 : Drawn} (hd0 : s.drawn.sameBut d0 lw_cs) (hx : p.tables.exec = Jvm.exec) (hb : c.code = code) (hr : meth.sig.returnType = ret) (hlocks : meth.locks = false) {pc : Nat} {H : Heap} {ls : Array Slot} (hdg : decode code pc = .ok (.ireturn, 1)) : W p l e room_1 (s.setDrawn d0) m #[Value.ref b] below meth c H [] 600006 7302048 (lw_Z below #[Value.ref b] s) (F0 m pc ls [.int 1]) := by
  intro T hT X
  obtain ⟨fs, hret, hrun, hended, hW, hframe⟩ := X.leave (v := some (.int 1)) (hlocks := hlocks) (fun h => by rw [hr] at h; cases h)
  have hmeth' : T.vm.method? m = some meth := X.method'
  refine ⟨T.setFrames fs, ?_, .returned (some (.int 1)), hrun, hended, rfl, lw_closed hd0 ⟨_, rfl⟩ hW hframe⟩
  jvm_step X.here [X.here.top, hx, hb, hdg, hmeth', hr, ret, narrow_b1]
  (try refine ⟨rfl, ?_⟩); (try refine ⟨rfl, ?_⟩)
  first | (intro acts; rw [hret _ acts rfl rfl rfl]) | rw [hret _ _ rfl rfl rfl]
  exact Steps.refl _
/-- what holds at the law's entry: the machine, the code, the tables' words (any of lw_tbl by 'hts w (by decide +kernel)'), the script of L ints xs at the cell b, what the Statement gives of the start (any of its parts by flat_of_before) -/
def lw_At (p : Program) (s : State) (m : MethodId) (meth : Method) (c : Code) (b L : Nat) (xs : Nat → Int32) : Prop :=
  p.tables.exec = Jvm.exec ∧ c.code = code ∧ meth.sig.returnType = ret ∧ c.maxLocals = 9 ∧ s.vm.findClass R_law = some m.cls ∧ (∀ w ∈ lw_tbl, w.before #[Value.ref b] s = true) ∧ va_X b L xs s s.heap ∧ b < s.heap.size ∧ meth.locks = false ∧ (Jvm.Cond.and given_1 narrow_1).before #[Value.ref b] s = true

theorem fNl_in : ∀ w ∈ fNl, w ∈ lw_tbl := fun w h => (goodPl (by decide +kernel : fNl = ([125, 126, 127, 168, 170, 190, 191, 198, 199, 201, 202, 204, 205, 207, 209, 210, 212, 214, 243, 245, 339, 421, 529, 531, 533, 535, 606, 639, 734, 736, 755, 768, 1109, 1125, 1689] : List Nat).filterMap (fun i => lw_tbl[i]?))) w h
theorem fNl_t : fNl.all Cond.onTables = true := by decide +kernel

set_option maxHeartbeats 4000000 in
set_option maxRecDepth 100000 in
/-- what the Statement gives of the start, in the words that the contracts carry -/
theorem first_facts {s : State} {b : Nat} (hts : ∀ w ∈ lw_tbl, w.before #[Value.ref b] s = true) (hgv : (Jvm.Cond.and given_1 narrow_1).before #[Value.ref b] s = true) : fN s ∧ fZ (fun q : Nat => s.heap.size ≤ q) s s.heap ∧ fX s := by
  have hs := flat_of_before _ hgv
  have hA : ∀ a : Nat, a < s.heap.size → ¬ (fun q : Nat => s.heap.size ≤ q) a := fun a h => Nat.not_le.mpr h
  refine ⟨⟨fun w hw => va_Nw.of (List.all_eq_true.mp fNl_t w hw) (hts w (fNl_in w hw)), fun q hq => ?_⟩, ⟨?_, ?_⟩, ⟨⟨?_, ?_⟩, ?_, ?_⟩⟩
  · simp only [fSl, List.mem_cons, List.not_mem_nil, or_false] at hq
    rcases hq with rfl | rfl | rfl | rfl | rfl | rfl | rfl | rfl | rfl | rfl | rfl | rfl | rfl | rfl | rfl | rfl | rfl | rfl | rfl
    · obtain ⟨a, c9, cA, kA, q1, -⟩ := Cond.exactly_spec (args := #[Value.ref b]) (first := s) (o := none) (s := s) (idx := []) (t := .string "Netcompare" 279) (cls := "java/lang/String") (hs (.exactly (.string "Netcompare" 279) "java/lang/String") (by decide +kernel))
      exact ⟨a, vk_R.of (hts _ (List.mem_of_getElem? (i := 572) (by decide +kernel) : (Cond.stringRef "Netcompare" 279 "no such circuit") ∈ lw_tbl)) q1⟩
    · obtain ⟨a, c9, cA, kA, q1, -⟩ := Cond.exactly_spec (args := #[Value.ref b]) (first := s) (o := none) (s := s) (idx := []) (t := .string "Netcompare" 40) (cls := "java/lang/String") (hs (.exactly (.string "Netcompare" 40) "java/lang/String") (by decide +kernel))
      exact ⟨a, vk_R.of (hts _ (List.mem_of_getElem? (i := 613) (by decide +kernel) : (Cond.stringRef "Netcompare" 40 "the circuit has all its nets") ∈ lw_tbl)) q1⟩
    · obtain ⟨a, c9, cA, kA, q1, -⟩ := Cond.exactly_spec (args := #[Value.ref b]) (first := s) (o := none) (s := s) (idx := []) (t := .string "Netcompare" 50) (cls := "java/lang/String") (hs (.exactly (.string "Netcompare" 50) "java/lang/String") (by decide +kernel))
      exact ⟨a, vk_R.of (hts _ (List.mem_of_getElem? (i := 628) (by decide +kernel) : (Cond.stringRef "Netcompare" 50 "no such letter") ∈ lw_tbl)) q1⟩
    · obtain ⟨a, c9, cA, kA, q1, -⟩ := Cond.exactly_spec (args := #[Value.ref b]) (first := s) (o := none) (s := s) (idx := []) (t := .string "Netcompare" 106) (cls := "java/lang/String") (hs (.exactly (.string "Netcompare" 106) "java/lang/String") (by decide +kernel))
      exact ⟨a, vk_R.of (hts _ (List.mem_of_getElem? (i := 646) (by decide +kernel) : (Cond.stringRef "Netcompare" 106 "no such net") ∈ lw_tbl)) q1⟩
    · obtain ⟨a, c9, cA, kA, q1, -⟩ := Cond.exactly_spec (args := #[Value.ref b]) (first := s) (o := none) (s := s) (idx := []) (t := .string "Netcompare" 61) (cls := "java/lang/String") (hs (.exactly (.string "Netcompare" 61) "java/lang/String") (by decide +kernel))
      exact ⟨a, vk_R.of (hts _ (List.mem_of_getElem? (i := 657) (by decide +kernel) : (Cond.stringRef "Netcompare" 61 "another net has the letter") ∈ lw_tbl)) q1⟩
    · obtain ⟨a, c9, cA, kA, q1, -⟩ := Cond.exactly_spec (args := #[Value.ref b]) (first := s) (o := none) (s := s) (idx := []) (t := .string "Netcompare" 281) (cls := "java/lang/String") (hs (.exactly (.string "Netcompare" 281) "java/lang/String") (by decide +kernel))
      exact ⟨a, vk_R.of (hts _ (List.mem_of_getElem? (i := 672) (by decide +kernel) : (Cond.stringRef "Netcompare" 281 "no such kind") ∈ lw_tbl)) q1⟩
    · obtain ⟨a, c9, cA, kA, q1, -⟩ := Cond.exactly_spec (args := #[Value.ref b]) (first := s) (o := none) (s := s) (idx := []) (t := .string "Netcompare" 283) (cls := "java/lang/String") (hs (.exactly (.string "Netcompare" 283) "java/lang/String") (by decide +kernel))
      exact ⟨a, vk_R.of (hts _ (List.mem_of_getElem? (i := 676) (by decide +kernel) : (Cond.stringRef "Netcompare" 283 "no such value") ∈ lw_tbl)) q1⟩
    · obtain ⟨a, c9, cA, kA, q1, -⟩ := Cond.exactly_spec (args := #[Value.ref b]) (first := s) (o := none) (s := s) (idx := []) (t := .string "Netcompare" 75) (cls := "java/lang/String") (hs (.exactly (.string "Netcompare" 75) "java/lang/String") (by decide +kernel))
      exact ⟨a, vk_R.of (hts _ (List.mem_of_getElem? (i := 677) (by decide +kernel) : (Cond.stringRef "Netcompare" 75 "a third net without a third pin") ∈ lw_tbl)) q1⟩
    · obtain ⟨a, c9, cA, kA, q1, -⟩ := Cond.exactly_spec (args := #[Value.ref b]) (first := s) (o := none) (s := s) (idx := []) (t := .string "Netcompare" 81) (cls := "java/lang/String") (hs (.exactly (.string "Netcompare" 81) "java/lang/String") (by decide +kernel))
      exact ⟨a, vk_R.of (hts _ (List.mem_of_getElem? (i := 682) (by decide +kernel) : (Cond.stringRef "Netcompare" 81 "all parts of the circuit have been added") ∈ lw_tbl)) q1⟩
    · obtain ⟨a, c9, cA, kA, q1, -⟩ := Cond.exactly_spec (args := #[Value.ref b]) (first := s) (o := none) (s := s) (idx := []) (t := .string "Netcompare" 291) (cls := "java/lang/String") (hs (.exactly (.string "Netcompare" 291) "java/lang/String") (by decide +kernel))
      exact ⟨a, vk_R.of (hts _ (List.mem_of_getElem? (i := 695) (by decide +kernel) : (Cond.stringRef "Netcompare" 291 "no such part") ∈ lw_tbl)) q1⟩
    · obtain ⟨a, c9, cA, kA, q1, -⟩ := Cond.exactly_spec (args := #[Value.ref b]) (first := s) (o := none) (s := s) (idx := []) (t := .string "Netcompare" 293) (cls := "java/lang/String") (hs (.exactly (.string "Netcompare" 293) "java/lang/String") (by decide +kernel))
      exact ⟨a, vk_R.of (hts _ (List.mem_of_getElem? (i := 762) (by decide +kernel) : (Cond.stringRef "Netcompare" 293 "no such pin") ∈ lw_tbl)) q1⟩
    · obtain ⟨a, c9, cA, kA, q1, -⟩ := Cond.exactly_spec (args := #[Value.ref b]) (first := s) (o := none) (s := s) (idx := []) (t := .string "Netcompare" 117) (cls := "java/lang/String") (hs (.exactly (.string "Netcompare" 117) "java/lang/String") (by decide +kernel))
      exact ⟨a, vk_R.of (hts _ (List.mem_of_getElem? (i := 790) (by decide +kernel) : (Cond.stringRef "Netcompare" 117 "the pins of a diode stay") ∈ lw_tbl)) q1⟩
    · obtain ⟨a, c9, cA, kA, q1, -⟩ := Cond.exactly_spec (args := #[Value.ref b]) (first := s) (o := none) (s := s) (idx := []) (t := .string "Netcompare" 140) (cls := "java/lang/String") (hs (.exactly (.string "Netcompare" 140) "java/lang/String") (by decide +kernel))
      exact ⟨a, vk_R.of (hts _ (List.mem_of_getElem? (i := 843) (by decide +kernel) : (Cond.stringRef "Netcompare" 140 "neither in series nor in parallel") ∈ lw_tbl)) q1⟩
    · obtain ⟨a, c9, cA, kA, q1, -⟩ := Cond.exactly_spec (args := #[Value.ref b]) (first := s) (o := none) (s := s) (idx := []) (t := .string "Netcompare" 176) (cls := "java/lang/String") (hs (.exactly (.string "Netcompare" 176) "java/lang/String") (by decide +kernel))
      exact ⟨a, vk_R.of (hts _ (List.mem_of_getElem? (i := 948) (by decide +kernel) : (Cond.stringRef "Netcompare" 176 "no such index") ∈ lw_tbl)) q1⟩
    · obtain ⟨a, c9, cA, kA, q1, -⟩ := Cond.exactly_spec (args := #[Value.ref b]) (first := s) (o := none) (s := s) (idx := []) (t := .string "Netcompare" 299) (cls := "java/lang/String") (hs (.exactly (.string "Netcompare" 299) "java/lang/String") (by decide +kernel))
      exact ⟨a, vk_R.of (hts _ (List.mem_of_getElem? (i := 993) (by decide +kernel) : (Cond.stringRef "Netcompare" 299 "too many nets to try all ways") ∈ lw_tbl)) q1⟩
    · obtain ⟨a, c9, cA, kA, q1, -⟩ := Cond.exactly_spec (args := #[Value.ref b]) (first := s) (o := none) (s := s) (idx := []) (t := .string "Netcompare" 301) (cls := "java/lang/String") (hs (.exactly (.string "Netcompare" 301) "java/lang/String") (by decide +kernel))
      exact ⟨a, vk_R.of (hts _ (List.mem_of_getElem? (i := 1018) (by decide +kernel) : (Cond.stringRef "Netcompare" 301 "no match") ∈ lw_tbl)) q1⟩
    · obtain ⟨a, c9, cA, kA, q1, -⟩ := Cond.exactly_spec (args := #[Value.ref b]) (first := s) (o := none) (s := s) (idx := []) (t := .string "Netcompare" 303) (cls := "java/lang/String") (hs (.exactly (.string "Netcompare" 303) "java/lang/String") (by decide +kernel))
      exact ⟨a, vk_R.of (hts _ (List.mem_of_getElem? (i := 1061) (by decide +kernel) : (Cond.stringRef "Netcompare" 303 "no such difference") ∈ lw_tbl)) q1⟩
    · obtain ⟨a, c9, cA, kA, q1, -⟩ := Cond.exactly_spec (args := #[Value.ref b]) (first := s) (o := none) (s := s) (idx := []) (t := .string "Netcompare" 271) (cls := "java/lang/String") (hs (.exactly (.string "Netcompare" 271) "java/lang/String") (by decide +kernel))
      exact ⟨a, vk_R.of (hts _ (List.mem_of_getElem? (i := 1133) (by decide +kernel) : (Cond.stringRef "Netcompare" 271 "no classes") ∈ lw_tbl)) q1⟩
    · obtain ⟨a, c9, cA, kA, q1, -⟩ := Cond.exactly_spec (args := #[Value.ref b]) (first := s) (o := none) (s := s) (idx := []) (t := .string "Netcompare" 274) (cls := "java/lang/String") (hs (.exactly (.string "Netcompare" 274) "java/lang/String") (by decide +kernel))
      exact ⟨a, vk_R.of (hts _ (List.mem_of_getElem? (i := 1142) (by decide +kernel) : (Cond.stringRef "Netcompare" 274 "no net reaches a port") ∈ lw_tbl)) q1⟩
  · exact vx_Zqof (hts (.laysStatic "java/lang/Throwable" "UNASSIGNED_STACK" "[Ljava/lang/StackTraceElement;") (List.mem_of_getElem? (i := 554) (by decide +kernel))) (hts (.initialized "java/lang/Throwable") (List.mem_of_getElem? (i := 80) (by decide +kernel))) (hs (.isRef (.static "java/lang/Throwable" "UNASSIGNED_STACK" "[Ljava/lang/StackTraceElement;")) (by decide +kernel)) hA
  · exact vx_Zqof (hts (.laysStatic "java/lang/Throwable" "SUPPRESSED_SENTINEL" "Ljava/util/List;") (List.mem_of_getElem? (i := 556) (by decide +kernel))) (hts (.initialized "java/lang/Throwable") (List.mem_of_getElem? (i := 80) (by decide +kernel))) (hs (.isRef (.static "java/lang/Throwable" "SUPPRESSED_SENTINEL" "Ljava/util/List;")) (by decide +kernel)) hA
  · exact trivial
  · exact hts (.arrayOver (.array .int)) (List.mem_of_getElem? (i := 123) (by decide +kernel))
  · exact va_Nc.of (hs (.not (.castable "java/util/NoSuchElementException" "java/lang/IllegalArgumentException")) (by decide +kernel))
  · exact va_Nc.of (hs (.not (.castable "java/lang/ArithmeticException" "java/lang/IllegalArgumentException")) (by decide +kernel))
