/-! ===== the links are words of the tables ===== -/
def vAt (ps : List Nat) (ws : List Cond) : Bool := match ps, ws with
  | [], [] => true
  | i :: ps, w :: ws => decide (lw_tbl[i]? = some w) && goodWord w && vAt ps ws
  | _, _ => false
theorem vAt_ok : ∀ (ps : List Nat) (ws : List Cond), vAt ps ws = true → ∀ w ∈ ws, w ∈ WT
  | [], [], _, w, h => by cases h
  | [], _ :: _, h, _, _ => by cases h
  | _ :: _, [], h, _, _ => by cases h
  | i :: ps, w0 :: ws, h, w, hw => by
    obtain ⟨h, h3⟩ := vBx h
    obtain ⟨h1, h2⟩ := vBx h
    rcases List.mem_cons.mp hw with e | e
    · rw [e]
      exact WT_of (List.mem_of_getElem? (of_decide_eq_true h1)) h2
    · exact vAt_ok ps ws h3 w e
theorem vlk_ok {lk : List (Nat × Cond)} (ps : List Nat) (h : vAt ps (lk.map (fun q => q.2)) = true) : ∀ q ∈ lk, q.2 ∈ WT := fun q hq => vAt_ok ps _ h q.2 (List.mem_map.mpr ⟨q, hq, rfl⟩)
set_option maxRecDepth 100000 in
theorem vlk_RX11_0 : ∀ w ∈ (vlk_RX11.drop 0).take 60, w.2 ∈ WT := vlk_ok [151, 154, 156, 651, 270, 653, 654, 390, 655, 406, 656, 657, 454, 658, 659, 499, 660, 661, 525, 527, 662, 544, 663, 546, 664, 665, 666, 667, 586, 668, 614, 669, 652, 713, 214, 729, 725, 736, 240, 833, 837, 841, 238, 901, 1388, 325, 330, 337, 425, 428, 432, 434, 853, 417, 857, 861, 865, 419, 897, 313] (by decide +kernel)
set_option maxRecDepth 100000 in
theorem vlk_RX11_1 : ∀ w ∈ (vlk_RX11.drop 60).take 52, w.2 ∈ WT := vlk_ok [318, 1417, 421, 1418, 322, 279, 303, 306, 415, 877, 285, 882, 290, 885, 905, 921, 933, 941, 949, 953, 961, 969, 998, 1006, 1011, 1014, 1044, 297, 1056, 1068, 1105, 1113, 1125, 300, 1152, 1161, 1170, 1178, 1205, 1232, 511, 1259, 463, 461, 1301, 1318, 636, 1323, 638, 640, 1328, 641] (by decide +kernel)
theorem vlk_RX11_ok : ∀ q ∈ vlk_RX11, q.2 ∈ WT := by
  intro q hq
  have e : vlk_RX11 = ((vlk_RX11.drop 0).take 60) ++ (((vlk_RX11.drop 60).take 52)) := by decide +kernel
  rw [e] at hq
  rcases List.mem_append.mp hq with hq | hq
  · exact vlk_RX11_0 q hq
  exact vlk_RX11_1 q hq
set_option maxRecDepth 100000 in
theorem vlk_RX0_ok : ∀ q ∈ vlk_RX0, q.2 ∈ WT := vlk_ok [619, 620, 1190, 413, 288, 1182, 1196, 1186, 293, 1191, 1192, 1193, 1194, 1195] (by decide +kernel)
set_option maxRecDepth 100000 in
theorem vlk_RX1_ok : ∀ q ∈ vlk_RX1, q.2 ∈ WT := vlk_ok [628, 629, 635, 631, 637, 633, 639] (by decide +kernel)
set_option maxRecDepth 100000 in
theorem vlk_RX2_ok : ∀ q ∈ vlk_RX2, q.2 ∈ WT := vlk_ok [591, 592, 594, 595, 596, 597, 598, 1072, 1073, 282, 1079, 1083, 1084, 1100, 593, 1088, 1092, 1096, 335] (by decide +kernel)
set_option maxRecDepth 100000 in
theorem vlk_RX3_ok : ∀ q ∈ vlk_RX3, q.2 ∈ WT := vlk_ok [551, 552, 554, 555, 557, 558, 559, 560, 561, 281, 1018, 1019, 556, 553, 424, 1023, 287, 1024, 1025, 292, 345, 1029, 1030, 1037, 1036, 562, 1034, 1035, 316, 311, 1041, 1129, 1137, 429, 1133, 339, 1141] (by decide +kernel)
set_option maxRecDepth 100000 in
theorem vlk_RX4_ok : ∀ q ∈ vlk_RX4, q.2 ∈ WT := vlk_ok [504, 505, 506, 507, 508, 509, 1209, 219, 1210, 1215, 234, 1214, 230, 1216, 1217, 1223, 1227, 1221, 224, 1222, 1231, 510, 1236, 1240, 1241, 1242, 1247, 1248, 1249, 326, 414, 1250, 1246] (by decide +kernel)
set_option maxRecDepth 100000 in
theorem vlk_RX5_ok : ∀ q ∈ vlk_RX5, q.2 ∈ WT := vlk_ok [530, 531, 534, 536, 535, 925, 932] (by decide +kernel)
set_option maxRecDepth 100000 in
theorem vlk_RX6_ok : ∀ q ∈ vlk_RX6, q.2 ∈ WT := vlk_ok [159, 213, 215, 161, 171, 209, 212, 733, 216, 217, 218, 237, 239, 223, 236, 222, 748, 232, 225, 752, 801, 802, 792, 803, 229, 808] (by decide +kernel)
set_option maxRecDepth 100000 in
theorem vlk_RX7_ok : ∀ q ∈ vlk_RX7, q.2 ∈ WT := vlk_ok [459, 465, 466, 467, 468, 473, 460, 462, 464, 1332, 1263, 469, 470, 471, 472, 1264, 1265, 221, 1288, 1292, 1269, 235, 1270, 1274, 1284, 1278, 1282, 227, 228, 1283, 1296, 1305, 296, 1309, 1313, 430, 328, 333, 340, 1314, 426] (by decide +kernel)
set_option maxRecDepth 100000 in
theorem vlk_RX8_ok : ∀ q ∈ vlk_RX8, q.2 ∈ WT := vlk_ok [411, 416, 418, 420, 422, 423, 427, 431, 433, 412, 308, 342, 324, 929, 294, 889, 336, 284, 881, 278, 332, 913, 346, 917, 314, 909, 319, 973, 974, 978, 986, 990, 982] (by decide +kernel)
set_option maxRecDepth 100000 in
theorem vlk_RX9_ok : ∀ q ∈ vlk_RX9, q.2 ∈ WT := vlk_ok [275, 298, 304, 307, 310, 315, 320, 323, 329, 334, 341, 344, 347, 348, 276, 280, 286, 291, 301, 349, 1327] (by decide +kernel)
set_option maxRecDepth 100000 in
theorem vlk_RX10_ok : ∀ q ∈ vlk_RX10, q.2 ∈ WT := vlk_ok [395, 740, 396, 397, 398, 744, 220, 756, 760, 768, 233, 764, 793, 809, 817, 821, 825, 829, 776, 231, 780, 784, 277, 772, 302, 788, 797, 226, 305, 804, 283, 813, 309, 289, 312, 317, 321, 295, 327, 331, 338, 343, 299] (by decide +kernel)
set_option maxRecDepth 100000 in
theorem vlk_RL_0 : ∀ w ∈ (vlk_RL.drop 0).take 60, w.2 ∈ WT := vlk_ok [146, 148, 1442, 1443, 709, 1429, 717, 1438, 721, 1654, 845, 1734, 1341, 1738, 849, 1750, 1410, 1770, 869, 1790, 873, 1794, 893, 1814, 937, 1834, 945, 1842, 957, 1854, 965, 1862, 994, 1885, 1002, 1889, 1007, 1893, 1048, 1917, 1052, 1921, 1060, 1925, 1064, 1929, 1101, 1945, 1109, 1949, 1117, 1953, 1121, 1957, 1144, 1972, 1422, 1976, 1148, 1983] (by decide +kernel)
set_option maxRecDepth 100000 in
theorem vlk_RL_1 : ∀ w ∈ (vlk_RL.drop 60).take 26, w.2 ∈ WT := vlk_ok [1153, 1995, 1157, 1999, 1162, 2003, 1166, 2007, 1174, 2011, 1197, 2028, 1201, 2032, 1251, 2044, 1255, 2048, 1297, 2080, 1319, 2092, 1333, 2096, 1337, 2100] (by decide +kernel)
theorem vlk_RL_ok : ∀ q ∈ vlk_RL, q.2 ∈ WT := by
  intro q hq
  have e : vlk_RL = ((vlk_RL.drop 0).take 60) ++ (((vlk_RL.drop 60).take 26)) := by decide +kernel
  rw [e] at hq
  rcases List.mem_append.mp hq with hq | hq
  · exact vlk_RL_0 q hq
  exact vlk_RL_1 q hq
set_option maxRecDepth 100000 in
theorem vlk_RX12_0 : ∀ w ∈ (vlk_RX12.drop 0).take 60, w.2 ∈ WT := vlk_ok [1472, 1474, 1433, 1473, 1475, 1476, 1477, 1446, 1478, 1479, 1480, 1481, 1482, 1495, 1496, 1498, 1499, 1500, 1501, 1504, 1505, 1506, 1507, 1508, 1509, 1510, 1512, 1513, 1514, 1515, 1516, 1517, 1520, 1522, 1528, 1529, 1530, 1531, 1447, 1448, 1449, 1450, 1451, 1452, 1453, 1454, 1455, 1456, 1457, 1458, 1459, 1460, 1461, 1462, 1463, 1464, 1465, 1466, 1467, 1468] (by decide +kernel)
set_option maxRecDepth 100000 in
theorem vlk_RX12_1 : ∀ w ∈ (vlk_RX12.drop 60).take 60, w.2 ∈ WT := vlk_ok [1469, 1470, 1471, 1666, 1484, 1485, 1483, 1670, 1673, 1486, 1489, 1487, 1488, 1730, 1684, 1662, 1719, 1490, 1715, 1692, 1696, 1704, 1680, 1688, 1492, 1700, 1708, 1711, 1493, 1722, 1494, 1658, 1491, 1676, 1726, 1497, 1810, 1778, 1786, 1782, 1762, 1826, 1742, 1746, 1754, 1758, 1766, 1774, 1798, 1802, 1806, 1822, 1882, 1874, 1878, 1870, 1818, 1830, 1838, 1846] (by decide +kernel)
set_option maxRecDepth 100000 in
theorem vlk_RX12_2 : ∀ w ∈ (vlk_RX12.drop 120).take 44, w.2 ∈ WT := vlk_ok [1850, 1858, 1866, 1502, 1503, 1910, 1905, 1906, 1897, 1901, 1913, 1937, 1933, 1941, 1511, 1965, 1969, 1961, 1980, 1987, 1991, 1518, 2027, 2023, 2019, 2015, 1519, 2036, 2040, 1521, 1523, 1525, 2056, 1526, 2072, 1524, 1527, 2076, 2052, 2060, 2064, 2068, 2088, 2084] (by decide +kernel)
theorem vlk_RX12_ok : ∀ q ∈ vlk_RX12, q.2 ∈ WT := by
  intro q hq
  have e : vlk_RX12 = ((vlk_RX12.drop 0).take 60) ++ (((vlk_RX12.drop 60).take 60) ++ (((vlk_RX12.drop 120).take 44))) := by decide +kernel
  rw [e] at hq
  rcases List.mem_append.mp hq with hq | hq
  · exact vlk_RX12_0 q hq
  rcases List.mem_append.mp hq with hq | hq
  · exact vlk_RX12_1 q hq
  exact vlk_RX12_2 q hq
set_option maxRecDepth 100000 in
theorem vlk_RJ6_ok : ∀ q ∈ vlk_RJ6, q.2 ∈ WT := vlk_ok [1076, 1077, 1078] (by decide +kernel)
set_option maxRecDepth 100000 in
theorem vlk_RJ0_ok : ∀ q ∈ vlk_RJ0, q.2 ∈ WT := vlk_ok [2121, 2122, 169, 165, 175, 179, 190, 185, 187] (by decide +kernel)
set_option maxRecDepth 100000 in
theorem vlk_RJ1_ok : ∀ q ∈ vlk_RJ1, q.2 ∈ WT := vlk_ok [182] (by decide +kernel)
set_option maxRecDepth 100000 in
theorem vlk_RJ2_ok : ∀ q ∈ vlk_RJ2, q.2 ∈ WT := vlk_ok [196, 193, 200, 199] (by decide +kernel)
