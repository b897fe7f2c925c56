/-! ===== the links are words of the tables ===== -/
def vAt (ps : List Nat) (ws : List Cond) : Bool := match ps, ws with
  | [], [] => true
  | i :: ps, w :: ws => decide (lw_tbl[i]? = some w) && goodWord w && vAt ps ws
  | _, _ => false
theorem vAt_ok : ∀ (ps : List Nat) (ws : List Cond), vAt ps ws = true → ∀ w ∈ ws, w ∈ WT
  | [], [], _, w, h => by cases h
  | [], _ :: _, h, _, _ => by cases h
  | _ :: _, [], h, _, _ => by cases h
  | i :: ps, w0 :: ws, h, w, hw => by
    obtain ⟨h, h3⟩ := vBx h
    obtain ⟨h1, h2⟩ := vBx h
    rcases List.mem_cons.mp hw with e | e
    · rw [e]
      exact WT_of (List.mem_of_getElem? (of_decide_eq_true h1)) h2
    · exact vAt_ok ps ws h3 w e
theorem vlk_ok {lk : List (Nat × Cond)} (ps : List Nat) (h : vAt ps (lk.map (fun q => q.2)) = true) : ∀ q ∈ lk, q.2 ∈ WT := fun q hq => vAt_ok ps _ h q.2 (List.mem_map.mpr ⟨q, hq, rfl⟩)
set_option maxRecDepth 100000 in
theorem vlk_RX11_0 : ∀ w ∈ (vlk_RX11.drop 0).take 60, w.2 ∈ WT := vlk_ok [151, 154, 156, 651, 270, 653, 654, 390, 655, 406, 656, 657, 454, 658, 659, 499, 660, 661, 525, 527, 662, 544, 663, 546, 664, 665, 666, 667, 586, 668, 614, 669, 652, 713, 214, 729, 725, 736, 240, 833, 837, 841, 238, 901, 1388, 325, 330, 337, 425, 428, 432, 434, 853, 417, 857, 861, 865, 419, 897, 313] (by decide +kernel)
set_option maxRecDepth 100000 in
theorem vlk_RX11_1 : ∀ w ∈ (vlk_RX11.drop 60).take 52, w.2 ∈ WT := vlk_ok [318, 1417, 421, 1418, 322, 279, 303, 306, 415, 877, 285, 882, 290, 885, 905, 921, 933, 941, 949, 953, 961, 969, 998, 1006, 1011, 1014, 1044, 297, 1056, 1068, 1105, 1113, 1125, 300, 1152, 1161, 1170, 1178, 1205, 1232, 511, 1259, 463, 461, 1301, 1318, 636, 1323, 638, 640, 1328, 641] (by decide +kernel)
theorem vlk_RX11_ok : ∀ q ∈ vlk_RX11, q.2 ∈ WT := by
  intro q hq
  have e : vlk_RX11 = ((vlk_RX11.drop 0).take 60) ++ (((vlk_RX11.drop 60).take 52)) := by decide +kernel
  rw [e] at hq
  rcases List.mem_append.mp hq with hq | hq
  · exact vlk_RX11_0 q hq
  exact vlk_RX11_1 q hq
set_option maxRecDepth 100000 in
theorem vlk_RX0_ok : ∀ q ∈ vlk_RX0, q.2 ∈ WT := vlk_ok [619] (by decide +kernel)
set_option maxRecDepth 100000 in
theorem vlk_RX1_ok : ∀ q ∈ vlk_RX1, q.2 ∈ WT := vlk_ok [628, 629, 635, 631, 637, 633, 639] (by decide +kernel)
set_option maxRecDepth 100000 in
theorem vlk_RX2_ok : ∀ q ∈ vlk_RX2, q.2 ∈ WT := vlk_ok [591, 592, 594, 595, 596, 597, 598, 1073] (by decide +kernel)
set_option maxRecDepth 100000 in
theorem vlk_RX3_ok : ∀ q ∈ vlk_RX3, q.2 ∈ WT := vlk_ok [551, 552, 554, 555, 557, 558, 559, 560, 561, 281, 1018, 1019, 556, 553, 424, 1023, 287, 1024, 1025, 292, 345, 1029, 1030, 1037, 1036, 562, 1034, 316, 311, 1129, 1137, 429, 1133, 339, 1141] (by decide +kernel)
set_option maxRecDepth 100000 in
theorem vlk_RX4_ok : ∀ q ∈ vlk_RX4, q.2 ∈ WT := vlk_ok [504, 505, 506, 507, 508, 509, 1209, 219, 1210, 1215, 510, 1236] (by decide +kernel)
set_option maxRecDepth 100000 in
theorem vlk_RX5_ok : ∀ q ∈ vlk_RX5, q.2 ∈ WT := vlk_ok [530, 531, 534, 536, 535, 925, 932] (by decide +kernel)
set_option maxRecDepth 100000 in
theorem vlk_RX6_ok : ∀ q ∈ vlk_RX6, q.2 ∈ WT := vlk_ok [159, 213, 215, 161, 171, 209, 212, 733, 216, 217, 218, 237, 239, 223, 236, 222, 748] (by decide +kernel)
set_option maxRecDepth 100000 in
theorem vlk_RX7_ok : ∀ q ∈ vlk_RX7, q.2 ∈ WT := vlk_ok [459, 465, 466, 467, 468, 473, 460, 462, 464, 1332, 1263, 469, 470, 471, 472, 1264, 1265, 221, 1288, 1292, 1269, 235, 1270, 1274, 1284] (by decide +kernel)
set_option maxRecDepth 100000 in
theorem vlk_RX8_ok : ∀ q ∈ vlk_RX8, q.2 ∈ WT := vlk_ok [411, 416, 418, 420, 422, 423, 427, 431, 433, 412, 308, 342, 324, 929, 294, 889, 284, 881, 332, 319, 973, 974, 978, 986, 990, 982] (by decide +kernel)
set_option maxRecDepth 100000 in
theorem vlk_RX9_ok : ∀ q ∈ vlk_RX9, q.2 ∈ WT := vlk_ok [275, 298, 304, 307, 310, 315, 320, 323, 329, 334, 341, 344, 347, 348, 276, 280, 286, 291, 301, 349, 1327] (by decide +kernel)
set_option maxRecDepth 100000 in
theorem vlk_RX10_ok : ∀ q ∈ vlk_RX10, q.2 ∈ WT := vlk_ok [395, 740, 396, 397, 398, 744, 220, 756, 760, 768] (by decide +kernel)
set_option maxRecDepth 100000 in
theorem vlk_RL_0 : ∀ w ∈ (vlk_RL.drop 0).take 60, w.2 ∈ WT := vlk_ok [146, 148, 1446, 1447, 709, 1433, 717, 1442, 721, 1658, 845, 1738, 1341, 1742, 1429, 849, 1754, 1410, 1774, 869, 1794, 873, 1798, 893, 1818, 937, 1838, 945, 1846, 957, 1858, 965, 1866, 994, 1889, 1002, 1893, 1007, 1897, 1048, 1921, 1052, 1925, 1060, 1929, 1064, 1933, 1101, 1949, 1109, 1953, 1117, 1957, 1121, 1961, 1144, 1976, 1422, 1980, 1148] (by decide +kernel)
set_option maxRecDepth 100000 in
theorem vlk_RL_1 : ∀ w ∈ (vlk_RL.drop 60).take 27, w.2 ∈ WT := vlk_ok [1987, 1153, 1999, 1157, 2003, 1162, 2007, 1166, 2011, 1174, 2015, 1197, 2032, 1201, 2036, 1251, 2048, 1255, 2052, 1297, 2084, 1319, 2096, 1333, 2100, 1337, 2104] (by decide +kernel)
theorem vlk_RL_ok : ∀ q ∈ vlk_RL, q.2 ∈ WT := by
  intro q hq
  have e : vlk_RL = ((vlk_RL.drop 0).take 60) ++ (((vlk_RL.drop 60).take 27)) := by decide +kernel
  rw [e] at hq
  rcases List.mem_append.mp hq with hq | hq
  · exact vlk_RL_0 q hq
  exact vlk_RL_1 q hq
set_option maxRecDepth 100000 in
theorem vlk_RX12_0 : ∀ w ∈ (vlk_RX12.drop 0).take 60, w.2 ∈ WT := vlk_ok [1476, 1478, 1437, 1477, 1479, 1480, 1481, 1450, 1482, 1483, 1484, 1485, 1486, 1499, 1500, 1502, 1503, 1504, 1505, 1508, 1509, 1510, 1511, 1512, 1513, 1514, 1516, 1517, 1518, 1519, 1520, 1521, 1524, 1526, 1532, 1533, 1534, 1535, 1451, 1452, 1453, 1454, 1455, 1456, 1457, 1458, 1459, 1460, 1461, 1462, 1463, 1464, 1465, 1466, 1467, 1468, 1469, 1470, 1471, 1472] (by decide +kernel)
set_option maxRecDepth 100000 in
theorem vlk_RX12_1 : ∀ w ∈ (vlk_RX12.drop 60).take 60, w.2 ∈ WT := vlk_ok [1473, 1474, 1475, 1670, 1488, 1489, 1487, 1674, 1677, 1490, 1493, 1491, 1492, 1734, 1688, 1666, 1723, 1494, 1708, 1684, 1496, 1712, 1497, 1498, 1662, 1495, 1680, 1730, 1501, 1814, 1782, 1786, 1766, 1830, 1746, 1750, 1758, 1762, 1770, 1778, 1802, 1806, 1810, 1826, 1886, 1878, 1882, 1874, 1822, 1834, 1842, 1850, 1854, 1862, 1870, 1506, 1507, 1909, 1910, 1901] (by decide +kernel)
set_option maxRecDepth 100000 in
theorem vlk_RX12_2 : ∀ w ∈ (vlk_RX12.drop 120).take 29, w.2 ∈ WT := vlk_ok [1905, 1917, 1937, 1945, 1515, 1969, 1973, 1965, 1984, 1991, 1995, 2019, 1523, 2040, 2044, 1525, 1527, 1529, 2060, 1530, 2076, 1528, 1531, 2080, 2056, 2064, 2068, 2072, 2088] (by decide +kernel)
theorem vlk_RX12_ok : ∀ q ∈ vlk_RX12, q.2 ∈ WT := by
  intro q hq
  have e : vlk_RX12 = ((vlk_RX12.drop 0).take 60) ++ (((vlk_RX12.drop 60).take 60) ++ (((vlk_RX12.drop 120).take 29))) := by decide +kernel
  rw [e] at hq
  rcases List.mem_append.mp hq with hq | hq
  · exact vlk_RX12_0 q hq
  rcases List.mem_append.mp hq with hq | hq
  · exact vlk_RX12_1 q hq
  exact vlk_RX12_2 q hq
set_option maxRecDepth 100000 in
theorem vlk_RJ6_ok : ∀ q ∈ vlk_RJ6, q.2 ∈ WT := vlk_ok [1076, 1077, 1078] (by decide +kernel)
set_option maxRecDepth 100000 in
theorem vlk_RJ0_ok : ∀ q ∈ vlk_RJ0, q.2 ∈ WT := vlk_ok [2125, 2126, 169, 165, 175, 179, 190, 185, 187] (by decide +kernel)
set_option maxRecDepth 100000 in
theorem vlk_RJ1_ok : ∀ q ∈ vlk_RJ1, q.2 ∈ WT := vlk_ok [182] (by decide +kernel)
