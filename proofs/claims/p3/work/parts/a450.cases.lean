/-! ===== the cases of the law: what is between the calls ===== -/
def lS : sC := .inl (.inr (.inr (.inr (.inr 0))))
def lL : List (Option sC) := [some lS, some (yO 0), some (yO 220), some (yO 248), some (zY 0), none, none]
def lG : sG := (7, [(0, [(2147483648, 2147486714)]), (1, [(0, 4294967295)]), (2, [(0, 4294967295)]), (3, [(0, 4294967295)]), (4, [(0, 4294967295)]), (5, [(0, 4294967295)]), (6, [(0, 4294967295)])], [])
/-- the script's number at i + c -/
def lA (c : Nat) : sC := .inl (.inr (.inl (c + 1, 0)))
def lArgs : Nat → List sC
  | 0 => []
  | n + 1 => lA (n + 1) :: lArgs n
def lStarts : List Nat := [220, 293, 318, 331, 344, 384, 421, 461, 498, 523, 560, 609, 646, 671, 696, 709, 746, 783, 808, 833, 858, 871, 896, 909, 946, 959, 984, 1024, 1049, 1086, 1111, 1136, 1149, 1186, 1235, 1260, 1285, 1298, 1323, 1348, 1373, 1398]
set_option maxRecDepth 1000000 in
theorem lw_sw : lChk lG lStarts 3000 (33, lL, [], []) (lStarts.map (fun p => (p, lL, [], []))) = true := by decide +kernel
set_option maxRecDepth 1000000 in
theorem lw_next : lChk lG [23] 3000 (1398, lL, [], []) [(23, [some lS, some (yO 0), some (yO 220), some (yO 248), some (zY 6), none, none], [], [])] = true := by decide +kernel
set_option maxRecDepth 1000000 in
theorem lw_a0 : lChk lG [251] 3000 (220, lL, [], []) [(251, lL, lArgs 5 ++ [yO 0], [])] = true := by decide +kernel
set_option maxRecDepth 1000000 in
theorem lw_b0 : lChk lG [286] 3000 (254, lL, [zF], []) [(286, lL, lArgs 5 ++ [yO 220], [])] = true := by decide +kernel
set_option maxRecDepth 1000000 in
theorem lw_c0 : lChk lG [1398] 3000 (289, lL, [zF], []) [(1398, lL, [], [])] = true := by decide +kernel
set_option maxRecDepth 1000000 in
theorem lw_a1 : lChk lG [300] 3000 (293, lL, [], []) [(300, lL, lArgs 1 ++ [yO 0], [])] = true := by decide +kernel
set_option maxRecDepth 1000000 in
theorem lw_a2 : lChk lG [319] 3000 (318, lL, [], []) [(319, lL, lArgs 0 ++ [yO 0], [])] = true := by decide +kernel
set_option maxRecDepth 1000000 in
theorem lw_b2 : lChk lG [324] 3000 (322, lL, [zF], []) [(324, lL, lArgs 0 ++ [yO 220], [])] = true := by decide +kernel
set_option maxRecDepth 1000000 in
theorem lw_c2 : lChk lG [1398] 3000 (327, lL, [zF], []) [(1398, lL, [], [])] = true := by decide +kernel
set_option maxRecDepth 1000000 in
theorem lw_a3 : lChk lG [332] 3000 (331, lL, [], []) [(332, lL, lArgs 0 ++ [yO 0], [])] = true := by decide +kernel
set_option maxRecDepth 1000000 in
theorem lw_b3 : lChk lG [337] 3000 (335, lL, [zF], []) [(337, lL, lArgs 0 ++ [yO 220], [])] = true := by decide +kernel
set_option maxRecDepth 1000000 in
theorem lw_c3 : lChk lG [1398] 3000 (340, lL, [zF], []) [(1398, lL, [], [])] = true := by decide +kernel
set_option maxRecDepth 1000000 in
theorem lw_a4 : lChk lG [358] 3000 (344, lL, [], []) [(358, lL, [yO 248, lA 2, lA 1, yO 0], [])] = true := by decide +kernel
set_option maxRecDepth 1000000 in
theorem lw_b4 : lChk lG [376] 3000 (361, lL, [zF], []) [(376, lL, lArgs 2 ++ [yO 220], [])] = true := by decide +kernel
set_option maxRecDepth 1000000 in
theorem lw_c4 : lChk lG [1398] 3000 (379, lL, [zF], []) [(1398, lL, [], [])] = true := by decide +kernel
set_option maxRecDepth 1000000 in
theorem lw_a5 : lChk lG [397] 3000 (384, lL, [], []) [(397, lL, lArgs 2 ++ [yO 0], [])] = true := by decide +kernel
set_option maxRecDepth 1000000 in
theorem lw_b5 : lChk lG [414] 3000 (400, lL, [zF], []) [(414, lL, lArgs 2 ++ [yO 220], [])] = true := by decide +kernel
set_option maxRecDepth 1000000 in
theorem lw_c5 : lChk lG [1398] 3000 (417, lL, [zF], []) [(1398, lL, [], [])] = true := by decide +kernel
set_option maxRecDepth 1000000 in
theorem lw_a6 : lChk lG [435] 3000 (421, lL, [], []) [(435, lL, [yO 248, lA 2, lA 1, yO 0], [])] = true := by decide +kernel
set_option maxRecDepth 1000000 in
theorem lw_b6 : lChk lG [453] 3000 (438, lL, [zF], []) [(453, lL, lArgs 2 ++ [yO 220], [])] = true := by decide +kernel
set_option maxRecDepth 1000000 in
theorem lw_c6 : lChk lG [1398] 3000 (456, lL, [zF], []) [(1398, lL, [], [])] = true := by decide +kernel
set_option maxRecDepth 1000000 in
theorem lw_a7 : lChk lG [474] 3000 (461, lL, [], []) [(474, lL, lArgs 2 ++ [yO 0], [])] = true := by decide +kernel
set_option maxRecDepth 1000000 in
theorem lw_b7 : lChk lG [491] 3000 (477, lL, [zF], []) [(491, lL, lArgs 2 ++ [yO 220], [])] = true := by decide +kernel
set_option maxRecDepth 1000000 in
theorem lw_c7 : lChk lG [1398] 3000 (494, lL, [zF], []) [(1398, lL, [], [])] = true := by decide +kernel
set_option maxRecDepth 1000000 in
theorem lw_a8 : lChk lG [505] 3000 (498, lL, [], []) [(505, lL, lArgs 1 ++ [yO 0], [])] = true := by decide +kernel
set_option maxRecDepth 1000000 in
theorem lw_b8 : lChk lG [516] 3000 (508, lL, [zF], []) [(516, lL, lArgs 1 ++ [yO 220], [])] = true := by decide +kernel
set_option maxRecDepth 1000000 in
theorem lw_c8 : lChk lG [1398] 3000 (519, lL, [zF], []) [(1398, lL, [], [])] = true := by decide +kernel
set_option maxRecDepth 1000000 in
theorem lw_a9 : lChk lG [536] 3000 (523, lL, [], []) [(536, lL, lArgs 2 ++ [yO 0], [])] = true := by decide +kernel
set_option maxRecDepth 1000000 in
theorem lw_b9 : lChk lG [553] 3000 (539, lL, [zF], []) [(553, lL, lArgs 2 ++ [yO 220], [])] = true := by decide +kernel
set_option maxRecDepth 1000000 in
theorem lw_c9 : lChk lG [1398] 3000 (556, lL, [zF], []) [(1398, lL, [], [])] = true := by decide +kernel
set_option maxRecDepth 1000000 in
theorem lw_a10 : lChk lG [579] 3000 (560, lL, [], []) [(579, lL, lArgs 3 ++ [yO 0], [])] = true := by decide +kernel
set_option maxRecDepth 1000000 in
theorem lw_b10 : lChk lG [602] 3000 (582, lL, [zF], []) [(602, lL, lArgs 3 ++ [yO 220], [])] = true := by decide +kernel
set_option maxRecDepth 1000000 in
theorem lw_c10 : lChk lG [1398] 3000 (605, lL, [zF], []) [(1398, lL, [], [])] = true := by decide +kernel
set_option maxRecDepth 1000000 in
theorem lw_a11 : lChk lG [622] 3000 (609, lL, [], []) [(622, lL, lArgs 2 ++ [yO 0], [])] = true := by decide +kernel
set_option maxRecDepth 1000000 in
theorem lw_b11 : lChk lG [639] 3000 (625, lL, [zF], []) [(639, lL, lArgs 2 ++ [yO 220], [])] = true := by decide +kernel
set_option maxRecDepth 1000000 in
theorem lw_c11 : lChk lG [1398] 3000 (642, lL, [zF], []) [(1398, lL, [], [])] = true := by decide +kernel
set_option maxRecDepth 1000000 in
theorem lw_a12 : lChk lG [653] 3000 (646, lL, [], []) [(653, lL, lArgs 1 ++ [yO 0], [])] = true := by decide +kernel
set_option maxRecDepth 1000000 in
theorem lw_b12 : lChk lG [664] 3000 (656, lL, [zF], []) [(664, lL, lArgs 1 ++ [yO 220], [])] = true := by decide +kernel
set_option maxRecDepth 1000000 in
theorem lw_c12 : lChk lG [1398] 3000 (667, lL, [zF], []) [(1398, lL, [], [])] = true := by decide +kernel
set_option maxRecDepth 1000000 in
theorem lw_a13 : lChk lG [678] 3000 (671, lL, [], []) [(678, lL, lArgs 1 ++ [yO 0], [])] = true := by decide +kernel
set_option maxRecDepth 1000000 in
theorem lw_b13 : lChk lG [689] 3000 (681, lL, [zF], []) [(689, lL, lArgs 1 ++ [yO 220], [])] = true := by decide +kernel
set_option maxRecDepth 1000000 in
theorem lw_c13 : lChk lG [1398] 3000 (692, lL, [zF], []) [(1398, lL, [], [])] = true := by decide +kernel
set_option maxRecDepth 1000000 in
theorem lw_a14 : lChk lG [697] 3000 (696, lL, [], []) [(697, lL, lArgs 0 ++ [yO 0], [])] = true := by decide +kernel
set_option maxRecDepth 1000000 in
theorem lw_b14 : lChk lG [702] 3000 (700, lL, [zF], []) [(702, lL, lArgs 0 ++ [yO 220], [])] = true := by decide +kernel
set_option maxRecDepth 1000000 in
theorem lw_c14 : lChk lG [1398] 3000 (705, lL, [zF], []) [(1398, lL, [], [])] = true := by decide +kernel
set_option maxRecDepth 1000000 in
theorem lw_a15 : lChk lG [722] 3000 (709, lL, [], []) [(722, lL, lArgs 2 ++ [yO 0], [])] = true := by decide +kernel
set_option maxRecDepth 1000000 in
theorem lw_b15 : lChk lG [739] 3000 (725, lL, [zF], []) [(739, lL, lArgs 2 ++ [yO 220], [])] = true := by decide +kernel
set_option maxRecDepth 1000000 in
theorem lw_c15 : lChk lG [1398] 3000 (742, lL, [zF], []) [(1398, lL, [], [])] = true := by decide +kernel
set_option maxRecDepth 1000000 in
theorem lw_a16 : lChk lG [759] 3000 (746, lL, [], []) [(759, lL, lArgs 2 ++ [yO 0], [])] = true := by decide +kernel
set_option maxRecDepth 1000000 in
theorem lw_b16 : lChk lG [776] 3000 (762, lL, [zF], []) [(776, lL, lArgs 2 ++ [yO 220], [])] = true := by decide +kernel
set_option maxRecDepth 1000000 in
theorem lw_c16 : lChk lG [1398] 3000 (779, lL, [zF], []) [(1398, lL, [], [])] = true := by decide +kernel
set_option maxRecDepth 1000000 in
theorem lw_a17 : lChk lG [790] 3000 (783, lL, [], []) [(790, lL, lArgs 1 ++ [yO 0], [])] = true := by decide +kernel
set_option maxRecDepth 1000000 in
theorem lw_b17 : lChk lG [801] 3000 (793, lL, [zF], []) [(801, lL, lArgs 1 ++ [yO 220], [])] = true := by decide +kernel
set_option maxRecDepth 1000000 in
theorem lw_c17 : lChk lG [1398] 3000 (804, lL, [zF], []) [(1398, lL, [], [])] = true := by decide +kernel
set_option maxRecDepth 1000000 in
theorem lw_a18 : lChk lG [815] 3000 (808, lL, [], []) [(815, lL, lArgs 1 ++ [yO 0], [])] = true := by decide +kernel
set_option maxRecDepth 1000000 in
theorem lw_b18 : lChk lG [826] 3000 (818, lL, [zF], []) [(826, lL, lArgs 1 ++ [yO 220], [])] = true := by decide +kernel
set_option maxRecDepth 1000000 in
theorem lw_c18 : lChk lG [1398] 3000 (829, lL, [zF], []) [(1398, lL, [], [])] = true := by decide +kernel
set_option maxRecDepth 1000000 in
theorem lw_a19 : lChk lG [840] 3000 (833, lL, [], []) [(840, lL, lArgs 1 ++ [yO 0], [])] = true := by decide +kernel
set_option maxRecDepth 1000000 in
theorem lw_b19 : lChk lG [851] 3000 (843, lL, [zF], []) [(851, lL, lArgs 1 ++ [yO 220], [])] = true := by decide +kernel
set_option maxRecDepth 1000000 in
theorem lw_c19 : lChk lG [1398] 3000 (854, lL, [zF], []) [(1398, lL, [], [])] = true := by decide +kernel
set_option maxRecDepth 1000000 in
theorem lw_a20 : lChk lG [859] 3000 (858, lL, [], []) [(859, lL, lArgs 0 ++ [yO 0], [])] = true := by decide +kernel
set_option maxRecDepth 1000000 in
theorem lw_b20 : lChk lG [864] 3000 (862, lL, [zF], []) [(864, lL, lArgs 0 ++ [yO 220], [])] = true := by decide +kernel
set_option maxRecDepth 1000000 in
theorem lw_c20 : lChk lG [1398] 3000 (867, lL, [zF], []) [(1398, lL, [], [])] = true := by decide +kernel
set_option maxRecDepth 1000000 in
theorem lw_a21 : lChk lG [878] 3000 (871, lL, [], []) [(878, lL, lArgs 1 ++ [yO 0], [])] = true := by decide +kernel
set_option maxRecDepth 1000000 in
theorem lw_b21 : lChk lG [889] 3000 (881, lL, [zF], []) [(889, lL, lArgs 1 ++ [yO 220], [])] = true := by decide +kernel
set_option maxRecDepth 1000000 in
theorem lw_c21 : lChk lG [1398] 3000 (892, lL, [zF], []) [(1398, lL, [], [])] = true := by decide +kernel
set_option maxRecDepth 1000000 in
theorem lw_a22 : lChk lG [897] 3000 (896, lL, [], []) [(897, lL, lArgs 0 ++ [yO 0], [])] = true := by decide +kernel
set_option maxRecDepth 1000000 in
theorem lw_b22 : lChk lG [902] 3000 (900, lL, [zF], []) [(902, lL, lArgs 0 ++ [yO 220], [])] = true := by decide +kernel
set_option maxRecDepth 1000000 in
theorem lw_c22 : lChk lG [1398] 3000 (905, lL, [zF], []) [(1398, lL, [], [])] = true := by decide +kernel
set_option maxRecDepth 1000000 in
theorem lw_a23 : lChk lG [922] 3000 (909, lL, [], []) [(922, lL, lArgs 2 ++ [yO 0], [])] = true := by decide +kernel
set_option maxRecDepth 1000000 in
theorem lw_b23 : lChk lG [939] 3000 (925, lL, [zF], []) [(939, lL, lArgs 2 ++ [yO 220], [])] = true := by decide +kernel
set_option maxRecDepth 1000000 in
theorem lw_c23 : lChk lG [1398] 3000 (942, lL, [zF], []) [(1398, lL, [], [])] = true := by decide +kernel
set_option maxRecDepth 1000000 in
theorem lw_a24 : lChk lG [947] 3000 (946, lL, [], []) [(947, lL, lArgs 0 ++ [yO 0], [])] = true := by decide +kernel
set_option maxRecDepth 1000000 in
theorem lw_b24 : lChk lG [952] 3000 (950, lL, [zF], []) [(952, lL, lArgs 0 ++ [yO 220], [])] = true := by decide +kernel
set_option maxRecDepth 1000000 in
theorem lw_c24 : lChk lG [1398] 3000 (955, lL, [zF], []) [(1398, lL, [], [])] = true := by decide +kernel
set_option maxRecDepth 1000000 in
theorem lw_a25 : lChk lG [966] 3000 (959, lL, [], []) [(966, lL, lArgs 1 ++ [yO 0], [])] = true := by decide +kernel
set_option maxRecDepth 1000000 in
theorem lw_b25 : lChk lG [977] 3000 (969, lL, [zF], []) [(977, lL, lArgs 1 ++ [yO 220], [])] = true := by decide +kernel
set_option maxRecDepth 1000000 in
theorem lw_c25 : lChk lG [1398] 3000 (980, lL, [zF], []) [(1398, lL, [], [])] = true := by decide +kernel
set_option maxRecDepth 1000000 in
theorem lw_a26 : lChk lG [998] 3000 (984, lL, [], []) [(998, lL, [yO 248, lA 2, lA 1, yO 0], [])] = true := by decide +kernel
set_option maxRecDepth 1000000 in
theorem lw_b26 : lChk lG [1016] 3000 (1001, lL, [zF], []) [(1016, lL, lArgs 2 ++ [yO 220], [])] = true := by decide +kernel
set_option maxRecDepth 1000000 in
theorem lw_c26 : lChk lG [1398] 3000 (1019, lL, [zF], []) [(1398, lL, [], [])] = true := by decide +kernel
set_option maxRecDepth 1000000 in
theorem lw_a27 : lChk lG [1031] 3000 (1024, lL, [], []) [(1031, lL, lArgs 1 ++ [yO 0], [])] = true := by decide +kernel
set_option maxRecDepth 1000000 in
theorem lw_b27 : lChk lG [1042] 3000 (1034, lL, [zF], []) [(1042, lL, lArgs 1 ++ [yO 220], [])] = true := by decide +kernel
set_option maxRecDepth 1000000 in
theorem lw_c27 : lChk lG [1398] 3000 (1045, lL, [zF], []) [(1398, lL, [], [])] = true := by decide +kernel
set_option maxRecDepth 1000000 in
theorem lw_a28 : lChk lG [1062] 3000 (1049, lL, [], []) [(1062, lL, lArgs 2 ++ [yO 0], [])] = true := by decide +kernel
set_option maxRecDepth 1000000 in
theorem lw_b28 : lChk lG [1079] 3000 (1065, lL, [zF], []) [(1079, lL, lArgs 2 ++ [yO 220], [])] = true := by decide +kernel
set_option maxRecDepth 1000000 in
theorem lw_c28 : lChk lG [1398] 3000 (1082, lL, [zF], []) [(1398, lL, [], [])] = true := by decide +kernel
set_option maxRecDepth 1000000 in
theorem lw_a29 : lChk lG [1093] 3000 (1086, lL, [], []) [(1093, lL, lArgs 1 ++ [yO 0], [])] = true := by decide +kernel
set_option maxRecDepth 1000000 in
theorem lw_b29 : lChk lG [1104] 3000 (1096, lL, [zF], []) [(1104, lL, lArgs 1 ++ [yO 220], [])] = true := by decide +kernel
set_option maxRecDepth 1000000 in
theorem lw_c29 : lChk lG [1398] 3000 (1107, lL, [zF], []) [(1398, lL, [], [])] = true := by decide +kernel
set_option maxRecDepth 1000000 in
theorem lw_a30 : lChk lG [1118] 3000 (1111, lL, [], []) [(1118, lL, lArgs 1 ++ [yO 0], [])] = true := by decide +kernel
set_option maxRecDepth 1000000 in
theorem lw_b30 : lChk lG [1129] 3000 (1121, lL, [zF], []) [(1129, lL, lArgs 1 ++ [yO 220], [])] = true := by decide +kernel
set_option maxRecDepth 1000000 in
theorem lw_c30 : lChk lG [1398] 3000 (1132, lL, [zF], []) [(1398, lL, [], [])] = true := by decide +kernel
set_option maxRecDepth 1000000 in
theorem lw_a31 : lChk lG [1137] 3000 (1136, lL, [], []) [(1137, lL, lArgs 0 ++ [yO 0], [])] = true := by decide +kernel
set_option maxRecDepth 1000000 in
theorem lw_b31 : lChk lG [1142] 3000 (1140, lL, [zF], []) [(1142, lL, lArgs 0 ++ [yO 220], [])] = true := by decide +kernel
set_option maxRecDepth 1000000 in
theorem lw_c31 : lChk lG [1398] 3000 (1145, lL, [zF], []) [(1398, lL, [], [])] = true := by decide +kernel
set_option maxRecDepth 1000000 in
theorem lw_a32 : lChk lG [1162] 3000 (1149, lL, [], []) [(1162, lL, lArgs 2 ++ [yO 0], [])] = true := by decide +kernel
set_option maxRecDepth 1000000 in
theorem lw_b32 : lChk lG [1179] 3000 (1165, lL, [zF], []) [(1179, lL, lArgs 2 ++ [yO 220], [])] = true := by decide +kernel
set_option maxRecDepth 1000000 in
theorem lw_c32 : lChk lG [1398] 3000 (1182, lL, [zF], []) [(1398, lL, [], [])] = true := by decide +kernel
set_option maxRecDepth 1000000 in
theorem lw_a33 : lChk lG [1205] 3000 (1186, lL, [], []) [(1205, lL, lArgs 3 ++ [yO 0], [])] = true := by decide +kernel
set_option maxRecDepth 1000000 in
theorem lw_b33 : lChk lG [1228] 3000 (1208, lL, [zF], []) [(1228, lL, lArgs 3 ++ [yO 220], [])] = true := by decide +kernel
set_option maxRecDepth 1000000 in
theorem lw_c33 : lChk lG [1398] 3000 (1231, lL, [zF], []) [(1398, lL, [], [])] = true := by decide +kernel
set_option maxRecDepth 1000000 in
theorem lw_a34 : lChk lG [1242] 3000 (1235, lL, [], []) [(1242, lL, lArgs 1 ++ [yO 0], [])] = true := by decide +kernel
set_option maxRecDepth 1000000 in
theorem lw_b34 : lChk lG [1253] 3000 (1245, lL, [zF], []) [(1253, lL, lArgs 1 ++ [yO 220], [])] = true := by decide +kernel
set_option maxRecDepth 1000000 in
theorem lw_c34 : lChk lG [1398] 3000 (1256, lL, [zF], []) [(1398, lL, [], [])] = true := by decide +kernel
set_option maxRecDepth 1000000 in
theorem lw_a35 : lChk lG [1267] 3000 (1260, lL, [], []) [(1267, lL, lArgs 1 ++ [yO 0], [])] = true := by decide +kernel
set_option maxRecDepth 1000000 in
theorem lw_b35 : lChk lG [1278] 3000 (1270, lL, [zF], []) [(1278, lL, lArgs 1 ++ [yO 220], [])] = true := by decide +kernel
set_option maxRecDepth 1000000 in
theorem lw_c35 : lChk lG [1398] 3000 (1281, lL, [zF], []) [(1398, lL, [], [])] = true := by decide +kernel
set_option maxRecDepth 1000000 in
theorem lw_a36 : lChk lG [1286] 3000 (1285, lL, [], []) [(1286, lL, lArgs 0 ++ [yO 0], [])] = true := by decide +kernel
set_option maxRecDepth 1000000 in
theorem lw_b36 : lChk lG [1291] 3000 (1289, lL, [zF], []) [(1291, lL, lArgs 0 ++ [yO 220], [])] = true := by decide +kernel
set_option maxRecDepth 1000000 in
theorem lw_c36 : lChk lG [1398] 3000 (1294, lL, [zF], []) [(1398, lL, [], [])] = true := by decide +kernel
set_option maxRecDepth 1000000 in
theorem lw_a37 : lChk lG [1305] 3000 (1298, lL, [], []) [(1305, lL, lArgs 1 ++ [yO 0], [])] = true := by decide +kernel
set_option maxRecDepth 1000000 in
theorem lw_b37 : lChk lG [1316] 3000 (1308, lL, [zF], []) [(1316, lL, lArgs 1 ++ [yO 220], [])] = true := by decide +kernel
set_option maxRecDepth 1000000 in
theorem lw_c37 : lChk lG [1398] 3000 (1319, lL, [zF], []) [(1398, lL, [], [])] = true := by decide +kernel
set_option maxRecDepth 1000000 in
theorem lw_a38 : lChk lG [1330] 3000 (1323, lL, [], []) [(1330, lL, lArgs 1 ++ [yO 0], [])] = true := by decide +kernel
set_option maxRecDepth 1000000 in
theorem lw_b38 : lChk lG [1341] 3000 (1333, lL, [zF], []) [(1341, lL, lArgs 1 ++ [yO 220], [])] = true := by decide +kernel
set_option maxRecDepth 1000000 in
theorem lw_c38 : lChk lG [1398] 3000 (1344, lL, [zF], []) [(1398, lL, [], [])] = true := by decide +kernel
set_option maxRecDepth 1000000 in
theorem lw_a39 : lChk lG [1355] 3000 (1348, lL, [], []) [(1355, lL, lArgs 1 ++ [yO 0], [])] = true := by decide +kernel
set_option maxRecDepth 1000000 in
theorem lw_b39 : lChk lG [1366] 3000 (1358, lL, [zF], []) [(1366, lL, lArgs 1 ++ [yO 220], [])] = true := by decide +kernel
set_option maxRecDepth 1000000 in
theorem lw_c39 : lChk lG [1398] 3000 (1369, lL, [zF], []) [(1398, lL, [], [])] = true := by decide +kernel
set_option maxRecDepth 1000000 in
theorem lw_a40 : lChk lG [1380] 3000 (1373, lL, [], []) [(1380, lL, lArgs 1 ++ [yO 0], [])] = true := by decide +kernel
set_option maxRecDepth 1000000 in
theorem lw_b40 : lChk lG [1391] 3000 (1383, lL, [zF], []) [(1391, lL, lArgs 1 ++ [yO 220], [])] = true := by decide +kernel
set_option maxRecDepth 1000000 in
theorem lw_c40 : lChk lG [1398] 3000 (1394, lL, [zF], []) [(1398, lL, [], [])] = true := by decide +kernel
