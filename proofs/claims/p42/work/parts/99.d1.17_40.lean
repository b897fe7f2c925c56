set_option maxRecDepth 1000000 in
theorem gl_k17_40_0 : (List.range 4).all (fun j => [0, 1].all (fun w => nChk0 m_X4_goodLines hT (plQ 17 40) (glS17_40 (mQ 40)) (mQ 40) [7] 3000 (21, glL 17 40 (0 + j), [], glC (0 + j) w) (glB 17 40 (0 + j)))) = true := by decide +kernel
set_option maxRecDepth 1000000 in
theorem gl_k17_40_1 : (List.range 4).all (fun j => [0, 1].all (fun w => nChk0 m_X4_goodLines hT (plQ 17 40) (glS17_40 (mQ 40)) (mQ 40) [7] 3000 (21, glL 17 40 (4 + j), [], glC (4 + j) w) (glB 17 40 (4 + j)))) = true := by decide +kernel
set_option maxRecDepth 1000000 in
theorem gl_k17_40_2 : (List.range 4).all (fun j => [0, 1].all (fun w => nChk0 m_X4_goodLines hT (plQ 17 40) (glS17_40 (mQ 40)) (mQ 40) [7] 3000 (21, glL 17 40 (8 + j), [], glC (8 + j) w) (glB 17 40 (8 + j)))) = true := by decide +kernel
set_option maxRecDepth 1000000 in
theorem gl_k17_40_3 : (List.range 4).all (fun j => [0, 1].all (fun w => nChk0 m_X4_goodLines hT (plQ 17 40) (glS17_40 (mQ 40)) (mQ 40) [7] 3000 (21, glL 17 40 (12 + j), [], glC (12 + j) w) (glB 17 40 (12 + j)))) = true := by decide +kernel
set_option maxRecDepth 1000000 in
theorem gl_k17_40_4 : (List.range 4).all (fun j => [0, 1].all (fun w => nChk0 m_X4_goodLines hT (plQ 17 40) (glS17_40 (mQ 40)) (mQ 40) [7] 3000 (21, glL 17 40 (16 + j), [], glC (16 + j) w) (glB 17 40 (16 + j)))) = true := by decide +kernel
set_option maxRecDepth 1000000 in
theorem gl_k17_40_5 : (List.range 4).all (fun j => [0, 1].all (fun w => nChk0 m_X4_goodLines hT (plQ 17 40) (glS17_40 (mQ 40)) (mQ 40) [7] 3000 (21, glL 17 40 (20 + j), [], glC (20 + j) w) (glB 17 40 (20 + j)))) = true := by decide +kernel
set_option maxRecDepth 1000000 in
theorem gl_k17_40_6 : (List.range 4).all (fun j => [0, 1].all (fun w => nChk0 m_X4_goodLines hT (plQ 17 40) (glS17_40 (mQ 40)) (mQ 40) [7] 3000 (21, glL 17 40 (24 + j), [], glC (24 + j) w) (glB 17 40 (24 + j)))) = true := by decide +kernel
set_option maxRecDepth 1000000 in
theorem gl_k17_40_7 : (List.range 4).all (fun j => [0, 1].all (fun w => nChk0 m_X4_goodLines hT (plQ 17 40) (glS17_40 (mQ 40)) (mQ 40) [7] 3000 (21, glL 17 40 (28 + j), [], glC (28 + j) w) (glB 17 40 (28 + j)))) = true := by decide +kernel
set_option maxRecDepth 1000000 in
theorem gl_k17_40_8 : (List.range 4).all (fun j => [0, 1].all (fun w => nChk0 m_X4_goodLines hT (plQ 17 40) (glS17_40 (mQ 40)) (mQ 40) [7] 3000 (21, glL 17 40 (32 + j), [], glC (32 + j) w) (glB 17 40 (32 + j)))) = true := by decide +kernel
set_option maxRecDepth 1000000 in
theorem gl_k17_40_9 : (List.range 4).all (fun j => [0, 1].all (fun w => nChk0 m_X4_goodLines hT (plQ 17 40) (glS17_40 (mQ 40)) (mQ 40) [7] 3000 (21, glL 17 40 (36 + j), [], glC (36 + j) w) (glB 17 40 (36 + j)))) = true := by decide +kernel
