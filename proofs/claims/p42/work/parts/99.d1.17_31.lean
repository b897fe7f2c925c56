set_option maxRecDepth 1000000 in
theorem gl_k17_31_0 : (List.range 4).all (fun j => [0, 1].all (fun w => nChk0 m_X4_goodLines hT (plQ 17 31) (glS17_31 (mQ 31)) (mQ 31) [7] 3000 (21, glL 17 31 (0 + j), [], glC (0 + j) w) (glB 17 31 (0 + j)))) = true := by decide +kernel
set_option maxRecDepth 1000000 in
theorem gl_k17_31_1 : (List.range 4).all (fun j => [0, 1].all (fun w => nChk0 m_X4_goodLines hT (plQ 17 31) (glS17_31 (mQ 31)) (mQ 31) [7] 3000 (21, glL 17 31 (4 + j), [], glC (4 + j) w) (glB 17 31 (4 + j)))) = true := by decide +kernel
set_option maxRecDepth 1000000 in
theorem gl_k17_31_2 : (List.range 4).all (fun j => [0, 1].all (fun w => nChk0 m_X4_goodLines hT (plQ 17 31) (glS17_31 (mQ 31)) (mQ 31) [7] 3000 (21, glL 17 31 (8 + j), [], glC (8 + j) w) (glB 17 31 (8 + j)))) = true := by decide +kernel
set_option maxRecDepth 1000000 in
theorem gl_k17_31_3 : (List.range 4).all (fun j => [0, 1].all (fun w => nChk0 m_X4_goodLines hT (plQ 17 31) (glS17_31 (mQ 31)) (mQ 31) [7] 3000 (21, glL 17 31 (12 + j), [], glC (12 + j) w) (glB 17 31 (12 + j)))) = true := by decide +kernel
set_option maxRecDepth 1000000 in
theorem gl_k17_31_4 : (List.range 4).all (fun j => [0, 1].all (fun w => nChk0 m_X4_goodLines hT (plQ 17 31) (glS17_31 (mQ 31)) (mQ 31) [7] 3000 (21, glL 17 31 (16 + j), [], glC (16 + j) w) (glB 17 31 (16 + j)))) = true := by decide +kernel
set_option maxRecDepth 1000000 in
theorem gl_k17_31_5 : (List.range 4).all (fun j => [0, 1].all (fun w => nChk0 m_X4_goodLines hT (plQ 17 31) (glS17_31 (mQ 31)) (mQ 31) [7] 3000 (21, glL 17 31 (20 + j), [], glC (20 + j) w) (glB 17 31 (20 + j)))) = true := by decide +kernel
set_option maxRecDepth 1000000 in
theorem gl_k17_31_6 : (List.range 4).all (fun j => [0, 1].all (fun w => nChk0 m_X4_goodLines hT (plQ 17 31) (glS17_31 (mQ 31)) (mQ 31) [7] 3000 (21, glL 17 31 (24 + j), [], glC (24 + j) w) (glB 17 31 (24 + j)))) = true := by decide +kernel
set_option maxRecDepth 1000000 in
theorem gl_k17_31_7 : (List.range 4).all (fun j => [0, 1].all (fun w => nChk0 m_X4_goodLines hT (plQ 17 31) (glS17_31 (mQ 31)) (mQ 31) [7] 3000 (21, glL 17 31 (28 + j), [], glC (28 + j) w) (glB 17 31 (28 + j)))) = true := by decide +kernel
set_option maxRecDepth 1000000 in
theorem gl_k17_31_8 : (List.range 4).all (fun j => [0, 1].all (fun w => nChk0 m_X4_goodLines hT (plQ 17 31) (glS17_31 (mQ 31)) (mQ 31) [7] 3000 (21, glL 17 31 (32 + j), [], glC (32 + j) w) (glB 17 31 (32 + j)))) = true := by decide +kernel
set_option maxRecDepth 1000000 in
theorem gl_k17_31_9 : (List.range 4).all (fun j => [0, 1].all (fun w => nChk0 m_X4_goodLines hT (plQ 17 31) (glS17_31 (mQ 31)) (mQ 31) [7] 3000 (21, glL 17 31 (36 + j), [], glC (36 + j) w) (glB 17 31 (36 + j)))) = true := by decide +kernel
