/-! ===== town(), a piece: 1 ===== -/
set_option maxRecDepth 1000000 in
theorem tw_p2_1 : pCh2 vms hT (tw_s tw_m1) tw_m1 3000 tw_e ([112], [], []) tw_c1 tw_tm [tw_c1[1]] = true := by decide +kernel
