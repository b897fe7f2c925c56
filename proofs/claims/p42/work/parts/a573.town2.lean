/-! ===== town(), a piece: 2 ===== -/
set_option maxRecDepth 1000000 in
theorem tw_p2_2 : pCh2 vms hT (tw_s tw_m1) tw_m1 3000 tw_e ([112], [], []) tw_c1 tw_tm [tw_c1[2]] = true := by decide +kernel
