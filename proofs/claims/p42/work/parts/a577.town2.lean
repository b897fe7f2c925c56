/-! ===== town(), the other pieces ===== -/
set_option maxRecDepth 1000000 in
theorem tw_p1 : pCh1 vms hT (tw_s tw_m1) tw_m1 3000 tw_e ([112], [], []) tw_c1 tw_tm = true := by decide +kernel
set_option maxRecDepth 1000000 in
theorem tw_p3_0 : pCh3 vms tw_Ts (tw_s tw_e.2.2.2.2) tw_e.2.2.2.2 3000 tw_e ([], [(114, 1, 18)], []) tw_c2 [tw_tm[0]] = true := by decide +kernel
set_option maxRecDepth 1000000 in
theorem tw_p3_1 : pCh3 vms tw_Ts (tw_s tw_e.2.2.2.2) tw_e.2.2.2.2 3000 tw_e ([], [(114, 1, 18)], []) tw_c2 [tw_tm[1]] = true := by decide +kernel
set_option maxRecDepth 1000000 in
theorem tw_p3_2 : pCh3 vms tw_Ts (tw_s tw_e.2.2.2.2) tw_e.2.2.2.2 3000 tw_e ([], [(114, 1, 18)], []) tw_c2 [tw_tm[2]] = true := by decide +kernel
set_option maxRecDepth 1000000 in
theorem tw_p3_3 : pCh3 vms tw_Ts (tw_s tw_e.2.2.2.2) tw_e.2.2.2.2 3000 tw_e ([], [(114, 1, 18)], []) tw_c2 [tw_tm[3]] = true := by decide +kernel
set_option maxRecDepth 1000000 in
theorem tw_p3_4 : pCh3 vms tw_Ts (tw_s tw_e.2.2.2.2) tw_e.2.2.2.2 3000 tw_e ([], [(114, 1, 18)], []) tw_c2 [tw_tm[4]] = true := by decide +kernel
set_option maxRecDepth 1000000 in
theorem tw_p3_5 : pCh3 vms tw_Ts (tw_s tw_e.2.2.2.2) tw_e.2.2.2.2 3000 tw_e ([], [(114, 1, 18)], []) tw_c2 [tw_tm[5]] = true := by decide +kernel
set_option maxRecDepth 1000000 in
theorem tw_p4_0 : pCh4 vms tw_Ts (tw_s tw_e.2.2.2.2) tw_e.2.2.2.2 3000 tw_e ([], [(114, 1, 18)], []) tw_c2 [tw_c2[0]] = true := by decide +kernel
set_option maxRecDepth 1000000 in
theorem tw_p4_1 : pCh4 vms tw_Ts (tw_s tw_e.2.2.2.2) tw_e.2.2.2.2 3000 tw_e ([], [(114, 1, 18)], []) tw_c2 [tw_c2[1]] = true := by decide +kernel
set_option maxRecDepth 1000000 in
theorem tw_p4_2 : pCh4 vms tw_Ts (tw_s tw_e.2.2.2.2) tw_e.2.2.2.2 3000 tw_e ([], [(114, 1, 18)], []) tw_c2 [tw_c2[2]] = true := by decide +kernel
set_option maxRecDepth 1000000 in
theorem tw_p4_3 : pCh4 vms tw_Ts (tw_s tw_e.2.2.2.2) tw_e.2.2.2.2 3000 tw_e ([], [(114, 1, 18)], []) tw_c2 [tw_c2[3]] = true := by decide +kernel
set_option maxRecDepth 1000000 in
theorem tw_p4_4 : pCh4 vms tw_Ts (tw_s tw_e.2.2.2.2) tw_e.2.2.2.2 3000 tw_e ([], [(114, 1, 18)], []) tw_c2 [tw_c2[4]] = true := by decide +kernel
set_option maxRecDepth 1000000 in
theorem tw_p4_5 : pCh4 vms tw_Ts (tw_s tw_e.2.2.2.2) tw_e.2.2.2.2 3000 tw_e ([], [(114, 1, 18)], []) tw_c2 [tw_c2[5]] = true := by decide +kernel
set_option maxRecDepth 1000000 in
theorem tw_p4_6 : pCh4 vms tw_Ts (tw_s tw_e.2.2.2.2) tw_e.2.2.2.2 3000 tw_e ([], [(114, 1, 18)], []) tw_c2 [tw_c2[6]] = true := by decide +kernel
set_option maxRecDepth 1000000 in
theorem tw_p4_7 : pCh4 vms tw_Ts (tw_s tw_e.2.2.2.2) tw_e.2.2.2.2 3000 tw_e ([], [(114, 1, 18)], []) tw_c2 [tw_c2[7]] = true := by decide +kernel
set_option maxRecDepth 1000000 in
theorem tw_p4_8 : pCh4 vms tw_Ts (tw_s tw_e.2.2.2.2) tw_e.2.2.2.2 3000 tw_e ([], [(114, 1, 18)], []) tw_c2 [tw_c2[8]] = true := by decide +kernel
set_option maxRecDepth 1000000 in
theorem tw_p4_9 : pCh4 vms tw_Ts (tw_s tw_e.2.2.2.2) tw_e.2.2.2.2 3000 tw_e ([], [(114, 1, 18)], []) tw_c2 [tw_c2[9]] = true := by decide +kernel
set_option maxRecDepth 1000000 in
theorem tw_p4_10 : pCh4 vms tw_Ts (tw_s tw_e.2.2.2.2) tw_e.2.2.2.2 3000 tw_e ([], [(114, 1, 18)], []) tw_c2 [tw_c2[10]] = true := by decide +kernel
set_option maxRecDepth 1000000 in
theorem tw_p4_11 : pCh4 vms tw_Ts (tw_s tw_e.2.2.2.2) tw_e.2.2.2.2 3000 tw_e ([], [(114, 1, 18)], []) tw_c2 [tw_c2[11]] = true := by decide +kernel
set_option maxRecDepth 1000000 in
theorem tw_p4_12 : pCh4 vms tw_Ts (tw_s tw_e.2.2.2.2) tw_e.2.2.2.2 3000 tw_e ([], [(114, 1, 18)], []) tw_c2 [tw_c2[12]] = true := by decide +kernel
set_option maxRecDepth 1000000 in
theorem tw_p4_13 : pCh4 vms tw_Ts (tw_s tw_e.2.2.2.2) tw_e.2.2.2.2 3000 tw_e ([], [(114, 1, 18)], []) tw_c2 [tw_c2[13]] = true := by decide +kernel
set_option maxRecDepth 1000000 in
theorem tw_p4_14 : pCh4 vms tw_Ts (tw_s tw_e.2.2.2.2) tw_e.2.2.2.2 3000 tw_e ([], [(114, 1, 18)], []) tw_c2 [tw_c2[14]] = true := by decide +kernel
set_option maxRecDepth 1000000 in
theorem tw_p4_15 : pCh4 vms tw_Ts (tw_s tw_e.2.2.2.2) tw_e.2.2.2.2 3000 tw_e ([], [(114, 1, 18)], []) tw_c2 [tw_c2[15]] = true := by decide +kernel
