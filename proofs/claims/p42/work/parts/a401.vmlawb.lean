/-! ===== the law's table, on ===== -/
set_option maxRecDepth 100000 in
theorem vlaw_10 : vTbN cL_law vms vkinds 11 424 RL false vlk_RL vt_law2 750 75 = true := by decide +kernel
set_option maxRecDepth 100000 in
theorem vlaw_11 : vTbN cL_law vms vkinds 11 424 RL false vlk_RL vt_law2 825 75 = true := by decide +kernel
set_option maxRecDepth 100000 in
theorem vlaw_12 : vTbN cL_law vms vkinds 11 424 RL false vlk_RL vt_law2 900 75 = true := by decide +kernel
set_option maxRecDepth 100000 in
theorem vlaw_13 : vTbN cL_law vms vkinds 11 424 RL false vlk_RL vt_law2 975 75 = true := by decide +kernel
set_option maxRecDepth 100000 in
theorem vlaw_14 : vTbN cL_law vms vkinds 11 424 RL false vlk_RL vt_law2 1050 75 = true := by decide +kernel
set_option maxRecDepth 100000 in
theorem vlaw_15 : vTbN cL_law vms vkinds 11 424 RL false vlk_RL vt_law2 1125 75 = true := by decide +kernel
set_option maxRecDepth 100000 in
theorem vlaw_16 : vTbN cL_law vms vkinds 11 424 RL false vlk_RL vt_law2 1200 75 = true := by decide +kernel
set_option maxRecDepth 100000 in
theorem vlaw_17 : vTbN cL_law vms vkinds 11 424 RL false vlk_RL vt_law2 1275 75 = true := by decide +kernel
set_option maxRecDepth 100000 in
theorem vlaw_18 : vTbN cL_law vms vkinds 11 424 RL false vlk_RL vt_law2 1350 75 = true := by decide +kernel
theorem vlaw_get {pc : Nat} {i : Instr} {len a b t : Nat} (hg : vGet vt_law2 pc = some (i, len, a, b, t)) : decode cL_law pc = .ok (i, len) ∧ vChk vms vkinds 11 424 RL false vlk_RL pc i len a b t = true := by
  have hlt : pc < 1406 := by
    unfold vGet at hg
    cases hk : Nat.blt pc vt_law2.2.1 with
    | true =>
      have h1 := Nat.blt_eq.mp hk
      have h2 : vt_law2.2.1 = 1406 := rfl
      omega
    | false => rw [hk] at hg; cases hg
  by_cases h0 : pc < 75
  · exact vTbN_ok _ vlaw_0 pc i len a b t (by omega) (by omega) hg
  by_cases h1 : pc < 150
  · exact vTbN_ok _ vlaw_1 pc i len a b t (by omega) (by omega) hg
  by_cases h2 : pc < 225
  · exact vTbN_ok _ vlaw_2 pc i len a b t (by omega) (by omega) hg
  by_cases h3 : pc < 300
  · exact vTbN_ok _ vlaw_3 pc i len a b t (by omega) (by omega) hg
  by_cases h4 : pc < 375
  · exact vTbN_ok _ vlaw_4 pc i len a b t (by omega) (by omega) hg
  by_cases h5 : pc < 450
  · exact vTbN_ok _ vlaw_5 pc i len a b t (by omega) (by omega) hg
  by_cases h6 : pc < 525
  · exact vTbN_ok _ vlaw_6 pc i len a b t (by omega) (by omega) hg
  by_cases h7 : pc < 600
  · exact vTbN_ok _ vlaw_7 pc i len a b t (by omega) (by omega) hg
  by_cases h8 : pc < 675
  · exact vTbN_ok _ vlaw_8 pc i len a b t (by omega) (by omega) hg
  by_cases h9 : pc < 750
  · exact vTbN_ok _ vlaw_9 pc i len a b t (by omega) (by omega) hg
  by_cases h10 : pc < 825
  · exact vTbN_ok _ vlaw_10 pc i len a b t (by omega) (by omega) hg
  by_cases h11 : pc < 900
  · exact vTbN_ok _ vlaw_11 pc i len a b t (by omega) (by omega) hg
  by_cases h12 : pc < 975
  · exact vTbN_ok _ vlaw_12 pc i len a b t (by omega) (by omega) hg
  by_cases h13 : pc < 1050
  · exact vTbN_ok _ vlaw_13 pc i len a b t (by omega) (by omega) hg
  by_cases h14 : pc < 1125
  · exact vTbN_ok _ vlaw_14 pc i len a b t (by omega) (by omega) hg
  by_cases h15 : pc < 1200
  · exact vTbN_ok _ vlaw_15 pc i len a b t (by omega) (by omega) hg
  by_cases h16 : pc < 1275
  · exact vTbN_ok _ vlaw_16 pc i len a b t (by omega) (by omega) hg
  by_cases h17 : pc < 1350
  · exact vTbN_ok _ vlaw_17 pc i len a b t (by omega) (by omega) hg
  exact vTbN_ok _ vlaw_18 pc i len a b t (by omega) (by omega) hg
