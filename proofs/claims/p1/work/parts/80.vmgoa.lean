/-! ===== the cases of the law: 0 to 20 ===== -/
def vTgs : List Nat := [220, 293, 318, 331, 344, 412, 449, 517, 554, 579, 616, 665, 702, 727, 752, 765, 802, 839, 864, 889, 914, 927, 952, 965, 1002, 1015, 1040, 1108, 1133, 1170, 1195, 1220, 1233, 1270, 1319, 1344, 1369, 1382, 1407, 1432, 1457]
set_option maxRecDepth 1000000 in
theorem go_0 : (([vAny] : List vAV)).all (fun c1 => (([vAny] : List vAV)).all (fun c2 => vGo [vAny, c1, c2, vAny, vAny, vAny] 220)) = true := by decide +kernel
theorem cov_0 : vCov ([vAny] : List vAV) 0 = true ∧ vCov ([vAny] : List vAV) 0 = true := ⟨by decide +kernel, by decide +kernel⟩
set_option maxRecDepth 1000000 in
theorem go_1 : (([.inr (.inl (0, 2147483647)), .inl 0, .inr (.inl (2147483649, 4294967295))] : List vAV)).all (fun c1 => (([vAny] : List vAV)).all (fun c2 => vGo [vAny, c1, c2, vAny, vAny, vAny] 293)) = true := by decide +kernel
theorem cov_1 : vCov ([.inr (.inl (0, 2147483647)), .inl 0, .inr (.inl (2147483649, 4294967295))] : List vAV) 0 = true ∧ vCov ([vAny] : List vAV) 0 = true := ⟨by decide +kernel, by decide +kernel⟩
set_option maxRecDepth 1000000 in
theorem go_3 : (([vAny] : List vAV)).all (fun c1 => (([vAny] : List vAV)).all (fun c2 => vGo [vAny, c1, c2, vAny, vAny, vAny] 331)) = true := by decide +kernel
theorem cov_3 : vCov ([vAny] : List vAV) 0 = true ∧ vCov ([vAny] : List vAV) 0 = true := ⟨by decide +kernel, by decide +kernel⟩
set_option maxRecDepth 1000000 in
theorem go_5 : (([.inr (.inl (0, 2147483647)), .inr (.inl (2147483648, 4294967295))] : List vAV)).all (fun c1 => (([vAny] : List vAV)).all (fun c2 => vGo [vAny, c1, c2, vAny, vAny, vAny] 412)) = true := by decide +kernel
theorem cov_5 : vCov ([.inr (.inl (0, 2147483647)), .inr (.inl (2147483648, 4294967295))] : List vAV) 0 = true ∧ vCov ([vAny] : List vAV) 0 = true := ⟨by decide +kernel, by decide +kernel⟩
set_option maxRecDepth 1000000 in
theorem go_7 : (([.inr (.inl (0, 2147483647)), .inr (.inl (2147483648, 4294967295))] : List vAV)).all (fun c1 => (([vAny] : List vAV)).all (fun c2 => vGo [vAny, c1, c2, vAny, vAny, vAny] 517)) = true := by decide +kernel
theorem cov_7 : vCov ([.inr (.inl (0, 2147483647)), .inr (.inl (2147483648, 4294967295))] : List vAV) 0 = true ∧ vCov ([vAny] : List vAV) 0 = true := ⟨by decide +kernel, by decide +kernel⟩
set_option maxRecDepth 1000000 in
theorem go_8 : (([.inr (.inl (0, 2147483647)), .inl 0, .inl 1, .inl 2, .inl 3, .inl 4, .inl 5, .inl 6, .inr (.inl (2147483655, 4294967295))] : List vAV)).all (fun c1 => (([vAny] : List vAV)).all (fun c2 => vGo [vAny, c1, c2, vAny, vAny, vAny] 554)) = true := by decide +kernel
theorem cov_8 : vCov ([.inr (.inl (0, 2147483647)), .inl 0, .inl 1, .inl 2, .inl 3, .inl 4, .inl 5, .inl 6, .inr (.inl (2147483655, 4294967295))] : List vAV) 0 = true ∧ vCov ([vAny] : List vAV) 0 = true := ⟨by decide +kernel, by decide +kernel⟩
set_option maxRecDepth 1000000 in
theorem go_9 : (([.inr (.inl (0, 2147483647)), .inr (.inl (2147483648, 4294967295))] : List vAV)).all (fun c1 => (([vAny] : List vAV)).all (fun c2 => vGo [vAny, c1, c2, vAny, vAny, vAny] 579)) = true := by decide +kernel
theorem cov_9 : vCov ([.inr (.inl (0, 2147483647)), .inr (.inl (2147483648, 4294967295))] : List vAV) 0 = true ∧ vCov ([vAny] : List vAV) 0 = true := ⟨by decide +kernel, by decide +kernel⟩
set_option maxRecDepth 1000000 in
theorem go_10 : (([.inr (.inl (0, 2147483647)), .inr (.inl (2147483648, 4294967295))] : List vAV)).all (fun c1 => (([vAny] : List vAV)).all (fun c2 => vGo [vAny, c1, c2, vAny, vAny, vAny] 616)) = true := by decide +kernel
theorem cov_10 : vCov ([.inr (.inl (0, 2147483647)), .inr (.inl (2147483648, 4294967295))] : List vAV) 0 = true ∧ vCov ([vAny] : List vAV) 0 = true := ⟨by decide +kernel, by decide +kernel⟩
set_option maxRecDepth 1000000 in
theorem go_11 : (([.inr (.inl (0, 2147483647)), .inr (.inl (2147483648, 4294967295))] : List vAV)).all (fun c1 => (([vAny] : List vAV)).all (fun c2 => vGo [vAny, c1, c2, vAny, vAny, vAny] 665)) = true := by decide +kernel
theorem cov_11 : vCov ([.inr (.inl (0, 2147483647)), .inr (.inl (2147483648, 4294967295))] : List vAV) 0 = true ∧ vCov ([vAny] : List vAV) 0 = true := ⟨by decide +kernel, by decide +kernel⟩
set_option maxRecDepth 1000000 in
theorem go_12 : (([.inr (.inl (0, 2147483647)), .inr (.inl (2147483648, 4294967295))] : List vAV)).all (fun c1 => (([vAny] : List vAV)).all (fun c2 => vGo [vAny, c1, c2, vAny, vAny, vAny] 702)) = true := by decide +kernel
theorem cov_12 : vCov ([.inr (.inl (0, 2147483647)), .inr (.inl (2147483648, 4294967295))] : List vAV) 0 = true ∧ vCov ([vAny] : List vAV) 0 = true := ⟨by decide +kernel, by decide +kernel⟩
set_option maxRecDepth 1000000 in
theorem go_14 : (([vAny] : List vAV)).all (fun c1 => (([vAny] : List vAV)).all (fun c2 => vGo [vAny, c1, c2, vAny, vAny, vAny] 752)) = true := by decide +kernel
theorem cov_14 : vCov ([vAny] : List vAV) 0 = true ∧ vCov ([vAny] : List vAV) 0 = true := ⟨by decide +kernel, by decide +kernel⟩
set_option maxRecDepth 1000000 in
theorem go_15 : (([.inr (.inl (0, 2147483647)), .inr (.inl (2147483648, 4294967295))] : List vAV)).all (fun c1 => (([vAny] : List vAV)).all (fun c2 => vGo [vAny, c1, c2, vAny, vAny, vAny] 765)) = true := by decide +kernel
theorem cov_15 : vCov ([.inr (.inl (0, 2147483647)), .inr (.inl (2147483648, 4294967295))] : List vAV) 0 = true ∧ vCov ([vAny] : List vAV) 0 = true := ⟨by decide +kernel, by decide +kernel⟩
set_option maxRecDepth 1000000 in
theorem go_16 : (([.inr (.inl (0, 2147483647)), .inl 0, .inr (.inl (2147483649, 4294967295))] : List vAV)).all (fun c1 => (([.inr (.inl (0, 2147483648)), .inr (.inl (2147483649, 2147483848)), .inr (.inl (2147483849, 4294967295))] : List vAV)).all (fun c2 => vGo [vAny, c1, c2, vAny, vAny, vAny] 802)) = true := by decide +kernel
theorem cov_16 : vCov ([.inr (.inl (0, 2147483647)), .inl 0, .inr (.inl (2147483649, 4294967295))] : List vAV) 0 = true ∧ vCov ([.inr (.inl (0, 2147483648)), .inr (.inl (2147483649, 2147483848)), .inr (.inl (2147483849, 4294967295))] : List vAV) 0 = true := ⟨by decide +kernel, by decide +kernel⟩
set_option maxRecDepth 1000000 in
theorem go_17 : (([.inr (.inl (0, 2147483647)), .inr (.inl (2147483648, 4294967295))] : List vAV)).all (fun c1 => (([vAny] : List vAV)).all (fun c2 => vGo [vAny, c1, c2, vAny, vAny, vAny] 839)) = true := by decide +kernel
theorem cov_17 : vCov ([.inr (.inl (0, 2147483647)), .inr (.inl (2147483648, 4294967295))] : List vAV) 0 = true ∧ vCov ([vAny] : List vAV) 0 = true := ⟨by decide +kernel, by decide +kernel⟩
set_option maxRecDepth 1000000 in
theorem go_18 : (([.inr (.inl (0, 2147483647)), .inl 0, .inr (.inl (2147483649, 4294967295))] : List vAV)).all (fun c1 => (([vAny] : List vAV)).all (fun c2 => vGo [vAny, c1, c2, vAny, vAny, vAny] 864)) = true := by decide +kernel
theorem cov_18 : vCov ([.inr (.inl (0, 2147483647)), .inl 0, .inr (.inl (2147483649, 4294967295))] : List vAV) 0 = true ∧ vCov ([vAny] : List vAV) 0 = true := ⟨by decide +kernel, by decide +kernel⟩
set_option maxRecDepth 1000000 in
theorem go_19 : (([.inr (.inl (0, 2147483647)), .inr (.inl (2147483648, 4294967295))] : List vAV)).all (fun c1 => (([vAny] : List vAV)).all (fun c2 => vGo [vAny, c1, c2, vAny, vAny, vAny] 889)) = true := by decide +kernel
theorem cov_19 : vCov ([.inr (.inl (0, 2147483647)), .inr (.inl (2147483648, 4294967295))] : List vAV) 0 = true ∧ vCov ([vAny] : List vAV) 0 = true := ⟨by decide +kernel, by decide +kernel⟩
set_option maxRecDepth 1000000 in
theorem go_20 : (([vAny] : List vAV)).all (fun c1 => (([vAny] : List vAV)).all (fun c2 => vGo [vAny, c1, c2, vAny, vAny, vAny] 914)) = true := by decide +kernel
theorem cov_20 : vCov ([vAny] : List vAV) 0 = true ∧ vCov ([vAny] : List vAV) 0 = true := ⟨by decide +kernel, by decide +kernel⟩
