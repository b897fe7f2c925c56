/-! ===== the cases of the law: 21 to 40 ===== -/
set_option maxRecDepth 1000000 in
theorem go_21 : (([.inr (.inl (0, 2147483647)), .inr (.inl (2147483648, 4294967295))] : List vAV)).all (fun c1 => (([vAny] : List vAV)).all (fun c2 => vGo [vAny, c1, c2, vAny, vAny, vAny] 927)) = true := by decide +kernel
theorem cov_21 : vCov ([.inr (.inl (0, 2147483647)), .inr (.inl (2147483648, 4294967295))] : List vAV) 0 = true ∧ vCov ([vAny] : List vAV) 0 = true := ⟨by decide +kernel, by decide +kernel⟩
set_option maxRecDepth 1000000 in
theorem go_22 : (([vAny] : List vAV)).all (fun c1 => (([vAny] : List vAV)).all (fun c2 => vGo [vAny, c1, c2, vAny, vAny, vAny] 952)) = true := by decide +kernel
theorem cov_22 : vCov ([vAny] : List vAV) 0 = true ∧ vCov ([vAny] : List vAV) 0 = true := ⟨by decide +kernel, by decide +kernel⟩
set_option maxRecDepth 1000000 in
theorem go_23 : (([.inr (.inl (0, 2147483647)), .inr (.inl (2147483648, 2147484647)), .inr (.inl (2147484648, 4294967295))] : List vAV)).all (fun c1 => (([.inr (.inl (0, 2147483647)), .inr (.inl (2147483648, 4294967295))] : List vAV)).all (fun c2 => vGo [vAny, c1, c2, vAny, vAny, vAny] 965)) = true := by decide +kernel
theorem cov_23 : vCov ([.inr (.inl (0, 2147483647)), .inr (.inl (2147483648, 2147484647)), .inr (.inl (2147484648, 4294967295))] : List vAV) 0 = true ∧ vCov ([.inr (.inl (0, 2147483647)), .inr (.inl (2147483648, 4294967295))] : List vAV) 0 = true := ⟨by decide +kernel, by decide +kernel⟩
set_option maxRecDepth 1000000 in
theorem go_24 : (([vAny] : List vAV)).all (fun c1 => (([vAny] : List vAV)).all (fun c2 => vGo [vAny, c1, c2, vAny, vAny, vAny] 1002)) = true := by decide +kernel
theorem cov_24 : vCov ([vAny] : List vAV) 0 = true ∧ vCov ([vAny] : List vAV) 0 = true := ⟨by decide +kernel, by decide +kernel⟩
set_option maxRecDepth 1000000 in
theorem go_25 : (([.inr (.inl (0, 2147483647)), .inr (.inl (2147483648, 4294967295))] : List vAV)).all (fun c1 => (([vAny] : List vAV)).all (fun c2 => vGo [vAny, c1, c2, vAny, vAny, vAny] 1015)) = true := by decide +kernel
theorem cov_25 : vCov ([.inr (.inl (0, 2147483647)), .inr (.inl (2147483648, 4294967295))] : List vAV) 0 = true ∧ vCov ([vAny] : List vAV) 0 = true := ⟨by decide +kernel, by decide +kernel⟩
set_option maxRecDepth 1000000 in
theorem go_27 : (([.inr (.inl (0, 2147483647)), .inr (.inl (2147483648, 4294967295))] : List vAV)).all (fun c1 => (([vAny] : List vAV)).all (fun c2 => vGo [vAny, c1, c2, vAny, vAny, vAny] 1108)) = true := by decide +kernel
theorem cov_27 : vCov ([.inr (.inl (0, 2147483647)), .inr (.inl (2147483648, 4294967295))] : List vAV) 0 = true ∧ vCov ([vAny] : List vAV) 0 = true := ⟨by decide +kernel, by decide +kernel⟩
set_option maxRecDepth 1000000 in
theorem go_28 : (([.inr (.inl (0, 2147483647)), .inr (.inl (2147483648, 4294967295))] : List vAV)).all (fun c1 => (([vAny] : List vAV)).all (fun c2 => vGo [vAny, c1, c2, vAny, vAny, vAny] 1133)) = true := by decide +kernel
theorem cov_28 : vCov ([.inr (.inl (0, 2147483647)), .inr (.inl (2147483648, 4294967295))] : List vAV) 0 = true ∧ vCov ([vAny] : List vAV) 0 = true := ⟨by decide +kernel, by decide +kernel⟩
set_option maxRecDepth 1000000 in
theorem go_29 : (([.inr (.inl (0, 2147483647)), .inr (.inl (2147483648, 4294967295))] : List vAV)).all (fun c1 => (([vAny] : List vAV)).all (fun c2 => vGo [vAny, c1, c2, vAny, vAny, vAny] 1170)) = true := by decide +kernel
theorem cov_29 : vCov ([.inr (.inl (0, 2147483647)), .inr (.inl (2147483648, 4294967295))] : List vAV) 0 = true ∧ vCov ([vAny] : List vAV) 0 = true := ⟨by decide +kernel, by decide +kernel⟩
set_option maxRecDepth 1000000 in
theorem go_30 : (([.inr (.inl (0, 2147483647)), .inr (.inl (2147483648, 4294967295))] : List vAV)).all (fun c1 => (([vAny] : List vAV)).all (fun c2 => vGo [vAny, c1, c2, vAny, vAny, vAny] 1195)) = true := by decide +kernel
theorem cov_30 : vCov ([.inr (.inl (0, 2147483647)), .inr (.inl (2147483648, 4294967295))] : List vAV) 0 = true ∧ vCov ([vAny] : List vAV) 0 = true := ⟨by decide +kernel, by decide +kernel⟩
set_option maxRecDepth 1000000 in
theorem go_31 : (([vAny] : List vAV)).all (fun c1 => (([vAny] : List vAV)).all (fun c2 => vGo [vAny, c1, c2, vAny, vAny, vAny] 1220)) = true := by decide +kernel
theorem cov_31 : vCov ([vAny] : List vAV) 0 = true ∧ vCov ([vAny] : List vAV) 0 = true := ⟨by decide +kernel, by decide +kernel⟩
set_option maxRecDepth 1000000 in
theorem go_32 : (([.inr (.inl (0, 2147483648)), .inr (.inl (2147483649, 2147483708)), .inr (.inl (2147483709, 4294967295))] : List vAV)).all (fun c1 => (([vAny] : List vAV)).all (fun c2 => vGo [vAny, c1, c2, vAny, vAny, vAny] 1233)) = true := by decide +kernel
theorem cov_32 : vCov ([.inr (.inl (0, 2147483648)), .inr (.inl (2147483649, 2147483708)), .inr (.inl (2147483709, 4294967295))] : List vAV) 0 = true ∧ vCov ([vAny] : List vAV) 0 = true := ⟨by decide +kernel, by decide +kernel⟩
set_option maxRecDepth 1000000 in
theorem go_33 : (([.inr (.inl (0, 2147483647)), .inr (.inl (2147483648, 4294967295))] : List vAV)).all (fun c1 => (([vAny] : List vAV)).all (fun c2 => vGo [vAny, c1, c2, vAny, vAny, vAny] 1270)) = true := by decide +kernel
theorem cov_33 : vCov ([.inr (.inl (0, 2147483647)), .inr (.inl (2147483648, 4294967295))] : List vAV) 0 = true ∧ vCov ([vAny] : List vAV) 0 = true := ⟨by decide +kernel, by decide +kernel⟩
set_option maxRecDepth 1000000 in
theorem go_34 : (([.inr (.inl (0, 2147483647)), .inl 0, .inl 1, .inr (.inl (2147483650, 4294967295))] : List vAV)).all (fun c1 => (([vAny] : List vAV)).all (fun c2 => vGo [vAny, c1, c2, vAny, vAny, vAny] 1319)) = true := by decide +kernel
theorem cov_34 : vCov ([.inr (.inl (0, 2147483647)), .inl 0, .inl 1, .inr (.inl (2147483650, 4294967295))] : List vAV) 0 = true ∧ vCov ([vAny] : List vAV) 0 = true := ⟨by decide +kernel, by decide +kernel⟩
set_option maxRecDepth 1000000 in
theorem go_35 : (([.inr (.inl (0, 2147483647)), .inl 0, .inl 1, .inl 2, .inl 3, .inr (.inl (2147483652, 4294967295))] : List vAV)).all (fun c1 => (([vAny] : List vAV)).all (fun c2 => vGo [vAny, c1, c2, vAny, vAny, vAny] 1344)) = true := by decide +kernel
theorem cov_35 : vCov ([.inr (.inl (0, 2147483647)), .inl 0, .inl 1, .inl 2, .inl 3, .inr (.inl (2147483652, 4294967295))] : List vAV) 0 = true ∧ vCov ([vAny] : List vAV) 0 = true := ⟨by decide +kernel, by decide +kernel⟩
set_option maxRecDepth 1000000 in
theorem go_36 : (([vAny] : List vAV)).all (fun c1 => (([vAny] : List vAV)).all (fun c2 => vGo [vAny, c1, c2, vAny, vAny, vAny] 1369)) = true := by decide +kernel
theorem cov_36 : vCov ([vAny] : List vAV) 0 = true ∧ vCov ([vAny] : List vAV) 0 = true := ⟨by decide +kernel, by decide +kernel⟩
set_option maxRecDepth 1000000 in
theorem go_37 : (([.inr (.inl (0, 2147483646)), .inl 4294967295, .inr (.inl (2147483648, 4294967295))] : List vAV)).all (fun c1 => (([vAny] : List vAV)).all (fun c2 => vGo [vAny, c1, c2, vAny, vAny, vAny] 1382)) = true := by decide +kernel
theorem cov_37 : vCov ([.inr (.inl (0, 2147483646)), .inl 4294967295, .inr (.inl (2147483648, 4294967295))] : List vAV) 0 = true ∧ vCov ([vAny] : List vAV) 0 = true := ⟨by decide +kernel, by decide +kernel⟩
set_option maxRecDepth 1000000 in
theorem go_39 : (([.inr (.inl (0, 2147483647)), .inl 0, .inl 1, .inr (.inl (2147483650, 4294967295))] : List vAV)).all (fun c1 => (([vAny] : List vAV)).all (fun c2 => vGo [vAny, c1, c2, vAny, vAny, vAny] 1432)) = true := by decide +kernel
theorem cov_39 : vCov ([.inr (.inl (0, 2147483647)), .inl 0, .inl 1, .inr (.inl (2147483650, 4294967295))] : List vAV) 0 = true ∧ vCov ([vAny] : List vAV) 0 = true := ⟨by decide +kernel, by decide +kernel⟩
set_option maxRecDepth 1000000 in
theorem go_40 : (([.inr (.inl (0, 2147483647)), .inl 0, .inl 1, .inl 2, .inl 3, .inl 4, .inl 5, .inr (.inl (2147483654, 4294967295))] : List vAV)).all (fun c1 => (([vAny] : List vAV)).all (fun c2 => vGo [vAny, c1, c2, vAny, vAny, vAny] 1457)) = true := by decide +kernel
theorem cov_40 : vCov ([.inr (.inl (0, 2147483647)), .inl 0, .inl 1, .inl 2, .inl 3, .inl 4, .inl 5, .inr (.inl (2147483654, 4294967295))] : List vAV) 0 = true ∧ vCov ([vAny] : List vAV) 0 = true := ⟨by decide +kernel, by decide +kernel⟩
set_option maxRecDepth 1000000 in
theorem go_df : vGo [vAny, vAny, vAny, vAny, vAny, vAny] 1482 = true := by decide +kernel
