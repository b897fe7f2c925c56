/-! ===== the cases of the law: end ===== -/
set_option maxRecDepth 1000000 in
theorem go_2 : (([vAny] : List vAV)).all (fun c1 => (([vAny] : List vAV)).all (fun c2 => vGo [vAny, c1, c2, vAny, vAny, vAny] 318)) = true := by decide +kernel
theorem cov_2 : vCov ([vAny] : List vAV) 0 = true ∧ vCov ([vAny] : List vAV) 0 = true := ⟨by decide +kernel, by decide +kernel⟩
