/-! ===== hours, 10 ===== -/
set_option maxRecDepth 1000000 in
theorem go_13_58 : vGo [vAny, .inl 58, vAny, vAny, vAny, vAny] 727 = true := by
  rw [← vGoF_eq]
  decide +kernel
set_option maxRecDepth 1000000 in
theorem go_13_59 : vGo [vAny, .inl 59, vAny, vAny, vAny, vAny] 727 = true := by
  rw [← vGoF_eq]
  decide +kernel
set_option maxRecDepth 1000000 in
theorem go_13_60 : vGo [vAny, .inl 60, vAny, vAny, vAny, vAny] 727 = true := by
  rw [← vGoF_eq]
  decide +kernel
set_option maxRecDepth 1000000 in
theorem go_13_z : vGo [vAny, .inr (.inl (2147483709, 4294967295)), vAny, vAny, vAny, vAny] 727 = true := by
  rw [← vGoF_eq]
  decide +kernel
def vH10 : List vAV := [.inl 58, .inl 59, .inl 60, .inr (.inl (2147483709, 4294967295))]
theorem go_13g_10 : vH10.all (fun c1 => ([vAny] : List vAV).all (fun c2 => vGo [vAny, c1, c2, vAny, vAny, vAny] 727)) = true := by
  simp only [vH10, List.all_cons, List.all_nil, go_13_58, go_13_59, go_13_60, go_13_z, Bool.and_true]
