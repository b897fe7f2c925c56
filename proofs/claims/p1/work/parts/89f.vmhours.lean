/-! ===== hours, 5 ===== -/
set_option maxRecDepth 1000000 in
theorem go_13_42 : vGo [vAny, .inl 42, vAny, vAny, vAny, vAny] 727 = true := by
  rw [← vGoF_eq]
  decide +kernel
set_option maxRecDepth 1000000 in
theorem go_13_43 : vGo [vAny, .inl 43, vAny, vAny, vAny, vAny] 727 = true := by
  rw [← vGoF_eq]
  decide +kernel
set_option maxRecDepth 1000000 in
theorem go_13_44 : vGo [vAny, .inl 44, vAny, vAny, vAny, vAny] 727 = true := by
  rw [← vGoF_eq]
  decide +kernel
set_option maxRecDepth 1000000 in
theorem go_13_45 : vGo [vAny, .inl 45, vAny, vAny, vAny, vAny] 727 = true := by
  rw [← vGoF_eq]
  decide +kernel
def vH5 : List vAV := [.inl 42, .inl 43, .inl 44, .inl 45]
theorem go_13g_5 : vH5.all (fun c1 => ([vAny] : List vAV).all (fun c2 => vGo [vAny, c1, c2, vAny, vAny, vAny] 727)) = true := by
  simp only [vH5, List.all_cons, List.all_nil, go_13_42, go_13_43, go_13_44, go_13_45, Bool.and_true]
