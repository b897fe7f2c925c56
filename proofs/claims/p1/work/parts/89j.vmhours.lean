/-! ===== hours, 9 ===== -/
set_option maxRecDepth 1000000 in
theorem go_13_55 : vGo [vAny, .inl 55, vAny, vAny, vAny, vAny] 727 = true := by
  rw [← vGoF_eq]
  decide +kernel
set_option maxRecDepth 1000000 in
theorem go_13_56 : vGo [vAny, .inl 56, vAny, vAny, vAny, vAny] 727 = true := by
  rw [← vGoF_eq]
  decide +kernel
set_option maxRecDepth 1000000 in
theorem go_13_57 : vGo [vAny, .inl 57, vAny, vAny, vAny, vAny] 727 = true := by
  rw [← vGoF_eq]
  decide +kernel
def vH9 : List vAV := [.inl 55, .inl 56, .inl 57]
theorem go_13g_9 : vH9.all (fun c1 => ([vAny] : List vAV).all (fun c2 => vGo [vAny, c1, c2, vAny, vAny, vAny] 727)) = true := by
  simp only [vH9, List.all_cons, List.all_nil, go_13_55, go_13_56, go_13_57, Bool.and_true]
