/-! ===== hours, 8 ===== -/
set_option maxRecDepth 1000000 in
theorem go_13_52 : vGo [vAny, .inl 52, vAny, vAny, vAny, vAny] 727 = true := by
  rw [← vGoF_eq]
  decide +kernel
set_option maxRecDepth 1000000 in
theorem go_13_53 : vGo [vAny, .inl 53, vAny, vAny, vAny, vAny] 727 = true := by
  rw [← vGoF_eq]
  decide +kernel
set_option maxRecDepth 1000000 in
theorem go_13_54 : vGo [vAny, .inl 54, vAny, vAny, vAny, vAny] 727 = true := by
  rw [← vGoF_eq]
  decide +kernel
def vH8 : List vAV := [.inl 52, .inl 53, .inl 54]
theorem go_13g_8 : vH8.all (fun c1 => ([vAny] : List vAV).all (fun c2 => vGo [vAny, c1, c2, vAny, vAny, vAny] 727)) = true := by
  simp only [vH8, List.all_cons, List.all_nil, go_13_52, go_13_53, go_13_54, Bool.and_true]
