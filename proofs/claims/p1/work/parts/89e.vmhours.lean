/-! ===== hours, 4 ===== -/
set_option maxRecDepth 1000000 in
theorem go_13_38 : vGo [vAny, .inl 38, vAny, vAny, vAny, vAny] 727 = true := by
  rw [← vGoF_eq]
  decide +kernel
set_option maxRecDepth 1000000 in
theorem go_13_39 : vGo [vAny, .inl 39, vAny, vAny, vAny, vAny] 727 = true := by
  rw [← vGoF_eq]
  decide +kernel
set_option maxRecDepth 1000000 in
theorem go_13_40 : vGo [vAny, .inl 40, vAny, vAny, vAny, vAny] 727 = true := by
  rw [← vGoF_eq]
  decide +kernel
set_option maxRecDepth 1000000 in
theorem go_13_41 : vGo [vAny, .inl 41, vAny, vAny, vAny, vAny] 727 = true := by
  rw [← vGoF_eq]
  decide +kernel
def vH4 : List vAV := [.inl 38, .inl 39, .inl 40, .inl 41]
theorem go_13g_4 : vH4.all (fun c1 => ([vAny] : List vAV).all (fun c2 => vGo [vAny, c1, c2, vAny, vAny, vAny] 727)) = true := by
  simp only [vH4, List.all_cons, List.all_nil, go_13_38, go_13_39, go_13_40, go_13_41, Bool.and_true]
