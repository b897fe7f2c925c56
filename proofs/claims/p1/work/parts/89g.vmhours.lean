/-! ===== hours, 6 ===== -/
set_option maxRecDepth 1000000 in
theorem go_13_46 : vGo [vAny, .inl 46, vAny, vAny, vAny, vAny] 727 = true := by
  rw [← vGoF_eq]
  decide +kernel
set_option maxRecDepth 1000000 in
theorem go_13_47 : vGo [vAny, .inl 47, vAny, vAny, vAny, vAny] 727 = true := by
  rw [← vGoF_eq]
  decide +kernel
set_option maxRecDepth 1000000 in
theorem go_13_48 : vGo [vAny, .inl 48, vAny, vAny, vAny, vAny] 727 = true := by
  rw [← vGoF_eq]
  decide +kernel
def vH6 : List vAV := [.inl 46, .inl 47, .inl 48]
theorem go_13g_6 : vH6.all (fun c1 => ([vAny] : List vAV).all (fun c2 => vGo [vAny, c1, c2, vAny, vAny, vAny] 727)) = true := by
  simp only [vH6, List.all_cons, List.all_nil, go_13_46, go_13_47, go_13_48, Bool.and_true]
