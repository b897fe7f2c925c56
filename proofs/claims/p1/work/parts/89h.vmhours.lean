/-! ===== hours, 7 ===== -/
set_option maxRecDepth 1000000 in
theorem go_13_49 : vGo [vAny, .inl 49, vAny, vAny, vAny, vAny] 727 = true := by
  rw [← vGoF_eq]
  decide +kernel
set_option maxRecDepth 1000000 in
theorem go_13_50 : vGo [vAny, .inl 50, vAny, vAny, vAny, vAny] 727 = true := by
  rw [← vGoF_eq]
  decide +kernel
set_option maxRecDepth 1000000 in
theorem go_13_51 : vGo [vAny, .inl 51, vAny, vAny, vAny, vAny] 727 = true := by
  rw [← vGoF_eq]
  decide +kernel
def vH7 : List vAV := [.inl 49, .inl 50, .inl 51]
theorem go_13g_7 : vH7.all (fun c1 => ([vAny] : List vAV).all (fun c2 => vGo [vAny, c1, c2, vAny, vAny, vAny] 727)) = true := by
  simp only [vH7, List.all_cons, List.all_nil, go_13_49, go_13_50, go_13_51, Bool.and_true]
