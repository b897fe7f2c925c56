/-! ===== hours, 2 ===== -/
set_option maxRecDepth 1000000 in
theorem go_13_27 : vGo [vAny, .inl 27, vAny, vAny, vAny, vAny] 727 = true := by
  rw [← vGoF_eq]
  decide +kernel
set_option maxRecDepth 1000000 in
theorem go_13_28 : vGo [vAny, .inl 28, vAny, vAny, vAny, vAny] 727 = true := by
  rw [← vGoF_eq]
  decide +kernel
set_option maxRecDepth 1000000 in
theorem go_13_29 : vGo [vAny, .inl 29, vAny, vAny, vAny, vAny] 727 = true := by
  rw [← vGoF_eq]
  decide +kernel
set_option maxRecDepth 1000000 in
theorem go_13_30 : vGo [vAny, .inl 30, vAny, vAny, vAny, vAny] 727 = true := by
  rw [← vGoF_eq]
  decide +kernel
set_option maxRecDepth 1000000 in
theorem go_13_31 : vGo [vAny, .inl 31, vAny, vAny, vAny, vAny] 727 = true := by
  rw [← vGoF_eq]
  decide +kernel
set_option maxRecDepth 1000000 in
theorem go_13_32 : vGo [vAny, .inl 32, vAny, vAny, vAny, vAny] 727 = true := by
  rw [← vGoF_eq]
  decide +kernel
def vH2 : List vAV := [.inl 27, .inl 28, .inl 29, .inl 30, .inl 31, .inl 32]
theorem go_13g_2 : vH2.all (fun c1 => ([vAny] : List vAV).all (fun c2 => vGo [vAny, c1, c2, vAny, vAny, vAny] 727)) = true := by
  simp only [vH2, List.all_cons, List.all_nil, go_13_27, go_13_28, go_13_29, go_13_30, go_13_31, go_13_32, Bool.and_true]
