/-! ===== hours, 3 ===== -/
set_option maxRecDepth 1000000 in
theorem go_13_33 : vGo [vAny, .inl 33, vAny, vAny, vAny, vAny] 727 = true := by
  rw [← vGoF_eq]
  decide +kernel
set_option maxRecDepth 1000000 in
theorem go_13_34 : vGo [vAny, .inl 34, vAny, vAny, vAny, vAny] 727 = true := by
  rw [← vGoF_eq]
  decide +kernel
set_option maxRecDepth 1000000 in
theorem go_13_35 : vGo [vAny, .inl 35, vAny, vAny, vAny, vAny] 727 = true := by
  rw [← vGoF_eq]
  decide +kernel
set_option maxRecDepth 1000000 in
theorem go_13_36 : vGo [vAny, .inl 36, vAny, vAny, vAny, vAny] 727 = true := by
  rw [← vGoF_eq]
  decide +kernel
set_option maxRecDepth 1000000 in
theorem go_13_37 : vGo [vAny, .inl 37, vAny, vAny, vAny, vAny] 727 = true := by
  rw [← vGoF_eq]
  decide +kernel
def vH3 : List vAV := [.inl 33, .inl 34, .inl 35, .inl 36, .inl 37]
theorem go_13g_3 : vH3.all (fun c1 => ([vAny] : List vAV).all (fun c2 => vGo [vAny, c1, c2, vAny, vAny, vAny] 727)) = true := by
  simp only [vH3, List.all_cons, List.all_nil, go_13_33, go_13_34, go_13_35, go_13_36, go_13_37, Bool.and_true]
