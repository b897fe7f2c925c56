/-! ===== image ===== -/
set_option maxRecDepth 1000000 in
theorem go_38_a : vGo [vAny, .inr (.inl (0, 2147483647)), vAny, vAny, vAny, vAny] 1407 = true := by
  rw [← vGoF_eq]
  decide +kernel
set_option maxRecDepth 1000000 in
theorem go_38_0 : vGo [vAny, .inl 0, vAny, vAny, vAny, vAny] 1407 = true := by
  rw [← vGoF_eq]
  decide +kernel
set_option maxRecDepth 1000000 in
theorem go_38_1 : vGo [vAny, .inl 1, vAny, vAny, vAny, vAny] 1407 = true := by
  rw [← vGoF_eq]
  decide +kernel
set_option maxRecDepth 1000000 in
theorem go_38_z : vGo [vAny, .inr (.inl (2147483650, 4294967295)), vAny, vAny, vAny, vAny] 1407 = true := by
  rw [← vGoF_eq]
  decide +kernel
def vI38 : List vAV := [.inr (.inl (0, 2147483647)), .inl 0, .inl 1, .inr (.inl (2147483650, 4294967295))]
theorem go_38 : vI38.all (fun c1 => ([vAny] : List vAV).all (fun c2 => vGo [vAny, c1, c2, vAny, vAny, vAny] 1407)) = true := by
  simp only [vI38, List.all_cons, List.all_nil, go_38_a, go_38_0, go_38_1, go_38_z, Bool.and_true]
theorem cov_38 : vCov vI38 0 = true := by decide +kernel
