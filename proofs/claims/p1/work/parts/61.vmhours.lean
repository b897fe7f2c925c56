/-! ===== hours ===== -/
def vH0 : List vAV := [.inr (.inl (0, 2147483648)), .inl 1, .inl 2, .inl 3, .inl 4, .inl 5, .inl 6, .inl 7]
set_option maxRecDepth 1000000 in
theorem go_13_0 : vH0.all (fun c1 => ([vAny] : List vAV).all (fun c2 => vGo [vAny, c1, c2, vAny, vAny, vAny] 727)) = true := by decide +kernel
def vH1 : List vAV := [.inl 8, .inl 9, .inl 10, .inl 11, .inl 12, .inl 13, .inl 14, .inl 15]
set_option maxRecDepth 1000000 in
theorem go_13_1 : vH1.all (fun c1 => ([vAny] : List vAV).all (fun c2 => vGo [vAny, c1, c2, vAny, vAny, vAny] 727)) = true := by decide +kernel
def vH2 : List vAV := [.inl 16, .inl 17, .inl 18, .inl 19, .inl 20, .inl 21, .inl 22, .inl 23]
set_option maxRecDepth 1000000 in
theorem go_13_2 : vH2.all (fun c1 => ([vAny] : List vAV).all (fun c2 => vGo [vAny, c1, c2, vAny, vAny, vAny] 727)) = true := by decide +kernel
def vH3 : List vAV := [.inl 24, .inl 25, .inl 26, .inl 27, .inl 28, .inl 29, .inl 30, .inl 31]
set_option maxRecDepth 1000000 in
theorem go_13_3 : vH3.all (fun c1 => ([vAny] : List vAV).all (fun c2 => vGo [vAny, c1, c2, vAny, vAny, vAny] 727)) = true := by decide +kernel
def vH4 : List vAV := [.inl 32, .inl 33, .inl 34, .inl 35, .inl 36, .inl 37, .inl 38, .inl 39]
set_option maxRecDepth 1000000 in
theorem go_13_4 : vH4.all (fun c1 => ([vAny] : List vAV).all (fun c2 => vGo [vAny, c1, c2, vAny, vAny, vAny] 727)) = true := by decide +kernel
def vH5 : List vAV := [.inl 40, .inl 41, .inl 42, .inl 43, .inl 44, .inl 45, .inl 46, .inl 47]
set_option maxRecDepth 1000000 in
theorem go_13_5 : vH5.all (fun c1 => ([vAny] : List vAV).all (fun c2 => vGo [vAny, c1, c2, vAny, vAny, vAny] 727)) = true := by decide +kernel
def vH6 : List vAV := [.inl 48, .inl 49, .inl 50, .inl 51, .inl 52, .inl 53, .inl 54, .inl 55]
set_option maxRecDepth 1000000 in
theorem go_13_6 : vH6.all (fun c1 => ([vAny] : List vAV).all (fun c2 => vGo [vAny, c1, c2, vAny, vAny, vAny] 727)) = true := by decide +kernel
def vH7 : List vAV := [.inl 56, .inl 57, .inl 58, .inl 59, .inl 60, .inr (.inl (2147483709, 4294967295))]
set_option maxRecDepth 1000000 in
theorem go_13_7 : vH7.all (fun c1 => ([vAny] : List vAV).all (fun c2 => vGo [vAny, c1, c2, vAny, vAny, vAny] 727)) = true := by decide +kernel
def vHs : List vAV := vH0 ++ (vH1 ++ (vH2 ++ (vH3 ++ (vH4 ++ (vH5 ++ (vH6 ++ (vH7)))))))
theorem go_13 : vHs.all (fun c1 => ([vAny] : List vAV).all (fun c2 => vGo [vAny, c1, c2, vAny, vAny, vAny] 727)) = true := by
  unfold vHs
  rw [List.all_append, go_13_0, List.all_append, go_13_1, List.all_append, go_13_2, List.all_append, go_13_3, List.all_append, go_13_4, List.all_append, go_13_5, List.all_append, go_13_6, go_13_7]
  rfl
theorem cov_13 : vCov vHs 0 = true ∧ vCov ([vAny] : List vAV) 0 = true := ⟨by decide +kernel, by decide +kernel⟩
