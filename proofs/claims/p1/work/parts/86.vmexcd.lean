/-! ===== pain, porter, unharmed ===== -/
def vC4_1 : List vAV := [.inr (.inl (0, 2147483647)), .inr (.inl (2147483648, 4294967295))]
def vC4_2 : List vAV := [vAny]
theorem cov_4 : vCov vC4_1 0 = true ∧ vCov vC4_2 0 = true := ⟨by decide +kernel, by decide +kernel⟩
set_option maxRecDepth 1000000 in
theorem go_4 : vC4_1.all (fun c1 => vC4_2.all (fun c2 => vXB m_X11_pain vt_Hpain 344 358 18 c1 c2)) = true := by decide +kernel
def vC6_1 : List vAV := [.inr (.inl (0, 2147483647)), .inr (.inl (2147483648, 4294967295))]
def vC6_2 : List vAV := [vAny]
theorem cov_6 : vCov vC6_1 0 = true ∧ vCov vC6_2 0 = true := ⟨by decide +kernel, by decide +kernel⟩
set_option maxRecDepth 1000000 in
theorem go_6 : vC6_1.all (fun c1 => vC6_2.all (fun c2 => vXB m_X11_porter vt_Hporter 449 463 18 c1 c2)) = true := by decide +kernel
def vC26_1 : List vAV := [.inr (.inl (0, 2147483647)), .inl 0, .inl 1, .inl 2, .inl 3, .inl 4, .inl 5, .inl 6, .inr (.inl (2147483655, 4294967295))]
def vC26_2 : List vAV := [.inr (.inl (0, 2147483647)), .inl 0, .inl 1, .inr (.inl (2147483650, 4294967295))]
theorem cov_26 : vCov vC26_1 0 = true ∧ vCov vC26_2 0 = true := ⟨by decide +kernel, by decide +kernel⟩
set_option maxRecDepth 1000000 in
theorem go_26 : vC26_1.all (fun c1 => vC26_2.all (fun c2 => vXB m_X11_unharmed vt_Hunharmed 1040 1054 19 c1 c2)) = true := by decide +kernel
