theorem xl_V0 : xlV hTc0 4 := ⟨⟨_, rfl⟩, by decide, xl_a0, xl_b0, xl_c0, fun st hst => List.all_eq_true.mp xl_d0 st hst, ⟨_, gl_V4_31⟩, ⟨_, gl_V4_40⟩⟩
theorem xl_V1 : xlV hTc1 17 := ⟨⟨_, rfl⟩, by decide, xl_a1, xl_b1, xl_c1, fun st hst => List.all_eq_true.mp xl_d1 st hst, ⟨_, gl_V17_31⟩, ⟨_, gl_V17_40⟩⟩
theorem xl_V2 : xlV hTc2 4 := ⟨⟨_, rfl⟩, by decide, xl_a2, xl_b2, xl_c2, fun st hst => List.all_eq_true.mp xl_d2 st hst, ⟨_, gl_V4_31⟩, ⟨_, gl_V4_40⟩⟩
theorem xl_V3 : xlV hTc3 17 := ⟨⟨_, rfl⟩, by decide, xl_a3, xl_b3, xl_c3, fun st hst => List.all_eq_true.mp xl_d3 st hst, ⟨_, gl_V17_31⟩, ⟨_, gl_V17_40⟩⟩
