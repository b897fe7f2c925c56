/-! ===== log() of the reference in each variant ===== -/
set_option maxRecDepth 1000000 in
theorem lg_w0 : kWb hTr0 hT plL = true := by decide +kernel
set_option maxRecDepth 1000000 in
theorem lg_u0 : kWb hTu0 hTr0 [220, 222, 227] = true := by decide +kernel
theorem lg_V0 : lgV hTr0 lvS0 := by
  refine ⟨⟨_, rfl⟩, fun md d hp0 hd => lvS0_ok hd hp0, lg_a0, fun i w hi hw => ?_, lg_c0, fun d hp hd hty => ?_, lg_w0⟩
  · obtain ⟨c, j, rfl, hc, hj⟩ : ∃ c j, i = 8 * c + j ∧ c < 5 ∧ j < 8 := ⟨i / 8, i % 8, by omega, by omega, by omega⟩
    have : c = 0 ∨ c = 1 ∨ c = 2 ∨ c = 3 ∨ c = 4 := by omega
    rcases this with rfl | rfl | rfl | rfl | rfl
    · exact List.all_eq_true.mp (List.all_eq_true.mp lg_b0_0 j (List.mem_range.mpr hj)) w hw
    · exact List.all_eq_true.mp (List.all_eq_true.mp lg_b0_1 j (List.mem_range.mpr hj)) w hw
    · exact List.all_eq_true.mp (List.all_eq_true.mp lg_b0_2 j (List.mem_range.mpr hj)) w hw
    · exact List.all_eq_true.mp (List.all_eq_true.mp lg_b0_3 j (List.mem_range.mpr hj)) w hw
    · exact List.all_eq_true.mp (List.all_eq_true.mp lg_b0_4 j (List.mem_range.mpr hj)) w hw
  · obtain ⟨r, hp', h1, h2, h3, T', h4, h5⟩ := cr0_M_keep_1057_ok d hd [zO] hp ⟨rfl, trivial⟩ hty
    rw [List.mem_singleton] at h4
    subst h4
    have e := sRtN h2
    subst e
    obtain ⟨v, v1, v2⟩ := kTy_cell (k := 220) (i := 25) (c := zS 1 8) (by decide) (by rfl) h5
    obtain ⟨u, u1, u2, u3⟩ := zSab (by omega) v2
    refine ⟨hp', h1, h3, kW_of lg_u0 hp' h5, u - 1, by omega, ?_⟩
    rw [u1] at v1
    have e : u - 1 + 1 = u := by omega
    rw [e]
    exact v1
set_option maxRecDepth 1000000 in
theorem lg_w1 : kWb hTr1 hT plL = true := by decide +kernel
set_option maxRecDepth 1000000 in
theorem lg_u1 : kWb hTu1 hTr1 [220, 222, 227] = true := by decide +kernel
theorem lg_V1 : lgV hTr1 lvS1 := by
  refine ⟨⟨_, rfl⟩, fun md d hp0 hd => lvS1_ok hd hp0, lg_a1, fun i w hi hw => ?_, lg_c1, fun d hp hd hty => ?_, lg_w1⟩
  · obtain ⟨c, j, rfl, hc, hj⟩ : ∃ c j, i = 8 * c + j ∧ c < 5 ∧ j < 8 := ⟨i / 8, i % 8, by omega, by omega, by omega⟩
    have : c = 0 ∨ c = 1 ∨ c = 2 ∨ c = 3 ∨ c = 4 := by omega
    rcases this with rfl | rfl | rfl | rfl | rfl
    · exact List.all_eq_true.mp (List.all_eq_true.mp lg_b1_0 j (List.mem_range.mpr hj)) w hw
    · exact List.all_eq_true.mp (List.all_eq_true.mp lg_b1_1 j (List.mem_range.mpr hj)) w hw
    · exact List.all_eq_true.mp (List.all_eq_true.mp lg_b1_2 j (List.mem_range.mpr hj)) w hw
    · exact List.all_eq_true.mp (List.all_eq_true.mp lg_b1_3 j (List.mem_range.mpr hj)) w hw
    · exact List.all_eq_true.mp (List.all_eq_true.mp lg_b1_4 j (List.mem_range.mpr hj)) w hw
  · obtain ⟨r, hp', h1, h2, h3, T', h4, h5⟩ := cr1_M_keep_1057_ok d hd [zO] hp ⟨rfl, trivial⟩ hty
    rw [List.mem_singleton] at h4
    subst h4
    have e := sRtN h2
    subst e
    obtain ⟨v, v1, v2⟩ := kTy_cell (k := 220) (i := 25) (c := zS 1 8) (by decide) (by rfl) h5
    obtain ⟨u, u1, u2, u3⟩ := zSab (by omega) v2
    refine ⟨hp', h1, h3, kW_of lg_u1 hp' h5, u - 1, by omega, ?_⟩
    rw [u1] at v1
    have e : u - 1 + 1 = u := by omega
    rw [e]
    exact v1
set_option maxRecDepth 1000000 in
theorem lg_w2 : kWb hTr2 hT plL = true := by decide +kernel
set_option maxRecDepth 1000000 in
theorem lg_u2 : kWb hTu2 hTr2 [220, 222, 227] = true := by decide +kernel
theorem lg_V2 : lgV hTr2 lvS2 := by
  refine ⟨⟨_, rfl⟩, fun md d hp0 hd => lvS2_ok hd hp0, lg_a2, fun i w hi hw => ?_, lg_c2, fun d hp hd hty => ?_, lg_w2⟩
  · obtain ⟨c, j, rfl, hc, hj⟩ : ∃ c j, i = 8 * c + j ∧ c < 5 ∧ j < 8 := ⟨i / 8, i % 8, by omega, by omega, by omega⟩
    have : c = 0 ∨ c = 1 ∨ c = 2 ∨ c = 3 ∨ c = 4 := by omega
    rcases this with rfl | rfl | rfl | rfl | rfl
    · exact List.all_eq_true.mp (List.all_eq_true.mp lg_b2_0 j (List.mem_range.mpr hj)) w hw
    · exact List.all_eq_true.mp (List.all_eq_true.mp lg_b2_1 j (List.mem_range.mpr hj)) w hw
    · exact List.all_eq_true.mp (List.all_eq_true.mp lg_b2_2 j (List.mem_range.mpr hj)) w hw
    · exact List.all_eq_true.mp (List.all_eq_true.mp lg_b2_3 j (List.mem_range.mpr hj)) w hw
    · exact List.all_eq_true.mp (List.all_eq_true.mp lg_b2_4 j (List.mem_range.mpr hj)) w hw
  · obtain ⟨r, hp', h1, h2, h3, T', h4, h5⟩ := cr2_M_keep_1057_ok d hd [zO] hp ⟨rfl, trivial⟩ hty
    rw [List.mem_singleton] at h4
    subst h4
    have e := sRtN h2
    subst e
    obtain ⟨v, v1, v2⟩ := kTy_cell (k := 220) (i := 25) (c := zS 1 8) (by decide) (by rfl) h5
    obtain ⟨u, u1, u2, u3⟩ := zSab (by omega) v2
    refine ⟨hp', h1, h3, kW_of lg_u2 hp' h5, u - 1, by omega, ?_⟩
    rw [u1] at v1
    have e : u - 1 + 1 = u := by omega
    rw [e]
    exact v1
set_option maxRecDepth 1000000 in
theorem lg_w3 : kWb hTr3 hT plL = true := by decide +kernel
set_option maxRecDepth 1000000 in
theorem lg_u3 : kWb hTu3 hTr3 [220, 222, 227] = true := by decide +kernel
theorem lg_V3 : lgV hTr3 lvS3 := by
  refine ⟨⟨_, rfl⟩, fun md d hp0 hd => lvS3_ok hd hp0, lg_a3, fun i w hi hw => ?_, lg_c3, fun d hp hd hty => ?_, lg_w3⟩
  · obtain ⟨c, j, rfl, hc, hj⟩ : ∃ c j, i = 8 * c + j ∧ c < 5 ∧ j < 8 := ⟨i / 8, i % 8, by omega, by omega, by omega⟩
    have : c = 0 ∨ c = 1 ∨ c = 2 ∨ c = 3 ∨ c = 4 := by omega
    rcases this with rfl | rfl | rfl | rfl | rfl
    · exact List.all_eq_true.mp (List.all_eq_true.mp lg_b3_0 j (List.mem_range.mpr hj)) w hw
    · exact List.all_eq_true.mp (List.all_eq_true.mp lg_b3_1 j (List.mem_range.mpr hj)) w hw
    · exact List.all_eq_true.mp (List.all_eq_true.mp lg_b3_2 j (List.mem_range.mpr hj)) w hw
    · exact List.all_eq_true.mp (List.all_eq_true.mp lg_b3_3 j (List.mem_range.mpr hj)) w hw
    · exact List.all_eq_true.mp (List.all_eq_true.mp lg_b3_4 j (List.mem_range.mpr hj)) w hw
  · obtain ⟨r, hp', h1, h2, h3, T', h4, h5⟩ := cr3_M_keep_1057_ok d hd [zO] hp ⟨rfl, trivial⟩ hty
    rw [List.mem_singleton] at h4
    subst h4
    have e := sRtN h2
    subst e
    obtain ⟨v, v1, v2⟩ := kTy_cell (k := 220) (i := 25) (c := zS 1 8) (by decide) (by rfl) h5
    obtain ⟨u, u1, u2, u3⟩ := zSab (by omega) v2
    refine ⟨hp', h1, h3, kW_of lg_u3 hp' h5, u - 1, by omega, ?_⟩
    rw [u1] at v1
    have e : u - 1 + 1 = u := by omega
    rw [e]
    exact v1
