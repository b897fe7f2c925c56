theorem gl_V4_31 : glV 4 31 glS4_31 := by
  refine ⟨by decide, fun md d hp0 hd => glS4_31_ok hd hp0, fun i w hi hw => ?_⟩
  obtain ⟨c, j, rfl, hc, hj⟩ : ∃ c j, i = 4 * c + j ∧ c < 10 ∧ j < 4 := ⟨i / 4, i % 4, by omega, by omega, by omega⟩
  have hcc : c = 0 ∨ c = 1 ∨ c = 2 ∨ c = 3 ∨ c = 4 ∨ c = 5 ∨ c = 6 ∨ c = 7 ∨ c = 8 ∨ c = 9 := by omega
  rcases hcc with rfl | rfl | rfl | rfl | rfl | rfl | rfl | rfl | rfl | rfl
  · exact List.all_eq_true.mp (List.all_eq_true.mp gl_k4_31_0 j (List.mem_range.mpr hj)) w hw
  · exact List.all_eq_true.mp (List.all_eq_true.mp gl_k4_31_1 j (List.mem_range.mpr hj)) w hw
  · exact List.all_eq_true.mp (List.all_eq_true.mp gl_k4_31_2 j (List.mem_range.mpr hj)) w hw
  · exact List.all_eq_true.mp (List.all_eq_true.mp gl_k4_31_3 j (List.mem_range.mpr hj)) w hw
  · exact List.all_eq_true.mp (List.all_eq_true.mp gl_k4_31_4 j (List.mem_range.mpr hj)) w hw
  · exact List.all_eq_true.mp (List.all_eq_true.mp gl_k4_31_5 j (List.mem_range.mpr hj)) w hw
  · exact List.all_eq_true.mp (List.all_eq_true.mp gl_k4_31_6 j (List.mem_range.mpr hj)) w hw
  · exact List.all_eq_true.mp (List.all_eq_true.mp gl_k4_31_7 j (List.mem_range.mpr hj)) w hw
  · exact List.all_eq_true.mp (List.all_eq_true.mp gl_k4_31_8 j (List.mem_range.mpr hj)) w hw
  · exact List.all_eq_true.mp (List.all_eq_true.mp gl_k4_31_9 j (List.mem_range.mpr hj)) w hw
theorem gl_V4_40 : glV 4 40 glS4_40 := by
  refine ⟨by decide, fun md d hp0 hd => glS4_40_ok hd hp0, fun i w hi hw => ?_⟩
  obtain ⟨c, j, rfl, hc, hj⟩ : ∃ c j, i = 4 * c + j ∧ c < 10 ∧ j < 4 := ⟨i / 4, i % 4, by omega, by omega, by omega⟩
  have hcc : c = 0 ∨ c = 1 ∨ c = 2 ∨ c = 3 ∨ c = 4 ∨ c = 5 ∨ c = 6 ∨ c = 7 ∨ c = 8 ∨ c = 9 := by omega
  rcases hcc with rfl | rfl | rfl | rfl | rfl | rfl | rfl | rfl | rfl | rfl
  · exact List.all_eq_true.mp (List.all_eq_true.mp gl_k4_40_0 j (List.mem_range.mpr hj)) w hw
  · exact List.all_eq_true.mp (List.all_eq_true.mp gl_k4_40_1 j (List.mem_range.mpr hj)) w hw
  · exact List.all_eq_true.mp (List.all_eq_true.mp gl_k4_40_2 j (List.mem_range.mpr hj)) w hw
  · exact List.all_eq_true.mp (List.all_eq_true.mp gl_k4_40_3 j (List.mem_range.mpr hj)) w hw
  · exact List.all_eq_true.mp (List.all_eq_true.mp gl_k4_40_4 j (List.mem_range.mpr hj)) w hw
  · exact List.all_eq_true.mp (List.all_eq_true.mp gl_k4_40_5 j (List.mem_range.mpr hj)) w hw
  · exact List.all_eq_true.mp (List.all_eq_true.mp gl_k4_40_6 j (List.mem_range.mpr hj)) w hw
  · exact List.all_eq_true.mp (List.all_eq_true.mp gl_k4_40_7 j (List.mem_range.mpr hj)) w hw
  · exact List.all_eq_true.mp (List.all_eq_true.mp gl_k4_40_8 j (List.mem_range.mpr hj)) w hw
  · exact List.all_eq_true.mp (List.all_eq_true.mp gl_k4_40_9 j (List.mem_range.mpr hj)) w hw
theorem gl_V17_31 : glV 17 31 glS17_31 := by
  refine ⟨by decide, fun md d hp0 hd => glS17_31_ok hd hp0, fun i w hi hw => ?_⟩
  obtain ⟨c, j, rfl, hc, hj⟩ : ∃ c j, i = 4 * c + j ∧ c < 10 ∧ j < 4 := ⟨i / 4, i % 4, by omega, by omega, by omega⟩
  have hcc : c = 0 ∨ c = 1 ∨ c = 2 ∨ c = 3 ∨ c = 4 ∨ c = 5 ∨ c = 6 ∨ c = 7 ∨ c = 8 ∨ c = 9 := by omega
  rcases hcc with rfl | rfl | rfl | rfl | rfl | rfl | rfl | rfl | rfl | rfl
  · exact List.all_eq_true.mp (List.all_eq_true.mp gl_k17_31_0 j (List.mem_range.mpr hj)) w hw
  · exact List.all_eq_true.mp (List.all_eq_true.mp gl_k17_31_1 j (List.mem_range.mpr hj)) w hw
  · exact List.all_eq_true.mp (List.all_eq_true.mp gl_k17_31_2 j (List.mem_range.mpr hj)) w hw
  · exact List.all_eq_true.mp (List.all_eq_true.mp gl_k17_31_3 j (List.mem_range.mpr hj)) w hw
  · exact List.all_eq_true.mp (List.all_eq_true.mp gl_k17_31_4 j (List.mem_range.mpr hj)) w hw
  · exact List.all_eq_true.mp (List.all_eq_true.mp gl_k17_31_5 j (List.mem_range.mpr hj)) w hw
  · exact List.all_eq_true.mp (List.all_eq_true.mp gl_k17_31_6 j (List.mem_range.mpr hj)) w hw
  · exact List.all_eq_true.mp (List.all_eq_true.mp gl_k17_31_7 j (List.mem_range.mpr hj)) w hw
  · exact List.all_eq_true.mp (List.all_eq_true.mp gl_k17_31_8 j (List.mem_range.mpr hj)) w hw
  · exact List.all_eq_true.mp (List.all_eq_true.mp gl_k17_31_9 j (List.mem_range.mpr hj)) w hw
theorem gl_V17_40 : glV 17 40 glS17_40 := by
  refine ⟨by decide, fun md d hp0 hd => glS17_40_ok hd hp0, fun i w hi hw => ?_⟩
  obtain ⟨c, j, rfl, hc, hj⟩ : ∃ c j, i = 4 * c + j ∧ c < 10 ∧ j < 4 := ⟨i / 4, i % 4, by omega, by omega, by omega⟩
  have hcc : c = 0 ∨ c = 1 ∨ c = 2 ∨ c = 3 ∨ c = 4 ∨ c = 5 ∨ c = 6 ∨ c = 7 ∨ c = 8 ∨ c = 9 := by omega
  rcases hcc with rfl | rfl | rfl | rfl | rfl | rfl | rfl | rfl | rfl | rfl
  · exact List.all_eq_true.mp (List.all_eq_true.mp gl_k17_40_0 j (List.mem_range.mpr hj)) w hw
  · exact List.all_eq_true.mp (List.all_eq_true.mp gl_k17_40_1 j (List.mem_range.mpr hj)) w hw
  · exact List.all_eq_true.mp (List.all_eq_true.mp gl_k17_40_2 j (List.mem_range.mpr hj)) w hw
  · exact List.all_eq_true.mp (List.all_eq_true.mp gl_k17_40_3 j (List.mem_range.mpr hj)) w hw
  · exact List.all_eq_true.mp (List.all_eq_true.mp gl_k17_40_4 j (List.mem_range.mpr hj)) w hw
  · exact List.all_eq_true.mp (List.all_eq_true.mp gl_k17_40_5 j (List.mem_range.mpr hj)) w hw
  · exact List.all_eq_true.mp (List.all_eq_true.mp gl_k17_40_6 j (List.mem_range.mpr hj)) w hw
  · exact List.all_eq_true.mp (List.all_eq_true.mp gl_k17_40_7 j (List.mem_range.mpr hj)) w hw
  · exact List.all_eq_true.mp (List.all_eq_true.mp gl_k17_40_8 j (List.mem_range.mpr hj)) w hw
  · exact List.all_eq_true.mp (List.all_eq_true.mp gl_k17_40_9 j (List.mem_range.mpr hj)) w hw
