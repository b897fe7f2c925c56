/-! sentence() -/
def mS1 : sMd := [(220, 0, 0), (220, 2, 5), (220, 11, 18), (220, 51, 55)]
def seH (cs : List (Nat × Nat × sC)) : nN := (48, [some zT, some (zK 1), none], [], cs)
def seN (pc : Nat) : nN := (pc, [none, none, none], [zF], [])
set_option maxRecDepth 1000000 in
theorem se_k1 : nChk0 m_X12_sentence hT plS (opS mS1) mS1 [48] 3000 (0, [some zT, none, none], [], []) [seH [(220, 51, zK 0), (220, 52, zK 0), (220, 53, zK 0), (220, 55, zK 0)]] = true := by decide +kernel
set_option maxRecDepth 1000000 in
theorem se_k2 : nChk0 m_X12_sentence hT plS sNo [] [67, 109] 3000 (seH [(220, 55, zK 1)]) [(67, [some zT, some (zK 1), none], [zT], []), (109, [some zT, some (zK 1), none], [zT], [])] = true := by decide +kernel
set_option maxRecDepth 1000000 in
theorem se_k3 : nChk0 m_X12_sentence hT plS sNo [] [119] 3000 (seH [(220, 55, zK 0)]) [(119, [some zT, some (zK 1), none], [zT], [])] = true := by decide +kernel
set_option maxRecDepth 1000000 in
theorem se_k4 : [112, 122].all (fun p => nChk0 m_X12_sentence hT plS sNo [] [48] 3000 (p, [some zT, some (zK 1), none], [zK 0], []) [seN 131] && nChk0 m_X12_sentence hT plS sNo [] [48] 3000 (p, [some zT, some (zK 1), none], [zK 1], []) [seH []]) = true := by decide +kernel
set_option maxRecDepth 1000000 in
theorem se_k5 : nChk0 m_X12_sentence hT plS sNo [] [73] 3000 (70, [some zT, some (zK 1), none], [], []) [(73, [some zT, some (zK 1), none], [zK 22, zT], [])] = true := by decide +kernel
set_option maxRecDepth 1000000 in
theorem se_k6 : nChk0 m_X12_sentence hT plS sNo [] [132] 3000 (76, [some zT, some (zK 1), none], [], [(220, 53, zK 0)]) [(132, [some zT, none, none], [], [])] = true := by decide +kernel
set_option maxRecDepth 1000000 in
theorem se_k7 : (List.range 40).all (fun t => nChk0 m_X12_sentence hT plS (opS [(220, 15, 16)]) [(220, 15, 16)] [132] 3000 (76, [some zT, some (zK 1), none], [], [(220, 53, zK (t + 1))]) [seN 95]) = true := by decide +kernel
set_option maxRecDepth 1000000 in
theorem se_k8 : (List.range 41).all (fun c => nChk0 m_X12_sentence hT plS sNo [(222, 142, 142)] [146] 3000 (132, [some zT, none, none], [], [(220, 51, zK c)]) [(146, [some zT, none, some (zK 0)], [], [(222, 142, zK c)])]) = true := by decide +kernel
noncomputable def seF (c : Nat) : Bool := (List.range (3 * c)).all (fun i => nChk0 m_X12_sentence hT [220] sNo [] [156, 178] 3000 (146, [some zT, none, some (zK i)], [], [(220, 51, zK c)]) [(156, [some zT, none, some (zK i)], [], [])])
set_option maxRecDepth 1000000 in
theorem se_k9_0 : (List.range 17).all (fun j => seF (0 + j)) = true := by decide +kernel
set_option maxRecDepth 1000000 in
theorem se_k9_1 : (List.range 8).all (fun j => seF (17 + j)) = true := by decide +kernel
set_option maxRecDepth 1000000 in
theorem se_k9_2 : (List.range 6).all (fun j => seF (25 + j)) = true := by decide +kernel
set_option maxRecDepth 1000000 in
theorem se_k9_3 : (List.range 5).all (fun j => seF (31 + j)) = true := by decide +kernel
set_option maxRecDepth 1000000 in
theorem se_k9_4 : (List.range 5).all (fun j => seF (36 + j)) = true := by decide +kernel
theorem seF_in {s m c : Nat} (h : (List.range m).all (fun j => seF (s + j)) = true) (h1 : s ≤ c) (h2 : c < s + m) : seF c = true := by
  have h : seF (s + (c - s)) = true := List.all_eq_true.mp h (c - s) (List.mem_range.mpr (by omega))
  rw [show s + (c - s) = c by omega] at h
  exact h
theorem se_k9 : (List.range 41).all (fun c => (List.range (3 * c)).all (fun i => nChk0 m_X12_sentence hT [220] sNo [] [156, 178] 3000 (146, [some zT, none, some (zK i)], [], [(220, 51, zK c)]) [(156, [some zT, none, some (zK i)], [], [])])) = true := by
  refine List.all_eq_true.mpr (fun c hc => ?_)
  have hc := List.mem_range.mp hc
  show seF c = true
  rcases (show c < 17 ∨ (17 ≤ c ∧ c < 25) ∨ (25 ≤ c ∧ c < 31) ∨ (31 ≤ c ∧ c < 36) ∨ (36 ≤ c ∧ c < 41) by omega) with h | h | h | h | h
  · exact seF_in se_k9_0 (by omega) (by omega)
  · exact seF_in se_k9_1 (by omega) (by omega)
  · exact seF_in se_k9_2 (by omega) (by omega)
  · exact seF_in se_k9_3 (by omega) (by omega)
  · exact seF_in se_k9_4 (by omega) (by omega)
set_option maxRecDepth 1000000 in
theorem se_k10 : (List.range 41).all (fun c => nChk0 m_X12_sentence hT [220] sNo [] [156, 178] 3000 (146, [some zT, none, some (zK (3 * c))], [], [(220, 51, zK c)]) [(178, [some zT, none, none], [], [])]) = true := by decide +kernel
set_option maxRecDepth 1000000 in
theorem se_k11 : (List.range 120).all (fun i => nChk m_X12_sentence hT plS (1, [(0, [(0, 4294967295)])], []) sNo [(222, 143 + i, 143 + i)] [146] 3000 (156, [some zT, none, some (zK i)], [], [(224, i, zY 0)]) [(146, [some zT, none, some (zK (i + 1))], [], [(222, 143 + i, zY 0)])]) = true := by decide +kernel
set_option maxRecDepth 1000000 in
theorem se_k12 : nChk0 m_X12_sentence hT plS sNo [] [] 3000 (178, [some zT, none, none], [], []) [seN 182] = true := by decide +kernel
set_option maxRecDepth 1000000 in
theorem se_c : (zCb m_X12_sentence 67 264 0 && (zCb m_X12_sentence 73 265 1 && (zCb m_X12_sentence 109 266 0 && zCb m_X12_sentence 119 269 0))) = true := by decide +kernel
set_option maxRecDepth 1000000 in
theorem se_r : [95, 131, 182].all (fun p => nRet m_X12_sentence (seN p) (some zF)) = true := by decide +kernel
