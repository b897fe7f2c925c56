/-! ===== town(): s is cleared ===== -/
theorem hM_town : vms[81]? = some m_X12_town := by rw [← vNth_eq]; rfl
def plW : List Nat := [220, 222, 223, 225]
def twL (k : Nat) : List (Option sC) := [some zT, some (zK k)]
set_option maxRecDepth 1000000 in
theorem tw_k0 : nChk0 m_X12_town hW plW sNo [] [114] 3000 (112, [some zT, none], [], []) [(114, twL 0, [], [])] = true := by decide +kernel
set_option maxRecDepth 1000000 in
theorem tw_k1 : (List.range 142).all (fun k => nChk0 m_X12_town hW plW sNo [(222, k, k)] [114] 3000 (114, twL k, [], []) [(114, twL (k + 1), [], [])]) = true := by decide +kernel
set_option maxRecDepth 1000000 in
theorem tw_k2 : nChk0 m_X12_town hW plW sNo [(222, 142, 142)] [114] 3000 (114, twL 142, [], []) [(114, twL 143, [], [(222, 142, zK 0)])] = true := by decide +kernel
set_option maxRecDepth 1000000 in
theorem tw_k3 : (List.range 180).all (fun j => nChk0 m_X12_town hW plW sNo [(222, 143 + j, 143 + j)] [114] 3000 (114, twL (143 + j), [], []) [(114, twL (143 + j + 1), [], [])]) = true := by decide +kernel
def mTw : sMd := [(222, 65, 95), (225, 0, 23), (220, 25, 25)]
set_option maxRecDepth 1000000 in
theorem tw_k4 : nChk0 m_X12_town hW plW sNo mTw [] 3000 (114, twL 323, [], []) [(268, [none, none], [zF], [])] = true := by decide +kernel
set_option maxRecDepth 1000000 in
theorem tw_r : nRet m_X12_town (268, [none, none], [zF], []) (some zF) = true := by decide +kernel
