/-! ===== isSaid(), said() ===== -/
def plT : List Nat := [220, 222, 244]
theorem hM_isSaid : vms[277]? = some m_X12_isSaid := by rw [← vNth_eq]; rfl
theorem hM_said : vms[278]? = some m_X12_said := by rw [← vNth_eq]; rfl
noncomputable def isS (md : sMd) : sCal := sCalI vms (sCt hT md [cc_M_isLeaf_1031_e]) md 3000 6
theorem isS_ok {md : sMd} {d : Nat} (hd : 13 ≤ d) (hp0 : List vOb) : sCalOK vms vdf d md hp0 (isS md) :=
  sCalI_ok (d0 := 7) (fun m hm => sCt_ok (T := hT) (cs_cons (cc_M_isLeaf_1031_ok m (by omega)) cs_nil)) 6 d (by omega)
def isL (n : sC) (i : Nat) : List (Option sC) := [some zT, some (zS 0 7), some n, some (zK i), none]
def gY (a b : Nat) : sG := (1, [(0, [(a + 2147483648, b + 2147483648)])], [])
set_option maxRecDepth 1000000 in
theorem is_k1 : nChk0 m_X12_isSaid hT plT sNo [] [4] 3000 (0, [some zT, some (zS 0 7), none, none, none], [], []) [(4, isL (zK 0) 0, [], [])] = true := by decide +kernel
set_option maxRecDepth 1000000 in
theorem is_k2 : (List.range 41).all (fun c => (List.range c).all (fun i => nChk m_X12_isSaid hT [220, 222] (gY 0 40) sNo [] [16] 3000 (4, isL (zY 0) i, [], [(222, 142, zK c)]) [(16, isL (zY 0) i, [], [])])) = true := by decide +kernel
set_option maxRecDepth 1000000 in
theorem is_k3 : (List.range 41).all (fun c => nChk m_X12_isSaid hT plT (gY 0 40) sNo [] [16] 3000 (4, isL (zY 0) c, [], [(222, 142, zK c)]) [(218, [none, none, none, none, none], [zS 0 1], [])]) = true := by decide +kernel
set_option maxRecDepth 1000000 in
theorem is_k4 : (List.range 40).all (fun i => nChk m_X12_isSaid hT plT (gY 0 40) (isS [(244, 0, 44)]) [(244, 0, 44)] [4] 3000 (16, isL (zY 0) i, [], [(222, 143 + 3 * i, zS 0 8)]) [(4, isL (zY 1) (i + 1), [], [])]) = true := by decide +kernel
set_option maxRecDepth 1000000 in
theorem is_k5 : (List.range 40).all (fun i => nChk m_X12_isSaid hT plT (gY 1 40) sNo [(244, 0, 44)] [4] 3000 (16, isL (zY 0) i, [], [(222, 143 + 3 * i, zK 20)]) [(4, isL (zY 0) (i + 1), [], [])]) = true := by decide +kernel
set_option maxRecDepth 1000000 in
theorem is_k6 : (List.range 40).all (fun i => nChk m_X12_isSaid hT plT (gY 2 40) sNo [(244, 0, 44)] [4] 3000 (16, isL (zY 0) i, [], [(222, 143 + 3 * i, zS 21 22)]) [(4, isL (zY 4294967295) (i + 1), [], [])]) = true := by decide +kernel
set_option maxRecDepth 1000000 in
theorem is_r : nRet m_X12_isSaid (218, [none, none, none, none, none], [zS 0 1], []) (some (zS 0 1)) = true := by decide +kernel
set_option maxRecDepth 1000000 in
theorem sa_k1 : nChk0 m_X12_said hT plT sNo [(220, 0, 0)] [27] 3000 (0, [some zT, some zF, none, none], [], []) [(22, [none, none, none, none], [zF], []), (27, [some zT, some zF, some (zS 0 0), some (zK 0)], [], [])] = true := by decide +kernel
set_option maxRecDepth 1000000 in
theorem sa_k2 : (List.range 8).all (fun i => nChk0 m_X12_said hT plT sNo [] [39] 3000 (27, [some zT, some zF, some (zS 0 i), some (zK i)], [], []) [(39, [some zT, some zF, some (zS 0 i), some (zK i)], [zK i, zT], []), (74, [none, none, none, none], [zF], [])]) = true := by decide +kernel
set_option maxRecDepth 1000000 in
theorem sa_k3 : nChk0 m_X12_said hT plT sNo [] [39] 3000 (27, [some zT, some zF, some (zS 0 8), some (zK 8)], [], []) [(74, [none, none, none, none], [zF], [])] = true := by decide +kernel
set_option maxRecDepth 1000000 in
theorem sa_k4 : (List.range 8).all (fun i => nChk0 m_X12_said hT plT sNo [] [27] 3000 (42, [some zT, some zF, some (zS 0 i), some (zK i)], [zS 0 1], []) [(27, [some zT, some zF, some (zS 0 (i + 1)), some (zK (i + 1))], [], []), (54, [none, none, none, none], [zF], [])]) = true := by decide +kernel
set_option maxRecDepth 1000000 in
theorem sa_r : [22, 54, 74].all (fun p => nRet m_X12_said (p, [none, none, none, none], [zF], []) (some zF)) = true := by decide +kernel
set_option maxRecDepth 1000000 in
theorem sa_c : zCb m_X12_said 39 277 1 = true := by decide +kernel
