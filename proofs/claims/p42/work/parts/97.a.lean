/-! ===== image() and restore() copy what they copy ===== -/
def hW : sHp := (222, (1, [(323, zF)], [])) :: (245, (1, [(646, zF)], [])) :: hT
def plI : List Nat := [220, 222, 225, 245, 246, 247]
theorem hM_image : vms[282]? = some m_X12_image := by rw [← vNth_eq]; rfl
theorem hM_restore : vms[284]? = some m_X12_restore := by rw [← vNth_eq]; rfl
def kW (T : sHp) (T' : sHp) (pl : List Nat) : Prop := ∀ hp, kTy T pl hp → kTy T' pl hp
noncomputable def kWb (T T' : sHp) (pl : List Nat) : Bool := match sTp T pl with
  | some h => sTlc (0, [], []) T' h pl
  | none => false
theorem kW_of {T T' : sHp} {pl : List Nat} (h : kWb T T' pl = true) : kW T T' pl := fun hp hty => by
  unfold kWb at h
  split at h
  · next h0 hh => exact sTlc_ok sG0 (sTp_ok hh hty) h
  · cases h
set_option maxRecDepth 1000000 in
theorem hT_hW : kWb hT hW plI = true := by decide +kernel
def gF : sG := (1, [(0, [(0, 4294967295)])], [])
def cpL (k i : Nat) : List (Option sC) := [some zT, some (zK k), some (zK i)]
def imD (k : Nat) : Nat := 323 * k
set_option maxRecDepth 1000000 in
theorem im_k1 : [0, 1].all (fun k => nChk0 m_X12_image hW plI (isS [(220, 0, 0)]) [(220, 0, 0)] [18] 3000 (0, [some zT, some (zK k), none], [], []) [(18, cpL k 0, [], [])]) = true := by decide +kernel
set_option maxRecDepth 1000000 in
theorem im_k2 : (List.range 323).all (fun i => nChk m_X12_image hW plI gF sNo [(245, 0 + i, 0 + i)] [18] 3000 (18, cpL 0 i, [], [(222, 0 + i, zY 0)]) [(18, cpL 0 (i + 1), [], [(245, 0 + i, zY 0)])]) = true := by decide +kernel
set_option maxRecDepth 1000000 in
theorem im_k3 : (List.range 323).all (fun i => nChk m_X12_image hW plI gF sNo [(245, 323 + i, 323 + i)] [18] 3000 (18, cpL 1 i, [], [(222, 0 + i, zY 0)]) [(18, cpL 1 (i + 1), [], [(245, 323 + i, zY 0)])]) = true := by decide +kernel
set_option maxRecDepth 1000000 in
theorem im_k4 : [0, 1].all (fun k => nChk0 m_X12_image hW plI sNo [(246, 24 * k, 24 * k + 23), (247, k, k)] [18] 3000 (18, cpL k 323, [], []) [(88, [none, none, none], [zK 1], [])]) = true := by decide +kernel
set_option maxRecDepth 1000000 in
theorem im_r : nRet m_X12_image (88, [none, none, none], [zK 1], []) (some (zS 1 1)) = true := by decide +kernel
set_option maxRecDepth 1000000 in
theorem re_k1 : [0, 1].all (fun k => nChk0 m_X12_restore hW plI (isS [(220, 0, 0)]) [(220, 0, 0)] [27] 3000 (0, [some zT, some (zK k), none], [], []) [(24, [none, none, none], [zK 0], []), (27, cpL k 0, [], [])]) = true := by decide +kernel
set_option maxRecDepth 1000000 in
theorem re_k2 : (List.range 323).all (fun i => nChk m_X12_restore hW plI gF sNo [(222, 0 + i, 0 + i)] [27] 3000 (27, cpL 0 i, [], [(245, 0 + i, zY 0)]) [(27, cpL 0 (i + 1), [], [(222, 0 + i, zY 0)])]) = true := by decide +kernel
set_option maxRecDepth 1000000 in
theorem re_k3 : (List.range 323).all (fun i => nChk m_X12_restore hW plI gF sNo [(222, 0 + i, 0 + i)] [27] 3000 (27, cpL 1 i, [], [(245, 323 + i, zY 0)]) [(27, cpL 1 (i + 1), [], [(222, 0 + i, zY 0)])]) = true := by decide +kernel
set_option maxRecDepth 1000000 in
theorem re_k4 : [0, 1].all (fun k => nChk0 m_X12_restore hW plI sNo [(225, 0, 23), (220, 25, 25)] [27] 3000 (27, cpL k 323, [], []) [(95, [none, none, none], [zK 1], [])]) = true := by decide +kernel
set_option maxRecDepth 1000000 in
theorem re_r : (nRet m_X12_restore (95, [none, none, none], [zK 1], []) (some zF) && nRet m_X12_restore (24, [none, none, none], [zK 0], []) (some zF)) = true := by decide +kernel
