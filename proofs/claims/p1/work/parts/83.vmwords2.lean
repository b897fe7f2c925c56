/-! ===== words for the throw and the catch ===== -/
def vFc : List Cond := [.castable vNSE vNSE, .declares (Bundle.init0 "java/lang/RuntimeException"), .declares (Bundle.init0 "java/lang/Exception"), .declares (Bundle.init0 Bundle.tN)]
theorem vFc_face : ∀ w ∈ vFc, w.faceAtom = true ∧ w.onTables = true := by decide
def vFw (U : State) : Prop := ∀ w ∈ vFc, w.before #[] U = true
theorem vFw.of {args : Array Value} {s : State} (h : ∀ w ∈ vFc, w.before args s = true) : vFw s := fun w hw => by
  have h1 : w.before args (s.setVm s.vm) = true := h w hw
  rw [Cond.onTables_vm (A' := #[]) (U' := s) s.vm w (vFc_face w hw).2] at h1
  exact h1
theorem vFw.at {args : Array Value} {s : State} (hf : vFw s) : ∀ w ∈ vFc, w.before args s = true := fun w hw => by
  have h1 : w.before #[] (s.setVm s.vm) = true := hf w hw
  rw [Cond.onTables_vm (A' := args) (U' := s) s.vm w (vFc_face w hw).2] at h1
  exact h1
theorem vFw.moved {s U : State} (h : s.vm.Alike U.vm) (hf : vFw s) : vFw U := fun w hw => by
  have h1 := Cond.faceAtom_setVm (args := #[]) h w (vFc_face w hw).1 (hf w hw)
  rw [Cond.onTables_vm (A' := #[]) (U' := U) U.vm w (vFc_face w hw).2] at h1
  exact h1
def vAt2 (ps : List Nat) (ws : List Cond) : Bool := match ps, ws with
  | [], [] => true
  | i :: ps, w :: ws => (decide (w ∈ vFc) || (decide (lw_tbl[i]? = some w) && goodWord w)) && vAt2 ps ws
  | _, _ => false
theorem vAt2_ok : ∀ (ps : List Nat) (ws : List Cond), vAt2 ps ws = true → ∀ w ∈ ws, w ∈ WT ∨ w ∈ vFc
  | [], [], _, w, h => by cases h
  | [], _ :: _, h, _, _ => by cases h
  | _ :: _, [], h, _, _ => by cases h
  | i :: ps, w0 :: ws, h, w, hw => by
    obtain ⟨h1, h3⟩ := vBx h
    rcases List.mem_cons.mp hw with e | e
    · rw [e]
      rw [Bool.or_eq_true] at h1
      rcases h1 with h1 | h1
      · exact Or.inr (of_decide_eq_true h1)
      · obtain ⟨h1, h2⟩ := vBx h1
        exact Or.inl (WT_of (List.mem_of_getElem? (of_decide_eq_true h1)) h2)
    · exact vAt2_ok ps ws h3 w e
set_option maxRecDepth 100000 in
theorem vAtw_in : ∀ w ∈ vAtw, w ∈ WT ∨ w ∈ vFc := vAt2_ok [1349, 143, 140, 1371, 1380, 1382, 1385, 1387, 1372, 1373, 152, 153, 1374, 1379, 1383, 1399, 1361, 1400, 1363, 1401, 1365, 1375, 1377, 1367, 1389, 1390, 1391, 1392, 1352, 1392, 1393, 1394, 1395, 1354, 1395, 1396, 1397, 1372, 1356, 1388, 1350, 1351, 1358, 1359, 1360, 1362, 1364, 1366, 1370, 1369, 1368] _ (by decide +kernel)
set_option maxRecDepth 100000 in
theorem vFc_in : ∀ w ∈ vFc, w ∈ lw_tbl := vAtL_ok [1351, 1352, 1354, 1356] _ (by decide +kernel)
set_option maxRecDepth 100000 in
theorem vHw_a : ∀ w ∈ [Cond.classLink RL 13 vNSE, Cond.initialized RL], w ∈ WT := vAt_ok [1344, 121] _ (by decide +kernel)
def vlk_H : List (Nat × Cond) := [(7, .methodLink RL 7 yX11_pain), (15, .methodLink RL 15 yX11_porter), (18, .methodLink RL 18 yX11_unharmed)]
set_option maxRecDepth 100000 in
theorem vlk_H_ok : ∀ q ∈ vlk_H, q.2 ∈ WT := vlk_ok [1345, 1413, 1425] (by decide +kernel)
set_option maxRecDepth 100000 in
theorem vHw_pain : ∀ w ∈ [Cond.methodLink RL 44 yL_pain, Cond.static yL_pain], w ∈ WT := vAt_ok [1341, 1342] _ (by decide +kernel)
set_option maxRecDepth 100000 in
theorem vHw_pain_c : Cond.codeWith yL_pain cL_pain 5 (some .int) [(0, 10, 13, 13)] ∈ WT := WT_of (tin_6 (List.mem_of_getElem? (i := 22) rfl)) rfl
def vt_Hpain : vTbl := (0x14f0000000000000000000000000000000101000000000000000000000000000000014f0000000000000000000000000100000101000000000000000000000000000000000000000000000000000000000004000002120000000000000000000000000000000000000000000000000000000000000000000000000000000000000000000011000003210000000000000000000000000000000140000000000000000000000000000000014a000000000000000000000000000000000000000000000000000000000000000000000b0000000200000000000000ae0007032b00000000000000000000000002000001080000000000000000000000000100000108000000000000000000000000000000010a0000000000000000000000000000000101000000000000000000000000030000010a, 19, [])
set_option maxRecDepth 100000 in
theorem vtb_Hpain : vTb cL_pain vms vkinds 7 110 RL false vlk_H vt_Hpain 19 = true := by decide +kernel
set_option maxRecDepth 100000 in
theorem vtb_Xpain : vTb cX11_pain vms vkinds 6 81 RX11 false vlk_RX11 vt_X11_pain vt_X11_pain.2.1 = true := by decide +kernel
set_option maxRecDepth 100000 in
theorem vHw_porter : ∀ w ∈ [Cond.methodLink RL 57 yL_porter, Cond.static yL_porter], w ∈ WT := vAt_ok [1410, 1411] _ (by decide +kernel)
set_option maxRecDepth 100000 in
theorem vHw_porter_c : Cond.codeWith yL_porter cL_porter 5 (some .int) [(0, 10, 13, 13)] ∈ WT := WT_of (tin_6 (List.mem_of_getElem? (i := 91) rfl)) rfl
def vt_Hporter : vTbl := (0x14f0000000000000000000000000000000101000000000000000000000000000000014f0000000000000000000000000100000101000000000000000000000000000000000000000000000000000000000004000002120000000000000000000000000000000000000000000000000000000000000000000000000000000000000000000011000003210000000000000000000000000000000140000000000000000000000000000000014a000000000000000000000000000000000000000000000000000000000000000000000b0000000200000000000000af000f032b00000000000000000000000002000001080000000000000000000000000100000108000000000000000000000000000000010a0000000000000000000000000000000101000000000000000000000000030000010a, 19, [])
set_option maxRecDepth 100000 in
theorem vtb_Hporter : vTb cL_porter vms vkinds 7 110 RL false vlk_H vt_Hporter 19 = true := by decide +kernel
set_option maxRecDepth 100000 in
theorem vtb_Xporter : vTb cX11_porter vms vkinds 6 81 RX11 false vlk_RX11 vt_X11_porter vt_X11_porter.2.1 = true := by decide +kernel
set_option maxRecDepth 100000 in
theorem vHw_unharmed : ∀ w ∈ [Cond.methodLink RL 138 yL_unharmed, Cond.static yL_unharmed], w ∈ WT := vAt_ok [1422, 1423] _ (by decide +kernel)
set_option maxRecDepth 100000 in
theorem vHw_unharmed_c : Cond.codeWith yL_unharmed cL_unharmed 5 (some .int) [(0, 10, 13, 13)] ∈ WT := WT_of (tin_6 (List.mem_of_getElem? (i := 103) rfl)) rfl
def vt_Hunharmed : vTbl := (0x14f0000000000000000000000000000000101000000000000000000000000000000014f0000000000000000000000000100000101000000000000000000000000000000000000000000000000000000000004000002120000000000000000000000000000000000000000000000000000000000000000000000000000000000000000000011000003210000000000000000000000000000000140000000000000000000000000000000014a000000000000000000000000000000000000000000000000000000000000000000000b0000000200000000000000b00012032b00000000000000000000000002000001080000000000000000000000000100000108000000000000000000000000000000010a0000000000000000000000000000000101000000000000000000000000030000010a, 19, [])
set_option maxRecDepth 100000 in
theorem vtb_Hunharmed : vTb cL_unharmed vms vkinds 7 110 RL false vlk_H vt_Hunharmed 19 = true := by decide +kernel
set_option maxRecDepth 100000 in
theorem vtb_Xunharmed : vTb cX11_unharmed vms vkinds 6 81 RX11 false vlk_RX11 vt_X11_unharmed vt_X11_unharmed.2.1 = true := by decide +kernel
