/-! ===== the reference's log: its lines ===== -/
def plL : List Nat := [220, 221, 222, 224, 225, 226]
theorem hM_logLine : vms[249]? = some m_X12_logLine := by rw [← vNth_eq]; rfl
theorem hM_log : vms[251]? = some m_X12_log := by rw [← vNth_eq]; rfl
noncomputable def lgS (md : sMd) : sCal := sCalI vms (sCt hT md [cc_M_next_998_e, cc_M_isName_999_e, cc_M_find_1029_e, cc_M_find_1030_e]) md 3000 6
theorem lgS_ok {md : sMd} {d : Nat} (hd : 13 ≤ d) (hp0 : List vOb) : sCalOK vms vdf d md hp0 (lgS md) :=
  sCalI_ok (d0 := 7) (fun m hm => sCt_ok (T := hT) (cs_cons (cc_M_next_998_ok m (by omega)) (cs_cons (cc_M_isName_999_ok m (by omega)) (cs_cons (cc_M_find_1029_ok m (by omega)) (cs_cons (cc_M_find_1030_ok m (by omega)) cs_nil))))) 6 d (by omega)
def mLl (t : Nat) : sMd := [(220, 4, 4), (220, 11, 18), (224, 4 * t, 4 * t + 3)]
def llL : List (Option sC) := [none, none, none, none, none]
def llNs : List Nat := [31, 54, 81, 121, 136, 160, 238, 276, 313]
def llN (p : Nat) : nN := (p, llL, [zK 0], [])
def ll5 (a b c e : Option sC) : List (Option sC) := [some zT, a, b, c, e]
set_option maxRecDepth 1000000 in
theorem ll_k1 : (List.range 41).all (fun t => nChk0 m_X12_logLine hT plL sNo [] [7] 3000 (0, ll5 none none none none, [], [(220, 47, zK t)]) [(7, ll5 (some (zK (4 * t))) none none none, [], [])]) = true := by decide +kernel
set_option maxRecDepth 1000000 in
theorem ll_k2 : nChk m_X12_logLine hT plL gF (lgS mNx) mNx [36, 165, 243] 3000 (7, ll5 (some (zY 0)) none none none, [], [(220, 47, zS 0 39)]) ([31, 81, 121, 136, 160, 238].map llN ++ [(36, ll5 (some (zY 0)) none none none, [], []), (165, ll5 (some (zY 0)) none (some (zS 0 7)) none, [], []), (243, ll5 (some (zY 0)) (some (zS 0 4)) none (some (zS 0 2)), [], [])]) = true := by decide +kernel
set_option maxRecDepth 1000000 in
theorem ll_k3 : nChk m_X12_logLine hT plL gF (lgS mNx) mNx [36, 165, 243] 3000 (7, ll5 (some (zY 0)) none none none, [], [(220, 47, zK 40)]) ([31, 81, 121, 136, 160, 238].map llN) = true := by decide +kernel
set_option maxRecDepth 1000000 in
theorem ll_k4 : (List.range 40).all (fun t => nChk0 m_X12_logLine hT plL sNo [(224, 4 * t, 4 * t + 3)] [43] 3000 (36, ll5 (some (zK (4 * t))) none none none, [], []) [(43, ll5 (some (zK (4 * t))) none none none, [], [(224, 4 * t, zK 4)])]) = true := by decide +kernel
set_option maxRecDepth 1000000 in
theorem ll_k5 : nChk m_X12_logLine hT plL gF (lgS mNx) mNx [55] 3000 (43, ll5 (some (zY 0)) none none none, [], []) [llN 54, (55, ll5 (some (zY 0)) none none none, [], [(220, 18, zS 1 60)])] = true := by decide +kernel
set_option maxRecDepth 1000000 in
theorem ll_k6 : (List.range 40).all (fun t => nChk0 m_X12_logLine hT plL sNo [(224, 4 * t, 4 * t + 3)] [] 3000 (55, ll5 (some (zK (4 * t))) none none none, [], [(224, 4 * t, zK 4), (220, 18, zS 1 60)]) [(68, llL, [zK 1], [(224, 4 * t, zK 4), (224, 4 * t + 1, zS 1 60)])]) = true := by decide +kernel
set_option maxRecDepth 1000000 in
theorem ll_k7 : (List.range 40).all (fun t => nChk0 m_X12_logLine hT plL sNo [(224, 4 * t, 4 * t + 3)] [] 3000 (165, ll5 (some (zK (4 * t))) none (some (zS 0 7)) none, [], []) [(182, llL, [zK 1], [(224, 4 * t, zK 3), (224, 4 * t + 2, zS 0 7)])]) = true := by decide +kernel
set_option maxRecDepth 1000000 in
theorem ll_k8 : (List.range 40).all (fun t => [0, 1, 2].all (fun w => nChk0 m_X12_logLine hT plL sNo [(224, 4 * t, 4 * t + 3)] [260] 3000 (243, ll5 (some (zK (4 * t))) (some (zS 0 4)) none (some (zK w)), [], []) [(260, ll5 (some (zK (4 * t))) none none (some (zK w)), [], [(224, 4 * t, zK w), (224, 4 * t + 1, zS 0 4)])])) = true := by decide +kernel
set_option maxRecDepth 1000000 in
theorem ll_k9 : [0, 1, 2].all (fun w => nChk m_X12_logLine hT plL gF (lgS mNx) mNx [277] 3000 (260, ll5 (some (zY 0)) none none (some (zK w)), [], []) [llN 276, (277, ll5 (some (zY 0)) none none (some (zK w)), [], [(220, 18, zS 0 7)])]) = true := by decide +kernel
set_option maxRecDepth 1000000 in
theorem ll_k10 : (List.range 40).all (fun t => [0, 2].all (fun w => nChk0 m_X12_logLine hT plL sNo [(224, 4 * t, 4 * t + 3)] [] 3000 (277, ll5 (some (zK (4 * t))) none none (some (zK w)), [], [(224, 4 * t, zK w), (224, 4 * t + 1, zS 0 4), (220, 18, zS 0 7)]) [(296, llL, [zK 1], [(224, 4 * t, zK w), (224, 4 * t + 1, zS 0 4), (224, 4 * t + 2, zS 0 7)])])) = true := by decide +kernel
set_option maxRecDepth 1000000 in
theorem ll_k11 : (List.range 40).all (fun t => nChk0 m_X12_logLine hT plL sNo [(224, 4 * t, 4 * t + 3)] [297] 3000 (277, ll5 (some (zK (4 * t))) none none (some (zK 1)), [], [(224, 4 * t, zK 1), (224, 4 * t + 1, zS 0 4), (220, 18, zS 0 7)]) [(297, ll5 (some (zK (4 * t))) none none none, [], [(224, 4 * t, zK 1), (224, 4 * t + 1, zS 0 4), (224, 4 * t + 2, zS 0 7)])]) = true := by decide +kernel
set_option maxRecDepth 1000000 in
theorem ll_k12 : nChk m_X12_logLine hT plL gF (lgS mNx) mNx [314] 3000 (297, ll5 (some (zY 0)) none none none, [], []) [llN 313, (314, ll5 (some (zY 0)) none none none, [], [(220, 18, zS 0 4)])] = true := by decide +kernel
set_option maxRecDepth 1000000 in
theorem ll_k13 : (List.range 40).all (fun t => nChk0 m_X12_logLine hT plL sNo [(224, 4 * t, 4 * t + 3)] [] 3000 (314, ll5 (some (zK (4 * t))) none none none, [], [(224, 4 * t, zK 1), (224, 4 * t + 1, zS 0 4), (224, 4 * t + 2, zS 0 7), (220, 18, zS 0 4)]) [(327, llL, [zK 1], [(224, 4 * t, zK 1), (224, 4 * t + 1, zS 0 4), (224, 4 * t + 2, zS 0 7), (224, 4 * t + 3, zS 0 4)])]) = true := by decide +kernel
set_option maxRecDepth 1000000 in
theorem ll_r : (llNs.all (fun p => nRet m_X12_logLine (llN p) (some (zS 0 0))) && [68, 182, 296, 327].all (fun p => nRet m_X12_logLine (p, llL, [zK 1], []) (some (zS 1 1)))) = true := by decide +kernel
