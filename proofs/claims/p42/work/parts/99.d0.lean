/-! ===== the log of the class: goodLines() ===== -/
def plQ (tw st : Nat) : List Nat := [tw, tw + 3, tw + 4, tw + 5, tw + 6, tw + 7, tw + 8, tw + 10, st, st + 1, st + 2, st + 3, st + 4, st + 5, st + 6, st + 7, st + 8, 61, 62, 63, 64, 65]
def mQ (st : Nat) : sMd := [(st, 0, 0), (st + 1, 0, 4), (st + 2, 0, 4), (st + 3, 0, 4), (st + 4, 0, 29), (st + 5, 0, 7), (st + 6, 0, 7), (st + 7, 0, 7), (st + 8, 0, 7), (61, 5, 5)]
def glL (tw st i : Nat) : List (Option sC) := [some (yO 61), some (yO tw), some (yO st), some (zK i)]
def glC (i w : Nat) : List (Nat × Nat × sC) := bif Nat.beq w 0 then [(62, i, zK 10), (65, i, zS 0 4)] else [(62, i, yA)]
def glB (tw st i : Nat) : List nN := [(40, rdN, [zS 0 40], []), (7, glL tw st (i + 1), [], [])]
def glE : nN := (51, rdN, [zS 0 40], [])
noncomputable def glS4_31 (md : sMd) : sCal := sCalI vms (sCt hT md [cc_State_painsAt_26_e, cc_State_heaveOf_193_e, cc_State_heaveOf_40_e, cc_State_passHours_1057_e]) md 3000 6
theorem glS4_31_ok {md : sMd} {d : Nat} (hd : 27 ≤ d) (hp0 : List vOb) : sCalOK vms vdf d md hp0 (glS4_31 md) :=
  sCalI_ok (d0 := 21) (fun m hm => sCt_ok (T := hT) (cs_cons (cc_State_painsAt_26_ok m (by omega)) (cs_cons (cc_State_heaveOf_193_ok m (by omega)) (cs_cons (cc_State_heaveOf_40_ok m (by omega)) (cs_cons (cc_State_passHours_1057_ok m (by omega)) (cs_nil)))))) 6 d (by omega)
noncomputable def glS4_40 (md : sMd) : sCal := sCalI vms (sCt hT md [cc_State_painsAt_199_e, cc_State_heaveOf_200_e, cc_State_heaveOf_203_e, cc_State_passHours_1058_e]) md 3000 6
theorem glS4_40_ok {md : sMd} {d : Nat} (hd : 27 ≤ d) (hp0 : List vOb) : sCalOK vms vdf d md hp0 (glS4_40 md) :=
  sCalI_ok (d0 := 21) (fun m hm => sCt_ok (T := hT) (cs_cons (cc_State_painsAt_199_ok m (by omega)) (cs_cons (cc_State_heaveOf_200_ok m (by omega)) (cs_cons (cc_State_heaveOf_203_ok m (by omega)) (cs_cons (cc_State_passHours_1058_ok m (by omega)) (cs_nil)))))) 6 d (by omega)
noncomputable def glS17_31 (md : sMd) : sCal := sCalI vms (sCt hT md [cc_State_painsAt_253_e, cc_State_heaveOf_393_e, cc_State_heaveOf_265_e, cc_State_passHours_1064_e]) md 3000 6
theorem glS17_31_ok {md : sMd} {d : Nat} (hd : 27 ≤ d) (hp0 : List vOb) : sCalOK vms vdf d md hp0 (glS17_31 md) :=
  sCalI_ok (d0 := 21) (fun m hm => sCt_ok (T := hT) (cs_cons (cc_State_painsAt_253_ok m (by omega)) (cs_cons (cc_State_heaveOf_393_ok m (by omega)) (cs_cons (cc_State_heaveOf_265_ok m (by omega)) (cs_cons (cc_State_passHours_1064_ok m (by omega)) (cs_nil)))))) 6 d (by omega)
noncomputable def glS17_40 (md : sMd) : sCal := sCalI vms (sCt hT md [cc_State_painsAt_399_e, cc_State_heaveOf_400_e, cc_State_heaveOf_403_e, cc_State_passHours_1065_e]) md 3000 6
theorem glS17_40_ok {md : sMd} {d : Nat} (hd : 27 ≤ d) (hp0 : List vOb) : sCalOK vms vdf d md hp0 (glS17_40 md) :=
  sCalI_ok (d0 := 21) (fun m hm => sCt_ok (T := hT) (cs_cons (cc_State_painsAt_399_ok m (by omega)) (cs_cons (cc_State_heaveOf_400_ok m (by omega)) (cs_cons (cc_State_heaveOf_403_ok m (by omega)) (cs_cons (cc_State_passHours_1065_ok m (by omega)) (cs_nil)))))) 6 d (by omega)
set_option maxRecDepth 1000000 in
theorem gl_0 : [(4, 31), (4, 40), (17, 31), (17, 40)].all (fun p => nChk0 m_X4_goodLines hT (plQ p.1 p.2) sNo [(61, 5, 5)] [7] 3000 (0, [some (yO 61), some (yO p.1), some (yO p.2), none], [], []) [(7, glL p.1 p.2 0, [], [])]) = true := by decide +kernel
set_option maxRecDepth 1000000 in
theorem gl_1 : [(4, 31), (4, 40), (17, 31), (17, 40)].all (fun p => (List.range 41).all (fun n => (List.range n).all (fun i => nChk0 m_X4_goodLines hT [61] sNo [] [21, 47] 3000 (7, glL p.1 p.2 i, [], [(61, 4, zK n)]) [(21, glL p.1 p.2 i, [], [])]))) = true := by decide +kernel
set_option maxRecDepth 1000000 in
theorem gl_2 : [(4, 31), (4, 40), (17, 31), (17, 40)].all (fun p => (List.range 41).all (fun n => nChk0 m_X4_goodLines hT [61] sNo [] [21] 3000 (7, glL p.1 p.2 n, [], [(61, 4, zK n)]) [glE])) = true := by decide +kernel
set_option maxRecDepth 1000000 in
theorem gl_r : (nRet m_X4_goodLines (40, rdN, [zS 0 40], []) (some (zS 0 40)) && nRet m_X4_goodLines glE (some (zS 0 40))) = true := by decide +kernel
