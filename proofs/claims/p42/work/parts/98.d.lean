/-! ===== the reference's log: its second half, in the four variants ===== -/
def plG : List Nat := [220, 221, 222, 224, 225, 226, 227, 228, 242]
def plH : List Nat := [220, 222, 224, 227, 228, 242]
def lg5 (b c e : Option sC) : List (Option sC) := [some zT, some (zS 0 1), b, c, e]
def lgN : List (Option sC) := [none, none, none, none, none]
def zM1 : sC := zK 4294967295
def mP1 : sMd := [(228, 0, 77), (242, 0, 3)]
def mP2 : sMd := [(222, 64, 141), (242, 0, 3)]
def mP3 : sMd := [(222, 64, 141), (242, 0, 3), (220, 49, 49)]
/-- the cells of a line by its kind -/
def lgR (i w : Nat) : List (Nat × Nat × sC) := bif Nat.beq w 4 then [(224, 4 * i, zK 4), (224, 4 * i + 1, zS 1 60)] else bif Nat.beq w 3 then [(224, 4 * i, zK 3), (224, 4 * i + 2, zS 0 7)] else bif Nat.beq w 1 then [(224, 4 * i, zK 1), (224, 4 * i + 1, zS 0 4), (224, 4 * i + 2, zS 0 7), (224, 4 * i + 3, zS 0 4)] else [(224, 4 * i, zK w), (224, 4 * i + 1, zS 0 4), (224, 4 * i + 2, zS 0 7)]
noncomputable def lvS0 (md : sMd) : sCal := sCalI vms (sCt hTr0 md [cr0_M_freeSet_922_e, cr0_M_tries_969_e, cr0_M_back_970_e, cr0_M_does_1034_e, cr0_M_does_1035_e, cr0_M_does_1036_e, cr0_M_does_1037_e, cr0_M_does_1038_e]) md 3000 6
theorem lvS0_ok {md : sMd} {d : Nat} (hd : 34 ≤ d) (hp0 : List vOb) : sCalOK vms vdf d md hp0 (lvS0 md) :=
  sCalI_ok (d0 := 28) (fun m hm => sCt_ok (T := hTr0) (cs_cons (cr0_M_freeSet_922_ok m (by omega)) (cs_cons (cr0_M_tries_969_ok m (by omega)) (cs_cons (cr0_M_back_970_ok m (by omega)) (cs_cons (cr0_M_does_1034_ok m (by omega)) (cs_cons (cr0_M_does_1035_ok m (by omega)) (cs_cons (cr0_M_does_1036_ok m (by omega)) (cs_cons (cr0_M_does_1037_ok m (by omega)) (cs_cons (cr0_M_does_1038_ok m (by omega)) (cs_nil)))))))))) 6 d (by omega)
set_option maxRecDepth 1000000 in
theorem lg_a0 : nChk0 m_X12_log hTr0 plH (lvS0 mP1) mP1 [111] 3000 (83, lg5 none none none, [], []) [(111, lg5 (some zM1) (some (zK 0)) none, [], [])] = true := by decide +kernel
set_option maxRecDepth 1000000 in
theorem lg_b0_0 : (List.range 8).all (fun j => [0, 1, 2, 3, 4].all (fun w => nChk0 m_X12_log hTr0 plH (lvS0 mP2) mP2 [111] 3000 (123, lg5 (some zM1) (some (zK (0 + j))) none, [], lgR (0 + j) w) [(111, lg5 (some zM1) (some (zK (0 + j + 1))) none, [], []), (111, lg5 (some (zK (0 + j))) (some (zK (0 + j + 1))) none, [], [])])) = true := by decide +kernel
set_option maxRecDepth 1000000 in
theorem lg_b0_1 : (List.range 8).all (fun j => [0, 1, 2, 3, 4].all (fun w => nChk0 m_X12_log hTr0 plH (lvS0 mP2) mP2 [111] 3000 (123, lg5 (some zM1) (some (zK (8 + j))) none, [], lgR (8 + j) w) [(111, lg5 (some zM1) (some (zK (8 + j + 1))) none, [], []), (111, lg5 (some (zK (8 + j))) (some (zK (8 + j + 1))) none, [], [])])) = true := by decide +kernel
set_option maxRecDepth 1000000 in
theorem lg_b0_2 : (List.range 8).all (fun j => [0, 1, 2, 3, 4].all (fun w => nChk0 m_X12_log hTr0 plH (lvS0 mP2) mP2 [111] 3000 (123, lg5 (some zM1) (some (zK (16 + j))) none, [], lgR (16 + j) w) [(111, lg5 (some zM1) (some (zK (16 + j + 1))) none, [], []), (111, lg5 (some (zK (16 + j))) (some (zK (16 + j + 1))) none, [], [])])) = true := by decide +kernel
set_option maxRecDepth 1000000 in
theorem lg_b0_3 : (List.range 8).all (fun j => [0, 1, 2, 3, 4].all (fun w => nChk0 m_X12_log hTr0 plH (lvS0 mP2) mP2 [111] 3000 (123, lg5 (some zM1) (some (zK (24 + j))) none, [], lgR (24 + j) w) [(111, lg5 (some zM1) (some (zK (24 + j + 1))) none, [], []), (111, lg5 (some (zK (24 + j))) (some (zK (24 + j + 1))) none, [], [])])) = true := by decide +kernel
set_option maxRecDepth 1000000 in
theorem lg_b0_4 : (List.range 8).all (fun j => [0, 1, 2, 3, 4].all (fun w => nChk0 m_X12_log hTr0 plH (lvS0 mP2) mP2 [111] 3000 (123, lg5 (some zM1) (some (zK (32 + j))) none, [], lgR (32 + j) w) [(111, lg5 (some zM1) (some (zK (32 + j + 1))) none, [], []), (111, lg5 (some (zK (32 + j))) (some (zK (32 + j + 1))) none, [], [])])) = true := by decide +kernel
set_option maxRecDepth 1000000 in
theorem lg_c0 : nChk0 m_X12_log hTr0 plH (lvS0 mP3) mP3 [245] 3000 (202, lg5 (some zF) none none, [], []) [(245, [some zT, some (zK 1), some zF, none, none], [zT], []), (293, lgN, [zF], [])] = true := by decide +kernel
noncomputable def lvS1 (md : sMd) : sCal := sCalI vms (sCt hTr1 md [cr1_M_freeSet_843_e, cr1_M_tries_898_e, cr1_M_back_899_e, cr1_M_does_1041_e, cr1_M_does_1042_e, cr1_M_does_1043_e, cr1_M_does_1044_e, cr1_M_does_1045_e]) md 3000 6
theorem lvS1_ok {md : sMd} {d : Nat} (hd : 34 ≤ d) (hp0 : List vOb) : sCalOK vms vdf d md hp0 (lvS1 md) :=
  sCalI_ok (d0 := 28) (fun m hm => sCt_ok (T := hTr1) (cs_cons (cr1_M_freeSet_843_ok m (by omega)) (cs_cons (cr1_M_tries_898_ok m (by omega)) (cs_cons (cr1_M_back_899_ok m (by omega)) (cs_cons (cr1_M_does_1041_ok m (by omega)) (cs_cons (cr1_M_does_1042_ok m (by omega)) (cs_cons (cr1_M_does_1043_ok m (by omega)) (cs_cons (cr1_M_does_1044_ok m (by omega)) (cs_cons (cr1_M_does_1045_ok m (by omega)) (cs_nil)))))))))) 6 d (by omega)
set_option maxRecDepth 1000000 in
theorem lg_a1 : nChk0 m_X12_log hTr1 plH (lvS1 mP1) mP1 [111] 3000 (83, lg5 none none none, [], []) [(111, lg5 (some zM1) (some (zK 0)) none, [], [])] = true := by decide +kernel
set_option maxRecDepth 1000000 in
theorem lg_b1_0 : (List.range 8).all (fun j => [0, 1, 2, 3, 4].all (fun w => nChk0 m_X12_log hTr1 plH (lvS1 mP2) mP2 [111] 3000 (123, lg5 (some zM1) (some (zK (0 + j))) none, [], lgR (0 + j) w) [(111, lg5 (some zM1) (some (zK (0 + j + 1))) none, [], []), (111, lg5 (some (zK (0 + j))) (some (zK (0 + j + 1))) none, [], [])])) = true := by decide +kernel
set_option maxRecDepth 1000000 in
theorem lg_b1_1 : (List.range 8).all (fun j => [0, 1, 2, 3, 4].all (fun w => nChk0 m_X12_log hTr1 plH (lvS1 mP2) mP2 [111] 3000 (123, lg5 (some zM1) (some (zK (8 + j))) none, [], lgR (8 + j) w) [(111, lg5 (some zM1) (some (zK (8 + j + 1))) none, [], []), (111, lg5 (some (zK (8 + j))) (some (zK (8 + j + 1))) none, [], [])])) = true := by decide +kernel
set_option maxRecDepth 1000000 in
theorem lg_b1_2 : (List.range 8).all (fun j => [0, 1, 2, 3, 4].all (fun w => nChk0 m_X12_log hTr1 plH (lvS1 mP2) mP2 [111] 3000 (123, lg5 (some zM1) (some (zK (16 + j))) none, [], lgR (16 + j) w) [(111, lg5 (some zM1) (some (zK (16 + j + 1))) none, [], []), (111, lg5 (some (zK (16 + j))) (some (zK (16 + j + 1))) none, [], [])])) = true := by decide +kernel
set_option maxRecDepth 1000000 in
theorem lg_b1_3 : (List.range 8).all (fun j => [0, 1, 2, 3, 4].all (fun w => nChk0 m_X12_log hTr1 plH (lvS1 mP2) mP2 [111] 3000 (123, lg5 (some zM1) (some (zK (24 + j))) none, [], lgR (24 + j) w) [(111, lg5 (some zM1) (some (zK (24 + j + 1))) none, [], []), (111, lg5 (some (zK (24 + j))) (some (zK (24 + j + 1))) none, [], [])])) = true := by decide +kernel
set_option maxRecDepth 1000000 in
theorem lg_b1_4 : (List.range 8).all (fun j => [0, 1, 2, 3, 4].all (fun w => nChk0 m_X12_log hTr1 plH (lvS1 mP2) mP2 [111] 3000 (123, lg5 (some zM1) (some (zK (32 + j))) none, [], lgR (32 + j) w) [(111, lg5 (some zM1) (some (zK (32 + j + 1))) none, [], []), (111, lg5 (some (zK (32 + j))) (some (zK (32 + j + 1))) none, [], [])])) = true := by decide +kernel
set_option maxRecDepth 1000000 in
theorem lg_c1 : nChk0 m_X12_log hTr1 plH (lvS1 mP3) mP3 [245] 3000 (202, lg5 (some zF) none none, [], []) [(245, [some zT, some (zK 1), some zF, none, none], [zT], []), (293, lgN, [zF], [])] = true := by decide +kernel
noncomputable def lvS2 (md : sMd) : sCal := sCalI vms (sCt hTr2 md [cr2_M_freeSet_754_e, cr2_M_tries_819_e, cr2_M_back_820_e, cr2_M_does_1047_e, cr2_M_does_1048_e, cr2_M_does_1049_e, cr2_M_does_1050_e, cr2_M_does_1051_e]) md 3000 6
theorem lvS2_ok {md : sMd} {d : Nat} (hd : 34 ≤ d) (hp0 : List vOb) : sCalOK vms vdf d md hp0 (lvS2 md) :=
  sCalI_ok (d0 := 28) (fun m hm => sCt_ok (T := hTr2) (cs_cons (cr2_M_freeSet_754_ok m (by omega)) (cs_cons (cr2_M_tries_819_ok m (by omega)) (cs_cons (cr2_M_back_820_ok m (by omega)) (cs_cons (cr2_M_does_1047_ok m (by omega)) (cs_cons (cr2_M_does_1048_ok m (by omega)) (cs_cons (cr2_M_does_1049_ok m (by omega)) (cs_cons (cr2_M_does_1050_ok m (by omega)) (cs_cons (cr2_M_does_1051_ok m (by omega)) (cs_nil)))))))))) 6 d (by omega)
set_option maxRecDepth 1000000 in
theorem lg_a2 : nChk0 m_X12_log hTr2 plH (lvS2 mP1) mP1 [111] 3000 (83, lg5 none none none, [], []) [(111, lg5 (some zM1) (some (zK 0)) none, [], [])] = true := by decide +kernel
set_option maxRecDepth 1000000 in
theorem lg_b2_0 : (List.range 8).all (fun j => [0, 1, 2, 3, 4].all (fun w => nChk0 m_X12_log hTr2 plH (lvS2 mP2) mP2 [111] 3000 (123, lg5 (some zM1) (some (zK (0 + j))) none, [], lgR (0 + j) w) [(111, lg5 (some zM1) (some (zK (0 + j + 1))) none, [], []), (111, lg5 (some (zK (0 + j))) (some (zK (0 + j + 1))) none, [], [])])) = true := by decide +kernel
set_option maxRecDepth 1000000 in
theorem lg_b2_1 : (List.range 8).all (fun j => [0, 1, 2, 3, 4].all (fun w => nChk0 m_X12_log hTr2 plH (lvS2 mP2) mP2 [111] 3000 (123, lg5 (some zM1) (some (zK (8 + j))) none, [], lgR (8 + j) w) [(111, lg5 (some zM1) (some (zK (8 + j + 1))) none, [], []), (111, lg5 (some (zK (8 + j))) (some (zK (8 + j + 1))) none, [], [])])) = true := by decide +kernel
set_option maxRecDepth 1000000 in
theorem lg_b2_2 : (List.range 8).all (fun j => [0, 1, 2, 3, 4].all (fun w => nChk0 m_X12_log hTr2 plH (lvS2 mP2) mP2 [111] 3000 (123, lg5 (some zM1) (some (zK (16 + j))) none, [], lgR (16 + j) w) [(111, lg5 (some zM1) (some (zK (16 + j + 1))) none, [], []), (111, lg5 (some (zK (16 + j))) (some (zK (16 + j + 1))) none, [], [])])) = true := by decide +kernel
set_option maxRecDepth 1000000 in
theorem lg_b2_3 : (List.range 8).all (fun j => [0, 1, 2, 3, 4].all (fun w => nChk0 m_X12_log hTr2 plH (lvS2 mP2) mP2 [111] 3000 (123, lg5 (some zM1) (some (zK (24 + j))) none, [], lgR (24 + j) w) [(111, lg5 (some zM1) (some (zK (24 + j + 1))) none, [], []), (111, lg5 (some (zK (24 + j))) (some (zK (24 + j + 1))) none, [], [])])) = true := by decide +kernel
set_option maxRecDepth 1000000 in
theorem lg_b2_4 : (List.range 8).all (fun j => [0, 1, 2, 3, 4].all (fun w => nChk0 m_X12_log hTr2 plH (lvS2 mP2) mP2 [111] 3000 (123, lg5 (some zM1) (some (zK (32 + j))) none, [], lgR (32 + j) w) [(111, lg5 (some zM1) (some (zK (32 + j + 1))) none, [], []), (111, lg5 (some (zK (32 + j))) (some (zK (32 + j + 1))) none, [], [])])) = true := by decide +kernel
set_option maxRecDepth 1000000 in
theorem lg_c2 : nChk0 m_X12_log hTr2 plH (lvS2 mP3) mP3 [245] 3000 (202, lg5 (some zF) none none, [], []) [(245, [some zT, some (zK 1), some zF, none, none], [zT], []), (293, lgN, [zF], [])] = true := by decide +kernel
noncomputable def lvS3 (md : sMd) : sCal := sCalI vms (sCt hTr3 md [cr3_M_freeSet_590_e, cr3_M_tries_680_e, cr3_M_back_681_e, cr3_M_does_1052_e, cr3_M_does_1053_e, cr3_M_does_1054_e, cr3_M_does_1055_e, cr3_M_does_1056_e]) md 3000 6
theorem lvS3_ok {md : sMd} {d : Nat} (hd : 34 ≤ d) (hp0 : List vOb) : sCalOK vms vdf d md hp0 (lvS3 md) :=
  sCalI_ok (d0 := 28) (fun m hm => sCt_ok (T := hTr3) (cs_cons (cr3_M_freeSet_590_ok m (by omega)) (cs_cons (cr3_M_tries_680_ok m (by omega)) (cs_cons (cr3_M_back_681_ok m (by omega)) (cs_cons (cr3_M_does_1052_ok m (by omega)) (cs_cons (cr3_M_does_1053_ok m (by omega)) (cs_cons (cr3_M_does_1054_ok m (by omega)) (cs_cons (cr3_M_does_1055_ok m (by omega)) (cs_cons (cr3_M_does_1056_ok m (by omega)) (cs_nil)))))))))) 6 d (by omega)
set_option maxRecDepth 1000000 in
theorem lg_a3 : nChk0 m_X12_log hTr3 plH (lvS3 mP1) mP1 [111] 3000 (83, lg5 none none none, [], []) [(111, lg5 (some zM1) (some (zK 0)) none, [], [])] = true := by decide +kernel
set_option maxRecDepth 1000000 in
theorem lg_b3_0 : (List.range 8).all (fun j => [0, 1, 2, 3, 4].all (fun w => nChk0 m_X12_log hTr3 plH (lvS3 mP2) mP2 [111] 3000 (123, lg5 (some zM1) (some (zK (0 + j))) none, [], lgR (0 + j) w) [(111, lg5 (some zM1) (some (zK (0 + j + 1))) none, [], []), (111, lg5 (some (zK (0 + j))) (some (zK (0 + j + 1))) none, [], [])])) = true := by decide +kernel
set_option maxRecDepth 1000000 in
theorem lg_b3_1 : (List.range 8).all (fun j => [0, 1, 2, 3, 4].all (fun w => nChk0 m_X12_log hTr3 plH (lvS3 mP2) mP2 [111] 3000 (123, lg5 (some zM1) (some (zK (8 + j))) none, [], lgR (8 + j) w) [(111, lg5 (some zM1) (some (zK (8 + j + 1))) none, [], []), (111, lg5 (some (zK (8 + j))) (some (zK (8 + j + 1))) none, [], [])])) = true := by decide +kernel
set_option maxRecDepth 1000000 in
theorem lg_b3_2 : (List.range 8).all (fun j => [0, 1, 2, 3, 4].all (fun w => nChk0 m_X12_log hTr3 plH (lvS3 mP2) mP2 [111] 3000 (123, lg5 (some zM1) (some (zK (16 + j))) none, [], lgR (16 + j) w) [(111, lg5 (some zM1) (some (zK (16 + j + 1))) none, [], []), (111, lg5 (some (zK (16 + j))) (some (zK (16 + j + 1))) none, [], [])])) = true := by decide +kernel
set_option maxRecDepth 1000000 in
theorem lg_b3_3 : (List.range 8).all (fun j => [0, 1, 2, 3, 4].all (fun w => nChk0 m_X12_log hTr3 plH (lvS3 mP2) mP2 [111] 3000 (123, lg5 (some zM1) (some (zK (24 + j))) none, [], lgR (24 + j) w) [(111, lg5 (some zM1) (some (zK (24 + j + 1))) none, [], []), (111, lg5 (some (zK (24 + j))) (some (zK (24 + j + 1))) none, [], [])])) = true := by decide +kernel
set_option maxRecDepth 1000000 in
theorem lg_b3_4 : (List.range 8).all (fun j => [0, 1, 2, 3, 4].all (fun w => nChk0 m_X12_log hTr3 plH (lvS3 mP2) mP2 [111] 3000 (123, lg5 (some zM1) (some (zK (32 + j))) none, [], lgR (32 + j) w) [(111, lg5 (some zM1) (some (zK (32 + j + 1))) none, [], []), (111, lg5 (some (zK (32 + j))) (some (zK (32 + j + 1))) none, [], [])])) = true := by decide +kernel
set_option maxRecDepth 1000000 in
theorem lg_c3 : nChk0 m_X12_log hTr3 plH (lvS3 mP3) mP3 [245] 3000 (202, lg5 (some zF) none none, [], []) [(245, [some zT, some (zK 1), some zF, none, none], [zT], []), (293, lgN, [zF], [])] = true := by decide +kernel
set_option maxRecDepth 1000000 in
theorem lg_d : (List.range 8).all (fun u => nChk0 m_X12_log hT [220, 227, 228] sNo [(227, 0, 623)] [] 3000 (248, [some zT, some (zK 1), some zF, none, none], [], [(220, 25, zK (u + 1))]) [(293, lgN, [zF], [])]) = true := by decide +kernel
set_option maxRecDepth 1000000 in
theorem lg_e : (List.range 41).all (fun t => (List.range t).all (fun i => nChk0 m_X12_log hT [220] sNo [] [123, 202] 3000 (111, lg5 (some zM1) (some (zK i)) none, [], [(220, 47, zK t)]) [(123, lg5 (some zM1) (some (zK i)) none, [], [])])) = true := by decide +kernel
set_option maxRecDepth 1000000 in
theorem lg_f : (List.range 41).all (fun t => nChk0 m_X12_log hT [220] sNo [] [123, 202] 3000 (111, lg5 (some zM1) (some (zK t)) none, [], [(220, 47, zK t)]) [(202, lg5 (some zF) none none, [], [])]) = true := by decide +kernel
set_option maxRecDepth 1000000 in
theorem lg_g : nChk0 m_X12_log hT [220] sNo [] [123, 202] 3000 (111, lg5 (some (zS 0 39)) (some (zS 0 40)) none, [], []) [(202, lg5 (some zF) none none, [], [])] = true := by decide +kernel
def mG0 : sMd := [(220, 0, 0), (220, 2, 5), (220, 11, 18), (220, 47, 47)]
set_option maxRecDepth 1000000 in
theorem lg_h : nChk0 m_X12_log hT plL (lgS mG0) mG0 [39] 3000 (0, [some zT, some zF, none, none, none], [], []) [(17, lgN, [zF], []), (39, lg5 none none none, [], [(220, 47, zK 0)])] = true := by decide +kernel
set_option maxRecDepth 1000000 in
theorem lg_i : nChk0 m_X12_log hT plL sNo [] [47, 83] 3000 (39, lg5 none none none, [], []) [(47, lg5 none none none, [zT], []), (83, lg5 none none none, [], [])] = true := by decide +kernel
set_option maxRecDepth 1000000 in
theorem lg_j : nChk0 m_X12_log hT plL sNo [] [39] 3000 (50, lg5 none none none, [zK 0], []) [(69, lgN, [zF], [])] = true := by decide +kernel
def mG1 : sMd := [(220, 4, 4), (220, 11, 18), (220, 47, 47)]
set_option maxRecDepth 1000000 in
theorem lg_k : (List.range 40).all (fun t => nChk0 m_X12_log hT plL (lgS mG1) mG1 [39] 3000 (50, lg5 none none none, [zK 1], [(220, 47, zK t)]) [(69, lgN, [zF], []), (39, lg5 none none none, [], [(220, 47, zK (t + 1))])]) = true := by decide +kernel
set_option maxRecDepth 1000000 in
theorem lg_r : [17, 69, 293].all (fun p => nRet m_X12_log (p, lgN, [zF], []) (some zF)) = true := by decide +kernel
set_option maxRecDepth 1000000 in
theorem lg_t : (zCb m_X12_log 47 249 0 && zCb m_X12_log 245 127 0) = true := by decide +kernel
