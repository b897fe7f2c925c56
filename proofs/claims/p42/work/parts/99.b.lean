/-! ===== the log of the class: read() ===== -/
def yO (k : Nat) : sC := .inl (.inr (.inr (.inr (.inl (some k)))))
def yV (k : Nat) : vAV := .inr (.inr (.inr (.inl (some k))))
noncomputable def rdS (md : sMd) : sCal := sCalI vms (sCt hT md [cc_Reader_advance_14_e, cc_Town_find_16_e, cc_Town_find_209_e]) md 3000 6
theorem rdS_ok {md : sMd} {d : Nat} (hd : 27 ≤ d) (hp0 : List vOb) : sCalOK vms vdf d md hp0 (rdS md) :=
  sCalI_ok (d0 := 21) (fun m hm => sCt_ok (T := hT) (cs_cons (cc_Reader_advance_14_ok m (by omega)) (cs_cons (cc_Town_find_16_ok m (by omega)) (cs_cons (cc_Town_find_209_ok m (by omega)) cs_nil)))) 6 d (by omega)
def plR (tw : Nat) : List Nat := [1, 2, 3, tw, tw + 11, tw + 12, 61, 62, 63, 64, 65]
def mRd (n : Nat) : sMd := [(1, 4, 12), (61, 4, 4), (62, n, n), (63, n, n), (64, n, n), (65, n, n)]
def mRdA : sMd := [(1, 4, 12), (61, 4, 4), (62, 0, 39), (63, 0, 39), (64, 0, 39), (65, 0, 39)]
def rdL (tw n : Nat) : List (Option sC) := [some (yO 61), some (yO 1), some (yO tw), some (zK n)]
def rdN : List (Option sC) := [none, none, none, none]
def yA : sC := .inr [(2147483656, 2147483657), (2147483659, 2147483660)]
def rdY (n : Nat) : nN := (26, rdN, [zK 1], [(61, 4, zK n)])
def rdZ : nN := (37, rdN, [zK 0], [])
def rdB (tw n : Nat) : List nN := [rdY n, rdZ, (7, rdL tw (n + 1), [], [(61, 4, zK (n + 1)), (62, n, zK 10), (65, n, zS 0 4)]), (7, rdL tw (n + 1), [], [(61, 4, zK (n + 1)), (62, n, yA)])]
set_option maxRecDepth 1000000 in
theorem rd_0 : [4, 17].all (fun tw => nChk0 m_X4_read hT (plR tw) sNo [(61, 4, 4)] [7] 3000 (0, [some (yO 61), some (yO 1), some (yO tw), none], [], []) [(7, rdL tw 0, [], [(61, 4, zK 0)])]) = true := by decide +kernel
set_option maxRecDepth 1000000 in
theorem rd_k4_0 : (List.range 4).all (fun j => nChk0 m_X4_read hT (plR 4) (rdS (mRd (0 + j))) (mRd (0 + j)) [7] 3000 (7, rdL 4 (0 + j), [], [(61, 4, zK (0 + j))]) (rdB 4 (0 + j))) = true := by decide +kernel
set_option maxRecDepth 1000000 in
theorem rd_k4_1 : (List.range 4).all (fun j => nChk0 m_X4_read hT (plR 4) (rdS (mRd (4 + j))) (mRd (4 + j)) [7] 3000 (7, rdL 4 (4 + j), [], [(61, 4, zK (4 + j))]) (rdB 4 (4 + j))) = true := by decide +kernel
set_option maxRecDepth 1000000 in
theorem rd_k4_2 : (List.range 4).all (fun j => nChk0 m_X4_read hT (plR 4) (rdS (mRd (8 + j))) (mRd (8 + j)) [7] 3000 (7, rdL 4 (8 + j), [], [(61, 4, zK (8 + j))]) (rdB 4 (8 + j))) = true := by decide +kernel
set_option maxRecDepth 1000000 in
theorem rd_k4_3 : (List.range 4).all (fun j => nChk0 m_X4_read hT (plR 4) (rdS (mRd (12 + j))) (mRd (12 + j)) [7] 3000 (7, rdL 4 (12 + j), [], [(61, 4, zK (12 + j))]) (rdB 4 (12 + j))) = true := by decide +kernel
set_option maxRecDepth 1000000 in
theorem rd_k4_4 : (List.range 4).all (fun j => nChk0 m_X4_read hT (plR 4) (rdS (mRd (16 + j))) (mRd (16 + j)) [7] 3000 (7, rdL 4 (16 + j), [], [(61, 4, zK (16 + j))]) (rdB 4 (16 + j))) = true := by decide +kernel
set_option maxRecDepth 1000000 in
theorem rd_k4_5 : (List.range 4).all (fun j => nChk0 m_X4_read hT (plR 4) (rdS (mRd (20 + j))) (mRd (20 + j)) [7] 3000 (7, rdL 4 (20 + j), [], [(61, 4, zK (20 + j))]) (rdB 4 (20 + j))) = true := by decide +kernel
set_option maxRecDepth 1000000 in
theorem rd_k4_6 : (List.range 4).all (fun j => nChk0 m_X4_read hT (plR 4) (rdS (mRd (24 + j))) (mRd (24 + j)) [7] 3000 (7, rdL 4 (24 + j), [], [(61, 4, zK (24 + j))]) (rdB 4 (24 + j))) = true := by decide +kernel
set_option maxRecDepth 1000000 in
theorem rd_k4_7 : (List.range 4).all (fun j => nChk0 m_X4_read hT (plR 4) (rdS (mRd (28 + j))) (mRd (28 + j)) [7] 3000 (7, rdL 4 (28 + j), [], [(61, 4, zK (28 + j))]) (rdB 4 (28 + j))) = true := by decide +kernel
set_option maxRecDepth 1000000 in
theorem rd_k4_8 : (List.range 4).all (fun j => nChk0 m_X4_read hT (plR 4) (rdS (mRd (32 + j))) (mRd (32 + j)) [7] 3000 (7, rdL 4 (32 + j), [], [(61, 4, zK (32 + j))]) (rdB 4 (32 + j))) = true := by decide +kernel
set_option maxRecDepth 1000000 in
theorem rd_k4_9 : (List.range 4).all (fun j => nChk0 m_X4_read hT (plR 4) (rdS (mRd (36 + j))) (mRd (36 + j)) [7] 3000 (7, rdL 4 (36 + j), [], [(61, 4, zK (36 + j))]) (rdB 4 (36 + j))) = true := by decide +kernel
set_option maxRecDepth 1000000 in
theorem rd_k17_0 : (List.range 4).all (fun j => nChk0 m_X4_read hT (plR 17) (rdS (mRd (0 + j))) (mRd (0 + j)) [7] 3000 (7, rdL 17 (0 + j), [], [(61, 4, zK (0 + j))]) (rdB 17 (0 + j))) = true := by decide +kernel
set_option maxRecDepth 1000000 in
theorem rd_k17_1 : (List.range 4).all (fun j => nChk0 m_X4_read hT (plR 17) (rdS (mRd (4 + j))) (mRd (4 + j)) [7] 3000 (7, rdL 17 (4 + j), [], [(61, 4, zK (4 + j))]) (rdB 17 (4 + j))) = true := by decide +kernel
set_option maxRecDepth 1000000 in
theorem rd_k17_2 : (List.range 4).all (fun j => nChk0 m_X4_read hT (plR 17) (rdS (mRd (8 + j))) (mRd (8 + j)) [7] 3000 (7, rdL 17 (8 + j), [], [(61, 4, zK (8 + j))]) (rdB 17 (8 + j))) = true := by decide +kernel
set_option maxRecDepth 1000000 in
theorem rd_k17_3 : (List.range 4).all (fun j => nChk0 m_X4_read hT (plR 17) (rdS (mRd (12 + j))) (mRd (12 + j)) [7] 3000 (7, rdL 17 (12 + j), [], [(61, 4, zK (12 + j))]) (rdB 17 (12 + j))) = true := by decide +kernel
set_option maxRecDepth 1000000 in
theorem rd_k17_4 : (List.range 4).all (fun j => nChk0 m_X4_read hT (plR 17) (rdS (mRd (16 + j))) (mRd (16 + j)) [7] 3000 (7, rdL 17 (16 + j), [], [(61, 4, zK (16 + j))]) (rdB 17 (16 + j))) = true := by decide +kernel
set_option maxRecDepth 1000000 in
theorem rd_k17_5 : (List.range 4).all (fun j => nChk0 m_X4_read hT (plR 17) (rdS (mRd (20 + j))) (mRd (20 + j)) [7] 3000 (7, rdL 17 (20 + j), [], [(61, 4, zK (20 + j))]) (rdB 17 (20 + j))) = true := by decide +kernel
set_option maxRecDepth 1000000 in
theorem rd_k17_6 : (List.range 4).all (fun j => nChk0 m_X4_read hT (plR 17) (rdS (mRd (24 + j))) (mRd (24 + j)) [7] 3000 (7, rdL 17 (24 + j), [], [(61, 4, zK (24 + j))]) (rdB 17 (24 + j))) = true := by decide +kernel
set_option maxRecDepth 1000000 in
theorem rd_k17_7 : (List.range 4).all (fun j => nChk0 m_X4_read hT (plR 17) (rdS (mRd (28 + j))) (mRd (28 + j)) [7] 3000 (7, rdL 17 (28 + j), [], [(61, 4, zK (28 + j))]) (rdB 17 (28 + j))) = true := by decide +kernel
set_option maxRecDepth 1000000 in
theorem rd_k17_8 : (List.range 4).all (fun j => nChk0 m_X4_read hT (plR 17) (rdS (mRd (32 + j))) (mRd (32 + j)) [7] 3000 (7, rdL 17 (32 + j), [], [(61, 4, zK (32 + j))]) (rdB 17 (32 + j))) = true := by decide +kernel
set_option maxRecDepth 1000000 in
theorem rd_k17_9 : (List.range 4).all (fun j => nChk0 m_X4_read hT (plR 17) (rdS (mRd (36 + j))) (mRd (36 + j)) [7] 3000 (7, rdL 17 (36 + j), [], [(61, 4, zK (36 + j))]) (rdB 17 (36 + j))) = true := by decide +kernel
set_option maxRecDepth 1000000 in
theorem rd_40 : [4, 17].all (fun tw => nChk0 m_X4_read hT (plR tw) (rdS [(1, 4, 12)]) [(1, 4, 12)] [7] 3000 (7, rdL tw 40, [], [(61, 4, zK 40)]) [rdY 40, rdZ]) = true := by decide +kernel
set_option maxRecDepth 1000000 in
theorem rd_r : (nRet m_X4_read (26, rdN, [zK 1], []) (some (zS 1 1)) && nRet m_X4_read rdZ (some (zS 0 0))) = true := by decide +kernel
