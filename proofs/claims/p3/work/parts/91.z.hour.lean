/-! ===== hour() tells its cell ===== -/
noncomputable def xTm (T : sHp) (pl : List Nat) (pc k i : Nat) (S : sSet) (ls : vLs) : sCut := match sTp T pl with
  | some h => (match sGo h k with
    | some o => ((pc, ls, [], sPo h k (o.1, sWr o.2.1 i (.inl (.inr (.inl (0, 0)))), o.2.2), (1, [(0, S)], [])), [(1, k, i)], [])
    | none => ((pc, ls, [], [], (0, [], [])), [], []))
  | none => ((pc, ls, [], [], (0, [], [])), [], [])
def ch0_M_hour_1_m : sMd := []
set_option maxRecDepth 1000000 in
theorem ch0_M_hour_1_xk : xChk vms hTr0 (sCalI vms (sCt hTh0 ch0_M_hour_1_m [ch0_M_learns_0_e]) ch0_M_hour_1_m 3000 6) ch0_M_hour_1_m 3000 ch0_M_hour_1_x ([140], [], []) ch0_M_hour_1_c (xTm hTh0 [220, 222] 140 222 64 [(2147483648, 2147484247)] [some (.inr (.inr (.inr (.inl (some 220))))), none]) = true := by decide +kernel
theorem ch0_M_hour_1_okx (d : Nat) (hd : 14 ≤ d) : cOKx vms vdf d hTr0 ch0_M_hour_1_x := by
  obtain ⟨d', rfl⟩ : ∃ d', d = d' + 1 := ⟨d - 1, by omega⟩
  exact cOKx_of rfl (fun hp0 => sCalI_ok (d0 := 7) (fun m hm => sCt_ok (T := hTh0) (cs_cons (ch0_M_learns_0_ok m (by omega)) (cs_nil))) 6 d' (by omega)) ch0_M_hour_1_xk
def ch1_M_hour_3_m : sMd := [(222, 65, 95), (222, 104, 111)]
set_option maxRecDepth 1000000 in
theorem ch1_M_hour_3_xk : xChk vms hTr1 (sCalI vms (sCt hTh1 ch1_M_hour_3_m [ch1_M_learns_2_e]) ch1_M_hour_3_m 3000 6) ch1_M_hour_3_m 3000 ch1_M_hour_3_x ([140], [], []) ch1_M_hour_3_c (xTm hTh1 [220, 222] 140 222 64 [(2147483648, 2147484247)] [some (.inr (.inr (.inr (.inl (some 220))))), none]) = true := by decide +kernel
theorem ch1_M_hour_3_okx (d : Nat) (hd : 14 ≤ d) : cOKx vms vdf d hTr1 ch1_M_hour_3_x := by
  obtain ⟨d', rfl⟩ : ∃ d', d = d' + 1 := ⟨d - 1, by omega⟩
  exact cOKx_of rfl (fun hp0 => sCalI_ok (d0 := 7) (fun m hm => sCt_ok (T := hTh1) (cs_cons (ch1_M_learns_2_ok m (by omega)) (cs_nil))) 6 d' (by omega)) ch1_M_hour_3_xk
def ch2_M_hour_5_m : sMd := []
set_option maxRecDepth 1000000 in
theorem ch2_M_hour_5_xk : xChk vms hTr2 (sCalI vms (sCt hTh2 ch2_M_hour_5_m [ch2_M_learns_4_e]) ch2_M_hour_5_m 3000 6) ch2_M_hour_5_m 3000 ch2_M_hour_5_x ([140], [], []) ch2_M_hour_5_c (xTm hTh2 [220, 222] 140 222 64 [(2147483648, 2147484247)] [some (.inr (.inr (.inr (.inl (some 220))))), none]) = true := by decide +kernel
theorem ch2_M_hour_5_okx (d : Nat) (hd : 14 ≤ d) : cOKx vms vdf d hTr2 ch2_M_hour_5_x := by
  obtain ⟨d', rfl⟩ : ∃ d', d = d' + 1 := ⟨d - 1, by omega⟩
  exact cOKx_of rfl (fun hp0 => sCalI_ok (d0 := 7) (fun m hm => sCt_ok (T := hTh2) (cs_cons (ch2_M_learns_4_ok m (by omega)) (cs_nil))) 6 d' (by omega)) ch2_M_hour_5_xk
def ch3_M_hour_7_m : sMd := [(222, 65, 95), (222, 104, 141)]
set_option maxRecDepth 1000000 in
theorem ch3_M_hour_7_xk : xChk vms hTr3 (sCalI vms (sCt hTh3 ch3_M_hour_7_m [ch3_M_learns_6_e]) ch3_M_hour_7_m 3000 6) ch3_M_hour_7_m 3000 ch3_M_hour_7_x ([140], [], []) ch3_M_hour_7_c (xTm hTh3 [220, 222] 140 222 64 [(2147483648, 2147484247)] [some (.inr (.inr (.inr (.inl (some 220))))), none]) = true := by decide +kernel
theorem ch3_M_hour_7_okx (d : Nat) (hd : 14 ≤ d) : cOKx vms vdf d hTr3 ch3_M_hour_7_x := by
  obtain ⟨d', rfl⟩ : ∃ d', d = d' + 1 := ⟨d - 1, by omega⟩
  exact cOKx_of rfl (fun hp0 => sCalI_ok (d0 := 7) (fun m hm => sCt_ok (T := hTh3) (cs_cons (ch3_M_learns_6_ok m (by omega)) (cs_nil))) 6 d' (by omega)) ch3_M_hour_7_xk
