/-! ===== calls that empty the tape ===== -/
def tZx (c : Nat) : sHp := tOv (hTcN c) [(0, 1, zS 0 0)]
def tZm (v : Nat) : sHp := tOv (hTrN v) [(220, 2, zS 0 0)]
theorem tZx_row : ∀ c, c < 4 → (match sGo (tZx c) 0 with | some o => sRd o.2.1 1 | none => none) = some (zS 0 0) := four (P := fun c => (match sGo (tZx c) 0 with | some o => sRd o.2.1 1 | none => none) = some (zS 0 0)) rfl rfl rfl rfl
theorem tZm_row : ∀ v, v < 4 → (match sGo (tZm v) 220 with | some o => sRd o.2.1 2 | none => none) = some (zS 0 0) := four (P := fun v => (match sGo (tZm v) 220 with | some o => sRd o.2.1 2 | none => none) = some (zS 0 0)) rfl rfl rfl rfl
def zXo (j c : Nat) : Prop := ∀ hp : List vOb, kTy (hTcN c) plC hp → ∃ r hp', (∃ N, ∀ fuel, N ≤ fuel → vCalD vms vdf fuel 60 j [yV 0] hp = some (r, hp', 0, 0)) ∧ hC hp' 0 1 (.inl 0)
def zMo (j v : Nat) : Prop := ∀ hp : List vOb, kTy (hTrN v) plM hp → ∃ r hp', (∃ N, ∀ fuel, N ≤ fuel → vCalD vms vdf fuel 60 j [yV 220] hp = some (r, hp', 0, 0)) ∧ hC hp' 220 2 (.inl 0)
theorem zS00 {hp : List vOb} {k i : Nat} {v : vAV} (h1 : hC hp k i v) (h2 : sCr [] (zS 0 0) v) : hC hp k i (.inl 0) := by
  obtain ⟨u, u1, u2, u3⟩ := zSab (by omega) h2
  have e0 : u = 0 := by omega
  rw [u1, e0] at h1
  exact h1
theorem zX_of {e : sCtE} {c c1 c2 : Nat} (h1 : c1 < 4) (h2 : c2 < 4) (hc : pOK vms vdf 60 (hTcN c) [tZx c1, tZx c2] e) (ha : e.2.1 = [yO 0]) (hp0 : e.2.2.1.all (fun k => Nat.blt k 220) = true) (h0 : sStop 0 e.2.2.1 = true) : zXo e.1 c := by
  intro hp hty
  obtain ⟨r, hp', q1, q2, q3, T', q4, q5⟩ := hc [yV 0] hp (by rw [ha]; exact ⟨rfl, trivial⟩) (kTy_sub (plC_mem hp0) hty)
  refine ⟨r, hp', q1, ?_⟩
  have key : ∀ c', c' < 4 → kTy (tZx c') e.2.2.1 hp' → hC hp' 0 1 (.inl 0) := fun c' hc' h => by
    obtain ⟨v, v1, v2⟩ := kTy_cell (k := 0) (i := 1) (c := zS 0 0) (sStop_mem h0) (tZx_row c' hc') h
    exact zS00 v1 v2
  simp only [List.mem_cons, List.not_mem_nil, or_false] at q4
  rcases q4 with rfl | rfl
  · exact key c1 h1 q5
  · exact key c2 h2 q5
theorem zM_of {e : sCtE} {v : Nat} (h1 : v < 4) (hc : pOK vms vdf 60 (hTrN v) [tZm v] e) (ha : e.2.1 = [yO 220]) (hp0 : e.2.2.1.all (fun k => sStop k plM) = true) (h0 : sStop 220 e.2.2.1 = true) : zMo e.1 v := by
  intro hp hty
  obtain ⟨r, hp', q1, q2, q3, T', q4, q5⟩ := hc [yV 220] hp (by rw [ha]; exact ⟨rfl, trivial⟩) (kTy_sub (plM_mem hp0) hty)
  refine ⟨r, hp', q1, ?_⟩
  rw [List.mem_singleton] at q4
  subst q4
  obtain ⟨x, v1, v2⟩ := kTy_cell (k := 220) (i := 2) (c := zS 0 0) (sStop_mem h0) (tZm_row v h1) q5
  exact zS00 v1 v2
set_option maxRecDepth 1000000 in
theorem zx0_town_k : cChkS vms hTc0 [tZx 0, tZx 1] (sCalI vms (sCt hTc0 cc0_X_town_19_e.2.2.2.2 [cc_State_begin_18_e, cc_TownReader_read_17_e]) cc0_X_town_19_e.2.2.2.2 3000 6) 3000 cc0_X_town_19_e ([], [], []) [] cc0_X_town_19_c = true := by decide +kernel
theorem zx0_town_ok (d : Nat) (hd : 35 ≤ d) : pOK vms vdf d hTc0 [tZx 0, tZx 1] cc0_X_town_19_e := by
  obtain ⟨d', rfl⟩ : ∃ d', d = d' + 1 := ⟨d - 1, by omega⟩
  exact pOK_of (fun hp0 => sCalI_ok (d0 := 28) (fun m hm => sCt_ok (T := hTc0) (cs_cons (cOK_cons (by decide +kernel) (cc_State_begin_18_ok m (by omega))) (cs_cons (cOK_cons (by decide +kernel) (cc_TownReader_read_17_ok m (by omega))) (cs_nil)))) 6 d' (by omega)) zx0_town_k
theorem zX_town_0 : zXo 60 0 := zX_of (e := cc0_X_town_19_e) (c := 0) (by decide : 0 < 4) (by decide : 1 < 4) (zx0_town_ok 60 (by decide)) rfl (by decide +kernel) (by decide +kernel)
set_option maxRecDepth 1000000 in
theorem zx1_town_k : cChkS vms hTc1 [tZx 1, tZx 0] (sCalI vms (sCt hTc1 cc1_X_town_246_e.2.2.2.2 [cc_State_begin_245_e, cc_TownReader_read_244_e]) cc1_X_town_246_e.2.2.2.2 3000 6) 3000 cc1_X_town_246_e ([], [], []) [] cc1_X_town_246_c = true := by decide +kernel
theorem zx1_town_ok (d : Nat) (hd : 35 ≤ d) : pOK vms vdf d hTc1 [tZx 1, tZx 0] cc1_X_town_246_e := by
  obtain ⟨d', rfl⟩ : ∃ d', d = d' + 1 := ⟨d - 1, by omega⟩
  exact pOK_of (fun hp0 => sCalI_ok (d0 := 28) (fun m hm => sCt_ok (T := hTc1) (cs_cons (cOK_cons (by decide +kernel) (cc_State_begin_245_ok m (by omega))) (cs_cons (cOK_cons (by decide +kernel) (cc_TownReader_read_244_ok m (by omega))) (cs_nil)))) 6 d' (by omega)) zx1_town_k
theorem zX_town_1 : zXo 60 1 := zX_of (e := cc1_X_town_246_e) (c := 1) (by decide : 1 < 4) (by decide : 0 < 4) (zx1_town_ok 60 (by decide)) rfl (by decide +kernel) (by decide +kernel)
set_option maxRecDepth 1000000 in
theorem zx2_town_k : cChkS vms hTc2 [tZx 2, tZx 3] (sCalI vms (sCt hTc2 cc2_X_town_438_e.2.2.2.2 [cc_State_begin_18_e, cc_TownReader_read_17_e]) cc2_X_town_438_e.2.2.2.2 3000 6) 3000 cc2_X_town_438_e ([], [], []) [] cc2_X_town_438_c = true := by decide +kernel
theorem zx2_town_ok (d : Nat) (hd : 35 ≤ d) : pOK vms vdf d hTc2 [tZx 2, tZx 3] cc2_X_town_438_e := by
  obtain ⟨d', rfl⟩ : ∃ d', d = d' + 1 := ⟨d - 1, by omega⟩
  exact pOK_of (fun hp0 => sCalI_ok (d0 := 28) (fun m hm => sCt_ok (T := hTc2) (cs_cons (cOK_cons (by decide +kernel) (cc_State_begin_18_ok m (by omega))) (cs_cons (cOK_cons (by decide +kernel) (cc_TownReader_read_17_ok m (by omega))) (cs_nil)))) 6 d' (by omega)) zx2_town_k
theorem zX_town_2 : zXo 60 2 := zX_of (e := cc2_X_town_438_e) (c := 2) (by decide : 2 < 4) (by decide : 3 < 4) (zx2_town_ok 60 (by decide)) rfl (by decide +kernel) (by decide +kernel)
set_option maxRecDepth 1000000 in
theorem zx3_town_k : cChkS vms hTc3 [tZx 3, tZx 2] (sCalI vms (sCt hTc3 cc3_X_town_508_e.2.2.2.2 [cc_State_begin_245_e, cc_TownReader_read_244_e]) cc3_X_town_508_e.2.2.2.2 3000 6) 3000 cc3_X_town_508_e ([], [], []) [] cc3_X_town_508_c = true := by decide +kernel
theorem zx3_town_ok (d : Nat) (hd : 35 ≤ d) : pOK vms vdf d hTc3 [tZx 3, tZx 2] cc3_X_town_508_e := by
  obtain ⟨d', rfl⟩ : ∃ d', d = d' + 1 := ⟨d - 1, by omega⟩
  exact pOK_of (fun hp0 => sCalI_ok (d0 := 28) (fun m hm => sCt_ok (T := hTc3) (cs_cons (cOK_cons (by decide +kernel) (cc_State_begin_245_ok m (by omega))) (cs_cons (cOK_cons (by decide +kernel) (cc_TownReader_read_244_ok m (by omega))) (cs_nil)))) 6 d' (by omega)) zx3_town_k
theorem zX_town_3 : zXo 60 3 := zX_of (e := cc3_X_town_508_e) (c := 3) (by decide : 3 < 4) (by decide : 2 < 4) (zx3_town_ok 60 (by decide)) rfl (by decide +kernel) (by decide +kernel)
set_option maxRecDepth 1000000 in
theorem zx0_sentence_k : cChkS vms hTc0 [tZx 0, tZx 2] (sCalI vms (sCt hTc0 cc0_X_sentence_214_e.2.2.2.2 [cc_Sentence_read_213_e]) cc0_X_sentence_214_e.2.2.2.2 3000 6) 3000 cc0_X_sentence_214_e ([], [], []) [] cc0_X_sentence_214_c = true := by decide +kernel
theorem zx0_sentence_ok (d : Nat) (hd : 35 ≤ d) : pOK vms vdf d hTc0 [tZx 0, tZx 2] cc0_X_sentence_214_e := by
  obtain ⟨d', rfl⟩ : ∃ d', d = d' + 1 := ⟨d - 1, by omega⟩
  exact pOK_of (fun hp0 => sCalI_ok (d0 := 28) (fun m hm => sCt_ok (T := hTc0) (cs_cons (cOK_cons (by decide +kernel) (cc_Sentence_read_213_ok m (by omega))) (cs_nil))) 6 d' (by omega)) zx0_sentence_k
theorem zX_sentence_0 : zXo 262 0 := zX_of (e := cc0_X_sentence_214_e) (c := 0) (by decide : 0 < 4) (by decide : 2 < 4) (zx0_sentence_ok 60 (by decide)) rfl (by decide +kernel) (by decide +kernel)
set_option maxRecDepth 1000000 in
theorem zx1_sentence_k : cChkS vms hTc1 [tZx 1, tZx 3] (sCalI vms (sCt hTc1 cc1_X_sentence_410_e.2.2.2.2 [cc_Sentence_read_409_e]) cc1_X_sentence_410_e.2.2.2.2 3000 6) 3000 cc1_X_sentence_410_e ([], [], []) [] cc1_X_sentence_410_c = true := by decide +kernel
theorem zx1_sentence_ok (d : Nat) (hd : 35 ≤ d) : pOK vms vdf d hTc1 [tZx 1, tZx 3] cc1_X_sentence_410_e := by
  obtain ⟨d', rfl⟩ : ∃ d', d = d' + 1 := ⟨d - 1, by omega⟩
  exact pOK_of (fun hp0 => sCalI_ok (d0 := 28) (fun m hm => sCt_ok (T := hTc1) (cs_cons (cOK_cons (by decide +kernel) (cc_Sentence_read_409_ok m (by omega))) (cs_nil))) 6 d' (by omega)) zx1_sentence_k
theorem zX_sentence_1 : zXo 262 1 := zX_of (e := cc1_X_sentence_410_e) (c := 1) (by decide : 1 < 4) (by decide : 3 < 4) (zx1_sentence_ok 60 (by decide)) rfl (by decide +kernel) (by decide +kernel)
set_option maxRecDepth 1000000 in
theorem zx2_sentence_k : cChkS vms hTc2 [tZx 2, tZx 0] (sCalI vms (sCt hTc2 cc2_X_sentence_480_e.2.2.2.2 [cc_Sentence_read_479_e]) cc2_X_sentence_480_e.2.2.2.2 3000 6) 3000 cc2_X_sentence_480_e ([], [], []) [] cc2_X_sentence_480_c = true := by decide +kernel
theorem zx2_sentence_ok (d : Nat) (hd : 35 ≤ d) : pOK vms vdf d hTc2 [tZx 2, tZx 0] cc2_X_sentence_480_e := by
  obtain ⟨d', rfl⟩ : ∃ d', d = d' + 1 := ⟨d - 1, by omega⟩
  exact pOK_of (fun hp0 => sCalI_ok (d0 := 28) (fun m hm => sCt_ok (T := hTc2) (cs_cons (cOK_cons (by decide +kernel) (cc_Sentence_read_479_ok m (by omega))) (cs_nil))) 6 d' (by omega)) zx2_sentence_k
theorem zX_sentence_2 : zXo 262 2 := zX_of (e := cc2_X_sentence_480_e) (c := 2) (by decide : 2 < 4) (by decide : 0 < 4) (zx2_sentence_ok 60 (by decide)) rfl (by decide +kernel) (by decide +kernel)
set_option maxRecDepth 1000000 in
theorem zx3_sentence_k : cChkS vms hTc3 [tZx 3, tZx 1] (sCalI vms (sCt hTc3 cc3_X_sentence_547_e.2.2.2.2 [cc_Sentence_read_546_e]) cc3_X_sentence_547_e.2.2.2.2 3000 6) 3000 cc3_X_sentence_547_e ([], [], []) [] cc3_X_sentence_547_c = true := by decide +kernel
theorem zx3_sentence_ok (d : Nat) (hd : 35 ≤ d) : pOK vms vdf d hTc3 [tZx 3, tZx 1] cc3_X_sentence_547_e := by
  obtain ⟨d', rfl⟩ : ∃ d', d = d' + 1 := ⟨d - 1, by omega⟩
  exact pOK_of (fun hp0 => sCalI_ok (d0 := 28) (fun m hm => sCt_ok (T := hTc3) (cs_cons (cOK_cons (by decide +kernel) (cc_Sentence_read_546_ok m (by omega))) (cs_nil))) 6 d' (by omega)) zx3_sentence_k
theorem zX_sentence_3 : zXo 262 3 := zX_of (e := cc3_X_sentence_547_e) (c := 3) (by decide : 3 < 4) (by decide : 1 < 4) (zx3_sentence_ok 60 (by decide)) rfl (by decide +kernel) (by decide +kernel)
set_option maxRecDepth 1000000 in
theorem zx0_limps_k : cChkS vms hTc0 [tZx 0, tZx 0] (sCalI vms (sCt hTc0 cc0_X_limps_140_e.2.2.2.2 [cc_Limps_waysBy_139_e]) cc0_X_limps_140_e.2.2.2.2 3000 6) 3000 cc0_X_limps_140_e ([], [], []) [] cc0_X_limps_140_c = true := by decide +kernel
theorem zx0_limps_ok (d : Nat) (hd : 28 ≤ d) : pOK vms vdf d hTc0 [tZx 0, tZx 0] cc0_X_limps_140_e := by
  obtain ⟨d', rfl⟩ : ∃ d', d = d' + 1 := ⟨d - 1, by omega⟩
  exact pOK_of (fun hp0 => sCalI_ok (d0 := 21) (fun m hm => sCt_ok (T := hTc0) (cs_cons (cOK_cons (by decide +kernel) (cc_Limps_waysBy_139_ok m (by omega))) (cs_nil))) 6 d' (by omega)) zx0_limps_k
theorem zX_limps_0 : zXo 190 0 := zX_of (e := cc0_X_limps_140_e) (c := 0) (by decide : 0 < 4) (by decide : 0 < 4) (zx0_limps_ok 60 (by decide)) rfl (by decide +kernel) (by decide +kernel)
set_option maxRecDepth 1000000 in
theorem zx1_limps_k : cChkS vms hTc1 [tZx 1, tZx 1] (sCalI vms (sCt hTc1 cc1_X_limps_342_e.2.2.2.2 [cc_Limps_waysBy_341_e]) cc1_X_limps_342_e.2.2.2.2 3000 6) 3000 cc1_X_limps_342_e ([], [], []) [] cc1_X_limps_342_c = true := by decide +kernel
theorem zx1_limps_ok (d : Nat) (hd : 28 ≤ d) : pOK vms vdf d hTc1 [tZx 1, tZx 1] cc1_X_limps_342_e := by
  obtain ⟨d', rfl⟩ : ∃ d', d = d' + 1 := ⟨d - 1, by omega⟩
  exact pOK_of (fun hp0 => sCalI_ok (d0 := 21) (fun m hm => sCt_ok (T := hTc1) (cs_cons (cOK_cons (by decide +kernel) (cc_Limps_waysBy_341_ok m (by omega))) (cs_nil))) 6 d' (by omega)) zx1_limps_k
theorem zX_limps_1 : zXo 190 1 := zX_of (e := cc1_X_limps_342_e) (c := 1) (by decide : 1 < 4) (by decide : 1 < 4) (zx1_limps_ok 60 (by decide)) rfl (by decide +kernel) (by decide +kernel)
set_option maxRecDepth 1000000 in
theorem zx2_limps_k : cChkS vms hTc2 [tZx 2, tZx 2] (sCalI vms (sCt hTc2 cc2_X_limps_454_e.2.2.2.2 [cc_Limps_waysBy_139_e]) cc2_X_limps_454_e.2.2.2.2 3000 6) 3000 cc2_X_limps_454_e ([], [], []) [] cc2_X_limps_454_c = true := by decide +kernel
theorem zx2_limps_ok (d : Nat) (hd : 28 ≤ d) : pOK vms vdf d hTc2 [tZx 2, tZx 2] cc2_X_limps_454_e := by
  obtain ⟨d', rfl⟩ : ∃ d', d = d' + 1 := ⟨d - 1, by omega⟩
  exact pOK_of (fun hp0 => sCalI_ok (d0 := 21) (fun m hm => sCt_ok (T := hTc2) (cs_cons (cOK_cons (by decide +kernel) (cc_Limps_waysBy_139_ok m (by omega))) (cs_nil))) 6 d' (by omega)) zx2_limps_k
theorem zX_limps_2 : zXo 190 2 := zX_of (e := cc2_X_limps_454_e) (c := 2) (by decide : 2 < 4) (by decide : 2 < 4) (zx2_limps_ok 60 (by decide)) rfl (by decide +kernel) (by decide +kernel)
set_option maxRecDepth 1000000 in
theorem zx3_limps_k : cChkS vms hTc3 [tZx 3, tZx 3] (sCalI vms (sCt hTc3 cc3_X_limps_524_e.2.2.2.2 [cc_Limps_waysBy_341_e]) cc3_X_limps_524_e.2.2.2.2 3000 6) 3000 cc3_X_limps_524_e ([], [], []) [] cc3_X_limps_524_c = true := by decide +kernel
theorem zx3_limps_ok (d : Nat) (hd : 28 ≤ d) : pOK vms vdf d hTc3 [tZx 3, tZx 3] cc3_X_limps_524_e := by
  obtain ⟨d', rfl⟩ : ∃ d', d = d' + 1 := ⟨d - 1, by omega⟩
  exact pOK_of (fun hp0 => sCalI_ok (d0 := 21) (fun m hm => sCt_ok (T := hTc3) (cs_cons (cOK_cons (by decide +kernel) (cc_Limps_waysBy_341_ok m (by omega))) (cs_nil))) 6 d' (by omega)) zx3_limps_k
theorem zX_limps_3 : zXo 190 3 := zX_of (e := cc3_X_limps_524_e) (c := 3) (by decide : 3 < 4) (by decide : 3 < 4) (zx3_limps_ok 60 (by decide)) rfl (by decide +kernel) (by decide +kernel)
set_option maxRecDepth 1000000 in
theorem zm0_limps_k : cChkS vms hTr0 [tZm 0] (sCalI vms (sOrC (sCt hTr0 cr0_M_limps_964_e.2.2.2.2 [cr0_M_limpsBy_940_e, cr0_M_limpsBy_941_e, cr0_M_limpsBy_942_e, cr0_M_limpsBy_943_e, cr0_M_limpsBy_944_e, cr0_M_limpsBy_945_e, cr0_M_limpsBy_946_e, cr0_M_limpsBy_947_e, cr0_M_limpsBy_948_e, cr0_M_limpsBy_949_e, cr0_M_limpsBy_950_e, cr0_M_limpsBy_951_e, cr0_M_limpsBy_952_e, cr0_M_limpsBy_953_e, cr0_M_limpsBy_954_e, cr0_M_limpsBy_955_e, cr0_M_limpsBy_956_e, cr0_M_limpsBy_957_e, cr0_M_limpsBy_958_e, cr0_M_limpsBy_959_e, cr0_M_limpsBy_960_e, cr0_M_limpsBy_961_e, cr0_M_limpsBy_962_e, cr0_M_limpsBy_963_e, cr0_M_lists_933_e, cr0_M_painsAt_917_e]) (sCt hT cr0_M_limps_964_e.2.2.2.2 [cc_M_tellsLimps_633_e])) cr0_M_limps_964_e.2.2.2.2 3000 6) 3000 cr0_M_limps_964_e ([], [], []) [] cr0_M_limps_964_c = true := by decide +kernel
theorem zm0_limps_ok (d : Nat) (hd : 21 ≤ d) : pOK vms vdf d hTr0 [tZm 0] cr0_M_limps_964_e := by
  obtain ⟨d', rfl⟩ : ∃ d', d = d' + 1 := ⟨d - 1, by omega⟩
  exact pOK_of (fun hp0 => sCalI_ok (d0 := 14) (fun m hm => sOrC_ok (sCt_ok (T := hTr0) (cs_cons (cr0_M_limpsBy_940_ok m (by omega)) (cs_cons (cr0_M_limpsBy_941_ok m (by omega)) (cs_cons (cr0_M_limpsBy_942_ok m (by omega)) (cs_cons (cr0_M_limpsBy_943_ok m (by omega)) (cs_cons (cr0_M_limpsBy_944_ok m (by omega)) (cs_cons (cr0_M_limpsBy_945_ok m (by omega)) (cs_cons (cr0_M_limpsBy_946_ok m (by omega)) (cs_cons (cr0_M_limpsBy_947_ok m (by omega)) (cs_cons (cr0_M_limpsBy_948_ok m (by omega)) (cs_cons (cr0_M_limpsBy_949_ok m (by omega)) (cs_cons (cr0_M_limpsBy_950_ok m (by omega)) (cs_cons (cr0_M_limpsBy_951_ok m (by omega)) (cs_cons (cr0_M_limpsBy_952_ok m (by omega)) (cs_cons (cr0_M_limpsBy_953_ok m (by omega)) (cs_cons (cr0_M_limpsBy_954_ok m (by omega)) (cs_cons (cr0_M_limpsBy_955_ok m (by omega)) (cs_cons (cr0_M_limpsBy_956_ok m (by omega)) (cs_cons (cr0_M_limpsBy_957_ok m (by omega)) (cs_cons (cr0_M_limpsBy_958_ok m (by omega)) (cs_cons (cr0_M_limpsBy_959_ok m (by omega)) (cs_cons (cr0_M_limpsBy_960_ok m (by omega)) (cs_cons (cr0_M_limpsBy_961_ok m (by omega)) (cs_cons (cr0_M_limpsBy_962_ok m (by omega)) (cs_cons (cr0_M_limpsBy_963_ok m (by omega)) (cs_cons (cr0_M_lists_933_ok m (by omega)) (cs_cons (cr0_M_painsAt_917_ok m (by omega)) (cs_nil)))))))))))))))))))))))))))) (sCt_ok (T := hT) (cs_cons (cc_M_tellsLimps_633_ok m (by omega)) (cs_nil)))) 6 d' (by omega)) zm0_limps_k
theorem zM_limps_0 : zMo 194 0 := zM_of (e := cr0_M_limps_964_e) (v := 0) (by decide : 0 < 4) (zm0_limps_ok 60 (by decide)) rfl (by decide +kernel) (by decide +kernel)
set_option maxRecDepth 1000000 in
theorem zm1_limps_k : cChkS vms hTr1 [tZm 1] (sCalI vms (sOrC (sCt hTr1 cr1_M_limps_885_e.2.2.2.2 [cr1_M_limpsBy_861_e, cr1_M_limpsBy_862_e, cr1_M_limpsBy_863_e, cr1_M_limpsBy_864_e, cr1_M_limpsBy_865_e, cr1_M_limpsBy_866_e, cr1_M_limpsBy_867_e, cr1_M_limpsBy_868_e, cr1_M_limpsBy_869_e, cr1_M_limpsBy_870_e, cr1_M_limpsBy_871_e, cr1_M_limpsBy_872_e, cr1_M_limpsBy_873_e, cr1_M_limpsBy_874_e, cr1_M_limpsBy_875_e, cr1_M_limpsBy_876_e, cr1_M_limpsBy_877_e, cr1_M_limpsBy_878_e, cr1_M_limpsBy_879_e, cr1_M_limpsBy_880_e, cr1_M_limpsBy_881_e, cr1_M_limpsBy_882_e, cr1_M_limpsBy_883_e, cr1_M_limpsBy_884_e, cr1_M_lists_854_e, cr1_M_painsAt_838_e]) (sCt hT cr1_M_limps_885_e.2.2.2.2 [cc_M_tellsLimps_633_e])) cr1_M_limps_885_e.2.2.2.2 3000 6) 3000 cr1_M_limps_885_e ([], [], []) [] cr1_M_limps_885_c = true := by decide +kernel
theorem zm1_limps_ok (d : Nat) (hd : 21 ≤ d) : pOK vms vdf d hTr1 [tZm 1] cr1_M_limps_885_e := by
  obtain ⟨d', rfl⟩ : ∃ d', d = d' + 1 := ⟨d - 1, by omega⟩
  exact pOK_of (fun hp0 => sCalI_ok (d0 := 14) (fun m hm => sOrC_ok (sCt_ok (T := hTr1) (cs_cons (cr1_M_limpsBy_861_ok m (by omega)) (cs_cons (cr1_M_limpsBy_862_ok m (by omega)) (cs_cons (cr1_M_limpsBy_863_ok m (by omega)) (cs_cons (cr1_M_limpsBy_864_ok m (by omega)) (cs_cons (cr1_M_limpsBy_865_ok m (by omega)) (cs_cons (cr1_M_limpsBy_866_ok m (by omega)) (cs_cons (cr1_M_limpsBy_867_ok m (by omega)) (cs_cons (cr1_M_limpsBy_868_ok m (by omega)) (cs_cons (cr1_M_limpsBy_869_ok m (by omega)) (cs_cons (cr1_M_limpsBy_870_ok m (by omega)) (cs_cons (cr1_M_limpsBy_871_ok m (by omega)) (cs_cons (cr1_M_limpsBy_872_ok m (by omega)) (cs_cons (cr1_M_limpsBy_873_ok m (by omega)) (cs_cons (cr1_M_limpsBy_874_ok m (by omega)) (cs_cons (cr1_M_limpsBy_875_ok m (by omega)) (cs_cons (cr1_M_limpsBy_876_ok m (by omega)) (cs_cons (cr1_M_limpsBy_877_ok m (by omega)) (cs_cons (cr1_M_limpsBy_878_ok m (by omega)) (cs_cons (cr1_M_limpsBy_879_ok m (by omega)) (cs_cons (cr1_M_limpsBy_880_ok m (by omega)) (cs_cons (cr1_M_limpsBy_881_ok m (by omega)) (cs_cons (cr1_M_limpsBy_882_ok m (by omega)) (cs_cons (cr1_M_limpsBy_883_ok m (by omega)) (cs_cons (cr1_M_limpsBy_884_ok m (by omega)) (cs_cons (cr1_M_lists_854_ok m (by omega)) (cs_cons (cr1_M_painsAt_838_ok m (by omega)) (cs_nil)))))))))))))))))))))))))))) (sCt_ok (T := hT) (cs_cons (cc_M_tellsLimps_633_ok m (by omega)) (cs_nil)))) 6 d' (by omega)) zm1_limps_k
theorem zM_limps_1 : zMo 194 1 := zM_of (e := cr1_M_limps_885_e) (v := 1) (by decide : 1 < 4) (zm1_limps_ok 60 (by decide)) rfl (by decide +kernel) (by decide +kernel)
set_option maxRecDepth 1000000 in
theorem zm2_limps_k : cChkS vms hTr2 [tZm 2] (sCalI vms (sOrC (sCt hTr2 cr2_M_limps_813_e.2.2.2.2 [cr2_M_limpsBy_789_e, cr2_M_limpsBy_790_e, cr2_M_limpsBy_791_e, cr2_M_limpsBy_792_e, cr2_M_limpsBy_793_e, cr2_M_limpsBy_794_e, cr2_M_limpsBy_795_e, cr2_M_limpsBy_796_e, cr2_M_limpsBy_797_e, cr2_M_limpsBy_798_e, cr2_M_limpsBy_799_e, cr2_M_limpsBy_800_e, cr2_M_limpsBy_801_e, cr2_M_limpsBy_802_e, cr2_M_limpsBy_803_e, cr2_M_limpsBy_804_e, cr2_M_limpsBy_805_e, cr2_M_limpsBy_806_e, cr2_M_limpsBy_807_e, cr2_M_limpsBy_808_e, cr2_M_limpsBy_809_e, cr2_M_limpsBy_810_e, cr2_M_limpsBy_811_e, cr2_M_limpsBy_812_e, cr2_M_lists_765_e, cr2_M_painsAt_749_e]) (sCt hT cr2_M_limps_813_e.2.2.2.2 [cc_M_tellsLimps_633_e])) cr2_M_limps_813_e.2.2.2.2 3000 6) 3000 cr2_M_limps_813_e ([], [], []) [] cr2_M_limps_813_c = true := by decide +kernel
theorem zm2_limps_ok (d : Nat) (hd : 21 ≤ d) : pOK vms vdf d hTr2 [tZm 2] cr2_M_limps_813_e := by
  obtain ⟨d', rfl⟩ : ∃ d', d = d' + 1 := ⟨d - 1, by omega⟩
  exact pOK_of (fun hp0 => sCalI_ok (d0 := 14) (fun m hm => sOrC_ok (sCt_ok (T := hTr2) (cs_cons (cr2_M_limpsBy_789_ok m (by omega)) (cs_cons (cr2_M_limpsBy_790_ok m (by omega)) (cs_cons (cr2_M_limpsBy_791_ok m (by omega)) (cs_cons (cr2_M_limpsBy_792_ok m (by omega)) (cs_cons (cr2_M_limpsBy_793_ok m (by omega)) (cs_cons (cr2_M_limpsBy_794_ok m (by omega)) (cs_cons (cr2_M_limpsBy_795_ok m (by omega)) (cs_cons (cr2_M_limpsBy_796_ok m (by omega)) (cs_cons (cr2_M_limpsBy_797_ok m (by omega)) (cs_cons (cr2_M_limpsBy_798_ok m (by omega)) (cs_cons (cr2_M_limpsBy_799_ok m (by omega)) (cs_cons (cr2_M_limpsBy_800_ok m (by omega)) (cs_cons (cr2_M_limpsBy_801_ok m (by omega)) (cs_cons (cr2_M_limpsBy_802_ok m (by omega)) (cs_cons (cr2_M_limpsBy_803_ok m (by omega)) (cs_cons (cr2_M_limpsBy_804_ok m (by omega)) (cs_cons (cr2_M_limpsBy_805_ok m (by omega)) (cs_cons (cr2_M_limpsBy_806_ok m (by omega)) (cs_cons (cr2_M_limpsBy_807_ok m (by omega)) (cs_cons (cr2_M_limpsBy_808_ok m (by omega)) (cs_cons (cr2_M_limpsBy_809_ok m (by omega)) (cs_cons (cr2_M_limpsBy_810_ok m (by omega)) (cs_cons (cr2_M_limpsBy_811_ok m (by omega)) (cs_cons (cr2_M_limpsBy_812_ok m (by omega)) (cs_cons (cr2_M_lists_765_ok m (by omega)) (cs_cons (cr2_M_painsAt_749_ok m (by omega)) (cs_nil)))))))))))))))))))))))))))) (sCt_ok (T := hT) (cs_cons (cc_M_tellsLimps_633_ok m (by omega)) (cs_nil)))) 6 d' (by omega)) zm2_limps_k
theorem zM_limps_2 : zMo 194 2 := zM_of (e := cr2_M_limps_813_e) (v := 2) (by decide : 2 < 4) (zm2_limps_ok 60 (by decide)) rfl (by decide +kernel) (by decide +kernel)
set_option maxRecDepth 1000000 in
theorem zm3_limps_k : cChkS vms hTr3 [tZm 3] (sCalI vms (sOrC (sCt hTr3 cr3_M_limps_657_e.2.2.2.2 [cr3_M_limpsBy_632_e, cr3_M_limpsBy_634_e, cr3_M_limpsBy_635_e, cr3_M_limpsBy_636_e, cr3_M_limpsBy_637_e, cr3_M_limpsBy_638_e, cr3_M_limpsBy_639_e, cr3_M_limpsBy_640_e, cr3_M_limpsBy_641_e, cr3_M_limpsBy_642_e, cr3_M_limpsBy_643_e, cr3_M_limpsBy_644_e, cr3_M_limpsBy_645_e, cr3_M_limpsBy_646_e, cr3_M_limpsBy_647_e, cr3_M_limpsBy_648_e, cr3_M_limpsBy_649_e, cr3_M_limpsBy_650_e, cr3_M_limpsBy_651_e, cr3_M_limpsBy_652_e, cr3_M_limpsBy_653_e, cr3_M_limpsBy_654_e, cr3_M_limpsBy_655_e, cr3_M_limpsBy_656_e, cr3_M_lists_602_e, cr3_M_painsAt_585_e]) (sCt hT cr3_M_limps_657_e.2.2.2.2 [cc_M_tellsLimps_633_e])) cr3_M_limps_657_e.2.2.2.2 3000 6) 3000 cr3_M_limps_657_e ([], [], []) [] cr3_M_limps_657_c = true := by decide +kernel
theorem zm3_limps_ok (d : Nat) (hd : 21 ≤ d) : pOK vms vdf d hTr3 [tZm 3] cr3_M_limps_657_e := by
  obtain ⟨d', rfl⟩ : ∃ d', d = d' + 1 := ⟨d - 1, by omega⟩
  exact pOK_of (fun hp0 => sCalI_ok (d0 := 14) (fun m hm => sOrC_ok (sCt_ok (T := hTr3) (cs_cons (cr3_M_limpsBy_632_ok m (by omega)) (cs_cons (cr3_M_limpsBy_634_ok m (by omega)) (cs_cons (cr3_M_limpsBy_635_ok m (by omega)) (cs_cons (cr3_M_limpsBy_636_ok m (by omega)) (cs_cons (cr3_M_limpsBy_637_ok m (by omega)) (cs_cons (cr3_M_limpsBy_638_ok m (by omega)) (cs_cons (cr3_M_limpsBy_639_ok m (by omega)) (cs_cons (cr3_M_limpsBy_640_ok m (by omega)) (cs_cons (cr3_M_limpsBy_641_ok m (by omega)) (cs_cons (cr3_M_limpsBy_642_ok m (by omega)) (cs_cons (cr3_M_limpsBy_643_ok m (by omega)) (cs_cons (cr3_M_limpsBy_644_ok m (by omega)) (cs_cons (cr3_M_limpsBy_645_ok m (by omega)) (cs_cons (cr3_M_limpsBy_646_ok m (by omega)) (cs_cons (cr3_M_limpsBy_647_ok m (by omega)) (cs_cons (cr3_M_limpsBy_648_ok m (by omega)) (cs_cons (cr3_M_limpsBy_649_ok m (by omega)) (cs_cons (cr3_M_limpsBy_650_ok m (by omega)) (cs_cons (cr3_M_limpsBy_651_ok m (by omega)) (cs_cons (cr3_M_limpsBy_652_ok m (by omega)) (cs_cons (cr3_M_limpsBy_653_ok m (by omega)) (cs_cons (cr3_M_limpsBy_654_ok m (by omega)) (cs_cons (cr3_M_limpsBy_655_ok m (by omega)) (cs_cons (cr3_M_limpsBy_656_ok m (by omega)) (cs_cons (cr3_M_lists_602_ok m (by omega)) (cs_cons (cr3_M_painsAt_585_ok m (by omega)) (cs_nil)))))))))))))))))))))))))))) (sCt_ok (T := hT) (cs_cons (cc_M_tellsLimps_633_ok m (by omega)) (cs_nil)))) 6 d' (by omega)) zm3_limps_k
theorem zM_limps_3 : zMo 194 3 := zM_of (e := cr3_M_limps_657_e) (v := 3) (by decide : 3 < 4) (zm3_limps_ok 60 (by decide)) rfl (by decide +kernel) (by decide +kernel)
