/-! ===== image and restore of the class, with the flag told ===== -/
def xrA (k : sC) (f : List (Nat × Nat × sC)) : nN := (0, [some (yO 0), some k], [], f)
noncomputable def xrS (T : sHp) (md : sMd) : sCal := sCalI vms (sCt T md []) md 3000 6
theorem xrS_ok {T : sHp} {md : sMd} (hp0 : List vOb) : sCalOK vms vdf 59 md hp0 (xrS T md) := sCalI_ok (d0 := 0) (fun m hm => sCt_ok (T := T) cs_nil) 6 59 (by decide)
def xrR : sC := .inr [(0, 2147483647), (2147483650, 4294967295)]
theorem hM_xrestore : vms[283]? = some m_X11_restore := by rw [← vNth_eq]; rfl
theorem hM_ximage : vms[281]? = some m_X11_image := by rw [← vNth_eq]; rfl
set_option maxRecDepth 1000000 in
theorem xr_ret : (nRet m_X11_restore (79, [none, none], [zK 1], []) (some (zS 1 1)) && nRet m_X11_restore (22, [none, none], [zK 0], []) (some (zS 0 0))) = true := by decide +kernel
set_option maxRecDepth 1000000 in
theorem xi_ret : nRet m_X11_image (70, [none, none], [zK 1], []) (some (zS 1 1)) = true := by decide +kernel
set_option maxRecDepth 1000000 in
theorem xr_hi : nChk0 m_X11_restore hT [] sNo [] [] 3000 (xrA xrR []) [(22, [none, none], [zK 0], [])] = true := by decide +kernel
theorem xr_lr {k : sC} {w : Nat} (h : sCr [] k (.inl w)) : nLr [] [some (yO 0), some k] [some (yV 0), some (.inl w)] := ⟨fun c hc => by cases hc; exact ⟨_, rfl, rfl⟩, fun c hc => by cases hc; exact ⟨_, rfl, h⟩, trivial⟩
/-- a call of restore of the class, by one node -/
theorem xr_one {T : sHp} {pl : List Nat} {scal : sCal} {md : sMd} {k : sC} {fs : List (Nat × Nat × sC)} {w pc n : Nat} {hp : List vOb} (hs : ∀ hp0, sCalOK vms vdf 59 md hp0 scal) (hk : nChk0 m_X11_restore T pl scal md [] 3000 (xrA k fs) [(pc, [none, none], [zK n], [])] = true) (hr : nRet m_X11_restore (pc, [none, none], [zK n], []) (some (zS n n)) = true) (hn : n < 2) (hw : sCr [] k (.inl w)) (hty : kTy T pl hp) (hf : nCs [] hp fs) : ∃ hp', (∃ N, ∀ fuel, N ≤ fuel → vCalD vms vdf fuel 60 283 [yV 0, .inl w] hp = some (some (.inl n), hp', 0, 0)) ∧ sFr md hp hp' := by
  obtain ⟨κ1, a2, a3, a4⟩ := n_one (d := 59) (κ := (0, [some (yV 0), some (.inl w)], [], hp)) hs hk ⟨rfl, xr_lr hw, trivial, hty, hf⟩
  have hend : kEnd vms vdf 59 m_X11_restore (0, vEnt [yV 0, .inl w] m_X11_restore.2.2.1, [], hp) (fun kr hp9 => kr = some (.inl n) ∧ sFr md hp hp9) := kEnd.of a2 (n_ret hr a4 (fun kr hkr => ⟨zRt (by omega) hkr, a3⟩))
  obtain ⟨kr, hp', h1, h2, h3⟩ := kEnd_cal hM_xrestore (show (vArgs [yV 0, .inl w]).length ≤ 2 from (by decide : 2 ≤ 2)) rfl rfl hend
  subst h2
  exact ⟨hp', h1, h3⟩
theorem xi_one {T : sHp} {pl : List Nat} {scal : sCal} {md : sMd} {k : sC} {r w : Nat} {hp : List vOb} (hs : ∀ hp0, sCalOK vms vdf 59 md hp0 scal) (hk : nChk0 m_X11_image T pl scal md [] 3000 (xrA k []) [(70, [none, none], [zK 1], [(r, 3, zK 1)])] = true) (hw : sCr [] k (.inl w)) (hty : kTy T pl hp) : ∃ kr hp', (∃ N, ∀ fuel, N ≤ fuel → vCalD vms vdf fuel 60 281 [yV 0, .inl w] hp = some (kr, hp', 0, 0)) ∧ sFr md hp hp' ∧ hC hp' r 3 (.inl 1) := by
  obtain ⟨κ1, a2, a3, a4⟩ := n_one (d := 59) (κ := (0, [some (yV 0), some (.inl w)], [], hp)) hs hk ⟨rfl, xr_lr hw, trivial, hty, nCs_nil⟩
  have a5 : nSat T pl [] (70, [none, none], [zK 1], []) κ1 := ⟨a4.1, a4.2.1, a4.2.2.1, a4.2.2.2.1, nCs_nil⟩
  have hend : kEnd vms vdf 59 m_X11_image (0, vEnt [yV 0, .inl w] m_X11_image.2.2.1, [], hp) (fun kr hp9 => sFr md hp hp9 ∧ hC hp9 r 3 (.inl 1)) := kEnd.of a2 (n_ret xi_ret a5 (fun kr hkr => ⟨a3, nSat_cell (n := 1) a4 List.mem_cons_self⟩))
  exact kEnd_cal hM_ximage (show (vArgs [yV 0, .inl w]).length ≤ 2 from (by decide : 2 ≤ 2)) rfl rfl hend
def xResP (c : Nat) : Prop := ∀ (hp : List vOb) (w f : Nat), kTy (hTcN c) plC hp → w < 4294967296 → f < 2 → (w < 2 → hC hp (162 + 29 * w) 3 (.inl f)) → (¬ w < 2 → f = 0) → ∃ hp' md, (∃ N, ∀ fuel, N ≤ fuel → vCalD vms vdf fuel 60 283 [yV 0, .inl w] hp = some (some (.inl f), hp', 0, 0)) ∧ sFr md hp hp' ∧ mdF md = true
def xImgP (c : Nat) : Prop := ∀ (hp : List vOb) (w : Nat), kTy (hTcN c) plC hp → w < 2 → ∃ kr hp' md, (∃ N, ∀ fuel, N ≤ fuel → vCalD vms vdf fuel 60 281 [yV 0, .inl w] hp = some (kr, hp', 0, 0)) ∧ sFr md hp hp' ∧ hC hp' (162 + 29 * w) 3 (.inl 1) ∧ (∀ i, ¬ sMin md (162 + 29 * (1 - w)) i) ∧ (∀ i, ¬ sMin md 247 i)
theorem xRes_of {c : Nat} {e : sCtE} (hF : mdF e.2.2.2.2 = true) (hpl : ∀ k ∈ e.2.2.1, k ∈ plC) (h0 : [0, 1].all (fun k => nChk0 m_X11_restore (hTcN c) [0, 141, 162, 191] sNo [] [] 3000 (xrA (zK k) [(162 + 29 * k, 3, zK 0)]) [(22, [none, none], [zK 0], [])]) = true)
    (h1 : [0, 1].all (fun k => nChk0 m_X11_restore (hTcN c) e.2.2.1 (xrS (hTcN c) e.2.2.2.2) e.2.2.2.2 [] 3000 (xrA (zK k) [(162 + 29 * k, 3, zK 1)]) [(79, [none, none], [zK 1], [])]) = true) : xResP c := by
  intro hp w f hty hw hf hlo hhi
  by_cases h : w < 2
  · have hm : w ∈ [0, 1] := in2 h
    have hfl := hlo h
    have : f = 0 ∨ f = 1 := by omega
    rcases this with rfl | rfl
    · obtain ⟨hp', q1, q2⟩ := xr_one (fun hp0 => sNo_ok) (List.all_eq_true.mp h0 w hm) (and2 xr_ret).2 (by omega) ⟨hw, rfl⟩ (kTy_sub (by decide) hty) (nCs_one (by omega) hfl)
      exact ⟨hp', _, q1, q2, rfl⟩
    · obtain ⟨hp', q1, q2⟩ := xr_one xrS_ok (List.all_eq_true.mp h1 w hm) (and2 xr_ret).1 (by omega) ⟨hw, rfl⟩ (kTy_sub hpl hty) (nCs_one (by omega) hfl)
      exact ⟨hp', _, q1, q2, hF⟩
  · have e0 := hhi h
    subst e0
    obtain ⟨hp', q1, q2⟩ := xr_one (T := hT) (pl := []) (fun hp0 => sNo_ok) xr_hi (and2 xr_ret).2 (by omega) ⟨w, hw, rest_in hw h, rfl⟩ (fun k hk => absurd hk List.not_mem_nil) nCs_nil
    exact ⟨hp', _, q1, q2, rfl⟩
def mdG (w : Nat) (md : sMd) : Bool := md.all (fun m => !Nat.beq m.1 (162 + 29 * (1 - w)) && !Nat.beq m.1 247)
theorem mdG_ok {w : Nat} {md : sMd} (h : mdG w md = true) : (∀ i, ¬ sMin md (162 + 29 * (1 - w)) i) ∧ (∀ i, ¬ sMin md 247 i) := by
  refine ⟨fun i ⟨m, m1, m2, _⟩ => ?_, fun i ⟨m, m1, m2, _⟩ => ?_⟩
  · have h1 := List.all_eq_true.mp h m m1
    rw [Bool.and_eq_true, m2, Nat.beq_refl] at h1
    cases h1.1
  · have h1 := List.all_eq_true.mp h m m1
    rw [Bool.and_eq_true, m2] at h1
    cases h1.2
theorem xImg_of {c : Nat} {e0 e1 : sCtE} (g0 : mdG 0 e0.2.2.2.2 = true) (g1 : mdG 1 e1.2.2.2.2 = true) (p0 : ∀ k ∈ e0.2.2.1, k ∈ plC) (p1 : ∀ k ∈ e1.2.2.1, k ∈ plC)
    (h0 : nChk0 m_X11_image (hTcN c) e0.2.2.1 (xrS (hTcN c) e0.2.2.2.2) e0.2.2.2.2 [] 3000 (xrA (zK 0) []) [(70, [none, none], [zK 1], [(162, 3, zK 1)])] = true) (h1 : nChk0 m_X11_image (hTcN c) e1.2.2.1 (xrS (hTcN c) e1.2.2.2.2) e1.2.2.2.2 [] 3000 (xrA (zK 1) []) [(70, [none, none], [zK 1], [(191, 3, zK 1)])] = true) : xImgP c := by
  intro hp w hty hw
  have : w = 0 ∨ w = 1 := by omega
  rcases this with rfl | rfl
  · obtain ⟨kr, hp', q1, q2, q3⟩ := xi_one xrS_ok h0 ⟨by omega, rfl⟩ (kTy_sub p0 hty)
    exact ⟨kr, hp', _, q1, q2, q3, mdG_ok g0⟩
  · obtain ⟨kr, hp', q1, q2, q3⟩ := xi_one xrS_ok h1 ⟨by omega, rfl⟩ (kTy_sub p1 hty)
    exact ⟨kr, hp', _, q1, q2, q3, mdG_ok g1⟩
set_option maxRecDepth 1000000 in
theorem xr0_0 : [0, 1].all (fun k => nChk0 m_X11_restore hTc0 [0, 141, 162, 191] sNo [] [] 3000 (xrA (zK k) [(162 + 29 * k, 3, zK 0)]) [(22, [none, none], [zK 0], [])]) = true := by decide +kernel
set_option maxRecDepth 1000000 in
theorem xr1_0 : [0, 1].all (fun k => nChk0 m_X11_restore hTc0 cc0_X_restore_237_e.2.2.1 (xrS hTc0 cc0_X_restore_237_e.2.2.2.2) cc0_X_restore_237_e.2.2.2.2 [] 3000 (xrA (zK k) [(162 + 29 * k, 3, zK 1)]) [(79, [none, none], [zK 1], [])]) = true := by decide +kernel
theorem xres_0 : xResP 0 := xRes_of (c := 0) (e := cc0_X_restore_237_e) (by decide +kernel) (by decide +kernel) xr0_0 xr1_0
set_option maxRecDepth 1000000 in
theorem xi0_0 : nChk0 m_X11_image hTc0 cc0_X_image_1071_e.2.2.1 (xrS hTc0 cc0_X_image_1071_e.2.2.2.2) cc0_X_image_1071_e.2.2.2.2 [] 3000 (xrA (zK 0) []) [(70, [none, none], [zK 1], [(162, 3, zK 1)])] = true := by decide +kernel
set_option maxRecDepth 1000000 in
theorem xi1_0 : nChk0 m_X11_image hTc0 cc0_X_image_1072_e.2.2.1 (xrS hTc0 cc0_X_image_1072_e.2.2.2.2) cc0_X_image_1072_e.2.2.2.2 [] 3000 (xrA (zK 1) []) [(70, [none, none], [zK 1], [(191, 3, zK 1)])] = true := by decide +kernel
theorem ximg_0 : xImgP 0 := xImg_of (c := 0) (e0 := cc0_X_image_1071_e) (e1 := cc0_X_image_1072_e) (by decide +kernel) (by decide +kernel) (by decide +kernel) (by decide +kernel) xi0_0 xi1_0
set_option maxRecDepth 1000000 in
theorem xr0_1 : [0, 1].all (fun k => nChk0 m_X11_restore hTc1 [0, 141, 162, 191] sNo [] [] 3000 (xrA (zK k) [(162 + 29 * k, 3, zK 0)]) [(22, [none, none], [zK 0], [])]) = true := by decide +kernel
set_option maxRecDepth 1000000 in
theorem xr1_1 : [0, 1].all (fun k => nChk0 m_X11_restore hTc1 cc1_X_restore_433_e.2.2.1 (xrS hTc1 cc1_X_restore_433_e.2.2.2.2) cc1_X_restore_433_e.2.2.2.2 [] 3000 (xrA (zK k) [(162 + 29 * k, 3, zK 1)]) [(79, [none, none], [zK 1], [])]) = true := by decide +kernel
theorem xres_1 : xResP 1 := xRes_of (c := 1) (e := cc1_X_restore_433_e) (by decide +kernel) (by decide +kernel) xr0_1 xr1_1
set_option maxRecDepth 1000000 in
theorem xi0_1 : nChk0 m_X11_image hTc1 cc1_X_image_1074_e.2.2.1 (xrS hTc1 cc1_X_image_1074_e.2.2.2.2) cc1_X_image_1074_e.2.2.2.2 [] 3000 (xrA (zK 0) []) [(70, [none, none], [zK 1], [(162, 3, zK 1)])] = true := by decide +kernel
set_option maxRecDepth 1000000 in
theorem xi1_1 : nChk0 m_X11_image hTc1 cc1_X_image_1075_e.2.2.1 (xrS hTc1 cc1_X_image_1075_e.2.2.2.2) cc1_X_image_1075_e.2.2.2.2 [] 3000 (xrA (zK 1) []) [(70, [none, none], [zK 1], [(191, 3, zK 1)])] = true := by decide +kernel
theorem ximg_1 : xImgP 1 := xImg_of (c := 1) (e0 := cc1_X_image_1074_e) (e1 := cc1_X_image_1075_e) (by decide +kernel) (by decide +kernel) (by decide +kernel) (by decide +kernel) xi0_1 xi1_1
set_option maxRecDepth 1000000 in
theorem xr0_2 : [0, 1].all (fun k => nChk0 m_X11_restore hTc2 [0, 141, 162, 191] sNo [] [] 3000 (xrA (zK k) [(162 + 29 * k, 3, zK 0)]) [(22, [none, none], [zK 0], [])]) = true := by decide +kernel
set_option maxRecDepth 1000000 in
theorem xr1_2 : [0, 1].all (fun k => nChk0 m_X11_restore hTc2 cc2_X_restore_503_e.2.2.1 (xrS hTc2 cc2_X_restore_503_e.2.2.2.2) cc2_X_restore_503_e.2.2.2.2 [] 3000 (xrA (zK k) [(162 + 29 * k, 3, zK 1)]) [(79, [none, none], [zK 1], [])]) = true := by decide +kernel
theorem xres_2 : xResP 2 := xRes_of (c := 2) (e := cc2_X_restore_503_e) (by decide +kernel) (by decide +kernel) xr0_2 xr1_2
set_option maxRecDepth 1000000 in
theorem xi0_2 : nChk0 m_X11_image hTc2 cc2_X_image_1076_e.2.2.1 (xrS hTc2 cc2_X_image_1076_e.2.2.2.2) cc2_X_image_1076_e.2.2.2.2 [] 3000 (xrA (zK 0) []) [(70, [none, none], [zK 1], [(162, 3, zK 1)])] = true := by decide +kernel
set_option maxRecDepth 1000000 in
theorem xi1_2 : nChk0 m_X11_image hTc2 cc2_X_image_1077_e.2.2.1 (xrS hTc2 cc2_X_image_1077_e.2.2.2.2) cc2_X_image_1077_e.2.2.2.2 [] 3000 (xrA (zK 1) []) [(70, [none, none], [zK 1], [(191, 3, zK 1)])] = true := by decide +kernel
theorem ximg_2 : xImgP 2 := xImg_of (c := 2) (e0 := cc2_X_image_1076_e) (e1 := cc2_X_image_1077_e) (by decide +kernel) (by decide +kernel) (by decide +kernel) (by decide +kernel) xi0_2 xi1_2
set_option maxRecDepth 1000000 in
theorem xr0_3 : [0, 1].all (fun k => nChk0 m_X11_restore hTc3 [0, 141, 162, 191] sNo [] [] 3000 (xrA (zK k) [(162 + 29 * k, 3, zK 0)]) [(22, [none, none], [zK 0], [])]) = true := by decide +kernel
set_option maxRecDepth 1000000 in
theorem xr1_3 : [0, 1].all (fun k => nChk0 m_X11_restore hTc3 cc3_X_restore_570_e.2.2.1 (xrS hTc3 cc3_X_restore_570_e.2.2.2.2) cc3_X_restore_570_e.2.2.2.2 [] 3000 (xrA (zK k) [(162 + 29 * k, 3, zK 1)]) [(79, [none, none], [zK 1], [])]) = true := by decide +kernel
theorem xres_3 : xResP 3 := xRes_of (c := 3) (e := cc3_X_restore_570_e) (by decide +kernel) (by decide +kernel) xr0_3 xr1_3
set_option maxRecDepth 1000000 in
theorem xi0_3 : nChk0 m_X11_image hTc3 cc3_X_image_1078_e.2.2.1 (xrS hTc3 cc3_X_image_1078_e.2.2.2.2) cc3_X_image_1078_e.2.2.2.2 [] 3000 (xrA (zK 0) []) [(70, [none, none], [zK 1], [(162, 3, zK 1)])] = true := by decide +kernel
set_option maxRecDepth 1000000 in
theorem xi1_3 : nChk0 m_X11_image hTc3 cc3_X_image_1079_e.2.2.1 (xrS hTc3 cc3_X_image_1079_e.2.2.2.2) cc3_X_image_1079_e.2.2.2.2 [] 3000 (xrA (zK 1) []) [(70, [none, none], [zK 1], [(191, 3, zK 1)])] = true := by decide +kernel
theorem ximg_3 : xImgP 3 := xImg_of (c := 3) (e0 := cc3_X_image_1078_e) (e1 := cc3_X_image_1079_e) (by decide +kernel) (by decide +kernel) (by decide +kernel) (by decide +kernel) xi0_3 xi1_3
