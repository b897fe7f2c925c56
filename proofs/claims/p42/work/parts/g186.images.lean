/-! ===== image() and restore(): the TOWN ===== -/
theorem int_ty {T : sHp} {pl : List Nat} {hp : List vOb} {k i : Nat} (hk : k ∈ pl) (hb : (match sGo T k with
  | some o => (match sRd o.2.1 i with
    | some c => fInt c
    | none => false)
  | none => false) = true) (hl : (match sGo T k with
  | some o => Nat.blt i (sLen o.2.1)
  | none => false) = true) (h : kTy T pl hp) : ∃ v, hC hp k i (.inl v) := by
  obtain ⟨oT, ob, h1, h2, h3⟩ := h k hk
  rw [h1] at hb hl
  dsimp only at hb hl
  cases hc : sRd oT.2.1 i with
  | none =>
    rw [hc] at hb
    cases hb
  | some c =>
    rw [hc] at hb
    dsimp only at hb
    have hl : i < ob.2.length := by
      rw [h3.2.1.1]
      exact Nat.blt_eq.mp hl
    have h4 := h3.2.1.2 i c _ hc (List.getElem?_eq_getElem hl)
    unfold fInt at hb
    split at hb
    · obtain ⟨u, -, -, e⟩ := h4
      exact ⟨u, ob, h2, by rw [← e]; exact List.getElem?_eq_getElem hl⟩
    · cases hb
theorem nCs_one {hp : List vOb} {k i n : Nat} (hn : n < 4294967296) (h : hC hp k i (.inl n)) : nCs [] hp [(k, i, zK n)] := fun c hc => by
  rw [List.mem_singleton] at hc
  subst hc
  exact ⟨_, h, hn, rfl⟩
set_option maxRecDepth 1000000 in
theorem im_f4 : [0, 1].all (fun k => nChk0 m_X12_image hW plI sNo [(246, 24 * k, 24 * k + 23), (247, k, k)] [18] 3000 (18, cpL k 323, [], []) [(88, [none, none, none], [zK 1], [(247, k, zK 1)])]) = true := by decide +kernel
theorem image_f {d k : Nat} (hd : 13 ≤ d) (hk : k ∈ [0, 1]) {hp : List vOb} (hty : kTy hT plI hp) : ∃ r hp', (∃ N, ∀ fuel, N ≤ fuel → vCalD vms vdf fuel (d + 1) 282 [zO, .inl k] hp = some (r, hp', 0, 0)) ∧ sFr (imF k) hp hp' ∧ hC hp' 247 k (.inl 1) := by
  refine kEnd_cal hM_image (show 2 ≤ 3 by omega) rfl rfl ?_
  have hk2 : k < 2 := by simp at hk; omega
  obtain ⟨κ1, a2, a3, a4⟩ := n_one (d := d) (κ := (0, [some zO, some (.inl k), none], [], hp)) (isS_ok hd) (List.all_eq_true.mp im_k1 k hk) ⟨rfl, nLr_this ⟨fun c hc => by cases hc; exact ⟨_, rfl, by omega, rfl⟩, nLr_none trivial⟩, trivial, kW_of hT_hW hp hty, nCs_nil⟩
  obtain ⟨pc1, kl1, ks1, hp1⟩ := κ1
  have e1 : pc1 = 18 := a4.1
  subst e1
  have e2 := nAr_eq (as := []) rfl a4.2.2.1
  dsimp only at e2
  subst e2
  have hchk : (List.range 323).all (fun i => nChk m_X12_image hW plI gF sNo (cpM 245 (323 * k) i) [18] 3000 (18, cpL k i, [], [(222, 0 + i, zY 0)]) [(18, cpL k (i + 1), [], [(245, 323 * k + i, zY 0)])]) = true := by
    have : k = 0 ∨ k = 1 := by omega
    rcases this with rfl | rfl
    · exact im_k2
    · exact im_k3
  obtain ⟨kl2, hp2, c1, c2, c3, c4, c5⟩ := cp_loop (d := d) (by decide) (by decide) sGo_hW222 (by omega) hchk 323 0 (by omega) a4.2.1 a4.2.2.2.1 (fun j hj => by omega)
  obtain ⟨κ3, b2, b3, b4⟩ := n_one (d := d) (κ := (18, kl2, [], hp2)) (fun hp0 => sNo_ok) (List.all_eq_true.mp im_f4 k hk) ⟨rfl, c2, trivial, c3, nCs_nil⟩
  have F : sFr (imF k) hp κ3.2.2.2 := by
    refine ((a3.mono (fun r i ⟨m, m1, m2⟩ => ?_)).tr (c4.mono (fun r i ⟨m, m1, m2⟩ => ?_))).tr (b3.mono (fun r i ⟨m, m1, m2⟩ => ?_))
    · rw [List.mem_singleton] at m1
      exact ⟨m, by rw [m1]; unfold imF; simp, m2⟩
    · rw [List.mem_singleton] at m1
      exact ⟨m, by rw [m1]; unfold imF; simp, m2⟩
    · refine ⟨m, ?_, m2⟩
      unfold imF
      simp only [List.mem_cons, List.not_mem_nil, or_false] at m1 ⊢
      rcases m1 with h | h
      · exact Or.inr (Or.inr (Or.inl h))
      · exact Or.inr (Or.inr (Or.inr h))
  have b5 : nSat hW plI [] (88, [none, none, none], [zK 1], []) κ3 := ⟨b4.1, b4.2.1, b4.2.2.1, b4.2.2.2.1, nCs_nil⟩
  exact kEnd.of a2 (kEnd.of c1 (kEnd.of b2 (n_ret im_r b5 (fun kr hkr => ⟨F, nSat_cell (n := 1) b4 List.mem_cons_self⟩))))
set_option maxRecDepth 1000000 in
theorem re_f0 : [0, 1].all (fun k => nChk0 m_X12_restore hW plI (isS [(220, 0, 0)]) [(220, 0, 0)] [27] 3000 (0, [some zT, some (zK k), none], [], [(247, k, zK 0)]) [(24, [none, none, none], [zK 0], [])]) = true := by decide +kernel
set_option maxRecDepth 1000000 in
theorem re_f1 : [0, 1].all (fun k => nChk0 m_X12_restore hW plI (isS [(220, 0, 0)]) [(220, 0, 0)] [27] 3000 (0, [some zT, some (zK k), none], [], [(247, k, zK 1)]) [(27, cpL k 0, [], [])]) = true := by decide +kernel
set_option maxRecDepth 1000000 in
theorem re_fr : (nRet m_X12_restore (95, [none, none, none], [zK 1], []) (some (zS 1 1)) && nRet m_X12_restore (24, [none, none, none], [zK 0], []) (some (zS 0 0))) = true := by decide +kernel
theorem restore_f0 {d k : Nat} (hd : 13 ≤ d) (hk : k ∈ [0, 1]) {hp : List vOb} (hty : kTy hT plI hp) (hf : hC hp 247 k (.inl 0)) : ∃ r hp', (∃ N, ∀ fuel, N ≤ fuel → vCalD vms vdf fuel (d + 1) 284 [zO, .inl k] hp = some (r, hp', 0, 0)) ∧ r = some (.inl 0) ∧ sFr [(220, 0, 0)] hp hp' := by
  refine kEnd_cal hM_restore (show 2 ≤ 3 by omega) rfl rfl ?_
  have hk2 : k < 2 := by simp at hk; omega
  obtain ⟨κ1, a2, a3, a4⟩ := n_one (d := d) (κ := (0, [some zO, some (.inl k), none], [], hp)) (isS_ok hd) (List.all_eq_true.mp re_f0 k hk) ⟨rfl, nLr_this ⟨fun c hc => by cases hc; exact ⟨_, rfl, by omega, rfl⟩, nLr_none trivial⟩, trivial, kW_of hT_hW hp hty, nCs_one (by omega) hf⟩
  exact kEnd.of a2 (n_ret (and2 re_fr).2 a4 (fun kr hkr => ⟨zRt (n := 0) (by decide) hkr, a3⟩))
theorem restore_f1x {d k : Nat} (hd : 13 ≤ d) (hk : k ∈ [0, 1]) {hp : List vOb} (hty : kTy hT plI hp) (hf : hC hp 247 k (.inl 1)) : ∃ r hp', (∃ N, ∀ fuel, N ≤ fuel → vCalD vms vdf fuel (d + 1) 284 [zO, .inl k] hp = some (r, hp', 0, 0)) ∧ r = some (.inl 1) ∧ sFr reF hp hp' ∧ ∀ j, j < 323 → ∀ q, hC hp 245 (323 * k + j) (.inl q) → hC hp' 222 j (.inl q) := by
  refine kEnd_cal hM_restore (show 2 ≤ 3 by omega) rfl rfl ?_
  have hk2 : k < 2 := by simp at hk; omega
  obtain ⟨κ1, a2, a3, a4⟩ := n_one (d := d) (κ := (0, [some zO, some (.inl k), none], [], hp)) (isS_ok hd) (List.all_eq_true.mp re_f1 k hk) ⟨rfl, nLr_this ⟨fun c hc => by cases hc; exact ⟨_, rfl, by omega, rfl⟩, nLr_none trivial⟩, trivial, kW_of hT_hW hp hty, nCs_one (by omega) hf⟩
  obtain ⟨pc1, kl1, ks1, hp1⟩ := κ1
  have e1 : pc1 = 27 := a4.1
  subst e1
  have e2 := nAr_eq (as := []) rfl a4.2.2.1
  dsimp only at e2
  subst e2
  have hchk : (List.range 323).all (fun i => nChk m_X12_restore hW plI gF sNo (cpM 222 0 i) [27] 3000 (27, cpL k i, [], [(245, 323 * k + i, zY 0)]) [(27, cpL k (i + 1), [], [(222, 0 + i, zY 0)])]) = true := by
    have : k = 0 ∨ k = 1 := by omega
    rcases this with rfl | rfl
    · exact re_k2
    · exact re_k3
  obtain ⟨kl2, hp2, c1, c2, c3, c4, c5⟩ := cp_loop (d := d) (by decide) (by decide) sGo_hW245 (by omega) hchk 323 0 (by omega) a4.2.1 a4.2.2.2.1 (fun j hj => by omega)
  obtain ⟨κ3, b2, b3, b4⟩ := n_one (d := d) (κ := (27, kl2, [], hp2)) (fun hp0 => sNo_ok) (List.all_eq_true.mp re_k4 k hk) ⟨rfl, c2, trivial, c3, nCs_nil⟩
  have F : sFr reF hp κ3.2.2.2 := ((a3.mono (sMsub_ok (by decide))).tr (c4.mono (sMsub_ok (by decide)))).tr (b3.mono (sMsub_ok (by decide)))
  refine kEnd.of a2 (kEnd.of c1 (kEnd.of b2 (n_ret (and2 re_fr).1 b4 (fun kr hkr => ⟨zRt (n := 1) (by decide) hkr, F, fun j hj q hq => ?_⟩))))
  have h1 := c5 j hj q (hC_fr a3 (sMnot_ok rfl) hq)
  rw [Nat.zero_add] at h1
  exact hC_fr b3 (sMnot_ok rfl) h1
def xrA (k : sC) (f : List (Nat × Nat × sC)) : nN := (0, [some (yO 0), some k], [], f)
def xrR : sC := .inr [(0, 2147483647), (2147483650, 4294967295)]
theorem hM_xrestore : vms[283]? = some m_X11_restore := by rw [← vNth_eq]; rfl
set_option maxRecDepth 1000000 in
theorem xr_ret : (nRet m_X11_restore (79, [none, none], [zK 1], []) (some (zS 1 1)) && nRet m_X11_restore (22, [none, none], [zK 0], []) (some (zS 0 0))) = true := by decide +kernel
set_option maxRecDepth 1000000 in
theorem xr_hi : nChk0 m_X11_restore hT [] sNo [] [] 3000 (xrA xrR []) [(22, [none, none], [zK 0], [])] = true := by decide +kernel
theorem xr_lr {k : sC} {w : Nat} (h : sCr [] k (.inl w)) : nLr [] [some (yO 0), some k] [some (yV 0), some (.inl w)] := ⟨fun c hc => by cases hc; exact ⟨_, rfl, rfl⟩, fun c hc => by cases hc; exact ⟨_, rfl, h⟩, trivial⟩
theorem xr_one {T : sHp} {pl : List Nat} {scal : sCal} {md : sMd} {k : sC} {fs : List (Nat × Nat × sC)} {w pc n : Nat} {hp : List vOb} (hs : ∀ hp0, sCalOK vms vdf 59 md hp0 scal) (hk : nChk0 m_X11_restore T pl scal md [] 3000 (xrA k fs) [(pc, [none, none], [zK n], [])] = true) (hr : nRet m_X11_restore (pc, [none, none], [zK n], []) (some (zS n n)) = true) (hn : n < 2) (hw : sCr [] k (.inl w)) (hty : kTy T pl hp) (hf : nCs [] hp fs) : ∃ hp', (∃ N, ∀ fuel, N ≤ fuel → vCalD vms vdf fuel 60 283 [yV 0, .inl w] hp = some (some (.inl n), hp', 0, 0)) ∧ sFr md hp hp' := by
  obtain ⟨κ1, a2, a3, a4⟩ := n_one (d := 59) (κ := (0, [some (yV 0), some (.inl w)], [], hp)) hs hk ⟨rfl, xr_lr hw, trivial, hty, hf⟩
  have hend : kEnd vms vdf 59 m_X11_restore (0, vEnt [yV 0, .inl w] m_X11_restore.2.2.1, [], hp) (fun kr hp9 => kr = some (.inl n) ∧ sFr md hp hp9) := kEnd.of a2 (n_ret hr a4 (fun kr hkr => ⟨zRt (by omega) hkr, a3⟩))
  obtain ⟨kr, hp', h1, h2, h3⟩ := kEnd_cal hM_xrestore (show (vArgs [yV 0, .inl w]).length ≤ 2 from (by decide : 2 ≤ 2)) rfl rfl hend
  subst h2
  exact ⟨hp', h1, h3⟩
set_option maxRecDepth 100000 in
theorem iq_a0 : ([(0, 88, 19), (31, 64, 9), (49, 56, 12), (55, 56, 12), (67, 40, 3), (141, 13, 2), (162, 8, 4), (191, 8, 4), (163, 72, 19), (192, 72, 19), (176, 64, 9), (205, 64, 9), (185, 56, 12), (214, 56, 12)] : List (Nat × Nat × Nat)).all (fun e => sStop e.1 plC && (match sGo hTc0 e.1 with
  | some o => Nat.beq o.1 e.2.1 && Nat.beq (sLen o.2.1) e.2.2
  | none => false)) = true := by decide +kernel
set_option maxRecDepth 100000 in
theorem iq_t0_4 : (shT 4).all (fun e => sStop e.1 plC && (match sGo hTc0 e.1 with
  | some o => Nat.beq o.1 e.2.1 && Nat.beq (sLen o.2.1) e.2.2
  | none => false)) = true := by decide +kernel
set_option maxRecDepth 100000 in
theorem iq_t0_17 : (shT 17).all (fun e => sStop e.1 plC && (match sGo hTc0 e.1 with
  | some o => Nat.beq o.1 e.2.1 && Nat.beq (sLen o.2.1) e.2.2
  | none => false)) = true := by decide +kernel
set_option maxRecDepth 100000 in
theorem iq_t0_163 : (shT 163).all (fun e => sStop e.1 plC && (match sGo hTc0 e.1 with
  | some o => Nat.beq o.1 e.2.1 && Nat.beq (sLen o.2.1) e.2.2
  | none => false)) = true := by decide +kernel
set_option maxRecDepth 100000 in
theorem iq_t0_192 : (shT 192).all (fun e => sStop e.1 plC && (match sGo hTc0 e.1 with
  | some o => Nat.beq o.1 e.2.1 && Nat.beq (sLen o.2.1) e.2.2
  | none => false)) = true := by decide +kernel
theorem IQ_0 {hp : List vOb} (hty : kTy hTc0 plC hp) : IQ 4 49 hp := by
  refine ⟨eSh_ty iq_a0 hty, eSh_ty iq_t0_4 hty, eSh_ty iq_t0_17 hty, eSh_ty iq_t0_163 hty, eSh_ty iq_t0_192 hty, ⟨⟨(ref_ty (T := hTc0) (plC_in (by decide)) rfl rfl hty), (ref_ty (T := hTc0) (plC_in (by decide)) rfl rfl hty), (ref_ty (T := hTc0) (plC_in (by decide)) rfl rfl hty), (ref_ty (T := hTc0) (plC_in (by decide)) rfl rfl hty), (ref_ty (T := hTc0) (plC_in (by decide)) rfl rfl hty), (ref_ty (T := hTc0) (plC_in (by decide)) rfl rfl hty), (ref_ty (T := hTc0) (plC_in (by decide)) rfl rfl hty), (ref_ty (T := hTc0) (plC_in (by decide)) rfl rfl hty), (ref_ty (T := hTc0) (plC_in (by decide)) rfl rfl hty), (ref_ty (T := hTc0) (plC_in (by decide)) rfl rfl hty), (ref_ty (T := hTc0) (plC_in (by decide)) rfl rfl hty), (ref_ty (T := hTc0) (plC_in (by decide)) rfl rfl hty)⟩, ⟨(ref_ty (T := hTc0) (plC_in (by decide)) rfl rfl hty), (ref_ty (T := hTc0) (plC_in (by decide)) rfl rfl hty), (ref_ty (T := hTc0) (plC_in (by decide)) rfl rfl hty), (ref_ty (T := hTc0) (plC_in (by decide)) rfl rfl hty), (ref_ty (T := hTc0) (plC_in (by decide)) rfl rfl hty), (ref_ty (T := hTc0) (plC_in (by decide)) rfl rfl hty), (ref_ty (T := hTc0) (plC_in (by decide)) rfl rfl hty), (ref_ty (T := hTc0) (plC_in (by decide)) rfl rfl hty), (ref_ty (T := hTc0) (plC_in (by decide)) rfl rfl hty), (ref_ty (T := hTc0) (plC_in (by decide)) rfl rfl hty), (ref_ty (T := hTc0) (plC_in (by decide)) rfl rfl hty), (ref_ty (T := hTc0) (plC_in (by decide)) rfl rfl hty)⟩, ⟨(ref_ty (T := hTc0) (plC_in (by decide)) rfl rfl hty), (ref_ty (T := hTc0) (plC_in (by decide)) rfl rfl hty), (ref_ty (T := hTc0) (plC_in (by decide)) rfl rfl hty), (ref_ty (T := hTc0) (plC_in (by decide)) rfl rfl hty), (ref_ty (T := hTc0) (plC_in (by decide)) rfl rfl hty), (ref_ty (T := hTc0) (plC_in (by decide)) rfl rfl hty), (ref_ty (T := hTc0) (plC_in (by decide)) rfl rfl hty), (ref_ty (T := hTc0) (plC_in (by decide)) rfl rfl hty), (ref_ty (T := hTc0) (plC_in (by decide)) rfl rfl hty), (ref_ty (T := hTc0) (plC_in (by decide)) rfl rfl hty), (ref_ty (T := hTc0) (plC_in (by decide)) rfl rfl hty), (ref_ty (T := hTc0) (plC_in (by decide)) rfl rfl hty)⟩, ⟨(ref_ty (T := hTc0) (plC_in (by decide)) rfl rfl hty), (ref_ty (T := hTc0) (plC_in (by decide)) rfl rfl hty), (ref_ty (T := hTc0) (plC_in (by decide)) rfl rfl hty), (ref_ty (T := hTc0) (plC_in (by decide)) rfl rfl hty), (ref_ty (T := hTc0) (plC_in (by decide)) rfl rfl hty), (ref_ty (T := hTc0) (plC_in (by decide)) rfl rfl hty), (ref_ty (T := hTc0) (plC_in (by decide)) rfl rfl hty), (ref_ty (T := hTc0) (plC_in (by decide)) rfl rfl hty), (ref_ty (T := hTc0) (plC_in (by decide)) rfl rfl hty), (ref_ty (T := hTc0) (plC_in (by decide)) rfl rfl hty), (ref_ty (T := hTc0) (plC_in (by decide)) rfl rfl hty), (ref_ty (T := hTc0) (plC_in (by decide)) rfl rfl hty)⟩⟩, ⟨(ref_ty (T := hTc0) (plC_in (by decide)) rfl rfl hty), (ref_ty (T := hTc0) (plC_in (by decide)) rfl rfl hty), (ref_ty (T := hTc0) (plC_in (by decide)) rfl rfl hty), (ref_ty (T := hTc0) (plC_in (by decide)) rfl rfl hty), (ref_ty (T := hTc0) (plC_in (by decide)) rfl rfl hty)⟩, ⟨(ref_ty (T := hTc0) (plC_in (by decide)) rfl rfl hty), (ref_ty (T := hTc0) (plC_in (by decide)) rfl rfl hty)⟩, ⟨(ref_ty (T := hTc0) (plC_in (by decide)) rfl rfl hty), (ref_ty (T := hTc0) (plC_in (by decide)) rfl rfl hty), (ref_ty (T := hTc0) (plC_in (by decide)) rfl rfl hty)⟩, ⟨(ref_ty (T := hTc0) (plC_in (by decide)) rfl rfl hty), (ref_ty (T := hTc0) (plC_in (by decide)) rfl rfl hty), (ref_ty (T := hTc0) (plC_in (by decide)) rfl rfl hty)⟩, (kTy_cons (show tSame 0 [31, 32, 33, 34, 35, 36, 37, 38, 39, 49, 50, 51, 52, 55, 56, 57, 58, 176, 177, 178, 179, 180, 181, 182, 183, 184, 185, 186, 187, 188, 205, 206, 207, 208, 209, 210, 211, 212, 213, 214, 215, 216, 217] = true by decide)).mp (kTy_sub (plC_mem (by decide)) hty), fun k hk => ?_⟩
  simp only [List.mem_cons, List.not_mem_nil, or_false] at hk
  rcases hk with rfl | rfl | rfl | rfl
  · exact int_ty (T := hTc0) (i := 18) (plC_in (by decide)) rfl rfl hty
  · exact int_ty (T := hTc0) (i := 18) (plC_in (by decide)) rfl rfl hty
  · exact int_ty (T := hTc0) (i := 18) (plC_in (by decide)) rfl rfl hty
  · exact int_ty (T := hTc0) (i := 18) (plC_in (by decide)) rfl rfl hty
set_option maxRecDepth 100000 in
theorem iq_a1 : ([(0, 88, 19), (31, 64, 9), (49, 56, 12), (55, 56, 12), (67, 40, 3), (141, 13, 2), (162, 8, 4), (191, 8, 4), (163, 72, 19), (192, 72, 19), (176, 64, 9), (205, 64, 9), (185, 56, 12), (214, 56, 12)] : List (Nat × Nat × Nat)).all (fun e => sStop e.1 plC && (match sGo hTc1 e.1 with
  | some o => Nat.beq o.1 e.2.1 && Nat.beq (sLen o.2.1) e.2.2
  | none => false)) = true := by decide +kernel
set_option maxRecDepth 100000 in
theorem iq_t1_4 : (shT 4).all (fun e => sStop e.1 plC && (match sGo hTc1 e.1 with
  | some o => Nat.beq o.1 e.2.1 && Nat.beq (sLen o.2.1) e.2.2
  | none => false)) = true := by decide +kernel
set_option maxRecDepth 100000 in
theorem iq_t1_17 : (shT 17).all (fun e => sStop e.1 plC && (match sGo hTc1 e.1 with
  | some o => Nat.beq o.1 e.2.1 && Nat.beq (sLen o.2.1) e.2.2
  | none => false)) = true := by decide +kernel
set_option maxRecDepth 100000 in
theorem iq_t1_163 : (shT 163).all (fun e => sStop e.1 plC && (match sGo hTc1 e.1 with
  | some o => Nat.beq o.1 e.2.1 && Nat.beq (sLen o.2.1) e.2.2
  | none => false)) = true := by decide +kernel
set_option maxRecDepth 100000 in
theorem iq_t1_192 : (shT 192).all (fun e => sStop e.1 plC && (match sGo hTc1 e.1 with
  | some o => Nat.beq o.1 e.2.1 && Nat.beq (sLen o.2.1) e.2.2
  | none => false)) = true := by decide +kernel
theorem IQ_1 {hp : List vOb} (hty : kTy hTc1 plC hp) : IQ 17 49 hp := by
  refine ⟨eSh_ty iq_a1 hty, eSh_ty iq_t1_4 hty, eSh_ty iq_t1_17 hty, eSh_ty iq_t1_163 hty, eSh_ty iq_t1_192 hty, ⟨⟨(ref_ty (T := hTc1) (plC_in (by decide)) rfl rfl hty), (ref_ty (T := hTc1) (plC_in (by decide)) rfl rfl hty), (ref_ty (T := hTc1) (plC_in (by decide)) rfl rfl hty), (ref_ty (T := hTc1) (plC_in (by decide)) rfl rfl hty), (ref_ty (T := hTc1) (plC_in (by decide)) rfl rfl hty), (ref_ty (T := hTc1) (plC_in (by decide)) rfl rfl hty), (ref_ty (T := hTc1) (plC_in (by decide)) rfl rfl hty), (ref_ty (T := hTc1) (plC_in (by decide)) rfl rfl hty), (ref_ty (T := hTc1) (plC_in (by decide)) rfl rfl hty), (ref_ty (T := hTc1) (plC_in (by decide)) rfl rfl hty), (ref_ty (T := hTc1) (plC_in (by decide)) rfl rfl hty), (ref_ty (T := hTc1) (plC_in (by decide)) rfl rfl hty)⟩, ⟨(ref_ty (T := hTc1) (plC_in (by decide)) rfl rfl hty), (ref_ty (T := hTc1) (plC_in (by decide)) rfl rfl hty), (ref_ty (T := hTc1) (plC_in (by decide)) rfl rfl hty), (ref_ty (T := hTc1) (plC_in (by decide)) rfl rfl hty), (ref_ty (T := hTc1) (plC_in (by decide)) rfl rfl hty), (ref_ty (T := hTc1) (plC_in (by decide)) rfl rfl hty), (ref_ty (T := hTc1) (plC_in (by decide)) rfl rfl hty), (ref_ty (T := hTc1) (plC_in (by decide)) rfl rfl hty), (ref_ty (T := hTc1) (plC_in (by decide)) rfl rfl hty), (ref_ty (T := hTc1) (plC_in (by decide)) rfl rfl hty), (ref_ty (T := hTc1) (plC_in (by decide)) rfl rfl hty), (ref_ty (T := hTc1) (plC_in (by decide)) rfl rfl hty)⟩, ⟨(ref_ty (T := hTc1) (plC_in (by decide)) rfl rfl hty), (ref_ty (T := hTc1) (plC_in (by decide)) rfl rfl hty), (ref_ty (T := hTc1) (plC_in (by decide)) rfl rfl hty), (ref_ty (T := hTc1) (plC_in (by decide)) rfl rfl hty), (ref_ty (T := hTc1) (plC_in (by decide)) rfl rfl hty), (ref_ty (T := hTc1) (plC_in (by decide)) rfl rfl hty), (ref_ty (T := hTc1) (plC_in (by decide)) rfl rfl hty), (ref_ty (T := hTc1) (plC_in (by decide)) rfl rfl hty), (ref_ty (T := hTc1) (plC_in (by decide)) rfl rfl hty), (ref_ty (T := hTc1) (plC_in (by decide)) rfl rfl hty), (ref_ty (T := hTc1) (plC_in (by decide)) rfl rfl hty), (ref_ty (T := hTc1) (plC_in (by decide)) rfl rfl hty)⟩, ⟨(ref_ty (T := hTc1) (plC_in (by decide)) rfl rfl hty), (ref_ty (T := hTc1) (plC_in (by decide)) rfl rfl hty), (ref_ty (T := hTc1) (plC_in (by decide)) rfl rfl hty), (ref_ty (T := hTc1) (plC_in (by decide)) rfl rfl hty), (ref_ty (T := hTc1) (plC_in (by decide)) rfl rfl hty), (ref_ty (T := hTc1) (plC_in (by decide)) rfl rfl hty), (ref_ty (T := hTc1) (plC_in (by decide)) rfl rfl hty), (ref_ty (T := hTc1) (plC_in (by decide)) rfl rfl hty), (ref_ty (T := hTc1) (plC_in (by decide)) rfl rfl hty), (ref_ty (T := hTc1) (plC_in (by decide)) rfl rfl hty), (ref_ty (T := hTc1) (plC_in (by decide)) rfl rfl hty), (ref_ty (T := hTc1) (plC_in (by decide)) rfl rfl hty)⟩⟩, ⟨(ref_ty (T := hTc1) (plC_in (by decide)) rfl rfl hty), (ref_ty (T := hTc1) (plC_in (by decide)) rfl rfl hty), (ref_ty (T := hTc1) (plC_in (by decide)) rfl rfl hty), (ref_ty (T := hTc1) (plC_in (by decide)) rfl rfl hty), (ref_ty (T := hTc1) (plC_in (by decide)) rfl rfl hty)⟩, ⟨(ref_ty (T := hTc1) (plC_in (by decide)) rfl rfl hty), (ref_ty (T := hTc1) (plC_in (by decide)) rfl rfl hty)⟩, ⟨(ref_ty (T := hTc1) (plC_in (by decide)) rfl rfl hty), (ref_ty (T := hTc1) (plC_in (by decide)) rfl rfl hty), (ref_ty (T := hTc1) (plC_in (by decide)) rfl rfl hty)⟩, ⟨(ref_ty (T := hTc1) (plC_in (by decide)) rfl rfl hty), (ref_ty (T := hTc1) (plC_in (by decide)) rfl rfl hty), (ref_ty (T := hTc1) (plC_in (by decide)) rfl rfl hty)⟩, (kTy_cons (show tSame 0 [31, 32, 33, 34, 35, 36, 37, 38, 39, 49, 50, 51, 52, 55, 56, 57, 58, 176, 177, 178, 179, 180, 181, 182, 183, 184, 185, 186, 187, 188, 205, 206, 207, 208, 209, 210, 211, 212, 213, 214, 215, 216, 217] = true by decide)).mp (kTy_sub (plC_mem (by decide)) hty), fun k hk => ?_⟩
  simp only [List.mem_cons, List.not_mem_nil, or_false] at hk
  rcases hk with rfl | rfl | rfl | rfl
  · exact int_ty (T := hTc1) (i := 18) (plC_in (by decide)) rfl rfl hty
  · exact int_ty (T := hTc1) (i := 18) (plC_in (by decide)) rfl rfl hty
  · exact int_ty (T := hTc1) (i := 18) (plC_in (by decide)) rfl rfl hty
  · exact int_ty (T := hTc1) (i := 18) (plC_in (by decide)) rfl rfl hty
set_option maxRecDepth 100000 in
theorem iq_a2 : ([(0, 88, 19), (31, 64, 9), (49, 56, 12), (55, 56, 12), (67, 40, 3), (141, 13, 2), (162, 8, 4), (191, 8, 4), (163, 72, 19), (192, 72, 19), (176, 64, 9), (205, 64, 9), (185, 56, 12), (214, 56, 12)] : List (Nat × Nat × Nat)).all (fun e => sStop e.1 plC && (match sGo hTc2 e.1 with
  | some o => Nat.beq o.1 e.2.1 && Nat.beq (sLen o.2.1) e.2.2
  | none => false)) = true := by decide +kernel
set_option maxRecDepth 100000 in
theorem iq_t2_4 : (shT 4).all (fun e => sStop e.1 plC && (match sGo hTc2 e.1 with
  | some o => Nat.beq o.1 e.2.1 && Nat.beq (sLen o.2.1) e.2.2
  | none => false)) = true := by decide +kernel
set_option maxRecDepth 100000 in
theorem iq_t2_17 : (shT 17).all (fun e => sStop e.1 plC && (match sGo hTc2 e.1 with
  | some o => Nat.beq o.1 e.2.1 && Nat.beq (sLen o.2.1) e.2.2
  | none => false)) = true := by decide +kernel
set_option maxRecDepth 100000 in
theorem iq_t2_163 : (shT 163).all (fun e => sStop e.1 plC && (match sGo hTc2 e.1 with
  | some o => Nat.beq o.1 e.2.1 && Nat.beq (sLen o.2.1) e.2.2
  | none => false)) = true := by decide +kernel
set_option maxRecDepth 100000 in
theorem iq_t2_192 : (shT 192).all (fun e => sStop e.1 plC && (match sGo hTc2 e.1 with
  | some o => Nat.beq o.1 e.2.1 && Nat.beq (sLen o.2.1) e.2.2
  | none => false)) = true := by decide +kernel
theorem IQ_2 {hp : List vOb} (hty : kTy hTc2 plC hp) : IQ 4 55 hp := by
  refine ⟨eSh_ty iq_a2 hty, eSh_ty iq_t2_4 hty, eSh_ty iq_t2_17 hty, eSh_ty iq_t2_163 hty, eSh_ty iq_t2_192 hty, ⟨⟨(ref_ty (T := hTc2) (plC_in (by decide)) rfl rfl hty), (ref_ty (T := hTc2) (plC_in (by decide)) rfl rfl hty), (ref_ty (T := hTc2) (plC_in (by decide)) rfl rfl hty), (ref_ty (T := hTc2) (plC_in (by decide)) rfl rfl hty), (ref_ty (T := hTc2) (plC_in (by decide)) rfl rfl hty), (ref_ty (T := hTc2) (plC_in (by decide)) rfl rfl hty), (ref_ty (T := hTc2) (plC_in (by decide)) rfl rfl hty), (ref_ty (T := hTc2) (plC_in (by decide)) rfl rfl hty), (ref_ty (T := hTc2) (plC_in (by decide)) rfl rfl hty), (ref_ty (T := hTc2) (plC_in (by decide)) rfl rfl hty), (ref_ty (T := hTc2) (plC_in (by decide)) rfl rfl hty), (ref_ty (T := hTc2) (plC_in (by decide)) rfl rfl hty)⟩, ⟨(ref_ty (T := hTc2) (plC_in (by decide)) rfl rfl hty), (ref_ty (T := hTc2) (plC_in (by decide)) rfl rfl hty), (ref_ty (T := hTc2) (plC_in (by decide)) rfl rfl hty), (ref_ty (T := hTc2) (plC_in (by decide)) rfl rfl hty), (ref_ty (T := hTc2) (plC_in (by decide)) rfl rfl hty), (ref_ty (T := hTc2) (plC_in (by decide)) rfl rfl hty), (ref_ty (T := hTc2) (plC_in (by decide)) rfl rfl hty), (ref_ty (T := hTc2) (plC_in (by decide)) rfl rfl hty), (ref_ty (T := hTc2) (plC_in (by decide)) rfl rfl hty), (ref_ty (T := hTc2) (plC_in (by decide)) rfl rfl hty), (ref_ty (T := hTc2) (plC_in (by decide)) rfl rfl hty), (ref_ty (T := hTc2) (plC_in (by decide)) rfl rfl hty)⟩, ⟨(ref_ty (T := hTc2) (plC_in (by decide)) rfl rfl hty), (ref_ty (T := hTc2) (plC_in (by decide)) rfl rfl hty), (ref_ty (T := hTc2) (plC_in (by decide)) rfl rfl hty), (ref_ty (T := hTc2) (plC_in (by decide)) rfl rfl hty), (ref_ty (T := hTc2) (plC_in (by decide)) rfl rfl hty), (ref_ty (T := hTc2) (plC_in (by decide)) rfl rfl hty), (ref_ty (T := hTc2) (plC_in (by decide)) rfl rfl hty), (ref_ty (T := hTc2) (plC_in (by decide)) rfl rfl hty), (ref_ty (T := hTc2) (plC_in (by decide)) rfl rfl hty), (ref_ty (T := hTc2) (plC_in (by decide)) rfl rfl hty), (ref_ty (T := hTc2) (plC_in (by decide)) rfl rfl hty), (ref_ty (T := hTc2) (plC_in (by decide)) rfl rfl hty)⟩, ⟨(ref_ty (T := hTc2) (plC_in (by decide)) rfl rfl hty), (ref_ty (T := hTc2) (plC_in (by decide)) rfl rfl hty), (ref_ty (T := hTc2) (plC_in (by decide)) rfl rfl hty), (ref_ty (T := hTc2) (plC_in (by decide)) rfl rfl hty), (ref_ty (T := hTc2) (plC_in (by decide)) rfl rfl hty), (ref_ty (T := hTc2) (plC_in (by decide)) rfl rfl hty), (ref_ty (T := hTc2) (plC_in (by decide)) rfl rfl hty), (ref_ty (T := hTc2) (plC_in (by decide)) rfl rfl hty), (ref_ty (T := hTc2) (plC_in (by decide)) rfl rfl hty), (ref_ty (T := hTc2) (plC_in (by decide)) rfl rfl hty), (ref_ty (T := hTc2) (plC_in (by decide)) rfl rfl hty), (ref_ty (T := hTc2) (plC_in (by decide)) rfl rfl hty)⟩⟩, ⟨(ref_ty (T := hTc2) (plC_in (by decide)) rfl rfl hty), (ref_ty (T := hTc2) (plC_in (by decide)) rfl rfl hty), (ref_ty (T := hTc2) (plC_in (by decide)) rfl rfl hty), (ref_ty (T := hTc2) (plC_in (by decide)) rfl rfl hty), (ref_ty (T := hTc2) (plC_in (by decide)) rfl rfl hty)⟩, ⟨(ref_ty (T := hTc2) (plC_in (by decide)) rfl rfl hty), (ref_ty (T := hTc2) (plC_in (by decide)) rfl rfl hty)⟩, ⟨(ref_ty (T := hTc2) (plC_in (by decide)) rfl rfl hty), (ref_ty (T := hTc2) (plC_in (by decide)) rfl rfl hty), (ref_ty (T := hTc2) (plC_in (by decide)) rfl rfl hty)⟩, ⟨(ref_ty (T := hTc2) (plC_in (by decide)) rfl rfl hty), (ref_ty (T := hTc2) (plC_in (by decide)) rfl rfl hty), (ref_ty (T := hTc2) (plC_in (by decide)) rfl rfl hty)⟩, (kTy_cons (show tSame 0 [31, 32, 33, 34, 35, 36, 37, 38, 39, 49, 50, 51, 52, 55, 56, 57, 58, 176, 177, 178, 179, 180, 181, 182, 183, 184, 185, 186, 187, 188, 205, 206, 207, 208, 209, 210, 211, 212, 213, 214, 215, 216, 217] = true by decide)).mp (kTy_sub (plC_mem (by decide)) hty), fun k hk => ?_⟩
  simp only [List.mem_cons, List.not_mem_nil, or_false] at hk
  rcases hk with rfl | rfl | rfl | rfl
  · exact int_ty (T := hTc2) (i := 18) (plC_in (by decide)) rfl rfl hty
  · exact int_ty (T := hTc2) (i := 18) (plC_in (by decide)) rfl rfl hty
  · exact int_ty (T := hTc2) (i := 18) (plC_in (by decide)) rfl rfl hty
  · exact int_ty (T := hTc2) (i := 18) (plC_in (by decide)) rfl rfl hty
set_option maxRecDepth 100000 in
theorem iq_a3 : ([(0, 88, 19), (31, 64, 9), (49, 56, 12), (55, 56, 12), (67, 40, 3), (141, 13, 2), (162, 8, 4), (191, 8, 4), (163, 72, 19), (192, 72, 19), (176, 64, 9), (205, 64, 9), (185, 56, 12), (214, 56, 12)] : List (Nat × Nat × Nat)).all (fun e => sStop e.1 plC && (match sGo hTc3 e.1 with
  | some o => Nat.beq o.1 e.2.1 && Nat.beq (sLen o.2.1) e.2.2
  | none => false)) = true := by decide +kernel
set_option maxRecDepth 100000 in
theorem iq_t3_4 : (shT 4).all (fun e => sStop e.1 plC && (match sGo hTc3 e.1 with
  | some o => Nat.beq o.1 e.2.1 && Nat.beq (sLen o.2.1) e.2.2
  | none => false)) = true := by decide +kernel
set_option maxRecDepth 100000 in
theorem iq_t3_17 : (shT 17).all (fun e => sStop e.1 plC && (match sGo hTc3 e.1 with
  | some o => Nat.beq o.1 e.2.1 && Nat.beq (sLen o.2.1) e.2.2
  | none => false)) = true := by decide +kernel
set_option maxRecDepth 100000 in
theorem iq_t3_163 : (shT 163).all (fun e => sStop e.1 plC && (match sGo hTc3 e.1 with
  | some o => Nat.beq o.1 e.2.1 && Nat.beq (sLen o.2.1) e.2.2
  | none => false)) = true := by decide +kernel
set_option maxRecDepth 100000 in
theorem iq_t3_192 : (shT 192).all (fun e => sStop e.1 plC && (match sGo hTc3 e.1 with
  | some o => Nat.beq o.1 e.2.1 && Nat.beq (sLen o.2.1) e.2.2
  | none => false)) = true := by decide +kernel
theorem IQ_3 {hp : List vOb} (hty : kTy hTc3 plC hp) : IQ 17 55 hp := by
  refine ⟨eSh_ty iq_a3 hty, eSh_ty iq_t3_4 hty, eSh_ty iq_t3_17 hty, eSh_ty iq_t3_163 hty, eSh_ty iq_t3_192 hty, ⟨⟨(ref_ty (T := hTc3) (plC_in (by decide)) rfl rfl hty), (ref_ty (T := hTc3) (plC_in (by decide)) rfl rfl hty), (ref_ty (T := hTc3) (plC_in (by decide)) rfl rfl hty), (ref_ty (T := hTc3) (plC_in (by decide)) rfl rfl hty), (ref_ty (T := hTc3) (plC_in (by decide)) rfl rfl hty), (ref_ty (T := hTc3) (plC_in (by decide)) rfl rfl hty), (ref_ty (T := hTc3) (plC_in (by decide)) rfl rfl hty), (ref_ty (T := hTc3) (plC_in (by decide)) rfl rfl hty), (ref_ty (T := hTc3) (plC_in (by decide)) rfl rfl hty), (ref_ty (T := hTc3) (plC_in (by decide)) rfl rfl hty), (ref_ty (T := hTc3) (plC_in (by decide)) rfl rfl hty), (ref_ty (T := hTc3) (plC_in (by decide)) rfl rfl hty)⟩, ⟨(ref_ty (T := hTc3) (plC_in (by decide)) rfl rfl hty), (ref_ty (T := hTc3) (plC_in (by decide)) rfl rfl hty), (ref_ty (T := hTc3) (plC_in (by decide)) rfl rfl hty), (ref_ty (T := hTc3) (plC_in (by decide)) rfl rfl hty), (ref_ty (T := hTc3) (plC_in (by decide)) rfl rfl hty), (ref_ty (T := hTc3) (plC_in (by decide)) rfl rfl hty), (ref_ty (T := hTc3) (plC_in (by decide)) rfl rfl hty), (ref_ty (T := hTc3) (plC_in (by decide)) rfl rfl hty), (ref_ty (T := hTc3) (plC_in (by decide)) rfl rfl hty), (ref_ty (T := hTc3) (plC_in (by decide)) rfl rfl hty), (ref_ty (T := hTc3) (plC_in (by decide)) rfl rfl hty), (ref_ty (T := hTc3) (plC_in (by decide)) rfl rfl hty)⟩, ⟨(ref_ty (T := hTc3) (plC_in (by decide)) rfl rfl hty), (ref_ty (T := hTc3) (plC_in (by decide)) rfl rfl hty), (ref_ty (T := hTc3) (plC_in (by decide)) rfl rfl hty), (ref_ty (T := hTc3) (plC_in (by decide)) rfl rfl hty), (ref_ty (T := hTc3) (plC_in (by decide)) rfl rfl hty), (ref_ty (T := hTc3) (plC_in (by decide)) rfl rfl hty), (ref_ty (T := hTc3) (plC_in (by decide)) rfl rfl hty), (ref_ty (T := hTc3) (plC_in (by decide)) rfl rfl hty), (ref_ty (T := hTc3) (plC_in (by decide)) rfl rfl hty), (ref_ty (T := hTc3) (plC_in (by decide)) rfl rfl hty), (ref_ty (T := hTc3) (plC_in (by decide)) rfl rfl hty), (ref_ty (T := hTc3) (plC_in (by decide)) rfl rfl hty)⟩, ⟨(ref_ty (T := hTc3) (plC_in (by decide)) rfl rfl hty), (ref_ty (T := hTc3) (plC_in (by decide)) rfl rfl hty), (ref_ty (T := hTc3) (plC_in (by decide)) rfl rfl hty), (ref_ty (T := hTc3) (plC_in (by decide)) rfl rfl hty), (ref_ty (T := hTc3) (plC_in (by decide)) rfl rfl hty), (ref_ty (T := hTc3) (plC_in (by decide)) rfl rfl hty), (ref_ty (T := hTc3) (plC_in (by decide)) rfl rfl hty), (ref_ty (T := hTc3) (plC_in (by decide)) rfl rfl hty), (ref_ty (T := hTc3) (plC_in (by decide)) rfl rfl hty), (ref_ty (T := hTc3) (plC_in (by decide)) rfl rfl hty), (ref_ty (T := hTc3) (plC_in (by decide)) rfl rfl hty), (ref_ty (T := hTc3) (plC_in (by decide)) rfl rfl hty)⟩⟩, ⟨(ref_ty (T := hTc3) (plC_in (by decide)) rfl rfl hty), (ref_ty (T := hTc3) (plC_in (by decide)) rfl rfl hty), (ref_ty (T := hTc3) (plC_in (by decide)) rfl rfl hty), (ref_ty (T := hTc3) (plC_in (by decide)) rfl rfl hty), (ref_ty (T := hTc3) (plC_in (by decide)) rfl rfl hty)⟩, ⟨(ref_ty (T := hTc3) (plC_in (by decide)) rfl rfl hty), (ref_ty (T := hTc3) (plC_in (by decide)) rfl rfl hty)⟩, ⟨(ref_ty (T := hTc3) (plC_in (by decide)) rfl rfl hty), (ref_ty (T := hTc3) (plC_in (by decide)) rfl rfl hty), (ref_ty (T := hTc3) (plC_in (by decide)) rfl rfl hty)⟩, ⟨(ref_ty (T := hTc3) (plC_in (by decide)) rfl rfl hty), (ref_ty (T := hTc3) (plC_in (by decide)) rfl rfl hty), (ref_ty (T := hTc3) (plC_in (by decide)) rfl rfl hty)⟩, (kTy_cons (show tSame 0 [31, 32, 33, 34, 35, 36, 37, 38, 39, 49, 50, 51, 52, 55, 56, 57, 58, 176, 177, 178, 179, 180, 181, 182, 183, 184, 185, 186, 187, 188, 205, 206, 207, 208, 209, 210, 211, 212, 213, 214, 215, 216, 217] = true by decide)).mp (kTy_sub (plC_mem (by decide)) hty), fun k hk => ?_⟩
  simp only [List.mem_cons, List.not_mem_nil, or_false] at hk
  rcases hk with rfl | rfl | rfl | rfl
  · exact int_ty (T := hTc3) (i := 18) (plC_in (by decide)) rfl rfl hty
  · exact int_ty (T := hTc3) (i := 18) (plC_in (by decide)) rfl rfl hty
  · exact int_ty (T := hTc3) (i := 18) (plC_in (by decide)) rfl rfl hty
  · exact int_ty (T := hTc3) (i := 18) (plC_in (by decide)) rfl rfl hty
/-- rows of an image, rows of the TOWN -/
def imMd (k : Nat) (md : sMd) : Bool := md.all (fun m => Nat.ble (162 + 29 * k) m.1 && Nat.ble m.1 (190 + 29 * k))
def reMd (md : sMd) : Bool := md.all (fun m => Nat.ble 4 m.1 && Nat.ble m.1 67)
theorem imMd_ok {k : Nat} {md : sMd} (h : imMd k md = true) {r i : Nat} (hm : sMin md r i) : 162 + 29 * k ≤ r ∧ r ≤ 190 + 29 * k := by
  obtain ⟨m, m1, m2, m3, m4⟩ := hm
  have h1 := List.all_eq_true.mp h m m1
  rw [Bool.and_eq_true, m2] at h1
  exact ⟨Nat.le_of_ble_eq_true h1.1, Nat.le_of_ble_eq_true h1.2⟩
theorem reMd_ok {md : sMd} (h : reMd md = true) {r i : Nat} (hm : sMin md r i) : 4 ≤ r ∧ r ≤ 67 := by
  obtain ⟨m, m1, m2, m3, m4⟩ := hm
  have h1 := List.all_eq_true.mp h m m1
  rw [Bool.and_eq_true, m2] at h1
  exact ⟨Nat.le_of_ble_eq_true h1.1, Nat.le_of_ble_eq_true h1.2⟩
def imC (k : Nat) (hp : List vOb) : Prop := ∃ t, hC hp 0 2 (yV t) ∧ ∀ s q p r hm fx TK BR ST, r ≤ 5 → CT t hp s q p r hm fx TK BR ST → ∃ rv hp' md, (∃ N, ∀ fuel, N ≤ fuel → vCalD vms vdf fuel 60 281 [yV 0, .inl k] hp = some (rv, hp', 0, 0)) ∧ CT (163 + 29 * k) hp' s q p r hm fx TK BR ST ∧ hC hp' (162 + 29 * k) 3 (.inl 1) ∧ sFr md hp hp' ∧ imMd k md = true
def reC (k : Nat) (hp : List vOb) : Prop := ∃ t, hC hp 0 2 (yV t) ∧ (hC hp (162 + 29 * k) 3 (.inl 0) → ∃ hp', (∃ N, ∀ fuel, N ≤ fuel → vCalD vms vdf fuel 60 283 [yV 0, .inl k] hp = some (some (.inl 0), hp', 0, 0)) ∧ sFr [] hp hp') ∧ ∀ s q p r hm fx TK BR ST, r ≤ 5 → hC hp (162 + 29 * k) 3 (.inl 1) → CT (163 + 29 * k) hp s q p r hm fx TK BR ST → ∃ hp' md, (∃ N, ∀ fuel, N ≤ fuel → vCalD vms vdf fuel 60 283 [yV 0, .inl k] hp = some (some (.inl 1), hp', 0, 0)) ∧ CT t hp' s q p r hm fx TK BR ST ∧ sFr md hp hp' ∧ reMd md = true
def iqC (c : Nat) : Prop := ∀ hp, kTy (hTcN c) plC hp → ∀ k, k < 2 → imC k hp ∧ reC k hp
theorem iqC_0 : iqC 0 := fun hp hty k hk => by
  have hQ := IQ_0 hty
  have h02 := hQ.2.2.2.2.2.2.1.1
  rcases (show k = 0 ∨ k = 1 by omega) with rfl | rfl
  · refine ⟨⟨_, h02, fun s q p r hm fx TK BR ST hr hC' => ?_⟩, ⟨_, h02, fun h0 => ?_, fun s q p r hm fx TK BR ST hr h1 hC' => ?_⟩⟩
    · obtain ⟨rv, hp', x1, x2, x3, x4⟩ := xi00 hr hQ hC'
      exact ⟨rv, hp', _, x1, x2, x3, x4, rfl⟩
    · obtain ⟨rv, hp', x1, x2, x3⟩ := xr00N hQ h0
      subst x2
      exact ⟨hp', x1, x3⟩
    · obtain ⟨rv, hp', x1, x2, x3, x4⟩ := xr00 hr hQ h1 hC'
      subst x2
      exact ⟨hp', _, x1, x3, x4, rfl⟩
  · refine ⟨⟨_, h02, fun s q p r hm fx TK BR ST hr hC' => ?_⟩, ⟨_, h02, fun h0 => ?_, fun s q p r hm fx TK BR ST hr h1 hC' => ?_⟩⟩
    · obtain ⟨rv, hp', x1, x2, x3, x4⟩ := xi01 hr hQ hC'
      exact ⟨rv, hp', _, x1, x2, x3, x4, rfl⟩
    · obtain ⟨rv, hp', x1, x2, x3⟩ := xr01N hQ h0
      subst x2
      exact ⟨hp', x1, x3⟩
    · obtain ⟨rv, hp', x1, x2, x3, x4⟩ := xr01 hr hQ h1 hC'
      subst x2
      exact ⟨hp', _, x1, x3, x4, rfl⟩
theorem iqC_1 : iqC 1 := fun hp hty k hk => by
  have hQ := IQ_1 hty
  have h02 := hQ.2.2.2.2.2.2.1.1
  rcases (show k = 0 ∨ k = 1 by omega) with rfl | rfl
  · refine ⟨⟨_, h02, fun s q p r hm fx TK BR ST hr hC' => ?_⟩, ⟨_, h02, fun h0 => ?_, fun s q p r hm fx TK BR ST hr h1 hC' => ?_⟩⟩
    · obtain ⟨rv, hp', x1, x2, x3, x4⟩ := xi10 hr hQ hC'
      exact ⟨rv, hp', _, x1, x2, x3, x4, rfl⟩
    · obtain ⟨rv, hp', x1, x2, x3⟩ := xr10N hQ h0
      subst x2
      exact ⟨hp', x1, x3⟩
    · obtain ⟨rv, hp', x1, x2, x3, x4⟩ := xr10 hr hQ h1 hC'
      subst x2
      exact ⟨hp', _, x1, x3, x4, rfl⟩
  · refine ⟨⟨_, h02, fun s q p r hm fx TK BR ST hr hC' => ?_⟩, ⟨_, h02, fun h0 => ?_, fun s q p r hm fx TK BR ST hr h1 hC' => ?_⟩⟩
    · obtain ⟨rv, hp', x1, x2, x3, x4⟩ := xi11 hr hQ hC'
      exact ⟨rv, hp', _, x1, x2, x3, x4, rfl⟩
    · obtain ⟨rv, hp', x1, x2, x3⟩ := xr11N hQ h0
      subst x2
      exact ⟨hp', x1, x3⟩
    · obtain ⟨rv, hp', x1, x2, x3, x4⟩ := xr11 hr hQ h1 hC'
      subst x2
      exact ⟨hp', _, x1, x3, x4, rfl⟩
theorem iqC_2 : iqC 2 := fun hp hty k hk => by
  have hQ := IQ_2 hty
  have h02 := hQ.2.2.2.2.2.2.1.1
  rcases (show k = 0 ∨ k = 1 by omega) with rfl | rfl
  · refine ⟨⟨_, h02, fun s q p r hm fx TK BR ST hr hC' => ?_⟩, ⟨_, h02, fun h0 => ?_, fun s q p r hm fx TK BR ST hr h1 hC' => ?_⟩⟩
    · obtain ⟨rv, hp', x1, x2, x3, x4⟩ := xi20 hr hQ hC'
      exact ⟨rv, hp', _, x1, x2, x3, x4, rfl⟩
    · obtain ⟨rv, hp', x1, x2, x3⟩ := xr20N hQ h0
      subst x2
      exact ⟨hp', x1, x3⟩
    · obtain ⟨rv, hp', x1, x2, x3, x4⟩ := xr20 hr hQ h1 hC'
      subst x2
      exact ⟨hp', _, x1, x3, x4, rfl⟩
  · refine ⟨⟨_, h02, fun s q p r hm fx TK BR ST hr hC' => ?_⟩, ⟨_, h02, fun h0 => ?_, fun s q p r hm fx TK BR ST hr h1 hC' => ?_⟩⟩
    · obtain ⟨rv, hp', x1, x2, x3, x4⟩ := xi21 hr hQ hC'
      exact ⟨rv, hp', _, x1, x2, x3, x4, rfl⟩
    · obtain ⟨rv, hp', x1, x2, x3⟩ := xr21N hQ h0
      subst x2
      exact ⟨hp', x1, x3⟩
    · obtain ⟨rv, hp', x1, x2, x3, x4⟩ := xr21 hr hQ h1 hC'
      subst x2
      exact ⟨hp', _, x1, x3, x4, rfl⟩
theorem iqC_3 : iqC 3 := fun hp hty k hk => by
  have hQ := IQ_3 hty
  have h02 := hQ.2.2.2.2.2.2.1.1
  rcases (show k = 0 ∨ k = 1 by omega) with rfl | rfl
  · refine ⟨⟨_, h02, fun s q p r hm fx TK BR ST hr hC' => ?_⟩, ⟨_, h02, fun h0 => ?_, fun s q p r hm fx TK BR ST hr h1 hC' => ?_⟩⟩
    · obtain ⟨rv, hp', x1, x2, x3, x4⟩ := xi30 hr hQ hC'
      exact ⟨rv, hp', _, x1, x2, x3, x4, rfl⟩
    · obtain ⟨rv, hp', x1, x2, x3⟩ := xr30N hQ h0
      subst x2
      exact ⟨hp', x1, x3⟩
    · obtain ⟨rv, hp', x1, x2, x3, x4⟩ := xr30 hr hQ h1 hC'
      subst x2
      exact ⟨hp', _, x1, x3, x4, rfl⟩
  · refine ⟨⟨_, h02, fun s q p r hm fx TK BR ST hr hC' => ?_⟩, ⟨_, h02, fun h0 => ?_, fun s q p r hm fx TK BR ST hr h1 hC' => ?_⟩⟩
    · obtain ⟨rv, hp', x1, x2, x3, x4⟩ := xi31 hr hQ hC'
      exact ⟨rv, hp', _, x1, x2, x3, x4, rfl⟩
    · obtain ⟨rv, hp', x1, x2, x3⟩ := xr31N hQ h0
      subst x2
      exact ⟨hp', x1, x3⟩
    · obtain ⟨rv, hp', x1, x2, x3, x4⟩ := xr31 hr hQ h1 hC'
      subst x2
      exact ⟨hp', _, x1, x3, x4, rfl⟩
theorem KR0_keepP {md : sMd} {hp hp' : List vOb} (hf : sFr md hp hp') (m1 : ∀ i, ¬ sMin md 3 i) (m2 : ∀ i, ¬ sMin md 226 i) (m3 : ¬ sMin md 220 10) (h : KR0 hp) : KR0 hp' := by
  obtain ⟨K, R, h1, h2, h3, h4⟩ := h
  exact ⟨K, R, h1, fun i hi => ⟨hC_fr hf (m1 i) (h2 i hi).1, (h2 i hi).2⟩, hC_fr hf m3 h3, fun i hi => ⟨hC_fr hf (m2 i) (h4 i hi).1, (h4 i hi).2⟩⟩
/-- what a call wrote: no cell of the tape, no keyword -/
theorem TPK {md : sMd} {hp hp' : List vOb} (hf : sFr md hp hp') (h : ∀ k i, sMin md k i → (4 ≤ k ∧ k < 220) ∨ (k = 220 ∧ i ≠ 2 ∧ i ≠ 10) ∨ k = 222 ∨ k = 225 ∨ 245 ≤ k) (hT : TP hp) (hK : KR0 hp) : TP hp' ∧ KR0 hp' := by
  refine ⟨TP_keep hf (fun hm => ?_) (fun hm => ?_) (fun i hm => ?_) (fun i hm => ?_) hT, KR0_keepP hf (fun i hm => ?_) (fun i hm => ?_) (fun hm => ?_) hK⟩ <;> (have := h _ _ hm; omega)
theorem imF_in {k r i : Nat} (h : sMin (imF k) r i) : (r = 220 ∧ i = 0) ∨ (r = 245 ∧ 323 * k ≤ i ∧ i ≤ 323 * k + 322) ∨ r = 246 ∨ (r = 247 ∧ i = k) := by
  obtain ⟨m, m1, m2, m3, m4⟩ := h
  unfold imF at m1
  simp only [List.mem_cons, List.not_mem_nil, or_false] at m1
  rcases m1 with rfl | rfl | rfl | rfl <;> dsimp only at m2 m3 m4 <;> omega
theorem reF_in {r i : Nat} (h : sMin reF r i) : (r = 220 ∧ (i = 0 ∨ i = 25)) ∨ r = 222 ∨ r = 225 := by
  obtain ⟨m, m1, m2, m3, m4⟩ := h
  unfold reF at m1
  simp only [List.mem_cons, List.not_mem_nil, or_false] at m1
  rcases m1 with rfl | rfl | rfl | rfl <;> dsimp only at m2 m3 m4 <;> omega
theorem re0_in {r i : Nat} (h : sMin [(220, 0, 0)] r i) : r = 220 ∧ i = 0 := by
  obtain ⟨m, m1, m2, m3, m4⟩ := h
  rw [List.mem_singleton] at m1
  subst m1
  dsimp only at m2 m3 m4
  omega
theorem pair_image : PairOK3 281 282 1 := by
  intro hp args ⟨hI, hTP, hK0, hTW, hIM⟩ hl hi
  match args, hl with
  | [a], _ =>
    obtain ⟨w, hw, e0⟩ := hi a List.mem_cons_self
    subst e0
    obtain ⟨hp1, hx, hI1⟩ := xImage_ok hI hw
    obtain ⟨hp2, hm, hI2⟩ := mImage w hw hp1 hI1
    have hr : (if w < 2 then 1 else 0) < 4294967296 := by split <;> omega
    refine ⟨_, hp1, hx, hr, hI1, _, hp2, hm, hr, hI2, ?_⟩
    obtain ⟨⟨⟨c, c1, c2⟩, -⟩, -⟩ := hI
    obtain ⟨v, v1, v2⟩ := hI1.2.1
    by_cases h : w < 2
    · obtain ⟨t, h02, hE⟩ := ((four (P := iqC) iqC_0 iqC_1 iqC_2 iqC_3 c c1 hp c2) w h).1
      obtain ⟨t0, s, q, p, r, hm', fx, TK, BR, ST, ht0, h020, hB, hC0, hM0⟩ := hTW
      have et : t0 = t := Option.some.inj (Sum.inl.inj (Sum.inr.inj (Sum.inr.inj (Sum.inr.inj (hC_fun h020 h02)))))
      subst et
      obtain ⟨rv, hpx, md, x1, x2, x3, x4, x5⟩ := hE s q p r hm' fx TK BR ST hB.2.2.2.1 hC0
      have e1 := (cal_det3 x1 hx).2
      subst e1
      obtain ⟨rf, hpf, g1, g2, g3⟩ := image_f (d := 59) (by decide) (in2 h) (kTy_sub (by decide) (rW v1 v2))
      have e2 := (cal_det3 g1 hm).2
      subst e2
      obtain ⟨ry, hpy, y1, -, -, -, y5⟩ := image_x (d := 59) (by decide) (in2 h) (kTy_sub (by decide) (rW v1 v2))
      have e3 := (cal_det3 y1 hm).2
      subst e3
      have T0 : TWr hp := ⟨t0, s, q, p, r, hm', fx, TK, BR, ST, ht0, h020, hB, hC0, hM0⟩
      have T1 : TWr hpx := TWr_keep x4 (fun k i hm => by
        have := imMd_ok x5 hm
        exact ⟨by omega, by omega, by omega⟩) T0
      obtain ⟨p1, k1⟩ := TPK x4 (fun k i hm => by
        have := imMd_ok x5 hm
        omega) hTP hK0
      obtain ⟨p2, k2⟩ := TPK g2 (fun k i hm => by
        have := imF_in hm
        omega) p1 k1
      refine ⟨p2, k2, TWr_keep g2 (fun k i hm => by
        have := imF_in hm
        exact ⟨by omega, by omega, by omega⟩) T1, fun k hk => ?_⟩
      by_cases ek : k = w
      · subst ek
        have n2 : ∀ r i, r < 220 → ¬ sMin (imF k) r i := fun r i hr hm => by
          have := imF_in hm
          omega
        have M1 : MT 0 222 hpx s q p r hm' fx TK BR ST := MT_fr hB.2.2.2.1 x4 (fun i _ _ hm => by
          have := imMd_ok x5 hm
          omega) hM0
        refine Or.inr ⟨hC_fr g2 (n2 _ _ (by omega)) x3, g3, s, q, p, r, hm', fx, TK, BR, ST, hB, CT_fr g2 (fun j i hj => n2 _ _ (by omega)) x2, MT_cp hB.2.2.2.1 (fun j hj v hv => y5 j hj v (by rw [Nat.zero_add] at hv; exact hv)) M1⟩
      · exact IMk_keep hk g2 (fun r i hm => by
          have := imF_in hm
          exact ⟨by omega, by omega, by omega⟩) (IMk_keep hk x4 (fun r i hm => by
          have := imMd_ok x5 hm
          exact ⟨by omega, by omega, by omega⟩) (hIM k hk))
    · have hR : RB hp := ⟨hTP, hK0, hTW, hIM⟩
      obtain ⟨r, hpx, g1, g2, g3, g4⟩ := cc_X_image_1073_ok 60 (by decide) [yV 0, .inl w] hp ⟨rfl, ⟨w, hw, rest_in hw h, rfl⟩, trivial⟩ (fun k hk => absurd hk List.not_mem_nil)
      have g1 : ∃ N, ∀ fuel, N ≤ fuel → vCalD vms vdf fuel 60 281 [yV 0, .inl w] hp = some (r, hpx, 0, 0) := g1
      have e1 := (cal_det3 g1 hx).2
      subst e1
      obtain ⟨r2, hpy, k1, k2, k3, k4⟩ := cc_M_image_988_ok 60 (by decide) [yV 220, .inl w] hpx ⟨rfl, ⟨w, hw, rest_in hw h, rfl⟩, trivial⟩ (kTy_sub (pl' := [220]) (by decide) (rW v1 v2))
      have k1 : ∃ N, ∀ fuel, N ≤ fuel → vCalD vms vdf fuel 60 282 [yV 220, .inl w] hpx = some (r2, hpy, 0, 0) := k1
      have e2 := (cal_det3 k1 hm).2
      subst e2
      exact RB_keep k3 (by decide) (RB_keep g3 (by decide) hR)
theorem pair_restore : PairOK3 283 284 1 := by
  intro hp args ⟨hI, hTP, hK0, hTW, hIM⟩ hl hi
  match args, hl with
  | [a], hl =>
    obtain ⟨w, hw, e0⟩ := hi a List.mem_cons_self
    subst e0
    obtain ⟨u, hp1, hx, hu, hI1⟩ := xCall (four xk_restore_0 xk_restore_1 xk_restore_2 xk_restore_3) hp [.inl w] hI rfl hi
    obtain ⟨v', hp2, hm, hv', hI2⟩ := mRestore hp1 [.inl w] hI1 rfl hi
    refine ⟨u, hp1, hx, hu, hI1, v', hp2, hm, hv', hI2, ?_⟩
    obtain ⟨⟨⟨c, c1, c2⟩, -⟩, -⟩ := hI
    obtain ⟨v, v1, v2⟩ := hI1.2.1
    by_cases h : w < 2
    · obtain ⟨t, h02, hE0, hE1⟩ := ((four (P := iqC) iqC_0 iqC_1 iqC_2 iqC_3 c c1 hp c2) w h).2
      rcases hIM w h with ⟨f0, f1⟩ | ⟨f0, f1, s, q, p, r, hm', fx, TK, BR, ST, hB, hC0, hM0⟩
      · obtain ⟨hpx, x1, x2⟩ := hE0 f0
        have e1 := (cal_det3 x1 hx).2
        subst e1
        obtain ⟨rf, hpf, g1, g2, g3⟩ := restore_f0 (d := 59) (by decide) (in2 h) (kTy_sub (by decide) (rW v1 v2)) (hC_fr x2 (fun ⟨m, m1, _⟩ => by cases m1) f1)
        have e2 := (cal_det3 g1 hm).2
        subst e2
        exact RB_keep g3 (by decide) (RB_keep x2 rfl ⟨hTP, hK0, hTW, hIM⟩)
      · obtain ⟨hpx, md, x1, x2, x3, x4⟩ := hE1 s q p r hm' fx TK BR ST hB.2.2.2.1 f0 hC0
        have e1 := (cal_det3 x1 hx).2
        subst e1
        have n1 : ∀ k i, k < 4 ∨ 67 < k → ¬ sMin md k i := fun k i hk hm => by
          have := reMd_ok x4 hm
          omega
        obtain ⟨rf, hpf, g1, g2, g3, g4⟩ := restore_f1x (d := 59) (by decide) (in2 h) (kTy_sub (by decide) (rW v1 v2)) (hC_fr x3 (n1 _ _ (by omega)) f1)
        have e2 := (cal_det3 g1 hm).2
        subst e2
        have n2 : ∀ k i, k < 220 ∨ 225 < k → ¬ sMin reF k i := fun k i hk hm => by
          have := reF_in hm
          omega
        obtain ⟨p1, k1⟩ := TPK x3 (fun k i hm => by
          have := reMd_ok x4 hm
          omega) hTP hK0
        obtain ⟨p2, k2⟩ := TPK g3 (fun k i hm => by
          have := reF_in hm
          omega) p1 k1
        obtain ⟨t0, -, -, -, -, -, -, -, -, -, ht0, h020, -, -, -⟩ := hTW
        have et : t0 = t := Option.some.inj (Sum.inl.inj (Sum.inr.inj (Sum.inr.inj (Sum.inr.inj (hC_fun h020 h02)))))
        subst et
        have M1 : MT (323 * w) 245 hpx s q p r hm' fx TK BR ST := MT_fr hB.2.2.2.1 x3 (fun i _ _ => n1 _ _ (by omega)) hM0
        refine ⟨p2, k2, ⟨t0, s, q, p, r, hm', fx, TK, BR, ST, ht0, hC_fr g3 (n2 _ _ (by omega)) (hC_fr x3 (n1 _ _ (by omega)) h02), hB, CT_fr g3 (fun j i hj => n2 _ _ (by omega)) x2, MT_cp hB.2.2.2.1 (fun j hj v hv => by rw [Nat.zero_add]; exact g4 j hj v hv) M1⟩, fun k hk => ?_⟩
        exact IMk_keep hk g3 (fun r i hm => by
          have := reF_in hm
          exact ⟨by omega, by omega, by omega⟩) (IMk_keep hk x3 (fun r i hm => by
          have := reMd_ok x4 hm
          exact ⟨by omega, by omega, by omega⟩) (hIM k hk))
    · have hR : RB hp := ⟨hTP, hK0, hTW, hIM⟩
      obtain ⟨hpx, q1, q2⟩ := xr_one (T := hT) (pl := []) (fun hp0 => sNo_ok) xr_hi (and2 xr_ret).2 (by omega) ⟨w, hw, rest_in hw h, rfl⟩ (fun k hk => absurd hk List.not_mem_nil) nCs_nil
      have e1 := (cal_det3 q1 hx).2
      subst e1
      obtain ⟨r2, hpy, k1, k2, k3, k4⟩ := cc_M_restore_997_ok 60 (by decide) [yV 220, .inl w] hpx ⟨rfl, ⟨w, hw, rest_in hw h, rfl⟩, trivial⟩ (kTy_sub (pl' := [220]) (by decide) (rW v1 v2))
      have k1 : ∃ N, ∀ fuel, N ≤ fuel → vCalD vms vdf fuel 60 284 [yV 220, .inl w] hpx = some (r2, hpy, 0, 0) := k1
      have e2 := (cal_det3 k1 hm).2
      subst e2
      exact RB_keep k3 (by decide) (RB_keep q2 rfl hR)
