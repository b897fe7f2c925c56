/-! ===== log() of the class empties the tape ===== -/
def mXm : sMd := mRdA ++ (mK ++ (mQ 31 ++ (mQ 40 ++ [(66, 0, 3)])))
def xlogQ (hp : List vOb) (kr : Option vAV) (hp' : List vOb) : Prop := sFr mXm hp hp'
set_option maxRecDepth 100000 in
theorem xq_b8z : (sMsub mRdA mXm && (sMsub mK mXm && (sMsub (mQ 31) mXm && (sMsub (mQ 40) mXm && sMsub [(66, 0, 3)] mXm)))) = true := by decide +kernel
theorem mXm_B : mdB mXm = true := by decide +kernel
theorem xlog_Z {T : sHp} {tw : Nat} (hV : xlV T tw) (hZ : nChk0 m_X11_log T [0, 1] (xlS mT0) mT0 [32] 3000 (0, [some (yO 0), some (zS 0 1), none, none], [], []) [(32, xl4 (zS 0 1) none, [yO tw, yO 1, yO 61], [(0, 1, zK 0)])] = true) {d : Nat} (hd : 28 ≤ d) {hp : List vOb} {l : Nat} (hl : l < 2) (hty : kTy T plC hp) : ∃ r hp', (∃ N, ∀ fuel, N ≤ fuel → vCalD vms vdf fuel (d + 1) 248 [yV 0, .inl l] hp = some (r, hp', 0, 0)) ∧ hC hp' 0 1 (.inl 0) ∧ sFr (mT0 ++ mXm) hp hp' := by
  obtain ⟨⟨o, ho⟩, htw, hA, hB, hC', hD, ⟨S1, hS1⟩, ⟨S2, hS2⟩⟩ := hV
  have b8 := xq_b8z
  rw [Bool.and_eq_true, Bool.and_eq_true, Bool.and_eq_true, Bool.and_eq_true] at b8
  obtain ⟨s2, s3, s4, s5, s6⟩ := b8
  have b6 := List.all_eq_true.mp xq_b6 tw htw
  rw [Bool.and_eq_true, Bool.and_eq_true] at b6
  obtain ⟨r1, r2, r3⟩ := b6
  obtain ⟨d1, rfl⟩ : ∃ d1, d = d1 + 1 := ⟨d - 1, by omega⟩
  refine kEnd_cal hM_xlog (show 2 ≤ 4 by omega) rfl rfl ?_
  obtain ⟨κ1, a2, a3, a4⟩ := n_one (d := d1 + 1) (κ := (0, [some (yV 0), some (.inl l), none, none], [], hp)) (xlS_ok (by omega)) hZ ⟨rfl, ⟨fun c hc => by cases hc; exact ⟨_, rfl, rfl⟩, fun c hc => by cases hc; exact ⟨_, rfl, l, by omega, sIn_one (by unfold sBi; omega) (by unfold sBi; omega), rfl⟩, nLr_none (nLr_none trivial)⟩, trivial, kTy_sub (plC_mem rfl) hty, nCs_nil⟩
  have T1 : kTy T plC κ1.2.2.2 := kTy_upd xq_b1 a3 hty a4.2.2.2.1
  obtain ⟨pc1, kl1, ks1, hp1⟩ := κ1
  have e1 : pc1 = 32 := a4.1
  subst e1
  have e2 := nAr_eq (as := [yV tw, yV 1, yV 61]) rfl a4.2.2.1
  dsimp only at e2
  subst e2
  dsimp only at T1
  have hz : hC hp1 0 1 (.inl 0) := nSat_cell a4 List.mem_cons_self
  refine kEnd.of a2 (kEnd.mono (P := xlogQ hp1) ?_ (fun kr hp' h => ⟨hC_fr h (mdB_ok mXm_B).1 hz, (a3.mono (fun k i ⟨m, m1, m2⟩ => ⟨m, List.mem_append_left _ m1, m2⟩)).tr (h.mono (fun k i ⟨m, m1, m2⟩ => ⟨m, List.mem_append_right _ m1, m2⟩))⟩))
  have toT : ∀ (pl : List Nat) (hp' : List vOb), tSame 0 pl = true → kTy hT pl hp' → kTy T pl hp' := fun pl hp' h1 h2 => by
    rw [ho]
    exact (kTy_cons h1).mpr h2
  have ofT : ∀ (pl : List Nat) (hp' : List vOb), tSame 0 pl = true → kTy T pl hp' → kTy hT pl hp' := fun pl hp' h1 h2 => by
    rw [ho] at h2
    exact (kTy_cons h1).mp h2
  obtain ⟨r, hp2, hcal, hty2, f2, hr⟩ := read_ok (d := d1) (by omega) htw (ofT _ _ r2 (kTy_sub (plC_mem r1) T1))
  have hc61 : 61 ∈ [61] := List.mem_singleton.mpr rfl
  have k2 := z_callV (M := m_X11_log) (kl := kl1) (k := 61) xl_t'.1 (show vTk 2 [] [yV tw, yV 1, yV 61] = some ([yV 1, yV tw], [yV 61]) from rfl) hc61 hT_61 (by decide) (ofT _ _ rfl (kTy_sub (pl' := [61]) (plC_mem rfl) T1)) hcal
  have T2 : kTy T plC hp2 := kTy_upd (List.all_eq_true.mp xq_b2 tw htw) f2 T1 (toT _ _ r2 hty2)
  have F2 : sFr mXm hp1 hp2 := f2.mono (sMsub_ok s2)
  refine kEnd.of k2 ?_
  rcases hr with rfl | ⟨rfl, n, hn, hcn, hR⟩
  · obtain ⟨κ3, b2, b3, b4⟩ := n_one (d := d1 + 1) (κ := (32 + 3, kl1, [.inl 0], hp2)) (fun hp0 => sNo_ok) hB ⟨rfl, a4.2.1, ⟨⟨by omega, rfl⟩, trivial⟩, kTy_sub (plC_mem rfl) T2, nCs_nil⟩
    exact kEnd.of b2 (n_ret (List.all_eq_true.mp xl_r 48 (by decide)) b4 (fun kr hkr => F2.tr (sFr_nil b3)))
  obtain ⟨κ3, B, b1, b2, b3, b4⟩ := n_ok0 (d := d1 + 1) (κ := (32 + 3, kl1, [.inl 1], hp2)) (xlS_ok (by omega)) hC' ⟨rfl, a4.2.1, ⟨⟨by omega, rfl⟩, trivial⟩, kTy_sub (plC_mem xq_b7) T2, nCs_nil⟩
  refine kEnd.of b2 ?_
  have T3 : kTy T plC κ3.2.2.2 := kTy_upd xq_b3 b3 T2 b4.2.2.2.1
  have F3 : sFr mXm hp1 κ3.2.2.2 := F2.tr (b3.mono (sMsub_ok s3))
  have hK1 : ∀ k i, (k = 61 ∨ k = 62 ∨ k = 65) → ¬ sMin mK k i := fun k i hk => by
    refine sHas_no ?_
    rcases hk with rfl | rfl | rfl <;> decide
  have tail : ∀ st S, st ∈ [31, 40] → sMsub (mQ st) mXm = true → glV tw st S → nSat T plK [] (98, xl4 (zS 0 1) (some (yO st)), [yO st, yO tw, yO 61], []) κ3 → kEnd vms vdf (d1 + 1) m_X11_log κ3 (xlogQ hp1) := fun st S hst hsub hG hB4 => by
    obtain ⟨pc3, kl3, ks3, hp3⟩ := κ3
    have e3 : pc3 = 98 := hB4.1
    subst e3
    have e4 := nAr_eq (as := [yV st, yV tw, yV 61]) rfl hB4.2.2.1
    dsimp only at e4
    subst e4
    have b6 := List.all_eq_true.mp r3 st hst
    rw [Bool.and_eq_true, Bool.and_eq_true] at b6
    obtain ⟨q1, q2, q3⟩ := b6
    obtain ⟨r, hp4, hcal4, hr4, hty4, f4⟩ := good_ok hG (d := d1) (n := n) (by omega) hn (ofT _ _ q2 (kTy_sub (plC_mem q1) T3)) (hC_fr b3 (hK1 _ _ (by omega)) hcn) (fun j hj => LRec_fr b3 (hK1 _ _ (by omega)) (hK1 _ _ (by omega)) (hR j hj))
    have k4 := z_callV (M := m_X11_log) (kl := kl3) (k := 61) xl_t'.2 (show vTk 2 [] [yV st, yV tw, yV 61] = some ([yV tw, yV st], [yV 61]) from rfl) hc61 hT_61 (by decide) (ofT _ _ rfl (kTy_sub (pl' := [61]) (plC_mem rfl) T3)) hcal4
    have T4 : kTy T plC hp4 := kTy_upd (List.all_eq_true.mp (List.all_eq_true.mp xq_b4 tw htw) st hst) f4 T3 (toT _ _ q2 hty4)
    have F4 : sFr mXm hp1 hp4 := F3.tr (f4.mono (sMsub_ok hsub))
    cases r with
    | none => exact hr4.elim
    | some v =>
      obtain ⟨κ5, g2, g3, g4⟩ := n_one (d := d1 + 1) (κ := (98 + 3, kl3, [v], hp4)) (xlS_ok (by omega)) (hD st hst) ⟨rfl, hB4.2.1, ⟨hr4, trivial⟩, kTy_sub (plC_mem q3) T4, nCs_nil⟩
      exact kEnd.of k4 (kEnd.of g2 (n_ret (List.all_eq_true.mp xl_r 161 (by decide)) g4 (fun kr hkr => F4.tr (g3.mono (sMsub_ok s6)))))
  simp only [List.mem_cons, List.not_mem_nil, or_false] at b1
  rcases b1 with rfl | rfl
  · exact tail 31 S1 (by decide) s4 hS1 b4
  · exact tail 40 S2 (by decide) s5 hS2 b4
set_option maxRecDepth 1000000 in
theorem xl_z0 : nChk0 m_X11_log hTc0 [0, 1] (xlS mT0) mT0 [32] 3000 (0, [some (yO 0), some (zS 0 1), none, none], [], []) [(32, xl4 (zS 0 1) none, [yO 4, yO 1, yO 61], [(0, 1, zK 0)])] = true := by decide +kernel
set_option maxRecDepth 1000000 in
theorem xl_z1 : nChk0 m_X11_log hTc1 [0, 1] (xlS mT0) mT0 [32] 3000 (0, [some (yO 0), some (zS 0 1), none, none], [], []) [(32, xl4 (zS 0 1) none, [yO 17, yO 1, yO 61], [(0, 1, zK 0)])] = true := by decide +kernel
set_option maxRecDepth 1000000 in
theorem xl_z2 : nChk0 m_X11_log hTc2 [0, 1] (xlS mT0) mT0 [32] 3000 (0, [some (yO 0), some (zS 0 1), none, none], [], []) [(32, xl4 (zS 0 1) none, [yO 4, yO 1, yO 61], [(0, 1, zK 0)])] = true := by decide +kernel
set_option maxRecDepth 1000000 in
theorem xl_z3 : nChk0 m_X11_log hTc3 [0, 1] (xlS mT0) mT0 [32] 3000 (0, [some (yO 0), some (zS 0 1), none, none], [], []) [(32, xl4 (zS 0 1) none, [yO 17, yO 1, yO 61], [(0, 1, zK 0)])] = true := by decide +kernel
set_option maxRecDepth 1000000 in
theorem xl_hh : nChk0 m_X11_log hT [] sNo [] [32] 3000 (0, [some (yO 0), some (.inr [(0, 2147483647), (2147483650, 4294967295)]), none, none], [], []) [(12, rdN, [zF], [])] = true := by decide +kernel
