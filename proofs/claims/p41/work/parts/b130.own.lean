/-! ===== the calls by hand write no flag ===== -/
theorem fr_sentence : FrOK 220 270 0 := by
  intro hp args ⟨hX, ⟨v, v1, v2⟩, hS, hK⟩ hl hi
  have e : args = [] := List.length_eq_zero_iff.mp hl
  subst e
  obtain ⟨r, hp', h1, h2, h3, h4, h5⟩ := sentence_ok (d := 59) (by decide) (kTy_sub (by decide) (rW v1 v2)) hS
  exact ⟨r, hp', zMs, h1, h4, by decide⟩
theorem fr_said : FrOK 220 278 1 := by
  intro hp args ⟨hX, ⟨v, v1, v2⟩, hS, hK⟩ hl hi
  match args, hl with
  | [a], _ =>
    obtain ⟨w, w1, w2⟩ := hi a List.mem_cons_self
    subst w2
    obtain ⟨r, hp', h1, h2, h3, h4⟩ := said_ok (d := 59) (by decide) w1 (kTy_sub (by decide) (rW v1 v2)) hS
    exact ⟨r, hp', mSa, h1, h4, by decide⟩
theorem fr_log : FrOK 220 251 1 := by
  intro hp args ⟨hX, ⟨v, v1, v2⟩, hS, hK⟩ hl hi
  match args, hl with
  | [a], _ =>
    obtain ⟨w, w1, w2⟩ := hi a List.mem_cons_self
    subst w2
    obtain ⟨S, hV⟩ := lgVN v1
    obtain ⟨r, hp', h1, h2, h3, h4⟩ := log_okV hV (d := 59) (by decide) w1 (kTy_sub (by decide) v2)
    exact ⟨r, hp', mLg, h1, h4, by decide⟩
theorem fr_town : FrOK 220 81 0 := by
  intro hp args ⟨hX, ⟨v, v1, v2⟩, hS, hK⟩ hl hi
  have e : args = [] := List.length_eq_zero_iff.mp hl
  subst e
  obtain ⟨r, hp', h1, h2, h3⟩ := town_ok (d := 59) (by decide) (kTy_sub (by decide) (rW v1 v2))
  rcases h3 with ⟨f1, t1⟩ | ⟨f1, -, -⟩
  · exact ⟨r, hp', tw_m1, h1, f1, by decide⟩
  · exact ⟨r, hp', tw_e.2.2.2.2, h1, f1, by decide⟩
theorem mXl_F : mdF mXl = true := by decide +kernel
theorem xlVN {c : Nat} (hc : c < 4) : ∃ tw, xlV (hTcN c) tw := by
  have : c = 0 ∨ c = 1 ∨ c = 2 ∨ c = 3 := by omega
  rcases this with rfl | rfl | rfl | rfl
  · exact ⟨_, xl_V0⟩
  · exact ⟨_, xl_V1⟩
  · exact ⟨_, xl_V2⟩
  · exact ⟨_, xl_V3⟩
theorem fr_xlog : FrOK 0 248 1 := by
  intro hp args ⟨⟨⟨c, c1, c2⟩, _⟩, _⟩ hl hi
  match args, hl with
  | [a], _ =>
    obtain ⟨w, w1, w2⟩ := hi a List.mem_cons_self
    subst w2
    obtain ⟨tw, hV⟩ := xlVN c1
    obtain ⟨r, hp', h1, h2, h3, h4⟩ := xlog_okV hV (d := 59) (by decide) w1 c2
    exact ⟨r, hp', mXl, h1, h4, mXl_F⟩
/-! ===== image and restore of the reference, with the flag told ===== -/
theorem nCs_one {hp : List vOb} {k i n : Nat} (hn : n < 4294967296) (h : hC hp k i (.inl n)) : nCs [] hp [(k, i, zK n)] := fun c hc => by
  rw [List.mem_singleton] at hc
  subst hc
  exact ⟨_, h, hn, rfl⟩
set_option maxRecDepth 1000000 in
theorem im_f4 : [0, 1].all (fun k => nChk0 m_X12_image hW plI sNo [(246, 24 * k, 24 * k + 23), (247, k, k)] [18] 3000 (18, cpL k 323, [], []) [(88, [none, none, none], [zK 1], [(247, k, zK 1)])]) = true := by decide +kernel
theorem image_f {d k : Nat} (hd : 13 ≤ d) (hk : k ∈ [0, 1]) {hp : List vOb} (hty : kTy hT plI hp) : ∃ r hp', (∃ N, ∀ fuel, N ≤ fuel → vCalD vms vdf fuel (d + 1) 282 [zO, .inl k] hp = some (r, hp', 0, 0)) ∧ sFr (imF k) hp hp' ∧ hC hp' 247 k (.inl 1) := by
  refine kEnd_cal hM_image (show 2 ≤ 3 by omega) rfl rfl ?_
  have hk2 : k < 2 := by simp at hk; omega
  obtain ⟨κ1, a2, a3, a4⟩ := n_one (d := d) (κ := (0, [some zO, some (.inl k), none], [], hp)) (isS_ok hd) (List.all_eq_true.mp im_k1 k hk) ⟨rfl, nLr_this ⟨fun c hc => by cases hc; exact ⟨_, rfl, by omega, rfl⟩, nLr_none trivial⟩, trivial, kW_of hT_hW hp hty, nCs_nil⟩
  obtain ⟨pc1, kl1, ks1, hp1⟩ := κ1
  have e1 : pc1 = 18 := a4.1
  subst e1
  have e2 := nAr_eq (as := []) rfl a4.2.2.1
  dsimp only at e2
  subst e2
  have hchk : (List.range 323).all (fun i => nChk m_X12_image hW plI gF sNo (cpM 245 (323 * k) i) [18] 3000 (18, cpL k i, [], [(222, 0 + i, zY 0)]) [(18, cpL k (i + 1), [], [(245, 323 * k + i, zY 0)])]) = true := by
    have : k = 0 ∨ k = 1 := by omega
    rcases this with rfl | rfl
    · exact im_k2
    · exact im_k3
  obtain ⟨kl2, hp2, c1, c2, c3, c4, c5⟩ := cp_loop (d := d) (by decide) (by decide) sGo_hW222 (by omega) hchk 323 0 (by omega) a4.2.1 a4.2.2.2.1 (fun j hj => by omega)
  obtain ⟨κ3, b2, b3, b4⟩ := n_one (d := d) (κ := (18, kl2, [], hp2)) (fun hp0 => sNo_ok) (List.all_eq_true.mp im_f4 k hk) ⟨rfl, c2, trivial, c3, nCs_nil⟩
  have F : sFr (imF k) hp κ3.2.2.2 := by
    refine ((a3.mono (fun r i ⟨m, m1, m2⟩ => ?_)).tr (c4.mono (fun r i ⟨m, m1, m2⟩ => ?_))).tr (b3.mono (fun r i ⟨m, m1, m2⟩ => ?_))
    · rw [List.mem_singleton] at m1
      exact ⟨m, by rw [m1]; unfold imF; simp, m2⟩
    · rw [List.mem_singleton] at m1
      exact ⟨m, by rw [m1]; unfold imF; simp, m2⟩
    · refine ⟨m, ?_, m2⟩
      unfold imF
      simp only [List.mem_cons, List.not_mem_nil, or_false] at m1 ⊢
      rcases m1 with h | h
      · exact Or.inr (Or.inr (Or.inl h))
      · exact Or.inr (Or.inr (Or.inr h))
  have b5 : nSat hW plI [] (88, [none, none, none], [zK 1], []) κ3 := ⟨b4.1, b4.2.1, b4.2.2.1, b4.2.2.2.1, nCs_nil⟩
  exact kEnd.of a2 (kEnd.of c1 (kEnd.of b2 (n_ret im_r b5 (fun kr hkr => ⟨F, nSat_cell (n := 1) b4 List.mem_cons_self⟩))))
set_option maxRecDepth 1000000 in
theorem re_f0 : [0, 1].all (fun k => nChk0 m_X12_restore hW plI (isS [(220, 0, 0)]) [(220, 0, 0)] [27] 3000 (0, [some zT, some (zK k), none], [], [(247, k, zK 0)]) [(24, [none, none, none], [zK 0], [])]) = true := by decide +kernel
set_option maxRecDepth 1000000 in
theorem re_f1 : [0, 1].all (fun k => nChk0 m_X12_restore hW plI (isS [(220, 0, 0)]) [(220, 0, 0)] [27] 3000 (0, [some zT, some (zK k), none], [], [(247, k, zK 1)]) [(27, cpL k 0, [], [])]) = true := by decide +kernel
set_option maxRecDepth 1000000 in
theorem re_fr : (nRet m_X12_restore (95, [none, none, none], [zK 1], []) (some (zS 1 1)) && nRet m_X12_restore (24, [none, none, none], [zK 0], []) (some (zS 0 0))) = true := by decide +kernel
theorem restore_f0 {d k : Nat} (hd : 13 ≤ d) (hk : k ∈ [0, 1]) {hp : List vOb} (hty : kTy hT plI hp) (hf : hC hp 247 k (.inl 0)) : ∃ r hp', (∃ N, ∀ fuel, N ≤ fuel → vCalD vms vdf fuel (d + 1) 284 [zO, .inl k] hp = some (r, hp', 0, 0)) ∧ r = some (.inl 0) ∧ sFr [(220, 0, 0)] hp hp' := by
  refine kEnd_cal hM_restore (show 2 ≤ 3 by omega) rfl rfl ?_
  have hk2 : k < 2 := by simp at hk; omega
  obtain ⟨κ1, a2, a3, a4⟩ := n_one (d := d) (κ := (0, [some zO, some (.inl k), none], [], hp)) (isS_ok hd) (List.all_eq_true.mp re_f0 k hk) ⟨rfl, nLr_this ⟨fun c hc => by cases hc; exact ⟨_, rfl, by omega, rfl⟩, nLr_none trivial⟩, trivial, kW_of hT_hW hp hty, nCs_one (by omega) hf⟩
  exact kEnd.of a2 (n_ret (and2 re_fr).2 a4 (fun kr hkr => ⟨zRt (n := 0) (by decide) hkr, a3⟩))
theorem restore_f1 {d k : Nat} (hd : 13 ≤ d) (hk : k ∈ [0, 1]) {hp : List vOb} (hty : kTy hT plI hp) (hf : hC hp 247 k (.inl 1)) : ∃ r hp', (∃ N, ∀ fuel, N ≤ fuel → vCalD vms vdf fuel (d + 1) 284 [zO, .inl k] hp = some (r, hp', 0, 0)) ∧ r = some (.inl 1) ∧ sFr reF hp hp' := by
  refine kEnd_cal hM_restore (show 2 ≤ 3 by omega) rfl rfl ?_
  have hk2 : k < 2 := by simp at hk; omega
  obtain ⟨κ1, a2, a3, a4⟩ := n_one (d := d) (κ := (0, [some zO, some (.inl k), none], [], hp)) (isS_ok hd) (List.all_eq_true.mp re_f1 k hk) ⟨rfl, nLr_this ⟨fun c hc => by cases hc; exact ⟨_, rfl, by omega, rfl⟩, nLr_none trivial⟩, trivial, kW_of hT_hW hp hty, nCs_one (by omega) hf⟩
  obtain ⟨pc1, kl1, ks1, hp1⟩ := κ1
  have e1 : pc1 = 27 := a4.1
  subst e1
  have e2 := nAr_eq (as := []) rfl a4.2.2.1
  dsimp only at e2
  subst e2
  have hchk : (List.range 323).all (fun i => nChk m_X12_restore hW plI gF sNo (cpM 222 0 i) [27] 3000 (27, cpL k i, [], [(245, 323 * k + i, zY 0)]) [(27, cpL k (i + 1), [], [(222, 0 + i, zY 0)])]) = true := by
    have : k = 0 ∨ k = 1 := by omega
    rcases this with rfl | rfl
    · exact re_k2
    · exact re_k3
  obtain ⟨kl2, hp2, c1, c2, c3, c4, c5⟩ := cp_loop (d := d) (by decide) (by decide) sGo_hW245 (by omega) hchk 323 0 (by omega) a4.2.1 a4.2.2.2.1 (fun j hj => by omega)
  obtain ⟨κ3, b2, b3, b4⟩ := n_one (d := d) (κ := (27, kl2, [], hp2)) (fun hp0 => sNo_ok) (List.all_eq_true.mp re_k4 k hk) ⟨rfl, c2, trivial, c3, nCs_nil⟩
  have F : sFr reF hp κ3.2.2.2 := ((a3.mono (sMsub_ok (by decide))).tr (c4.mono (sMsub_ok (by decide)))).tr (b3.mono (sMsub_ok (by decide)))
  exact kEnd.of a2 (kEnd.of c1 (kEnd.of b2 (n_ret (and2 re_fr).1 b4 (fun kr hkr => ⟨zRt (n := 1) (by decide) hkr, F⟩))))
