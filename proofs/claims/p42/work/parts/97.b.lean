theorem hC_bk {md : sMd} {hp hp' : List vOb} {k i : Nat} {v : vAV} {ob : vOb} (hf : sFr md hp hp') (hm : ¬ sMin md k i) (ho : hp[k]? = some ob) (h : hC hp' k i v) : hC hp k i v := by
  obtain ⟨o2, q1, q2⟩ := h
  obtain ⟨o3, r1, -, -, r4⟩ := hf.2 _ _ ho
  rw [q1] at r1
  cases r1
  exact ⟨ob, ho, by rw [← r4 i hm]; exact q2⟩
/-- an int stands in a cell that is typed as any int -/
theorem kTy_int {T : sHp} {pl : List Nat} {hp : List vOb} {k i L : Nat} (hk : k ∈ pl) (hT : (sGo T k).map (fun o => o.2.1) = some [(L, zF)]) (hi : i < L) (h : kTy T pl hp) : ∃ u, u < 4294967296 ∧ hC hp k i (.inl u) := by
  obtain ⟨oT, ob, g1, g2, g3⟩ := h k hk
  rw [g1] at hT
  have e : oT.2.1 = [(L, zF)] := Option.some.inj hT
  have hl : i < ob.2.length := by
    rw [g3.2.1.1, e]
    show i < L + 0
    omega
  obtain ⟨u, u1, -, u3⟩ := g3.2.1.2 i zF _ (by rw [e, sRd_cons, if_pos (show i < (L, zF).1 from hi)]) (List.getElem?_eq_getElem hl)
  exact ⟨u, u1, ob, g2, by rw [List.getElem?_eq_getElem hl, u3]⟩
def cpM (dst dO i : Nat) : sMd := [(dst, dO + i, dO + i)]
theorem cp_loop {d : Nat} {M : vMt} {H k src sO dst dO L : Nat} (hne : src ≠ dst) (hsrc : src ∈ plI) (hTs : (sGo hW src).map (fun o => o.2.1) = some [(L, zF)]) (hL : sO + 323 ≤ L) (hk : (List.range 323).all (fun i => nChk M hW plI gF sNo (cpM dst dO i) [H] 3000 (H, cpL k i, [], [(src, sO + i, zY 0)]) [(H, cpL k (i + 1), [], [(dst, dO + i, zY 0)])]) = true) (n : Nat) :
    ∀ (i : Nat) {hp : List vOb} {kl : vLs}, i + n = 323 → nLr [] (cpL k i) kl → kTy hW plI hp → (∀ j, j < i → ∀ q, hC hp src (sO + j) (.inl q) → hC hp dst (dO + j) (.inl q)) → ∃ kl' hp', kRe vms vdf d M.2.2.2.2.1 0 0 (H, kl, [], hp) (H, kl', [], hp') ∧ nLr [] (cpL k 323) kl' ∧ kTy hW plI hp' ∧ sFr [(dst, dO, dO + 322)] hp hp' ∧ ∀ j, j < 323 → ∀ q, hC hp src (sO + j) (.inl q) → hC hp' dst (dO + j) (.inl q) := by
  induction n with
  | zero =>
    intro i hp kl hin hl hty hcp
    have ei : i = 323 := by omega
    subst ei
    exact ⟨kl, hp, kRe.rf _, hl, hty, sFr.rf _ _, hcp⟩
  | succ n ih =>
    intro i hp kl hin hl hty hcp
    obtain ⟨u, u1, u2⟩ := kTy_int (i := sO + i) hsrc hTs (by omega) hty
    obtain ⟨κ1, B, xs, b1, b2, b3, b4⟩ := n_ok (d := d) (ρ := [sBi u]) (fun hp0 => sNo_ok) (List.all_eq_true.mp hk i (List.mem_range.mpr (by omega))) (zG' u) (κ := (H, kl, [], hp)) ⟨rfl, lCl_ok rfl hl, trivial, hty, nCs_sym u1 u2⟩
    rw [List.mem_singleton] at b1
    subst b1
    obtain ⟨pc1, kl1, ks1, hp1⟩ := κ1
    have e1 : pc1 = H := b4.1
    subst e1
    have e2 := nAr_eq (as := []) rfl b4.2.2.1
    dsimp only at e2
    subst e2
    have hm : ∀ k j, (k ≠ dst ∨ j ≠ dO + i) → ¬ sMin (cpM dst dO i) k j := fun k j hk ⟨m, m1, m2, m3, m4⟩ => by
      unfold cpM at m1
      rw [List.mem_singleton] at m1
      subst m1
      dsimp only at m2 m3 m4
      omega
    have hw : hC hp1 dst (dO + i) (.inl u) := zY_cell (n := 0) b4 List.mem_cons_self (by omega)
    obtain ⟨oT, ob, -, g2, -⟩ := hty src hsrc
    obtain ⟨kl', hp', c1, c2, c3, c4, c5⟩ := ih (i + 1) (by omega) (lCl_ok rfl b4.2.1) b4.2.2.2.1 (fun j hj q hq => by
      have hq0 := hC_bk b3 (hm _ _ (Or.inl hne)) g2 hq
      by_cases ej : j = i
      · subst ej
        have := Sum.inl.inj (hC_fun hq0 u2)
        rw [this]
        exact hw
      · exact hC_fr b3 (hm _ _ (by omega)) (hcp j (by omega) q hq0))
    refine ⟨kl', hp', b2.tr c1, c2, c3, (b3.mono (fun k j ⟨m, m1, m2, m3, m4⟩ => ?_)).tr c4, fun j hj q hq => c5 j hj q (hC_fr b3 (hm _ _ (Or.inl hne)) hq)⟩
    unfold cpM at m1
    rw [List.mem_singleton] at m1
    subst m1
    dsimp only at m2 m3 m4
    exact ⟨_, List.mem_cons_self, m2, by dsimp only; omega, by dsimp only; omega⟩
theorem sGo_hW222 : (sGo hW 222).map (fun o => o.2.1) = some [(323, zF)] := rfl
theorem sGo_hW245 : (sGo hW 245).map (fun o => o.2.1) = some [(646, zF)] := rfl
def imF (k : Nat) : sMd := [(220, 0, 0), (245, 323 * k, 323 * k + 322), (246, 24 * k, 24 * k + 23), (247, k, k)]
def reF : sMd := [(220, 0, 0), (222, 0, 322), (225, 0, 23), (220, 25, 25)]
/-- image(k) -/
theorem image_x {d k : Nat} (hd : 13 ≤ d) (hk : k ∈ [0, 1]) {hp : List vOb} (hty : kTy hT plI hp) : ∃ r hp', (∃ N, ∀ fuel, N ≤ fuel → vCalD vms vdf fuel (d + 1) 282 [zO, .inl k] hp = some (r, hp', 0, 0)) ∧ r = some (.inl 1) ∧ kTy hW plI hp' ∧ sFr (imF k) hp hp' ∧ ∀ j, j < 323 → ∀ q, hC hp 222 j (.inl q) → hC hp' 245 (323 * k + j) (.inl q) := by
  refine kEnd_cal hM_image (show 2 ≤ 3 by omega) rfl rfl ?_
  have hk2 : k < 2 := by simp at hk; omega
  obtain ⟨κ1, a2, a3, a4⟩ := n_one (d := d) (κ := (0, [some zO, some (.inl k), none], [], hp)) (isS_ok hd) (List.all_eq_true.mp im_k1 k hk) ⟨rfl, nLr_this ⟨fun c hc => by cases hc; exact ⟨_, rfl, by omega, rfl⟩, nLr_none trivial⟩, trivial, kW_of hT_hW hp hty, nCs_nil⟩
  obtain ⟨pc1, kl1, ks1, hp1⟩ := κ1
  have e1 : pc1 = 18 := a4.1
  subst e1
  have e2 := nAr_eq (as := []) rfl a4.2.2.1
  dsimp only at e2
  subst e2
  have hchk : (List.range 323).all (fun i => nChk m_X12_image hW plI gF sNo (cpM 245 (323 * k) i) [18] 3000 (18, cpL k i, [], [(222, 0 + i, zY 0)]) [(18, cpL k (i + 1), [], [(245, 323 * k + i, zY 0)])]) = true := by
    have : k = 0 ∨ k = 1 := by omega
    rcases this with rfl | rfl
    · exact im_k2
    · exact im_k3
  obtain ⟨kl2, hp2, c1, c2, c3, c4, c5⟩ := cp_loop (d := d) (by decide) (by decide) sGo_hW222 (by omega) hchk 323 0 (by omega) a4.2.1 a4.2.2.2.1 (fun j hj => by omega)
  obtain ⟨κ3, b2, b3, b4⟩ := n_one (d := d) (κ := (18, kl2, [], hp2)) (fun hp0 => sNo_ok) (List.all_eq_true.mp im_k4 k hk) ⟨rfl, c2, trivial, c3, nCs_nil⟩
  have F : sFr (imF k) hp κ3.2.2.2 := by
    refine ((a3.mono (fun r i ⟨m, m1, m2⟩ => ?_)).tr (c4.mono (fun r i ⟨m, m1, m2⟩ => ?_))).tr (b3.mono (fun r i ⟨m, m1, m2⟩ => ?_))
    · rw [List.mem_singleton] at m1
      exact ⟨m, by rw [m1]; unfold imF; simp, m2⟩
    · rw [List.mem_singleton] at m1
      exact ⟨m, by rw [m1]; unfold imF; simp, m2⟩
    · refine ⟨m, ?_, m2⟩
      unfold imF
      simp only [List.mem_cons, List.not_mem_nil, or_false] at m1 ⊢
      rcases m1 with h | h
      · exact Or.inr (Or.inr (Or.inl h))
      · exact Or.inr (Or.inr (Or.inr h))
  refine kEnd.of a2 (kEnd.of c1 (kEnd.of b2 (n_ret im_r b4 (fun kr hkr => ⟨zRt (by omega) hkr, b4.2.2.2.1, F, fun j hj q hq => ?_⟩))))
  have h1 : hC hp1 222 (0 + j) (.inl q) := by
    rw [Nat.zero_add]
    exact hC_fr a3 (sMnot_ok rfl) hq
  exact hC_fr b3 (fun ⟨m, m1, m2, _⟩ => by
    simp only [List.mem_cons, List.not_mem_nil, or_false] at m1
    rcases m1 with rfl | rfl <;> cases m2) (c5 j hj q h1)
/-- restore(k) -/
theorem restore_x {d k : Nat} (hd : 13 ≤ d) (hk : k ∈ [0, 1]) {hp : List vOb} (hty : kTy hT plI hp) : ∃ r hp', (∃ N, ∀ fuel, N ≤ fuel → vCalD vms vdf fuel (d + 1) 284 [zO, .inl k] hp = some (r, hp', 0, 0)) ∧ sRtC (some zF) r ∧ kTy hW plI hp' ∧ (sFr [(220, 0, 0)] hp hp' ∨ (sFr reF hp hp' ∧ ∀ j, j < 323 → ∀ q, hC hp 245 (323 * k + j) (.inl q) → hC hp' 222 j (.inl q))) := by
  refine kEnd_cal hM_restore (show 2 ≤ 3 by omega) rfl rfl ?_
  have hk2 : k < 2 := by simp at hk; omega
  have hr := re_r
  rw [Bool.and_eq_true] at hr
  obtain ⟨κ1, B, a1, a2, a3, a4⟩ := n_ok0 (d := d) (κ := (0, [some zO, some (.inl k), none], [], hp)) (isS_ok hd) (List.all_eq_true.mp re_k1 k hk) ⟨rfl, nLr_this ⟨fun c hc => by cases hc; exact ⟨_, rfl, by omega, rfl⟩, nLr_none trivial⟩, trivial, kW_of hT_hW hp hty, nCs_nil⟩
  simp only [List.mem_cons, List.not_mem_nil, or_false] at a1
  refine kEnd.of a2 ?_
  rcases a1 with rfl | rfl
  · exact n_ret hr.2 a4 (fun kr hkr => ⟨hkr, a4.2.2.2.1, Or.inl a3⟩)
  · obtain ⟨pc1, kl1, ks1, hp1⟩ := κ1
    have e1 : pc1 = 27 := a4.1
    subst e1
    have e2 := nAr_eq (as := []) rfl a4.2.2.1
    dsimp only at e2
    subst e2
    have hchk : (List.range 323).all (fun i => nChk m_X12_restore hW plI gF sNo (cpM 222 0 i) [27] 3000 (27, cpL k i, [], [(245, 323 * k + i, zY 0)]) [(27, cpL k (i + 1), [], [(222, 0 + i, zY 0)])]) = true := by
      have : k = 0 ∨ k = 1 := by omega
      rcases this with rfl | rfl
      · exact re_k2
      · exact re_k3
    obtain ⟨kl2, hp2, c1, c2, c3, c4, c5⟩ := cp_loop (d := d) (by decide) (by decide) sGo_hW245 (by omega) hchk 323 0 (by omega) a4.2.1 a4.2.2.2.1 (fun j hj => by omega)
    obtain ⟨κ3, b2, b3, b4⟩ := n_one (d := d) (κ := (27, kl2, [], hp2)) (fun hp0 => sNo_ok) (List.all_eq_true.mp re_k4 k hk) ⟨rfl, c2, trivial, c3, nCs_nil⟩
    have F : sFr reF hp κ3.2.2.2 := ((a3.mono (sMsub_ok (by decide))).tr (c4.mono (sMsub_ok (by decide)))).tr (b3.mono (sMsub_ok (by decide)))
    refine kEnd.of c1 (kEnd.of b2 (n_ret hr.1 b4 (fun kr hkr => ⟨hkr, b4.2.2.2.1, Or.inr ⟨F, fun j hj q hq => ?_⟩⟩)))
    have h1 := c5 j hj q (hC_fr a3 (sMnot_ok rfl) hq)
    rw [Nat.zero_add] at h1
    exact hC_fr b3 (sMnot_ok rfl) h1
