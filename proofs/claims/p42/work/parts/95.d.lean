/-! operand() -/
def jM2 (md : sMd) : Bool := md.all (fun m => !(Nat.beq m.1 224 || (Nat.beq m.1 243 || (Nat.beq m.1 220 && ((Nat.ble m.2.1 51 && Nat.ble 51 m.2.2) || ((Nat.ble m.2.1 53 && Nat.ble 53 m.2.2) || (Nat.ble m.2.1 55 && Nat.ble 55 m.2.2)))))))
theorem jM2_ok {md : sMd} (h : jM2 md = true) {k i : Nat} (hk : k = 224 ∨ k = 243 ∨ (k = 220 ∧ (i = 51 ∨ i = 53 ∨ i = 55))) : ¬ sMin md k i := fun ⟨m, m1, m2, m3, m4⟩ => by
  have h1 := List.all_eq_true.mp h m m1
  rw [m2] at h1
  rcases hk with e | e | ⟨e, e1 | e1 | e1⟩
  · subst e
    cases h1
  · subst e
    cases h1
  · subst e e1
    rw [Nat.ble_eq_true_of_le m3, Nat.ble_eq_true_of_le m4] at h1
    cases h1
  · subst e e1
    rw [Nat.ble_eq_true_of_le m3, Nat.ble_eq_true_of_le m4, Bool.and_self, Bool.true_or, Bool.or_true] at h1
    cases h1
  · subst e e1
    rw [Nat.ble_eq_true_of_le m3, Nat.ble_eq_true_of_le m4, Bool.and_self, Bool.or_true, Bool.or_true] at h1
    cases h1
theorem JJ.keep2 {hp hp' : List vOb} {c t nb w : Nat} {md : sMd} (h : JJ hp c t nb w) (hf : sFr md hp hp') (hm : jM2 md = true) (hty : kTy hT plS hp') : JJ hp' c t nb w :=
  ⟨hty, hC_fr hf (jM2_ok hm (by omega)) h.hc, hC_fr hf (jM2_ok hm (by omega)) h.ht, hC_fr hf (jM2_ok hm (by omega)) h.hw, Dp_copy (fun i hi q hq => hC_fr hf (jM2_ok hm (by omega)) hq) h.hd, Nb_copy (fun i hi q hq => hC_fr hf (jM2_ok hm (by omega)) hq) h.hn⟩
/-- all that the sentence's parser may change -/
def zMp : sMd := [(220, 4, 4), (220, 11, 18), (220, 51, 55), (224, 0, 119), (243, 0, 44)]
theorem zFr {md : sMd} {hp hp' : List vOb} (h : sMsub md zMp = true) (hf : sFr md hp hp') : sFr zMp hp hp' := hf.mono (sMsub_ok h)
theorem zMc_zMp {c : Nat} (hc : c < 40) {hp hp' : List vOb} (h : sFr (zMc c) hp hp') : sFr zMp hp hp' := zFr (md := zMn) (by decide) (h.mono (fun k i h => zMc_zMn hc h))
noncomputable def opS (md : sMd) : sCal := sCalI vms (sCt hT md [cc_M_next_998_e, cc_M_leafOf_1017_e, cc_M_looksAtBoth_1020_e, cc_M_looksAt_1022_e, cc_M_looksAt_1023_e]) md 3000 6
theorem opS_ok {md : sMd} {d : Nat} (hd : 20 ≤ d) (hp0 : List vOb) : sCalOK vms vdf d md hp0 (opS md) :=
  sCalI_ok (d0 := 14) (fun m hm => sCt_ok (T := hT) (cs_cons (cc_M_next_998_ok m (by omega)) (cs_cons (cc_M_leafOf_1017_ok m (by omega)) (cs_cons (cc_M_looksAtBoth_1020_ok m (by omega)) (cs_cons (cc_M_looksAt_1022_ok m (by omega)) (cs_cons (cc_M_looksAt_1023_ok m (by omega)) cs_nil)))))) 6 d (by omega)
def mNx : sMd := [(220, 4, 4), (220, 11, 18)]
def mO1 : sMd := [(220, 4, 4), (220, 11, 18), (220, 52, 52)]
def mO3 : sMd := [(220, 4, 4), (220, 11, 18), (220, 55, 55)]
def opN (pc : Nat) : nN := (pc, [none, none, none, none, none], [zK 0], [])
def opY (pc : Nat) (cs : List (Nat × Nat × sC)) : nN := (pc, [none, none, none, none, none], [zK 1], cs)
/-- symbol 0 and a number -/
def zY (n : Nat) : sC := .inl (.inr (.inl (0, n)))
def opB1 : nN := (84, [some zT, some (zS 0 1), some (zS 0 1), none, none], [], [(220, 52, zY 1)])
def opB2 : nN := (126, [some zT, none, none, some (zS 0 8), none], [], [(220, 52, zY 1)])
def z2023 : sC := .inr [(2147483668, 2147483668), (2147483671, 2147483671)]
def opC (pc : Nat) : nN := (pc, [some zT, none, none, none, none], [zF, zF, zS 0 8, zT], [(220, 55, zK 1)])
set_option maxRecDepth 1000000 in
theorem op_k1 : nChk m_X12_operand hT plS (1, [(0, [(2147483648, 2147483667)])], []) (opS mO1) mO1 [84, 126] 3000 (0, [some zT, none, none, none, none], [], [(220, 52, zY 0)]) [opN 37, opN 61, opB1, opB2] = true := by decide +kernel
set_option maxRecDepth 1000000 in
theorem op_k1' : nChk0 m_X12_operand hT plS (opS mO1) mO1 [84, 126] 3000 (0, [some zT, none, none, none, none], [], [(220, 52, zK 20)]) [opN 37, opN 61] = true := by decide +kernel
set_option maxRecDepth 1000000 in
theorem op_k2 : (List.range 40).all (fun t => nChk0 m_X12_operand hT plS sNo [(243, t, t), (220, 53, 54)] [] 3000 (84, [some zT, some (zS 0 1), some (zS 0 1), none, none], [], [(220, 53, zK t)]) [opY 125 [(220, 53, zK (t + 1)), (243, t, z2023)]]) = true := by decide +kernel
set_option maxRecDepth 1000000 in
theorem op_k3 : nChk0 m_X12_operand hT plS (opS mO3) mO3 [140, 208, 281] 3000 (126, [some zT, none, none, some (zS 0 8), none], [], []) [opC 140, opC 208, opC 281, opN 200, opN 248, opN 272] = true := by decide +kernel
set_option maxRecDepth 1000000 in
theorem op_k4 : [(140, 144), (208, 216), (281, 289)].all (fun p => nChk0 m_X12_operand hT plS (opS mNx) mNx [] 3000 (p.1 + 3, [some zT, none, none, none, none], [], []) [opY p.2 []]) = true := by decide +kernel
set_option maxRecDepth 1000000 in
theorem op_c : [140, 208, 281].all (fun p => zCb m_X12_operand p 263 3) = true := by decide +kernel
set_option maxRecDepth 1000000 in
theorem op_rn : [37, 61, 200, 248, 272].all (fun p => nRet m_X12_operand (opN p) (some (zS 0 0))) = true := by decide +kernel
set_option maxRecDepth 1000000 in
theorem op_ry : [125, 144, 216, 289].all (fun p => nRet m_X12_operand (opY p []) (some (zS 1 1))) = true := by decide +kernel
theorem zSn {n : Nat} {v : vAV} {ρ : List Nat} (hn : n < 2147483648) (h : sCr ρ (zS n n) v) : v = .inl n := by
  obtain ⟨u, u1, ⟨p, p1, p2, p3⟩, u3⟩ := h
  rw [List.mem_singleton] at p1
  subst p1
  dsimp only at p2 p3
  have e : u = n := by
    unfold sBi at p2 p3
    omega
  rw [u3, e]
theorem zSab {a b : Nat} {v : vAV} {ρ : List Nat} (hb : b < 2147483648) (h : sCr ρ (zS a b) v) : ∃ u, v = .inl u ∧ a ≤ u ∧ u ≤ b := by
  obtain ⟨u, u1, ⟨p, p1, p2, p3⟩, u3⟩ := h
  rw [List.mem_singleton] at p1
  subst p1
  dsimp only at p2 p3
  refine ⟨u, u3, ?_⟩
  unfold sBi at p2 p3
  omega
theorem zRt {n : Nat} {kr : Option vAV} (hn : n < 2147483648) (h : sRtC (some (zS n n)) kr) : kr = some (.inl n) := by
  cases kr with
  | none => exact h.elim
  | some v => rw [zSn (ρ := []) hn h]
theorem zY_cell {T : sHp} {pl xs : List Nat} {B : nN} {κ : kSt} {o k i n : Nat} (hB : nSat T pl ([sBi o] ++ xs) B κ) (hm : (k, i, zY n) ∈ B.2.2.2) (ho : o + n < 4294967296) : hC κ.2.2.2 k i (.inl (o + n)) := by
  obtain ⟨v, v1, r, r1, r2⟩ := hB.2.2.2.2 _ hm
  have r1 : (sBi o :: xs)[0]? = some r := r1
  have r1 := Option.some.inj r1
  rw [r2, ← r1, sUn_add, sUn_bi (by omega), Nat.mod_eq_of_lt ho] at v1
  exact v1
theorem nSat_less {T : sHp} {pl ρ ρ' : List Nat} {pc : Nat} {ls : List (Option sC)} {st : List sC} {cs : List (Nat × Nat × sC)} {κ : kSt} (h : nSat T pl ρ (pc, ls, st, cs) κ) (h1 : lCl ls = true) (h2 : st.all sCl = true) : nSat T pl ρ' (pc, ls, st, []) κ := ⟨h.1, lCl_ok h1 h.2.1, aCl_ok h2 h.2.2.1, h.2.2.2.1, nCs_nil⟩
theorem zG {o a b : Nat} (h1 : a ≤ o) (h2 : o ≤ b) (hb : b < 2147483648) : sGr [sBi o] (1, [(0, [(a + 2147483648, b + 2147483648)])], []) := by
  refine ⟨rfl, fun e he => ?_, fun t ht => by cases ht⟩
  rw [List.mem_singleton] at he
  subst he
  refine ⟨sBi o, rfl, sBi_lt o, sIn_one ?_ ?_⟩
  · unfold sBi; omega
  · unfold sBi; omega
theorem nLr_none {ρ : List Nat} {v : Option vAV} {as : List (Option sC)} {vs : vLs} (h : nLr ρ as vs) : nLr ρ (none :: as) (v :: vs) := ⟨fun c hc => (by cases hc), h⟩
theorem nLr_this {as : List (Option sC)} {vs : vLs} (h : nLr [] as vs) : nLr [] (some zT :: as) (some zO :: vs) := ⟨fun c hc => (by cases hc; exact ⟨zO, rfl, rfl⟩), h⟩
theorem nCs_sym {hp : List vOb} {k i o : Nat} (ho : o < 4294967296) (h : hC hp k i (.inl o)) : nCs [sBi o] hp [(k, i, zY 0)] := fun c hc => by
  rw [List.mem_singleton] at hc
  subst hc
  exact ⟨_, h, sV_back ho rfl⟩
theorem zArgs {ρ : List Nat} {ks : List vAV} (h : nAr ρ [zF, zF, zS 0 8, zT] ks) : ∃ b a w, ks = [.inl b, .inl a, .inl w, zO] ∧ b < 4294967296 ∧ a < 4294967296 ∧ w ≤ 8 := by
  match ks, h with
  | [], h => exact h.elim
  | [_], h => exact h.2.elim
  | [_, _], h => exact h.2.2.elim
  | [_, _, _], h => exact h.2.2.2.elim
  | _ :: _ :: _ :: _ :: _ :: _, h => exact h.2.2.2.2.elim
  | [k1, k2, k3, k4], h =>
    obtain ⟨⟨b, b1, -, b3⟩, ⟨a, a1, -, a3⟩, h3, h4, -⟩ := h
    obtain ⟨w, w1, -, w3⟩ := zSab (by omega) h3
    have h4 : k4 = zO := h4
    subst b3 a3 w1 h4
    exact ⟨b, a, w, rfl, b1, a1, w3⟩
/-- a leaf: code(), what follows, 1 -/
theorem op_tail {d P R : Nat} (hd : 20 ≤ d) (hPR : (P, R) ∈ [(140, 144), (208, 216), (281, 289)]) (hP : P ∈ [140, 208, 281]) (hR : R ∈ [125, 144, 216, 289]) {hp : List vOb} {kl : vLs} {ks : List vAV} {c t nb : Nat} (hB : nSat hT plS [] (opC P) (P, kl, ks, hp)) (hc : hC hp 220 51 (.inl c)) (ht : hC hp 220 53 (.inl t)) (hd1 : Dp hp 224 0 c nb) (hn : Nb hp t nb) (hlt : c < 40) : kEnd vms vdf d m_X12_operand (P, kl, ks, hp) (fun kr hp' => kr = some (.inl 1) ∧ JJ hp' (c + 1) t nb 1 ∧ sFr (zMc c) hp hp' ∨ kr = some (.inl 1) ∧ JJ hp' (c + 1) t nb 1 ∧ ∃ hp1, sFr (zMc c) hp hp1 ∧ sFr mNx hp1 hp') := by
  obtain ⟨d', rfl⟩ : ∃ d', d = d' + 1 := ⟨d - 1, by omega⟩
  obtain ⟨b, a, w, e, hb, ha, hw⟩ := zArgs hB.2.2.1
  dsimp only at e
  subst e
  have hw1 : hC hp 220 55 (.inl 1) := nSat_cell hB List.mem_cons_self
  obtain ⟨r, hp2, hcal, rfl, f2, hty2, g1, g2⟩ := code_ok d' hB.2.2.2.1 hc hlt (w := w) (a := a) (b := b) (by omega) ha hb
  have k2 := z_call (M := m_X12_operand) (kl := kl) (List.all_eq_true.mp op_c P hP) (show vTk 3 [] [.inl b, .inl a, .inl w, zO] = some ([.inl w, .inl a, .inl b], [zO]) from rfl) hB.2.2.2.1 hcal
  obtain ⟨κ3, b5, b6, b7⟩ := n_one (d := d' + 1) (κ := (P + 3, kl, [], hp2)) (opS_ok hd) (List.all_eq_true.mp op_k4 (P, R) hPR) ⟨rfl, hB.2.1, trivial, hty2, nCs_nil⟩
  have hJ2 : JJ hp2 (c + 1) t nb 1 := ⟨hty2, g2, hC_fr f2 (zMc_not (by omega) (by omega)) ht, hC_fr f2 (zMc_not (by omega) (by omega)) hw1, ⟨nb, w, Dp_copy (fun i hi q hq => hC_fr f2 (zMc_not (by omega) (by omega)) hq) hd1, by rw [Nat.zero_add]; exact g1, Or.inl ⟨hw, rfl⟩⟩, Nb_copy (fun i hi q hq => hC_fr f2 (zMc_not (by omega) (by omega)) hq) hn⟩
  refine kEnd.of k2 (kEnd.of b5 (n_ret (List.all_eq_true.mp op_ry R hR) b7 (fun kr hkr => Or.inr ⟨zRt (by omega) hkr, hJ2.keep b6 rfl b7.2.2.2.1, hp2, f2, b6⟩)))
def operandP (hp : List vOb) (o : Nat) (kr : Option vAV) (hp' : List vOb) : Prop := kTy hT plS hp' ∧ sFr zMp hp hp' ∧ (kr = some (.inl 0) ∨ (kr = some (.inl 1) ∧ o + 1 ≤ 20 ∧ hC hp' 220 52 (.inl (o + 1)) ∧ ∃ c' t' nb' w', JJ hp' c' t' nb' w' ∧ w' ≤ 1 ∧ c' + t' + w' ≤ 2 * (o + 1)))
theorem op_no {d p : Nat} (hp' : p ∈ [37, 61, 200, 248, 272]) {hp0 : List vOb} {o : Nat} {κ : kSt} {ρ : List Nat} (hB : nSat hT plS ρ (opN p) κ) (hf : sFr zMp hp0 κ.2.2.2) : kEnd vms vdf d m_X12_operand κ (operandP hp0 o) :=
  n_ret (List.all_eq_true.mp op_rn p hp') (nCl_ok (ρ' := []) rfl hB) (fun kr hkr => ⟨hB.2.2.2.1, hf, Or.inl (zRt (by omega) hkr)⟩)
theorem operand_end {d : Nat} (hd : 20 ≤ d) {hp : List vOb} {kl : vLs} {c t nb o : Nat} (hl : nLr [] [some zT, none, none, none, none] kl) (hJ : JJ hp c t nb 0) (ho : hC hp 220 52 (.inl o)) (hle : c + t ≤ 2 * o) (ho2 : o ≤ 20) : kEnd vms vdf d m_X12_operand (0, kl, [], hp) (operandP hp o) := by
  by_cases h20 : o = 20
  · subst h20
    obtain ⟨κ', B, b1, b2, b3, b4⟩ := n_ok0 (d := d) (κ := (0, kl, [], hp)) (opS_ok hd) op_k1' ⟨rfl, hl, trivial, hJ.ty, nCs_cons (by omega) ho nCs_nil⟩
    simp only [List.mem_cons, List.not_mem_nil, or_false] at b1
    rcases b1 with rfl | rfl
    · exact kEnd.of b2 (op_no (by decide) b4 (zFr (by decide) b3))
    · exact kEnd.of b2 (op_no (by decide) b4 (zFr (by decide) b3))
  · obtain ⟨κ', B, xs, b1, b2, b3, b4⟩ := n_ok (d := d) (κ := (0, kl, [], hp)) (opS_ok hd) op_k1 (zG (a := 0) (b := 19) (Nat.zero_le o) (by omega) (by omega)) ⟨rfl, lCl_ok rfl hl, trivial, hJ.ty, nCs_sym (by omega) ho⟩
    refine kEnd.of b2 ?_
    simp only [List.mem_cons, List.not_mem_nil, or_false] at b1
    have f1 := zFr (by decide) b3
    rcases b1 with rfl | rfl | rfl | rfl
    · exact op_no (by decide) b4 f1
    · exact op_no (by decide) b4 f1
    · obtain ⟨pc1, kl1, ks1, hp1⟩ := κ'
      have hJ1 := hJ.keep2 b3 (by decide) b4.2.2.2.1
      have ho1 : hC hp1 220 52 (.inl (o + 1)) := zY_cell b4 List.mem_cons_self (by omega)
      have b4' := nSat_less (ρ' := []) b4 rfl rfl
      obtain ⟨κ2, b5, b6, b7⟩ := n_one (d := d) (κ := (pc1, kl1, ks1, hp1)) (fun hp0 => sNo_ok) (List.all_eq_true.mp op_k2 t (List.mem_range.mpr (by omega))) ⟨b4'.1, b4'.2.1, b4'.2.2.1, b4'.2.2.2.1, nCs_cons (by omega) hJ1.ht nCs_nil⟩
      have hm : ∀ k i, ((k = 243 ∧ i < t) ∨ k = 224 ∨ (k = 220 ∧ i < 53) ∨ (k = 220 ∧ i = 55)) → ¬ sMin [(243, t, t), (220, 53, 54)] k i := fun k i hk ⟨m, m1, m2, m3, m4⟩ => by
        simp only [List.mem_cons, List.not_mem_nil, or_false] at m1
        rcases m1 with rfl | rfl
        · dsimp only at m2 m3 m4; omega
        · dsimp only at m2 m3 m4; omega
      have f2 : sFr zMp hp1 κ2.2.2.2 := b6.mono (fun k i ⟨m, m1, m2, m3, m4⟩ => by
        simp only [List.mem_cons, List.not_mem_nil, or_false] at m1
        rcases m1 with rfl | rfl
        · exact ⟨(243, 0, 44), by decide, m2, Nat.zero_le _, by dsimp only at m4 ⊢; omega⟩
        · exact ⟨(220, 51, 55), by decide, m2, by dsimp only at m3 ⊢; omega, by dsimp only at m4 ⊢; omega⟩)
      have ht2 : hC κ2.2.2.2 220 53 (.inl (t + 1)) := nSat_cell b7 List.mem_cons_self
      obtain ⟨v, v1, v2⟩ := b7.2.2.2.2 (243, t, z2023) (List.mem_cons_of_mem _ List.mem_cons_self)
      obtain ⟨u, u1, ⟨p, p1, p2, p3⟩, u3⟩ := v2
      have hu : u = 20 ∨ u = 23 := by
        simp only [List.mem_cons, List.not_mem_nil, or_false] at p1
        rcases p1 with rfl | rfl
        · dsimp only at p2 p3; unfold sBi at p2 p3; omega
        · dsimp only at p2 p3; unfold sBi at p2 p3; omega
      rw [u3] at v1
      have hJ2 : JJ κ2.2.2.2 c (t + 1) nb 0 := ⟨b7.2.2.2.1, hC_fr b6 (hm _ _ (by omega)) hJ1.hc, ht2, hC_fr b6 (hm _ _ (by omega)) hJ1.hw, Dp_copy (fun i hi q hq => hC_fr b6 (hm _ _ (by omega)) hq) hJ1.hd, ⟨nb, u, Nb_copy (fun i hi q hq => hC_fr b6 (hm _ _ (by omega)) hq) hJ1.hn, v1, Or.inr ⟨hu, rfl⟩⟩⟩
      exact kEnd.of b5 (n_ret (List.all_eq_true.mp op_ry 125 (by decide)) (nSat_less b7 rfl rfl) (fun kr hkr => ⟨b7.2.2.2.1, f1.tr f2, Or.inr ⟨zRt (by omega) hkr, by omega, hC_fr b6 (hm _ _ (by omega)) ho1, c, t + 1, nb, 0, hJ2, by omega, by omega⟩⟩))
    · obtain ⟨pc1, kl1, ks1, hp1⟩ := κ'
      have hJ1 := hJ.keep2 b3 (by decide) b4.2.2.2.1
      have ho1 : hC hp1 220 52 (.inl (o + 1)) := zY_cell b4 List.mem_cons_self (by omega)
      have b4' := nSat_less (ρ' := []) b4 rfl rfl
      obtain ⟨κ2, B2, c1, c2, c3, c4⟩ := n_ok0 (d := d) (κ := (pc1, kl1, ks1, hp1)) (opS_ok hd) op_k3 b4'
      refine kEnd.of c2 ?_
      have f2 := zFr (by decide) c3
      have hm : jM2 [(220, 4, 4), (220, 11, 18)] = true := by decide
      have tail : ∀ P R, (P, R) ∈ [(140, 144), (208, 216), (281, 289)] → P ∈ [140, 208, 281] → R ∈ [125, 144, 216, 289] → nSat hT plS [] (opC P) κ2 → kEnd vms vdf d m_X12_operand κ2 (operandP hp o) := fun P R hPR hP hR hB => by
        obtain ⟨pc2, kl2, ks2, hp2⟩ := κ2
        have e : pc2 = P := hB.1
        subst e
        obtain ⟨κe, h1, i, len, a, b, tt, kr, h2, h3, h4, h5⟩ := op_tail hd hPR hP hR hB (hC_fr c3 (sMnot_ok rfl) hJ1.hc) (hC_fr c3 (sMnot_ok rfl) hJ1.ht) (Dp_copy (fun i hi q hq => hC_fr c3 (sMnot_ok rfl) hq) hJ1.hd) (Nb_copy (fun i hi q hq => hC_fr c3 (sMnot_ok rfl) hq) hJ1.hn) (show c < 40 by omega)
        refine ⟨κe, h1, i, len, a, b, tt, kr, h2, h3, h4, ?_⟩
        have ho2' : hC hp2 220 52 (.inl (o + 1)) := hC_fr c3 (sMnot_ok rfl) ho1
        rcases h5 with ⟨h5, h6, h7⟩ | ⟨h5, h6, hp1', h7, h8⟩
        · exact ⟨h6.ty, (f1.tr f2).tr (zMc_zMp (by omega) h7), Or.inr ⟨h5, by omega, hC_fr h7 (zMc_not (by omega) (by omega)) ho2', c + 1, t, nb, 1, h6, by omega, by omega⟩⟩
        · exact ⟨h6.ty, ((f1.tr f2).tr (zMc_zMp (by omega) h7)).tr (zFr (by decide) h8), Or.inr ⟨h5, by omega, hC_fr h8 (sMnot_ok rfl) (hC_fr h7 (zMc_not (by omega) (by omega)) ho2'), c + 1, t, nb, 1, h6, by omega, by omega⟩⟩
      simp only [List.mem_cons, List.not_mem_nil, or_false] at c1
      rcases c1 with rfl | rfl | rfl | rfl | rfl | rfl
      · exact tail 140 144 (by decide) (by decide) (by decide) c4
      · exact tail 208 216 (by decide) (by decide) (by decide) c4
      · exact tail 281 289 (by decide) (by decide) (by decide) c4
      · exact op_no (by decide) c4 (f1.tr f2)
      · exact op_no (by decide) c4 (f1.tr f2)
      · exact op_no (by decide) c4 (f1.tr f2)
theorem operand_ok {d : Nat} (hd : 20 ≤ d) {hp : List vOb} {c t nb o : Nat} (hJ : JJ hp c t nb 0) (ho : hC hp 220 52 (.inl o)) (hle : c + t ≤ 2 * o) (ho2 : o ≤ 20) : ∃ r hp', (∃ N, ∀ fuel, N ≤ fuel → vCalD vms vdf fuel (d + 1) 269 [zO] hp = some (r, hp', 0, 0)) ∧ operandP hp o r hp' :=
  kEnd_cal hM_operand (show 1 ≤ 5 by omega) rfl rfl (operand_end hd (show nLr [] [some zT, none, none, none, none] [some zO, none, none, none, none] from nLr_this (nLr_none (nLr_none (nLr_none (nLr_none trivial))))) hJ ho hle ho2)
