/-! joins() -/
def joinsB : nN := (73, [none, none], [], [])
set_option maxRecDepth 1000000 in
theorem joins_k0 : [21, 22].all (fun x => nChk0 m_X12_joins hT plS sNo [] [] 100 (0, [some zT, some (zK x)], [], [(220, 53, zK 0)]) [joinsB]) = true := by decide +kernel
set_option maxRecDepth 1000000 in
theorem joins_k1 : (List.range 40).all (fun t => [(21, 20), (21, 22), (21, 23), (22, 20), (22, 23)].all (fun x => nChk0 m_X12_joins hT plS sNo [] [] 100 (0, [some zT, some (zK x.1)], [], [(220, 53, zK (t + 1)), (243, t, zK x.2)]) [joinsB])) = true := by decide +kernel
set_option maxRecDepth 1000000 in
theorem joins_k2 : (List.range 40).all (fun t => [(21, 21), (22, 21), (22, 22)].all (fun x => nChk0 m_X12_joins hT plS sNo [(220, 53, 54)] [67] 100 (0, [some zT, some (zK x.1)], [], [(220, 53, zK (t + 1)), (243, t, zK x.2)]) [(67, [some zT, some (zK x.1)], [zK 0, zK 0, zK x.2, zT], [(220, 53, zK t)])])) = true := by decide +kernel
set_option maxRecDepth 1000000 in
theorem joins_k3 : [21, 22].all (fun x => nChk0 m_X12_joins hT plS sNo [] [0] 100 (70, [some zT, some (zK x)], [], []) [(0, [some zT, some (zK x)], [], [])]) = true := by decide +kernel
set_option maxRecDepth 1000000 in
theorem joins_r : nRet m_X12_joins joinsB none = true := by decide +kernel
set_option maxRecDepth 1000000 in
theorem joins_c : zCb m_X12_joins 67 263 3 = true := by decide +kernel
def joinsP (x : Nat) (hp : List vOb) (c t : Nat) (kr : Option vAV) (hp' : List vOb) : Prop := kr = none ∧ sFr zMn hp hp' ∧ ∃ c' t' nb', JJ hp' c' t' nb' 1 ∧ c' + t' = c + t ∧ t' ≤ t ∧ (x = 22 → ∀ s, t' = s + 1 → Nb hp' s nb')
theorem joins_end (d x : Nat) (hx : x ∈ [21, 22]) : ∀ (t : Nat) {hp : List vOb} {kl : vLs} {c nb : Nat}, nLr [] [some zT, some (zK x)] kl → JJ hp c t nb 1 → c + t ≤ 40 → kEnd vms vdf (d + 1) m_X12_joins (0, kl, [], hp) (joinsP x hp c t)
  | 0, hp, kl, c, nb, hl, hJ, hle => by
    obtain ⟨κ', b2, b3, b4⟩ := n_one (d := d + 1) (κ := (0, kl, [], hp)) (fun hp0 => sNo_ok) (List.all_eq_true.mp joins_k0 x hx) ⟨rfl, hl, trivial, hJ.ty, nCs_cons (by omega) hJ.ht nCs_nil⟩
    exact kEnd.of b2 (n_ret joins_r b4 (fun kr hkr => ⟨sRtN hkr, b3.mono (fun k i ⟨m, m1, _⟩ => by cases m1), c, 0, nb, hJ.keep b3 rfl b4.2.2.2.1, rfl, Nat.le_refl _, fun _ s hs => by omega⟩))
  | t + 1, hp, kl, c, nb, hl, hJ, hle => by
    obtain ⟨m, q, n1, n2, n3⟩ := hJ.hn
    by_cases hq : q = 21 ∨ (q = 22 ∧ x = 22)
    · have em : m + 1 = nb := by omega
      subst em
      have hq2 : q < 23 := by omega
      have hxq : (x, q) ∈ [(21, 21), (22, 21), (22, 22)] := by
        simp only [List.mem_cons, List.not_mem_nil, or_false] at hx ⊢
        rcases hx with rfl | rfl <;> rcases hq with rfl | ⟨rfl, h⟩ <;> simp_all
      obtain ⟨κ1, b2, b3, b4⟩ := n_one (d := d + 1) (κ := (0, kl, [], hp)) (fun hp0 => sNo_ok) (List.all_eq_true.mp (List.all_eq_true.mp joins_k2 t (List.mem_range.mpr (by omega))) (x, q) hxq) ⟨rfl, hl, trivial, hJ.ty, nCs_cons (by omega) hJ.ht (nCs_cons (by omega) n2 nCs_nil)⟩
      obtain ⟨pc1, kl1, ks1, hp1⟩ := κ1
      have e1 : pc1 = 67 := b4.1
      subst e1
      have e2 := nAr_eq (as := [.inl 0, .inl 0, .inl q, zO]) rfl b4.2.2.1
      dsimp only at e2
      subst e2
      have ht1 : hC hp1 220 53 (.inl t) := nSat_cell b4 List.mem_cons_self
      have hc1 : hC hp1 220 51 (.inl c) := hC_fr b3 (sMnot_ok rfl) hJ.hc
      have hw1 : hC hp1 220 55 (.inl 1) := hC_fr b3 (sMnot_ok rfl) hJ.hw
      have hty1 : kTy hT plS hp1 := b4.2.2.2.1
      obtain ⟨r, hp2, hcal, rfl, f2, hty2, g1, g2⟩ := code_ok d hty1 hc1 (by omega) (w := q) (a := 0) (b := 0) (by omega) (by omega) (by omega)
      have k2 := z_call (M := m_X12_joins) (kl := kl1) joins_c (show vTk 3 [] [.inl 0, .inl 0, .inl q, zO] = some ([.inl q, .inl 0, .inl 0], [zO]) from rfl) hty1 hcal
      obtain ⟨κ3, b5, b6, b7⟩ := n_one (d := d + 1) (κ := (67 + 3, kl1, [], hp2)) (fun hp0 => sNo_ok) (List.all_eq_true.mp joins_k3 x hx) ⟨rfl, b4.2.1, trivial, hty2, nCs_nil⟩
      obtain ⟨pc3, kl3, ks3, hp3⟩ := κ3
      have e3 : pc3 = 0 := b7.1
      subst e3
      have e4 := nAr_eq (as := []) rfl b7.2.2.1
      dsimp only at e4
      subst e4
      have hJ2 : JJ hp2 (c + 1) t m 1 := ⟨hty2, g2, hC_fr f2 (zMc_not (by omega) (by omega)) ht1, hC_fr f2 (zMc_not (by omega) (by omega)) hw1, ⟨m + 1 + 1, q, Dp_copy (fun i hi q hq => hC_fr f2 (zMc_not (by omega) (by omega)) (hC_fr b3 (sMnot_ok rfl) hq)) hJ.hd, by rw [Nat.zero_add]; exact g1, Or.inr (Or.inr ⟨by omega, by omega, rfl⟩)⟩, Nb_copy (fun i hi q hq => hC_fr f2 (zMc_not (by omega) (by omega)) (hC_fr b3 (sMnot_ok rfl) hq)) n1⟩
      have hJ3 := hJ2.keep b6 rfl b7.2.2.2.1
      refine kEnd.of b2 (kEnd.of k2 (kEnd.of b5 ?_))
      obtain ⟨κe, h1, i, len, a, b, tt, kr, h2, h3, h4, h5, h6, c', t', nb', h7, h8, h9, h10⟩ := joins_end d x hx t b7.2.1 hJ3 (by omega)
      refine ⟨κe, h1, i, len, a, b, tt, kr, h2, h3, h4, h5, ?_, c', t', nb', h7, by omega, by omega, h10⟩
      exact (((b3.mono (fun k i ⟨m, m1, m2⟩ => ⟨m, by rw [List.mem_singleton] at m1; rw [m1]; decide, m2⟩)).tr (f2.mono (fun k i h => zMc_zMn (by omega) h))).tr (b6.mono (fun k i ⟨m, m1, _⟩ => by cases m1))).tr h6
    · have hq2 : q < 24 := by omega
      have hxq : (x, q) ∈ [(21, 20), (21, 22), (21, 23), (22, 20), (22, 23)] := by
        simp only [List.mem_cons, List.not_mem_nil, or_false] at hx ⊢
        have : q = 20 ∨ q = 22 ∨ q = 23 := by omega
        rcases hx with rfl | rfl <;> rcases this with rfl | rfl | rfl <;> simp_all
      obtain ⟨κ', b2, b3, b4⟩ := n_one (d := d + 1) (κ := (0, kl, [], hp)) (fun hp0 => sNo_ok) (List.all_eq_true.mp (List.all_eq_true.mp joins_k1 t (List.mem_range.mpr (by omega))) (x, q) hxq) ⟨rfl, hl, trivial, hJ.ty, nCs_cons (by omega) hJ.ht (nCs_cons (by omega) n2 nCs_nil)⟩
      refine kEnd.of b2 (n_ret joins_r b4 (fun kr hkr => ⟨sRtN hkr, b3.mono (fun k i ⟨m, m1, _⟩ => by cases m1), c, t + 1, nb, hJ.keep b3 rfl b4.2.2.2.1, rfl, Nat.le_refl _, fun hx2 s hs => ?_⟩))
      have es : s = t := by omega
      subst es
      have em : m = nb := by omega
      subst em
      exact Nb_copy (fun i hi q hq => hC_fr b3 (sMnot_ok rfl) hq) n1
theorem joins_ok (d : Nat) {x : Nat} (hx : x ∈ [21, 22]) {hp : List vOb} {c t nb : Nat} (hJ : JJ hp c t nb 1) (hle : c + t ≤ 40) : ∃ r hp', (∃ N, ∀ fuel, N ≤ fuel → vCalD vms vdf fuel (d + 2) 265 [zO, .inl x] hp = some (r, hp', 0, 0)) ∧ joinsP x hp c t r hp' :=
  kEnd_cal hM_joins (Nat.le_refl 2) rfl rfl (joins_end d x hx t ⟨fun y hy => by cases hy; exact ⟨zO, rfl, rfl⟩, fun y hy => by cases hy; exact ⟨.inl x, rfl, by simp at hx; omega, rfl⟩, trivial⟩ hJ hle)
