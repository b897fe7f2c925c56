/-! behind() -/
def z2122 : sC := .inr [(2147483669, 2147483669), (2147483670, 2147483670)]
def mB3 (t : Nat) : sMd := [(243, t, t), (220, 53, 53), (220, 55, 55), (220, 4, 4), (220, 11, 18)]
def mB4 : sMd := [(220, 53, 54), (220, 4, 4), (220, 11, 18)]
set_option maxRecDepth 1000000 in
theorem be_k1 : nChk0 m_X12_behind hT plS sNo [] [1] 3000 (0, [some zT], [], []) [(1, [some zT], [zT], [])] = true := by decide +kernel
set_option maxRecDepth 1000000 in
theorem be_k2 : nChk0 m_X12_behind hT plS (opS []) [] [42, 95] 3000 (4, [some zT], [], []) [(42, [some zT], [zS 21 22, zT], []), (95, [some zT], [zS 22 22, zT], [])] = true := by decide +kernel
set_option maxRecDepth 1000000 in
theorem be_k3 : (List.range 40).all (fun t => nChk0 m_X12_behind hT plS (opS (mB3 t)) (mB3 t) [] 3000 (45, [some zT], [], [(220, 53, zK t)]) [(91, [none], [zK 1], [(220, 53, zK (t + 1)), (243, t, z2122), (220, 55, zK 0)])]) = true := by decide +kernel
set_option maxRecDepth 1000000 in
theorem be_k4 : nChk0 m_X12_behind hT plS (opS mB4) mB4 [] 3000 (98, [some zT], [], [(220, 53, zK 0)]) [(119, [none], [zK 0], [])] = true := by decide +kernel
set_option maxRecDepth 1000000 in
theorem be_k5 : (List.range 40).all (fun t => nChk0 m_X12_behind hT plS (opS mB4) mB4 [] 3000 (98, [some zT], [], [(220, 53, zK (t + 1))]) [(119, [none], [zK 0], []), (145, [none], [zK 1], [(220, 53, zK t)])]) = true := by decide +kernel
set_option maxRecDepth 1000000 in
theorem be_c : (zCb m_X12_behind 1 264 0 && (zCb m_X12_behind 42 265 1 && zCb m_X12_behind 95 265 1)) = true := by decide +kernel
set_option maxRecDepth 1000000 in
theorem be_r : (nRet m_X12_behind (119, [none], [zK 0], []) (some (zS 0 0)) && (nRet m_X12_behind (91, [none], [zK 1], []) (some (zS 1 1)) && nRet m_X12_behind (145, [none], [zK 1], []) (some (zS 1 1)))) = true := by decide +kernel
theorem be_c' : zCb m_X12_behind 1 264 0 = true ∧ zCb m_X12_behind 42 265 1 = true ∧ zCb m_X12_behind 95 265 1 = true := by
  have h := be_c
  rw [Bool.and_eq_true, Bool.and_eq_true] at h
  exact h
theorem be_r' : nRet m_X12_behind (119, [none], [zK 0], []) (some (zS 0 0)) = true ∧ nRet m_X12_behind (91, [none], [zK 1], []) (some (zS 1 1)) = true ∧ nRet m_X12_behind (145, [none], [zK 1], []) (some (zS 1 1)) = true := by
  have h := be_r
  rw [Bool.and_eq_true, Bool.and_eq_true] at h
  exact h
def behindP (hp : List vOb) (o c t : Nat) (kr : Option vAV) (hp' : List vOb) : Prop := kTy hT plS hp' ∧ sFr zMp hp hp' ∧ (kr = some (.inl 0) ∨ (kr = some (.inl 1) ∧ hC hp' 220 52 (.inl o) ∧ ∃ c' t' nb' w', JJ hp' c' t' nb' w' ∧ c' + t' + w' ≤ c + t + 1 ∧ (w' = 0 ∨ (w' = 1 ∧ t' < t))))
theorem nAr_xt {ρ : List Nat} {a b : Nat} {ks : List vAV} (hb : b < 2147483648) (h : nAr ρ [zS a b, zT] ks) : ∃ x, ks = [.inl x, zO] ∧ a ≤ x ∧ x ≤ b := by
  match ks, h with
  | [], h => exact h.elim
  | [_], h => exact h.2.elim
  | _ :: _ :: _ :: _, h => exact h.2.2.elim
  | [k1, k2], h =>
    obtain ⟨h1, h2, -⟩ := h
    obtain ⟨x, x1, x2, x3⟩ := zSab hb h1
    have h2 : k2 = zO := h2
    subst x1 h2
    exact ⟨x, rfl, x2, x3⟩
theorem zMn_zMp {hp hp' : List vOb} (h : sFr zMn hp hp') : sFr zMp hp hp' := zFr (by decide) h
theorem fr0 {hp hp' : List vOb} (h : sFr [] hp hp') : sFr zMp hp hp' := h.mono (fun k i ⟨m, m1, _⟩ => by cases m1)
theorem behind_end {d : Nat} (hd : 20 ≤ d) {hp : List vOb} {kl : vLs} {c t nb o : Nat} (hl : nLr [] [some zT] kl) (hJ : JJ hp c t nb 1) (ho : hC hp 220 52 (.inl o)) (hle : c + t + 1 ≤ 40) : kEnd vms vdf d m_X12_behind (0, kl, [], hp) (behindP hp o c t) := by
  obtain ⟨d', rfl⟩ : ∃ d', d = d' + 2 := ⟨d - 2, by omega⟩
  obtain ⟨κ1, a2, a3, a4⟩ := n_one (d := d' + 2) (κ := (0, kl, [], hp)) (fun hp0 => sNo_ok) be_k1 ⟨rfl, hl, trivial, hJ.ty, nCs_nil⟩
  obtain ⟨pc1, kl1, ks1, hp1⟩ := κ1
  have e1 : pc1 = 1 := a4.1
  subst e1
  have e2 := nAr_eq (as := [zO]) rfl a4.2.2.1
  dsimp only at e2
  subst e2
  have hJ1 := hJ.keep a3 rfl a4.2.2.2.1
  obtain ⟨r, hp2, hcal, rfl, f2, c2, t2, nb2, hJ2, hs2, ht2⟩ := nots_ok d' hJ1 (by omega)
  have k2 := z_call (M := m_X12_behind) (kl := kl1) be_c'.1 (show vTk 0 [] [zO] = some ([], [zO]) from rfl) hJ1.ty hcal
  have o2 : hC hp2 220 52 (.inl o) := hC_fr f2 (sMnot_ok rfl) (hC_fr a3 (sMnot_ok rfl) ho)
  obtain ⟨κ3, B, b1, b5, b6, b7⟩ := n_ok0 (d := d' + 2) (κ := (1 + 3, kl1, [], hp2)) (opS_ok hd) be_k2 ⟨rfl, a4.2.1, trivial, hJ2.ty, nCs_nil⟩
  obtain ⟨pc3, kl3, ks3, hp3⟩ := κ3
  have hJ3 := hJ2.keep b6 rfl b7.2.2.2.1
  have o3 : hC hp3 220 52 (.inl o) := hC_fr b6 (sMnot_ok rfl) o2
  refine kEnd.of a2 (kEnd.of k2 (kEnd.of b5 ?_))
  have F3 : sFr zMp hp hp3 := ((fr0 a3).tr (zMn_zMp f2)).tr (fr0 b6)
  simp only [List.mem_cons, List.not_mem_nil, or_false] at b1
  rcases b1 with rfl | rfl
  · have e3 : pc3 = 42 := b7.1
    subst e3
    obtain ⟨x, e4, x1, x2⟩ := nAr_xt (by omega) b7.2.2.1
    dsimp only at e4
    subst e4
    have hx : x ∈ [21, 22] := by
      have : x = 21 ∨ x = 22 := by omega
      rcases this with rfl | rfl <;> decide
    obtain ⟨r, hp4, hcal4, rfl, f4, c4, t4, nb4, hJ4, hs4, ht4, -⟩ := joins_ok d' hx hJ3 (by omega)
    have k4 := z_call (M := m_X12_behind) (kl := kl3) be_c'.2.1 (show vTk 1 [] [.inl x, zO] = some ([.inl x], [zO]) from rfl) hJ3.ty hcal4
    obtain ⟨κ5, g2, g3, g4⟩ := n_one (d := d' + 2) (κ := (42 + 3, kl3, [], hp4)) (opS_ok hd) (List.all_eq_true.mp be_k3 t4 (List.mem_range.mpr (by omega))) ⟨rfl, b7.2.1, trivial, hJ4.ty, nCs_cons (by omega) hJ4.ht nCs_nil⟩
    obtain ⟨pc5, kl5, ks5, hp5⟩ := κ5
    have hm : ∀ k i, ((k = 243 ∧ i < t4) ∨ k = 224 ∨ (k = 220 ∧ 18 < i ∧ i < 53)) → ¬ sMin (mB3 t4) k i := fun k i hk ⟨m, m1, m2, m3, m4⟩ => by
      unfold mB3 at m1
      simp only [List.mem_cons, List.not_mem_nil, or_false] at m1
      rcases m1 with rfl | rfl | rfl | rfl | rfl <;> dsimp only at m2 m3 m4 <;> omega
    have f5 : sFr zMp hp4 hp5 := g3.mono (fun k i ⟨m, m1, m2, m3, m4⟩ => by
      unfold mB3 at m1
      simp only [List.mem_cons, List.not_mem_nil, or_false] at m1
      rcases m1 with rfl | rfl | rfl | rfl | rfl
      · exact ⟨(243, 0, 44), by decide, m2, Nat.zero_le _, by dsimp only at m4 ⊢; omega⟩
      · exact ⟨(220, 51, 55), by decide, m2, by dsimp only at m3 ⊢; omega, by dsimp only at m4 ⊢; omega⟩
      · exact ⟨(220, 51, 55), by decide, m2, by dsimp only at m3 ⊢; omega, by dsimp only at m4 ⊢; omega⟩
      · exact ⟨(220, 4, 4), by decide, m2, m3, m4⟩
      · exact ⟨(220, 11, 18), by decide, m2, m3, m4⟩)
    have ht5 : hC hp5 220 53 (.inl (t4 + 1)) := nSat_cell g4 List.mem_cons_self
    have hw5 : hC hp5 220 55 (.inl 0) := nSat_cell g4 (List.mem_cons_of_mem _ (List.mem_cons_of_mem _ List.mem_cons_self))
    obtain ⟨v, v1, u, u1, ⟨p, p1, p2, p3⟩, u3⟩ := g4.2.2.2.2 (243, t4, z2122) (List.mem_cons_of_mem _ List.mem_cons_self)
    have hu : u = 21 ∨ u = 22 := by
      simp only [List.mem_cons, List.not_mem_nil, or_false] at p1
      rcases p1 with rfl | rfl <;> dsimp only at p2 p3 <;> unfold sBi at p2 p3 <;> omega
    rw [u3] at v1
    have hJ5 : JJ hp5 c4 (t4 + 1) (nb4 + 1) 0 := ⟨g4.2.2.2.1, hC_fr g3 (hm _ _ (by omega)) hJ4.hc, ht5, hw5, Dp_copy (fun i hi q hq => hC_fr g3 (hm _ _ (by omega)) hq) hJ4.hd, ⟨nb4, u, Nb_copy (fun i hi q hq => hC_fr g3 (hm _ _ (by omega)) hq) hJ4.hn, v1, Or.inl ⟨hu, rfl⟩⟩⟩
    have o5 : hC hp5 220 52 (.inl o) := hC_fr g3 (hm _ _ (by omega)) (hC_fr f4 (sMnot_ok rfl) o3)
    exact kEnd.of k4 (kEnd.of g2 (n_ret be_r'.2.1 (nSat_less g4 rfl rfl) (fun kr hkr => ⟨g4.2.2.2.1, (F3.tr (zMn_zMp f4)).tr f5, Or.inr ⟨zRt (by omega) hkr, o5, c4, t4 + 1, nb4 + 1, 0, hJ5, by omega, Or.inl rfl⟩⟩)))
  · have e3 : pc3 = 95 := b7.1
    subst e3
    obtain ⟨x, e4, x1, x2⟩ := nAr_xt (by omega) b7.2.2.1
    dsimp only at e4
    have ex : x = 22 := by omega
    subst ex
    subst e4
    obtain ⟨r, hp4, hcal4, rfl, f4, c4, t4, nb4, hJ4, hs4, ht4, hnb⟩ := joins_ok d' (x := 22) (by decide) hJ3 (by omega)
    have k4 := z_call (M := m_X12_behind) (kl := kl3) be_c'.2.2 (show vTk 1 [] [.inl 22, zO] = some ([.inl 22], [zO]) from rfl) hJ3.ty hcal4
    have o4 : hC hp4 220 52 (.inl o) := hC_fr f4 (sMnot_ok rfl) o3
    refine kEnd.of k4 ?_
    cases t4 with
    | zero =>
      obtain ⟨κ5, g2, g3, g4⟩ := n_one (d := d' + 2) (κ := (95 + 3, kl3, [], hp4)) (opS_ok hd) be_k4 ⟨rfl, b7.2.1, trivial, hJ4.ty, nCs_cons (by omega) hJ4.ht nCs_nil⟩
      exact kEnd.of g2 (n_ret be_r'.1 g4 (fun kr hkr => ⟨g4.2.2.2.1, (F3.tr (zMn_zMp f4)).tr (zFr (by decide) g3), Or.inl (zRt (by omega) hkr)⟩))
    | succ s =>
      obtain ⟨κ5, B5, h1, g2, g3, g4⟩ := n_ok0 (d := d' + 2) (κ := (95 + 3, kl3, [], hp4)) (opS_ok hd) (List.all_eq_true.mp be_k5 s (List.mem_range.mpr (by omega))) ⟨rfl, b7.2.1, trivial, hJ4.ty, nCs_cons (by omega) hJ4.ht nCs_nil⟩
      refine kEnd.of g2 ?_
      simp only [List.mem_cons, List.not_mem_nil, or_false] at h1
      rcases h1 with rfl | rfl
      · exact n_ret be_r'.1 g4 (fun kr hkr => ⟨g4.2.2.2.1, (F3.tr (zMn_zMp f4)).tr (zFr (by decide) g3), Or.inl (zRt (by omega) hkr)⟩)
      · have ht5 := nSat_cell g4 (k := 220) (i := 53) (n := s) List.mem_cons_self
        have hJ5 : JJ κ5.2.2.2 c4 s nb4 1 := ⟨g4.2.2.2.1, hC_fr g3 (sMnot_ok rfl) hJ4.hc, ht5, hC_fr g3 (sMnot_ok rfl) hJ4.hw, Dp_copy (fun i hi q hq => hC_fr g3 (sMnot_ok rfl) hq) hJ4.hd, Nb_copy (fun i hi q hq => hC_fr g3 (sMnot_ok rfl) hq) (hnb rfl s rfl)⟩
        exact n_ret be_r'.2.2 (nSat_less g4 rfl rfl) (fun kr hkr => ⟨g4.2.2.2.1, (F3.tr (zMn_zMp f4)).tr (zFr (by decide) g3), Or.inr ⟨zRt (by omega) hkr, hC_fr g3 (sMnot_ok rfl) o4, c4, s, nb4, 1, hJ5, by omega, Or.inr ⟨rfl, by omega⟩⟩⟩)
theorem behind_ok {d : Nat} (hd : 20 ≤ d) {hp : List vOb} {c t nb o : Nat} (hJ : JJ hp c t nb 1) (ho : hC hp 220 52 (.inl o)) (hle : c + t + 1 ≤ 40) : ∃ r hp', (∃ N, ∀ fuel, N ≤ fuel → vCalD vms vdf fuel (d + 1) 266 [zO] hp = some (r, hp', 0, 0)) ∧ behindP hp o c t r hp' :=
  kEnd_cal hM_behind (Nat.le_refl 1) rfl rfl (behind_end hd (show nLr [] [some zT] [some zO] from nLr_this trivial) hJ ho hle)
