theorem kTy_fr0 {T : sHp} {pl : List Nat} {hp hp' : List vOb} (hf : sFr [] hp hp') (h : kTy T pl hp) : kTy T pl hp' := fun k hk => by
  obtain ⟨oT, ob, h1, h2, h3⟩ := h k hk
  obtain ⟨o, q1, q2, q3, q4⟩ := hf.2 _ _ h2
  refine ⟨oT, o, h1, q1, ?_⟩
  have e : o = ob := Prod.ext q2 (List.ext_getElem? (fun i => q4 i (fun ⟨m, m1, _⟩ => by cases m1)))
  rw [e]
  exact h3
theorem hC_fr0 {hp hp' : List vOb} {k i : Nat} {v : vAV} (hf : sFr [] hp hp') (h : hC hp k i v) : hC hp' k i v := hC_fr hf (fun ⟨m, m1, _⟩ => by cases m1) h
/-- the codes that are told are well formed -/
def SS (hp : List vOb) : Prop := ∃ c n, hC hp 222 142 (.inl c) ∧ c ≤ 40 ∧ Dp hp 222 143 c n
def sM142 (md : sMd) : Bool := md.all (fun m => !(Nat.beq m.1 222 && Nat.ble 142 m.2.2))
theorem SS_fr {md : sMd} {hp hp' : List vOb} (hm : sM142 md = true) (hf : sFr md hp hp') (h : SS hp) : SS hp' := by
  have hn : ∀ i, 142 ≤ i → ¬ sMin md 222 i := fun i hi ⟨m, m1, m2, m3, m4⟩ => by
    have := List.all_eq_true.mp hm m m1
    rw [m2, Nat.ble_eq_true_of_le (Nat.le_trans hi m4)] at this
    cases this
  obtain ⟨c, n, h1, h2, h3⟩ := h
  exact ⟨c, n, hC_fr hf (hn _ (by omega)) h1, h2, Dp_copy (fun i hi q hq => hC_fr hf (hn _ (by omega)) hq) h3⟩
def zMs : sMd := [(220, 0, 0), (220, 2, 5), (220, 11, 18), (220, 51, 55), (224, 0, 119), (243, 0, 44), (222, 142, 322)]
theorem zFs {md : sMd} {hp hp' : List vOb} (h : sMsub md zMs = true) (hf : sFr md hp hp') : sFr zMs hp hp' := hf.mono (sMsub_ok h)
theorem zPs {hp hp' : List vOb} (hf : sFr zMp hp hp') : sFr zMs hp hp' := zFs (by decide) hf
def sentP (hp : List vOb) (kr : Option vAV) (hp' : List vOb) : Prop := sRtC (some zF) kr ∧ kTy hT plS hp' ∧ sFr zMs hp hp' ∧ SS hp'
theorem sentP.tr {hp hp1 hp' : List vOb} {kr : Option vAV} (hf : sFr zMs hp hp1) (h : sentP hp1 kr hp') : sentP hp kr hp' := ⟨h.1, h.2.1, hf.tr h.2.2.1, h.2.2.2⟩
theorem kEnd.mono {vms : List vMt} {df : List (List vAV)} {d : Nat} {M : vMt} {κ : kSt} {P Q : Option vAV → List vOb → Prop} (h : kEnd vms df d M κ P) (hPQ : ∀ kr hp', P kr hp' → Q kr hp') : kEnd vms df d M κ Q := by
  obtain ⟨κ', h1, i, len, a, b, t, kr, h2, h3, h4, h5⟩ := h
  exact ⟨κ', h1, i, len, a, b, t, kr, h2, h3, h4, hPQ _ _ h5⟩
theorem se_c' : zCb m_X12_sentence 67 264 0 = true ∧ zCb m_X12_sentence 73 265 1 = true ∧ zCb m_X12_sentence 109 266 0 = true ∧ zCb m_X12_sentence 119 269 0 = true := by
  have h := se_c
  rw [Bool.and_eq_true, Bool.and_eq_true, Bool.and_eq_true] at h
  exact h
theorem se_end {d p : Nat} (hp' : p ∈ [95, 131, 182]) {κ : kSt} (hB : nSat hT plS [] (seN p) κ) (hS : SS κ.2.2.2) : kEnd vms vdf d m_X12_sentence κ (sentP κ.2.2.2) :=
  n_ret (List.all_eq_true.mp se_r p hp') hB (fun kr hkr => ⟨hkr, hB.2.2.2.1, sFr.rf _ _, hS⟩)
theorem zG' (u : Nat) : sGr [sBi u] (1, [(0, [(0, 4294967295)])], []) := by
  refine ⟨rfl, fun e he => ?_, fun t ht => by cases ht⟩
  rw [List.mem_singleton] at he
  subst he
  exact ⟨sBi u, rfl, sBi_lt u, sIn_full (sBi_lt u)⟩
/-- the copying: from 146 on -/
theorem se_copy {d c : Nat} (hc40 : c ≤ 40) : ∀ (k i : Nat) {hp : List vOb} {kl : vLs}, i + k = 3 * c → nLr [] [some zT, none, some (zK i)] kl → kTy hT plS hp → hC hp 220 51 (.inl c) → hC hp 222 142 (.inl c) → (∃ n, Dp hp 224 0 c n) → (∀ j, j < i → ∀ q, hC hp 224 j (.inl q) → hC hp 222 (143 + j) (.inl q)) → kEnd vms vdf d m_X12_sentence (146, kl, [], hp) (sentP hp)
  | 0, i, hp, kl, hik, hl, hty, hc, hs, ⟨n, hd⟩, hcp => by
    have ei : i = 3 * c := by omega
    subst ei
    obtain ⟨κ1, a2, a3, a4⟩ := n_one (d := d) (κ := (146, kl, [], hp)) (fun hp0 => sNo_ok) (List.all_eq_true.mp se_k10 c (List.mem_range.mpr (by omega))) ⟨rfl, hl, trivial, kTy_sub (by decide) hty, nCs_cons (by omega) hc nCs_nil⟩
    obtain ⟨κ2, b2, b3, b4⟩ := n_one (d := d) (fun hp0 => sNo_ok) se_k12 ⟨a4.1, a4.2.1, a4.2.2.1, kTy_fr0 a3 hty, nCs_nil⟩
    refine kEnd.of a2 (kEnd.of b2 ((se_end (by decide) b4 ?_).mono (fun kr hp' h => sentP.tr ((a3.tr b3).mono (fun k i ⟨m, m1, _⟩ => by cases m1)) h)))
    exact ⟨c, n, hC_fr0 b3 (hC_fr0 a3 hs), hc40, Dp_copy (fun j hj q hq => hC_fr0 b3 (hC_fr0 a3 hq)) (Dp_copy (hp := hp) (row := 224) (off := 0) (hp' := hp) (row' := 222) (off' := 143) (fun j hj q hq => by rw [Nat.zero_add] at hq; exact hcp _ (by omega) q hq) hd)⟩
  | k + 1, i, hp, kl, hik, hl, hty, hc, hs, ⟨n, hd⟩, hcp => by
    obtain ⟨κ1, a2, a3, a4⟩ := n_one (d := d) (κ := (146, kl, [], hp)) (fun hp0 => sNo_ok) (List.all_eq_true.mp (List.all_eq_true.mp se_k9 c (List.mem_range.mpr (by omega))) i (List.mem_range.mpr (by omega))) ⟨rfl, hl, trivial, kTy_sub (by decide) hty, nCs_cons (by omega) hc nCs_nil⟩
    have hty1 := kTy_fr0 a3 hty
    obtain ⟨oT, ob, g1, g2, g3⟩ := hty1 224 (by decide)
    have hlen : ob.2.length = 160 := by
      rw [g3.2.1.1]
      have e : (sGo hT 224).map (fun o => sLen o.2.1) = some 160 := by decide +kernel
      rw [g1] at e
      exact Option.some.inj e
    have hcell : sCr [] zF ob.2[i] := by
      have e : (sGo hT 224).map (fun o => o.2.1) = some [(160, zF)] := by rfl
      rw [g1] at e
      have e := Option.some.inj e
      refine g3.2.1.2 i zF _ ?_ (List.getElem?_eq_getElem (by omega))
      dsimp only at e
      rw [e, sRd_cons, if_pos (show i < 160 by omega)]
    obtain ⟨u, u1, -, u3⟩ := hcell
    have hread : hC κ1.2.2.2 224 i (.inl u) := ⟨ob, g2, by rw [← u3]; exact List.getElem?_eq_getElem (by omega)⟩
    obtain ⟨κ2, B, xs, b1, b2, b3, b4⟩ := n_ok (d := d) (ρ := [sBi u]) (fun hp0 => sNo_ok) (List.all_eq_true.mp se_k11 i (List.mem_range.mpr (by omega))) (zG' u) (κ := κ1) ⟨a4.1, lCl_ok rfl a4.2.1, aCl_ok rfl a4.2.2.1, hty1, nCs_sym u1 hread⟩
    rw [List.mem_singleton] at b1
    subst b1
    obtain ⟨pc2, kl2, ks2, hp2⟩ := κ2
    have e1 : pc2 = 146 := b4.1
    subst e1
    have e2 := nAr_eq (as := []) rfl b4.2.2.1
    dsimp only at e2
    subst e2
    have hm : ∀ k j, (k ≠ 222 ∨ j < 143 + i) → ¬ sMin [(222, 143 + i, 143 + i)] k j := fun k j hk ⟨m, m1, m2, m3, m4⟩ => by
      rw [List.mem_singleton] at m1
      subst m1
      dsimp only at m2 m3 m4
      omega
    have hw : hC hp2 222 (143 + i) (.inl u) := by
      have := zY_cell (n := 0) b4 List.mem_cons_self (by omega)
      exact this
    refine kEnd.of a2 (kEnd.of b2 ((se_copy hc40 k (i + 1) (by omega) (lCl_ok rfl b4.2.1) b4.2.2.2.1 (hC_fr b3 (hm _ _ (by omega)) (hC_fr0 a3 hc)) (hC_fr b3 (hm _ _ (by omega)) (hC_fr0 a3 hs)) ⟨n, Dp_copy (fun j hj q hq => hC_fr b3 (hm _ _ (by omega)) (hC_fr0 a3 hq)) hd⟩ (fun j hj q hq => ?_)).mono (fun kr hp' h => sentP.tr ((a3.mono (fun k i ⟨m, m1, _⟩ => by cases m1)).tr (b3.mono (fun k j ⟨m, m1, m2, m3, m4⟩ => ?_))) h)))
    · have hback : hC κ1.2.2.2 224 j (.inl q) := by
        obtain ⟨o2, q1, q2⟩ := hq
        obtain ⟨o3, r1, -, -, r4⟩ := b3.2 _ _ g2
        rw [q1] at r1
        cases r1
        exact ⟨ob, g2, by rw [← r4 j (hm _ _ (by omega))]; exact q2⟩
      have hback0 : hC hp 224 j (.inl q) := by
        obtain ⟨oT', ob0, g1', g2', g3'⟩ := hty 224 (by decide)
        obtain ⟨o3, r1, -, -, r4⟩ := a3.2 _ _ g2'
        obtain ⟨o2, q1, q2⟩ := hback
        rw [q1] at r1
        cases r1
        exact ⟨ob0, g2', by rw [← r4 j (fun ⟨m, m1, _⟩ => by cases m1)]; exact q2⟩
      by_cases ej : j = i
      · subst ej
        have := Sum.inl.inj (hC_fun hback hread)
        rw [this]
        exact hw
      · exact hC_fr b3 (hm _ _ (by omega)) (hC_fr0 a3 (hcp j (by omega) q hback0))
    · rw [List.mem_singleton] at m1
      subst m1
      dsimp only at m2 m3 m4
      exact ⟨(222, 142, 322), by decide, m2, by dsimp only; omega, by dsimp only; omega⟩
theorem se_head {d : Nat} (hd : 21 ≤ d) : ∀ (N : Nat) {hp : List vOb} {kl : vLs} {c t nb w o : Nat}, (20 - o) * 100 + w * 50 + t < N → nLr [] [some zT, some (zK 1), none] kl → JJ hp c t nb w → w ≤ 1 → hC hp 220 52 (.inl o) → o ≤ 20 → c + t + w ≤ 2 * o → SS hp → kEnd vms vdf d m_X12_sentence (48, kl, [], hp) (sentP hp)
  | 0, hp, kl, c, t, nb, w, o, h, _, _, _, _, _, _, _ => by omega
  | N + 1, hp, kl, c, t, nb, w, o, h, hl, hJ, hw, ho, ho2, hle, hS => by
    obtain ⟨d1, rfl⟩ : ∃ d1, d = d1 + 1 := ⟨d - 1, by omega⟩
    by_cases hw0 : w = 0
    · subst hw0
      obtain ⟨κ1, a2, a3, a4⟩ := n_one (d := d1 + 1) (κ := (48, kl, [], hp)) (fun hp0 => sNo_ok) se_k3 ⟨rfl, hl, trivial, hJ.ty, nCs_cons (by omega) hJ.hw nCs_nil⟩
      obtain ⟨pc1, kl1, ks1, hp1⟩ := κ1
      have e1 : pc1 = 119 := a4.1
      subst e1
      have e2 := nAr_eq (as := [zO]) rfl a4.2.2.1
      dsimp only at e2
      subst e2
      have hJ1 := hJ.keep a3 rfl a4.2.2.2.1
      obtain ⟨r, hp2, hcal, hty2, f2, hr⟩ := operand_ok (d := d1) (by omega) hJ1 (hC_fr0 a3 ho) (by omega) ho2
      have k2 := z_call (M := m_X12_sentence) (kl := kl1) se_c'.2.2.2 (show vTk 0 [] [zO] = some ([], [zO]) from rfl) hJ1.ty hcal
      have S2 : SS hp2 := SS_fr (md := zMp) (by decide) f2 (SS_fr (md := []) rfl a3 hS)
      have F2 : sFr zMs hp hp2 := (a3.mono (fun k i ⟨m, m1, _⟩ => by cases m1)).tr (zPs f2)
      have hk4 := List.all_eq_true.mp se_k4 122 (by decide)
      rw [Bool.and_eq_true] at hk4
      refine kEnd.of a2 (kEnd.of k2 ?_)
      rcases hr with rfl | ⟨rfl, ho3, ho4, c', t', nb', w', hJ2, hw2, hle2⟩
      · obtain ⟨κ3, b2, b3, b4⟩ := n_one (d := d1 + 1) (κ := (119 + 3, kl1, [.inl 0], hp2)) (fun hp0 => sNo_ok) hk4.1 ⟨rfl, a4.2.1, ⟨⟨by omega, rfl⟩, trivial⟩, hty2, nCs_nil⟩
        exact kEnd.of b2 ((se_end (by decide) b4 (SS_fr (md := []) rfl b3 S2)).mono (fun kr hp' h => sentP.tr (F2.tr (b3.mono (fun k i ⟨m, m1, _⟩ => by cases m1))) h))
      · obtain ⟨κ3, b2, b3, b4⟩ := n_one (d := d1 + 1) (κ := (119 + 3, kl1, [.inl 1], hp2)) (fun hp0 => sNo_ok) hk4.2 ⟨rfl, a4.2.1, ⟨⟨by omega, rfl⟩, trivial⟩, hty2, nCs_nil⟩
        obtain ⟨pc3, kl3, ks3, hp3⟩ := κ3
        have e3 : pc3 = 48 := b4.1
        subst e3
        have e4 := nAr_eq (as := []) rfl b4.2.2.1
        dsimp only at e4
        subst e4
        exact kEnd.of b2 ((se_head hd N (by omega) b4.2.1 (hJ2.keep b3 rfl b4.2.2.2.1) hw2 (hC_fr0 b3 ho4) ho3 hle2 (SS_fr (md := []) rfl b3 S2)).mono (fun kr hp' h => sentP.tr (F2.tr (b3.mono (fun k i ⟨m, m1, _⟩ => by cases m1))) h))
    · have hw1 : w = 1 := by omega
      subst hw1
      obtain ⟨κ1, B, a1, a2, a3, a4⟩ := n_ok0 (d := d1 + 1) (κ := (48, kl, [], hp)) (fun hp0 => sNo_ok) se_k2 ⟨rfl, hl, trivial, hJ.ty, nCs_cons (by omega) hJ.hw nCs_nil⟩
      obtain ⟨pc1, kl1, ks1, hp1⟩ := κ1
      have hJ1 := hJ.keep a3 rfl a4.2.2.2.1
      have S1 : SS hp1 := SS_fr (md := []) rfl a3 hS
      have F1 : sFr zMs hp hp1 := a3.mono (fun k i ⟨m, m1, _⟩ => by cases m1)
      refine kEnd.of a2 ?_
      simp only [List.mem_cons, List.not_mem_nil, or_false] at a1
      rcases a1 with rfl | rfl
      · have e1 : pc1 = 67 := a4.1
        subst e1
        have e2 := nAr_eq (as := [zO]) rfl a4.2.2.1
        dsimp only at e2
        subst e2
        obtain ⟨d2, rfl⟩ : ∃ d2, d1 = d2 + 1 := ⟨d1 - 1, by omega⟩
        obtain ⟨r, hp2, hcal, rfl, f2, c2, t2, nb2, hJ2, hs2, ht2⟩ := nots_ok d2 hJ1 (by omega)
        have k2 := z_call (M := m_X12_sentence) (kl := kl1) se_c'.1 (show vTk 0 [] [zO] = some ([], [zO]) from rfl) hJ1.ty hcal
        obtain ⟨κ3, b2, b3, b4⟩ := n_one (d := d2 + 2) (κ := (67 + 3, kl1, [], hp2)) (fun hp0 => sNo_ok) se_k5 ⟨rfl, a4.2.1, trivial, hJ2.ty, nCs_nil⟩
        obtain ⟨pc3, kl3, ks3, hp3⟩ := κ3
        have e3 : pc3 = 73 := b4.1
        subst e3
        have e4 := nAr_eq (as := [.inl 22, zO]) rfl b4.2.2.1
        dsimp only at e4
        subst e4
        have hJ3 := hJ2.keep b3 rfl b4.2.2.2.1
        obtain ⟨r, hp4, hcal4, rfl, f4, c4, t4, nb4, hJ4, hs4, ht4, -⟩ := joins_ok d2 (x := 22) (by decide) hJ3 (by omega)
        have k4 := z_call (M := m_X12_sentence) (kl := kl3) se_c'.2.1 (show vTk 1 [] [.inl 22, zO] = some ([.inl 22], [zO]) from rfl) hJ3.ty hcal4
        have S4 : SS hp4 := SS_fr (md := zMn) (by decide) f4 (SS_fr (md := []) rfl b3 (SS_fr (md := zMn) (by decide) f2 S1))
        have F4 : sFr zMs hp hp4 := ((F1.tr (zPs (zMn_zMp f2))).tr (b3.mono (fun k i ⟨m, m1, _⟩ => by cases m1))).tr (zPs (zMn_zMp f4))
        refine kEnd.of k2 (kEnd.of b2 (kEnd.of k4 ?_))
        cases t4 with
        | zero =>
          have hnb : nb4 = 0 := hJ4.hn
          obtain ⟨κ5, g2, g3, g4⟩ := n_one (d := d2 + 2) (κ := (73 + 3, kl3, [], hp4)) (fun hp0 => sNo_ok) se_k6 ⟨rfl, b4.2.1, trivial, hJ4.ty, nCs_cons (by omega) hJ4.ht nCs_nil⟩
          have hJ5 := hJ4.keep g3 rfl g4.2.2.2.1
          obtain ⟨κ6, i2, i3, i4⟩ := n_one (d := d2 + 2) (fun hp0 => sNo_ok) (List.all_eq_true.mp se_k8 c4 (List.mem_range.mpr (by omega))) (κ := κ5) ⟨g4.1, g4.2.1, g4.2.2.1, g4.2.2.2.1, nCs_cons (by omega) hJ5.hc nCs_nil⟩
          obtain ⟨pc6, kl6, ks6, hp6⟩ := κ6
          have e5 : pc6 = 146 := i4.1
          subst e5
          have e6 := nAr_eq (as := []) rfl i4.2.2.1
          dsimp only at e6
          subst e6
          have hs6 : hC hp6 222 142 (.inl c4) := nSat_cell i4 List.mem_cons_self
          refine kEnd.of g2 (kEnd.of i2 ((se_copy (show c4 ≤ 40 by omega) (3 * c4) 0 (by omega) i4.2.1 i4.2.2.2.1 (hC_fr i3 (sMnot_ok rfl) hJ5.hc) hs6 ⟨nb4 + 1, Dp_copy (fun i hi q hq => hC_fr i3 (sMnot_ok rfl) hq) hJ5.hd⟩ (fun j hj => by omega)).mono (fun kr hp' h => sentP.tr ((F4.tr (g3.mono (fun k i ⟨m, m1, _⟩ => by cases m1))).tr (zFs (by decide) i3)) h)))
        | succ s =>
          obtain ⟨κ5, g2, g3, g4⟩ := n_one (d := d2 + 2) (κ := (73 + 3, kl3, [], hp4)) (opS_ok (by omega)) (List.all_eq_true.mp se_k7 s (List.mem_range.mpr (by omega))) ⟨rfl, b4.2.1, trivial, hJ4.ty, nCs_cons (by omega) hJ4.ht nCs_nil⟩
          exact kEnd.of g2 ((se_end (by decide) g4 (SS_fr (by decide) g3 S4)).mono (fun kr hp' h => sentP.tr (F4.tr (zFs (by decide) g3)) h))
      · have e1 : pc1 = 109 := a4.1
        subst e1
        have e2 := nAr_eq (as := [zO]) rfl a4.2.2.1
        dsimp only at e2
        subst e2
        obtain ⟨r, hp2, hcal, hty2, f2, hr⟩ := behind_ok (d := d1) (by omega) hJ1 (hC_fr0 a3 ho) (by omega)
        have k2 := z_call (M := m_X12_sentence) (kl := kl1) se_c'.2.2.1 (show vTk 0 [] [zO] = some ([], [zO]) from rfl) hJ1.ty hcal
        have S2 : SS hp2 := SS_fr (md := zMp) (by decide) f2 S1
        have F2 : sFr zMs hp hp2 := F1.tr (zPs f2)
        have hk4 := List.all_eq_true.mp se_k4 112 (by decide)
        rw [Bool.and_eq_true] at hk4
        refine kEnd.of k2 ?_
        rcases hr with rfl | ⟨rfl, ho4, c', t', nb', w', hJ2, hle2, hlt⟩
        · obtain ⟨κ3, b2, b3, b4⟩ := n_one (d := d1 + 1) (κ := (109 + 3, kl1, [.inl 0], hp2)) (fun hp0 => sNo_ok) hk4.1 ⟨rfl, a4.2.1, ⟨⟨by omega, rfl⟩, trivial⟩, hty2, nCs_nil⟩
          exact kEnd.of b2 ((se_end (by decide) b4 (SS_fr (md := []) rfl b3 S2)).mono (fun kr hp' h => sentP.tr (F2.tr (b3.mono (fun k i ⟨m, m1, _⟩ => by cases m1))) h))
        · obtain ⟨κ3, b2, b3, b4⟩ := n_one (d := d1 + 1) (κ := (109 + 3, kl1, [.inl 1], hp2)) (fun hp0 => sNo_ok) hk4.2 ⟨rfl, a4.2.1, ⟨⟨by omega, rfl⟩, trivial⟩, hty2, nCs_nil⟩
          obtain ⟨pc3, kl3, ks3, hp3⟩ := κ3
          have e3 : pc3 = 48 := b4.1
          subst e3
          have e4 := nAr_eq (as := []) rfl b4.2.2.1
          dsimp only at e4
          subst e4
          exact kEnd.of b2 ((se_head hd N (by omega) b4.2.1 (hJ2.keep b3 rfl b4.2.2.2.1) (by omega) (hC_fr0 b3 ho4) ho2 (by omega) (SS_fr (md := []) rfl b3 S2)).mono (fun kr hp' h => sentP.tr (F2.tr (b3.mono (fun k i ⟨m, m1, _⟩ => by cases m1))) h))
theorem sentence_ok {d : Nat} (hd : 21 ≤ d) {hp : List vOb} (hty : kTy hT plS hp) (hS : SS hp) : ∃ r hp', (∃ N, ∀ fuel, N ≤ fuel → vCalD vms vdf fuel (d + 1) 270 [zO] hp = some (r, hp', 0, 0)) ∧ sentP hp r hp' := by
  refine kEnd_cal hM_sentence (show 1 ≤ 3 by omega) rfl rfl ?_
  obtain ⟨κ1, a2, a3, a4⟩ := n_one (d := d) (κ := (0, [some zO, none, none], [], hp)) (opS_ok (by omega)) se_k1 ⟨rfl, nLr_this (nLr_none (nLr_none trivial)), trivial, hty, nCs_nil⟩
  obtain ⟨pc1, kl1, ks1, hp1⟩ := κ1
  have e1 : pc1 = 48 := a4.1
  subst e1
  have e2 := nAr_eq (as := []) rfl a4.2.2.1
  dsimp only at e2
  subst e2
  have q1 : hC hp1 220 51 (.inl 0) := nSat_cell a4 List.mem_cons_self
  have q2 : hC hp1 220 52 (.inl 0) := nSat_cell a4 (List.mem_cons_of_mem _ List.mem_cons_self)
  have q3 : hC hp1 220 53 (.inl 0) := nSat_cell a4 (List.mem_cons_of_mem _ (List.mem_cons_of_mem _ List.mem_cons_self))
  have q4 : hC hp1 220 55 (.inl 0) := nSat_cell a4 (List.mem_cons_of_mem _ (List.mem_cons_of_mem _ (List.mem_cons_of_mem _ List.mem_cons_self)))
  have hJ : JJ hp1 0 0 0 0 := ⟨a4.2.2.2.1, q1, q3, q4, rfl, rfl⟩
  exact kEnd.of a2 ((se_head hd 2001 (by omega) a4.2.1 hJ (by omega) q2 (by omega) (by omega) (SS_fr (md := mS1) (by decide) a3 hS)).mono (fun kr hp' h => sentP.tr (zFs (by decide) a3) h))
