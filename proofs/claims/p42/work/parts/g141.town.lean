/-! ===== town() of the reference empties the tape ===== -/
noncomputable def pCh1z (vms : List vMt) (T Tz : sHp) (scal : sCal) (md1 : sMd) (fuel : Nat) (e : sCtE) (op : sOp) (cuts tms : List sCut) : Bool := match vNth vms e.1, sTp T e.2.2.1 with
  | some M, some h0 => (Nat.beq (mRm M).cells 0 && (Nat.beq (mRm M).slots 0 && Nat.ble (sArgs (sIni e.2.1 (0, [], [])).1).length M.2.2.1)) && sMch op scal md1 M.2.2.2.2.1 fuel cuts (fun σ => cFin Tz M e σ || sArr none σ tms) none (0, sEnt (sIni e.2.1 (0, [], [])).1 M.2.2.1, [], h0, (sIni e.2.1 (0, [], [])).2)
  | _, _ => false
section PHASEZ
variable {vms : List vMt} {df : List (List vAV)} {d : Nat} {T : sHp} {Ts : List sHp} {scal scal2 : sCal} {md1 md2 : sMd} {fuel : Nat} {e : sCtE} {op op2 : sOp} {cuts cuts2 tms : List sCut}
theorem ph1z {Tz : sHp} {M : vMt} (hM : vms[e.1]? = some M) (hs : ∀ hp0, sCalOK vms df d md1 hp0 scal) (h1 : pCh1z vms T Tz scal md1 fuel e op cuts tms = true) (h2 : ∀ c ∈ cuts, pCh2 vms Tz scal md1 fuel e op cuts tms [c] = true) {kav : List vAV} {hp : List vOb} (hav : sAr e.2.1 kav) (hty : kTy T e.2.2.1 hp) :
    ((vArgs kav).length ≤ M.2.2.1 ∧ (mRm M).cells = 0 ∧ (mRm M).slots = 0) ∧ ∃ κ, kRe vms df d M.2.2.2.2.1 0 0 (0, vEnt kav M.2.2.1, [], hp) κ ∧ ((∃ i len a b t kr, vGet M.2.2.2.2.1 κ.1 = some (i, len, a, b, t) ∧ sFin i = true ∧ vRet M.2.2.2.1 i κ.2.2.1 = some kr ∧ sRtC e.2.2.2.1 kr ∧ sFr md1 hp κ.2.2.2 ∧ kTy Tz e.2.2.1 κ.2.2.2) ∨ ∃ c ∈ tms, c.1.1 = κ.1 ∧ ∃ ρ', sR md1 hp ρ' c.1.2.1 c.1.2.2.1 c.1.2.2.2.1 c.1.2.2.2.2 κ.2.1 κ.2.2.1 κ.2.2.2) := by
  unfold pCh1z at h1
  rw [vNth_eq, hM] at h1
  split at h1
  · next M' h0 hM' hh0 =>
    have hM' := Option.some.inj hM'
    subst hM'
    rw [Bool.and_eq_true, Bool.and_eq_true, Bool.and_eq_true] at h1
    obtain ⟨⟨b1, b2, b3⟩, b4⟩ := h1
    obtain ⟨xs, i1, i2⟩ := sIni_ok hav sG0
    rw [List.nil_append] at i1 i2
    obtain ⟨q1, q2⟩ := sEnt_ok i2 M.2.2.1
    refine ⟨⟨by rw [q2]; exact Nat.le_of_ble_eq_true b3, Nat.eq_of_beq_eq_true b1, Nat.eq_of_beq_eq_true b2⟩, ?_⟩
    exact sWhole (Q := fun κ => (∃ i len a b t kr, vGet M.2.2.2.2.1 κ.1 = some (i, len, a, b, t) ∧ sFin i = true ∧ vRet M.2.2.2.1 i κ.2.2.1 = some kr ∧ sRtC e.2.2.2.1 kr ∧ sFr md1 hp κ.2.2.2 ∧ kTy Tz e.2.2.1 κ.2.2.2) ∨ ∃ c ∈ tms, c.1.1 = κ.1 ∧ ∃ ρ', sR md1 hp ρ' c.1.2.1 c.1.2.2.1 c.1.2.2.2.1 c.1.2.2.2.2 κ.2.1 κ.2.2.1 κ.2.2.2) (mc := 0) (ms := 0) (hs hp) (fun σ ρ kl ks hp1 hfin hR => by
      rcases Bool.or_eq_true_iff.mp hfin with hf | hf
      · left
        unfold cFin at hf
        split at hf
        · next x hx =>
          obtain ⟨i, len, a, b, t⟩ := x
          rw [Bool.and_eq_true] at hf
          have h2 := hf.2
          split at h2
          · next r hr =>
            rw [Bool.and_eq_true] at h2
            obtain ⟨kr, r1, r2⟩ := sRetV_ok hR.2.2.2.1 hR.2.1 hr
            exact ⟨i, len, a, b, t, kr, hx, hf.1, r1, sRtB_ok hR.2.2.2.1 h2.1 r2, hR.2.2.2.2, sTlc_ok hR.2.2.2.1 hR.2.2.1 h2.2⟩
          · cases h2
        · cases hf
      · right
        obtain ⟨c, c1, c2, ρ', c3, -⟩ := sArr_ok hR hf
        exact ⟨c, c1, c2, ρ', c3⟩) (fun c hc => by
      have h := h2 c hc
      unfold pCh2 at h
      rw [vNth_eq, hM] at h
      dsimp only at h
      rw [List.all_cons, List.all_nil, Bool.and_true, Bool.and_eq_true] at h
      exact h) b4 (ρ := xs) (kl := vEnt kav M.2.2.1) (ks := []) (hp := hp) ⟨q1, trivial, sHr_nil (sTp_ok hh0 hty), i1, sFr.rf _ _⟩
  · cases h1
end PHASEZ
def tZw : sHp := tOv hT [(220, 2, zS 0 0)]
set_option maxRecDepth 1000000 in
theorem tw_p1z : pCh1z vms hT tZw (tw_s tw_m1) tw_m1 3000 tw_e ([112], [], []) tw_c1 tw_tm = true := by decide +kernel
set_option maxRecDepth 1000000 in
theorem tw_p2z_0 : pCh2 vms tZw (tw_s tw_m1) tw_m1 3000 tw_e ([112], [], []) tw_c1 tw_tm [tw_c1[0]] = true := by decide +kernel
set_option maxRecDepth 1000000 in
theorem tw_p2z_1 : pCh2 vms tZw (tw_s tw_m1) tw_m1 3000 tw_e ([112], [], []) tw_c1 tw_tm [tw_c1[1]] = true := by decide +kernel
set_option maxRecDepth 1000000 in
theorem tw_p2z_2 : pCh2 vms tZw (tw_s tw_m1) tw_m1 3000 tw_e ([112], [], []) tw_c1 tw_tm [tw_c1[2]] = true := by decide +kernel
set_option maxRecDepth 1000000 in
theorem tw_p2z_3 : pCh2 vms tZw (tw_s tw_m1) tw_m1 3000 tw_e ([112], [], []) tw_c1 tw_tm [tw_c1[3]] = true := by decide +kernel
set_option maxRecDepth 1000000 in
theorem tw_p2z_4 : pCh2 vms tZw (tw_s tw_m1) tw_m1 3000 tw_e ([112], [], []) tw_c1 tw_tm [tw_c1[4]] = true := by decide +kernel
set_option maxRecDepth 1000000 in
theorem tw_p2z_5 : pCh2 vms tZw (tw_s tw_m1) tw_m1 3000 tw_e ([112], [], []) tw_c1 tw_tm [tw_c1[5]] = true := by decide +kernel
theorem tw_p2z : ∀ c ∈ tw_c1, pCh2 vms tZw (tw_s tw_m1) tw_m1 3000 tw_e ([112], [], []) tw_c1 tw_tm [c] = true := fun c hc => by
  have e : tw_c1 = [tw_c1[0], tw_c1[1], tw_c1[2], tw_c1[3], tw_c1[4], tw_c1[5]] := rfl
  rw [e] at hc
  simp only [List.mem_cons, List.not_mem_nil, or_false] at hc
  rcases hc with rfl | rfl | rfl | rfl | rfl | rfl
  · exact tw_p2z_0
  · exact tw_p2z_1
  · exact tw_p2z_2
  · exact tw_p2z_3
  · exact tw_p2z_4
  · exact tw_p2z_5
set_option maxRecDepth 1000000 in
theorem tw_tz : tw_tm.all (fun c => nCc c.1.2.2.2.2 c.1.2.2.2.1 (220, 2, zK 0)) = true := by decide +kernel
theorem tw_runz {d : Nat} (n : Nat) : ∀ (k : Nat) (kl : vLs) (hp : List vOb), k + n = 323 → nLr [] (twL k) kl → kTy hW plW hp → hC hp 220 2 (.inl 0) → kEnd vms vdf d m_X12_town (114, kl, [], hp) (fun _ hp' => hC hp' 220 2 (.inl 0)) := by
  induction n with
  | zero =>
    intro k kl hp hk hl hty hc
    have e : k = 323 := by omega
    subst e
    obtain ⟨κ1, a2, a3, a4⟩ := n_one (d := d) (κ := (114, kl, [], hp)) (fun hp0 => sNo_ok) tw_k4 ⟨rfl, hl, trivial, hty, nCs_nil⟩
    exact kEnd.of a2 (n_ret tw_r a4 (fun kr _ => hC_fr a3 (sMnot_ok rfl) hc))
  | succ n ih =>
    intro k kl hp hk hl hty hc
    have next : ∀ (κ1 : kSt) (cs : List (Nat × Nat × sC)), nSat hW plW [] (114, twL (k + 1), [], cs) κ1 → sFr [(222, k, k)] hp κ1.2.2.2 → kEnd vms vdf d m_X12_town κ1 (fun _ hp' => hC hp' 220 2 (.inl 0)) := fun κ1 cs hB hf => by
      obtain ⟨pc1, kl1, ks1, hp1⟩ := κ1
      have e1 : pc1 = 114 := hB.1
      subst e1
      have e2 := nAr_eq (as := []) rfl hB.2.2.1
      dsimp only at e2
      subst e2
      exact ih (k + 1) kl1 hp1 (by omega) hB.2.1 hB.2.2.2.1 (hC_fr hf (fun ⟨m, m1, m2, m3, m4⟩ => by
        rw [List.mem_singleton] at m1
        subst m1
        dsimp only at m2
        omega) hc)
    by_cases h1 : k < 142
    · obtain ⟨κ1, a2, a3, a4⟩ := n_one (d := d) (κ := (114, kl, [], hp)) (fun hp0 => sNo_ok) (List.all_eq_true.mp tw_k1 k (List.mem_range.mpr h1)) ⟨rfl, hl, trivial, hty, nCs_nil⟩
      exact kEnd.of a2 (next κ1 _ a4 a3)
    · by_cases h2 : k = 142
      · subst h2
        obtain ⟨κ1, a2, a3, a4⟩ := n_one (d := d) (κ := (114, kl, [], hp)) (fun hp0 => sNo_ok) tw_k2 ⟨rfl, hl, trivial, hty, nCs_nil⟩
        exact kEnd.of a2 (next κ1 _ a4 a3)
      · obtain ⟨j, rfl⟩ : ∃ j, k = 143 + j := ⟨k - 143, by omega⟩
        obtain ⟨κ1, a2, a3, a4⟩ := n_one (d := d) (κ := (114, kl, [], hp)) (fun hp0 => sNo_ok) (List.all_eq_true.mp tw_k3 j (List.mem_range.mpr (by omega))) ⟨rfl, hl, trivial, hty, nCs_nil⟩
        exact kEnd.of a2 (next κ1 _ a4 a3)
theorem tZw_row : (match sGo tZw 220 with | some o => sRd o.2.1 2 | none => none) = some (zS 0 0) := rfl
theorem town_Z {d : Nat} (hd : 20 ≤ d) {hp : List vOb} (hty : kTy hT plTw hp) : ∃ r hp', (∃ N, ∀ fuel, N ≤ fuel → vCalD vms vdf fuel (d + 1) 81 [zO] hp = some (r, hp', 0, 0)) ∧ hC hp' 220 2 (.inl 0) := by
  obtain ⟨⟨q1, q2, q3⟩, κ, k1, k2⟩ := ph1z (d := d) (Tz := tZw) hM_town (tw_s_ok (by omega)) tw_p1z tw_p2z (kav := [zO]) ⟨rfl, trivial⟩ hty
  refine kEnd_cal hM_town q1 q2 q3 (kEnd.of k1 ?_)
  rcases k2 with ⟨i, len, a, b, t, kr, g1, g2, g3, g4, g5, g6⟩ | ⟨c, c1, c2, ρ', c3⟩
  · obtain ⟨x, v1, v2⟩ := kTy_cell (k := 220) (i := 2) (c := zS 0 0) (by decide) tZw_row g6
    exact ⟨κ, kRe.rf _, i, len, a, b, t, kr, g1, g2, g3, zS00 v1 v2⟩
  · obtain ⟨pc, kl, ks, hp1⟩ := κ
    dsimp only at c2 c3
    have hk := List.all_eq_true.mp tw_tmk c c1
    rw [Bool.and_eq_true, Bool.and_eq_true, Bool.and_eq_true] at hk
    obtain ⟨m1, m2, m3, m4⟩ := hk
    have e1 : pc = 112 := c2.symm.trans (Nat.eq_of_beq_eq_true m1)
    subst e1
    have hl : nLr [] [some zT, none] kl := lCl_ok rfl (nLe_ok c3.2.2.2.1 m2 c3.1)
    have hks := nAr_eq (as := []) rfl (nAe_ok c3.2.2.2.1 m3 c3.2.1)
    subst hks
    have hty1 := sTlc_ok c3.2.2.2.1 c3.2.2.1 m4
    obtain ⟨x, v1, v2⟩ := nCc_ok c3.2.2.2.1 c3.2.2.1 (List.all_eq_true.mp tw_tz c c1)
    have hz : hC hp1 220 2 (.inl 0) := by
      rw [v2.2] at v1
      exact v1
    obtain ⟨κ2, a2, a3, a4⟩ := n_one (d := d) (κ := (112, kl, [], hp1)) (fun hp0 => sNo_ok) tw_k0 ⟨rfl, hl, trivial, kW_of tw_w hp1 (kTy_sub (by decide) hty1), nCs_nil⟩
    obtain ⟨pc2, kl2, ks2, hp2⟩ := κ2
    have e2 : pc2 = 114 := a4.1
    subst e2
    have e3 := nAr_eq (as := []) rfl a4.2.2.1
    dsimp only at e3
    subst e3
    exact kEnd.of a2 (tw_runz 323 0 kl2 hp2 (by omega) a4.2.1 a4.2.2.2.1 (hC_fr0 a3 hz))
