/-! ===== town() of the reference ===== -/
def plTw : List Nat := [220, 221, 222, 223, 225, 226]
theorem tw_pl : tw_e.2.2.1 = plTw := rfl
theorem tw_p2 : ∀ c ∈ tw_c1, pCh2 vms hT (tw_s tw_m1) tw_m1 3000 tw_e ([112], [], []) tw_c1 tw_tm [c] = true := fun c hc => by
  have e : tw_c1 = [tw_c1[0], tw_c1[1], tw_c1[2], tw_c1[3], tw_c1[4], tw_c1[5]] := rfl
  rw [e] at hc
  simp only [List.mem_cons, List.not_mem_nil, or_false] at hc
  rcases hc with rfl | rfl | rfl | rfl | rfl | rfl
  · exact tw_p2_0
  · exact tw_p2_1
  · exact tw_p2_2
  · exact tw_p2_3
  · exact tw_p2_4
  · exact tw_p2_5
theorem tw_p3 : ∀ c ∈ tw_tm, pCh3 vms tw_Ts (tw_s tw_e.2.2.2.2) tw_e.2.2.2.2 3000 tw_e ([], [(114, 1, 18)], []) tw_c2 [c] = true := fun c hc => by
  have e : tw_tm = [tw_tm[0], tw_tm[1], tw_tm[2], tw_tm[3], tw_tm[4], tw_tm[5]] := rfl
  rw [e] at hc
  simp only [List.mem_cons, List.not_mem_nil, or_false] at hc
  rcases hc with rfl | rfl | rfl | rfl | rfl | rfl
  · exact tw_p3_0
  · exact tw_p3_1
  · exact tw_p3_2
  · exact tw_p3_3
  · exact tw_p3_4
  · exact tw_p3_5
theorem tw_p4 : ∀ c ∈ tw_c2, pCh4 vms tw_Ts (tw_s tw_e.2.2.2.2) tw_e.2.2.2.2 3000 tw_e ([], [(114, 1, 18)], []) tw_c2 [c] = true := fun c hc => by
  have e : tw_c2 = [tw_c2[0], tw_c2[1], tw_c2[2], tw_c2[3], tw_c2[4], tw_c2[5], tw_c2[6], tw_c2[7], tw_c2[8], tw_c2[9], tw_c2[10], tw_c2[11], tw_c2[12], tw_c2[13], tw_c2[14], tw_c2[15]] := rfl
  rw [e] at hc
  simp only [List.mem_cons, List.not_mem_nil, or_false] at hc
  rcases hc with rfl | rfl | rfl | rfl | rfl | rfl | rfl | rfl | rfl | rfl | rfl | rfl | rfl | rfl | rfl | rfl
  · exact tw_p4_0
  · exact tw_p4_1
  · exact tw_p4_2
  · exact tw_p4_3
  · exact tw_p4_4
  · exact tw_p4_5
  · exact tw_p4_6
  · exact tw_p4_7
  · exact tw_p4_8
  · exact tw_p4_9
  · exact tw_p4_10
  · exact tw_p4_11
  · exact tw_p4_12
  · exact tw_p4_13
  · exact tw_p4_14
  · exact tw_p4_15
set_option maxRecDepth 1000000 in
theorem tw_tmk : tw_tm.all (fun c => Nat.beq c.1.1 112 && (nLe c.1.2.2.2.2 [some zT, none] c.1.2.1 && (nAe c.1.2.2.2.2 [] c.1.2.2.1 && sTlc c.1.2.2.2.2 hT c.1.2.2.2.1 plTw))) = true := by decide +kernel
set_option maxRecDepth 1000000 in
theorem tw_w : kWb hT hW plW = true := by decide +kernel
/-- the answer and the typing -/
theorem town_A {d : Nat} (hd : 20 ≤ d) {hp : List vOb} (hty : kTy hT plTw hp) : ∃ r hp', (∃ N, ∀ fuel, N ≤ fuel → vCalD vms vdf fuel (d + 1) 81 [zO] hp = some (r, hp', 0, 0)) ∧ sRtC (some zF) r ∧ ((sFr tw_m1 hp hp' ∧ kTy hT plTw hp') ∨ (sFr tw_e.2.2.2.2 hp hp' ∧ ∃ T' ∈ tw_Ts, kTy T' plTw hp')) := by
  obtain ⟨⟨q1, q2, q3⟩, κ, k1, k2⟩ := ph1 (d := d) hM_town (tw_s_ok (by omega)) tw_p1 tw_p2 (kav := [zO]) ⟨rfl, trivial⟩ hty
  refine kEnd_cal hM_town q1 q2 q3 (kEnd.of k1 ?_)
  rcases k2 with ⟨i, len, a, b, t, kr, g1, g2, g3, g4, g5, g6⟩ | ⟨c, c1, c2, ρ', c3⟩
  · exact ⟨κ, kRe.rf _, i, len, a, b, t, kr, g1, g2, g3, g4, Or.inl ⟨g5, g6⟩⟩
  · obtain ⟨pc, kl, ks, hp1⟩ := κ
    dsimp only at c2 c3
    subst c2
    exact (ph2 hM_town (tw_s_ok (by omega)) tw_p3 tw_p4 c1 c3).mono (fun kr hp' ⟨r1, r2, r3⟩ => ⟨r1, Or.inr ⟨(c3.2.2.2.2.mono (sMsub_ok (by decide))).tr r2, r3⟩⟩)
theorem tw_run {d : Nat} (n : Nat) : ∀ (k : Nat) (kl : vLs) (hp : List vOb), k + n = 323 → nLr [] (twL k) kl → kTy hW plW hp → (142 < k → hC hp 222 142 (.inl 0)) → kEnd vms vdf d m_X12_town (114, kl, [], hp) (fun _ hp' => hC hp' 222 142 (.inl 0)) := by
  induction n with
  | zero =>
    intro k kl hp hk hl hty hc
    have e : k = 323 := by omega
    subst e
    obtain ⟨κ1, a2, a3, a4⟩ := n_one (d := d) (κ := (114, kl, [], hp)) (fun hp0 => sNo_ok) tw_k4 ⟨rfl, hl, trivial, hty, nCs_nil⟩
    exact kEnd.of a2 (n_ret tw_r a4 (fun kr _ => hC_fr a3 (sMnot_ok rfl) (hc (by omega))))
  | succ n ih =>
    intro k kl hp hk hl hty hc
    have next : ∀ (κ1 : kSt) (cs : List (Nat × Nat × sC)), nSat hW plW [] (114, twL (k + 1), [], cs) κ1 → (142 < k + 1 → hC κ1.2.2.2 222 142 (.inl 0)) → kEnd vms vdf d m_X12_town κ1 (fun _ hp' => hC hp' 222 142 (.inl 0)) := fun κ1 cs hB h => by
      obtain ⟨pc1, kl1, ks1, hp1⟩ := κ1
      have e1 : pc1 = 114 := hB.1
      subst e1
      have e2 := nAr_eq (as := []) rfl hB.2.2.1
      dsimp only at e2
      subst e2
      exact ih (k + 1) kl1 hp1 (by omega) hB.2.1 hB.2.2.2.1 h
    have keep : ∀ (κ1 : kSt), k ≠ 142 → sFr [(222, k, k)] hp κ1.2.2.2 → 142 < k + 1 → hC κ1.2.2.2 222 142 (.inl 0) := fun κ1 hk2 hf hlt => hC_fr hf (fun ⟨m, m1, m2, m3, m4⟩ => by
      rw [List.mem_singleton] at m1
      subst m1
      dsimp only at m3 m4
      omega) (hc (by omega))
    by_cases h1 : k < 142
    · obtain ⟨κ1, a2, a3, a4⟩ := n_one (d := d) (κ := (114, kl, [], hp)) (fun hp0 => sNo_ok) (List.all_eq_true.mp tw_k1 k (List.mem_range.mpr h1)) ⟨rfl, hl, trivial, hty, nCs_nil⟩
      exact kEnd.of a2 (next κ1 _ a4 (keep κ1 (by omega) a3))
    · by_cases h2 : k = 142
      · subst h2
        obtain ⟨κ1, a2, a3, a4⟩ := n_one (d := d) (κ := (114, kl, [], hp)) (fun hp0 => sNo_ok) tw_k2 ⟨rfl, hl, trivial, hty, nCs_nil⟩
        exact kEnd.of a2 (next κ1 _ a4 (fun _ => nSat_cell a4 List.mem_cons_self))
      · obtain ⟨j, rfl⟩ : ∃ j, k = 143 + j := ⟨k - 143, by omega⟩
        obtain ⟨κ1, a2, a3, a4⟩ := n_one (d := d) (κ := (114, kl, [], hp)) (fun hp0 => sNo_ok) (List.all_eq_true.mp tw_k3 j (List.mem_range.mpr (by omega))) ⟨rfl, hl, trivial, hty, nCs_nil⟩
        exact kEnd.of a2 (next κ1 _ a4 (keep κ1 (by omega) a3))
/-- the codes -/
theorem town_B {d : Nat} (hd : 20 ≤ d) {hp : List vOb} (hty : kTy hT plTw hp) : ∃ r hp', (∃ N, ∀ fuel, N ≤ fuel → vCalD vms vdf fuel (d + 1) 81 [zO] hp = some (r, hp', 0, 0)) ∧ (sFr tw_m1 hp hp' ∨ hC hp' 222 142 (.inl 0)) := by
  obtain ⟨⟨q1, q2, q3⟩, κ, k1, k2⟩ := ph1 (d := d) hM_town (tw_s_ok (by omega)) tw_p1 tw_p2 (kav := [zO]) ⟨rfl, trivial⟩ hty
  refine kEnd_cal hM_town q1 q2 q3 (kEnd.of k1 ?_)
  rcases k2 with ⟨i, len, a, b, t, kr, g1, g2, g3, g4, g5, g6⟩ | ⟨c, c1, c2, ρ', c3⟩
  · exact ⟨κ, kRe.rf _, i, len, a, b, t, kr, g1, g2, g3, Or.inl g5⟩
  · obtain ⟨pc, kl, ks, hp1⟩ := κ
    dsimp only at c2 c3
    have hk := List.all_eq_true.mp tw_tmk c c1
    rw [Bool.and_eq_true, Bool.and_eq_true, Bool.and_eq_true] at hk
    obtain ⟨m1, m2, m3, m4⟩ := hk
    have e1 : pc = 112 := c2.symm.trans (Nat.eq_of_beq_eq_true m1)
    subst e1
    have hl : nLr [] [some zT, none] kl := lCl_ok rfl (nLe_ok c3.2.2.2.1 m2 c3.1)
    have hks := nAr_eq (as := []) rfl (nAe_ok c3.2.2.2.1 m3 c3.2.1)
    subst hks
    have hty1 := sTlc_ok c3.2.2.2.1 c3.2.2.1 m4
    obtain ⟨κ2, a2, a3, a4⟩ := n_one (d := d) (κ := (112, kl, [], hp1)) (fun hp0 => sNo_ok) tw_k0 ⟨rfl, hl, trivial, kW_of tw_w hp1 (kTy_sub (by decide) hty1), nCs_nil⟩
    obtain ⟨pc2, kl2, ks2, hp2⟩ := κ2
    have e2 : pc2 = 114 := a4.1
    subst e2
    have e3 := nAr_eq (as := []) rfl a4.2.2.1
    dsimp only at e3
    subst e3
    exact kEnd.of a2 ((tw_run 323 0 kl2 hp2 (by omega) a4.2.1 a4.2.2.2.1 (fun h => by omega)).mono (fun kr hp' h => Or.inr h))
/-- both -/
theorem town_ok {d : Nat} (hd : 20 ≤ d) {hp : List vOb} (hty : kTy hT plTw hp) : ∃ r hp', (∃ N, ∀ fuel, N ≤ fuel → vCalD vms vdf fuel (d + 1) 81 [zO] hp = some (r, hp', 0, 0)) ∧ sRtC (some zF) r ∧ ((sFr tw_m1 hp hp' ∧ kTy hT plTw hp') ∨ (sFr tw_e.2.2.2.2 hp hp' ∧ (∃ T' ∈ tw_Ts, kTy T' plTw hp') ∧ (sFr tw_m1 hp hp' ∨ hC hp' 222 142 (.inl 0)))) := by
  obtain ⟨r, hp', ⟨N, hN⟩, h1, h2⟩ := town_A hd hty
  obtain ⟨r', hp'', ⟨N', hN'⟩, h3⟩ := town_B hd hty
  have e := (hN (max N N') (Nat.le_max_left _ _)).symm.trans (hN' (max N N') (Nat.le_max_right _ _))
  have e := Option.some.inj e
  have e1 : hp' = hp'' := congrArg (fun x => x.2.1) e
  subst e1
  refine ⟨r, hp', ⟨N, hN⟩, h1, ?_⟩
  rcases h2 with h2 | ⟨h4, h5⟩
  · exact Or.inl h2
  · exact Or.inr ⟨h4, h5, h3⟩
