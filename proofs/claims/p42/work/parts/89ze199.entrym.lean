/-! ===== the beginning of town() of the reference ===== -/
set_option maxRecDepth 1000000 in
theorem emk0 : eQ (eRun shM (eCalI eNo vms shM 1500 8) vt_X12_town [66] 672 [] (0, [some (.inr (.inr (some 220))), none], [], [(220, [(0, 2)], .inl [(1, 0)], []), (220, [(0, 7)], .inr (.inr (some 223)), [])], [])) (66, [some (.inr (.inr (some 220))), some (.inl [(0, 64)])], [.inr (.inr (some 220))], [(223, [(0, 4)], .inl [(0, 1)], []), (223, [(0, 63)], .inl [(0, 0)], []), (223, [(0, 62)], .inl [(0, 0)], []), (223, [(0, 61)], .inl [(0, 0)], []), (223, [(0, 60)], .inl [(0, 0)], []), (223, [(0, 59)], .inl [(0, 0)], []), (223, [(0, 58)], .inl [(0, 0)], []), (223, [(0, 57)], .inl [(0, 0)], []), (223, [(0, 56)], .inl [(0, 0)], []), (223, [(0, 55)], .inl [(0, 0)], []), (223, [(0, 54)], .inl [(0, 0)], []), (223, [(0, 53)], .inl [(0, 0)], []), (223, [(0, 52)], .inl [(0, 0)], []), (223, [(0, 51)], .inl [(0, 0)], []), (223, [(0, 50)], .inl [(0, 0)], []), (223, [(0, 49)], .inl [(0, 0)], []), (223, [(0, 48)], .inl [(0, 0)], []), (223, [(0, 47)], .inl [(0, 0)], []), (223, [(0, 46)], .inl [(0, 0)], []), (223, [(0, 45)], .inl [(0, 0)], []), (223, [(0, 44)], .inl [(0, 0)], []), (223, [(0, 43)], .inl [(0, 0)], []), (223, [(0, 42)], .inl [(0, 0)], []), (223, [(0, 41)], .inl [(0, 0)], []), (223, [(0, 40)], .inl [(0, 0)], []), (223, [(0, 39)], .inl [(0, 0)], []), (223, [(0, 38)], .inl [(0, 0)], []), (223, [(0, 37)], .inl [(0, 0)], []), (223, [(0, 36)], .inl [(0, 0)], []), (223, [(0, 35)], .inl [(0, 0)], []), (223, [(0, 34)], .inl [(0, 0)], []), (223, [(0, 33)], .inl [(0, 0)], []), (223, [(0, 32)], .inl [(0, 0)], []), (223, [(0, 31)], .inl [(0, 0)], []), (223, [(0, 30)], .inl [(0, 0)], []), (223, [(0, 29)], .inl [(0, 0)], []), (223, [(0, 28)], .inl [(0, 0)], []), (223, [(0, 27)], .inl [(0, 0)], []), (223, [(0, 26)], .inl [(0, 0)], []), (223, [(0, 25)], .inl [(0, 0)], []), (223, [(0, 24)], .inl [(0, 0)], []), (223, [(0, 23)], .inl [(0, 0)], []), (223, [(0, 22)], .inl [(0, 0)], []), (223, [(0, 21)], .inl [(0, 0)], []), (223, [(0, 20)], .inl [(0, 0)], []), (223, [(0, 19)], .inl [(0, 0)], []), (223, [(0, 18)], .inl [(0, 0)], []), (223, [(0, 17)], .inl [(0, 0)], []), (223, [(0, 16)], .inl [(0, 0)], []), (223, [(0, 15)], .inl [(0, 0)], []), (223, [(0, 14)], .inl [(0, 0)], []), (223, [(0, 13)], .inl [(0, 0)], []), (223, [(0, 12)], .inl [(0, 0)], []), (223, [(0, 11)], .inl [(0, 0)], []), (223, [(0, 10)], .inl [(0, 0)], []), (223, [(0, 9)], .inl [(0, 0)], []), (223, [(0, 8)], .inl [(0, 0)], []), (223, [(0, 7)], .inl [(0, 0)], []), (223, [(0, 6)], .inl [(0, 0)], []), (223, [(0, 5)], .inl [(0, 0)], []), (223, [(0, 3)], .inl [(0, 0)], []), (223, [(0, 2)], .inl [(0, 0)], []), (223, [(0, 1)], .inl [(0, 0)], []), (223, [(0, 0)], .inl [(0, 0)], []), (220, [(0, 22)], .inl [(0, 0)], []), (220, [(0, 21)], .inl [(0, 0)], []), (220, [(0, 20)], .inl [(0, 0)], []), (220, [(0, 19)], .inl [(0, 0)], []), (220, [(0, 15)], .inl [(0, 0)], []), (220, [(0, 5)], .inl [(0, 900)], []), (220, [(0, 4)], .inl [(0, 0)], []), (220, [(0, 2)], .inl [(0, 0)], []), (220, [(0, 3)], .inl [(1, 0)], []), (220, [(0, 0)], .inl [(0, 0)], []), (220, [(0, 7)], .inr (.inr (some 223)), [])], [(223, [(0, 4)]), (223, [(0, 63)]), (223, [(0, 62)]), (223, [(0, 61)]), (223, [(0, 60)]), (223, [(0, 59)]), (223, [(0, 58)]), (223, [(0, 57)]), (223, [(0, 56)]), (223, [(0, 55)]), (223, [(0, 54)]), (223, [(0, 53)]), (223, [(0, 52)]), (223, [(0, 51)]), (223, [(0, 50)]), (223, [(0, 49)]), (223, [(0, 48)]), (223, [(0, 47)]), (223, [(0, 46)]), (223, [(0, 45)]), (223, [(0, 44)]), (223, [(0, 43)]), (223, [(0, 42)]), (223, [(0, 41)]), (223, [(0, 40)]), (223, [(0, 39)]), (223, [(0, 38)]), (223, [(0, 37)]), (223, [(0, 36)]), (223, [(0, 35)]), (223, [(0, 34)]), (223, [(0, 33)]), (223, [(0, 32)]), (223, [(0, 31)]), (223, [(0, 30)]), (223, [(0, 29)]), (223, [(0, 28)]), (223, [(0, 27)]), (223, [(0, 26)]), (223, [(0, 25)]), (223, [(0, 24)]), (223, [(0, 23)]), (223, [(0, 22)]), (223, [(0, 21)]), (223, [(0, 20)]), (223, [(0, 19)]), (223, [(0, 18)]), (223, [(0, 17)]), (223, [(0, 16)]), (223, [(0, 15)]), (223, [(0, 14)]), (223, [(0, 13)]), (223, [(0, 12)]), (223, [(0, 11)]), (223, [(0, 10)]), (223, [(0, 9)]), (223, [(0, 8)]), (223, [(0, 7)]), (223, [(0, 6)]), (223, [(0, 5)]), (223, [(0, 4)]), (223, [(0, 3)]), (223, [(0, 2)]), (223, [(0, 1)]), (223, [(0, 0)]), (220, [(0, 22)]), (220, [(0, 21)]), (220, [(0, 20)]), (220, [(0, 19)]), (220, [(0, 15)]), (220, [(0, 5)]), (220, [(0, 4)]), (220, [(0, 2)]), (220, [(0, 3)]), (220, [(0, 0)])]) [] [] = true := by decide +kernel
def emd : eD := [(223, [(0, 4)], .inl [(0, 1)], []), (223, [(0, 63)], .inl [(0, 0)], []), (223, [(0, 62)], .inl [(0, 0)], []), (223, [(0, 61)], .inl [(0, 0)], []), (223, [(0, 60)], .inl [(0, 0)], []), (223, [(0, 59)], .inl [(0, 0)], []), (223, [(0, 58)], .inl [(0, 0)], []), (223, [(0, 57)], .inl [(0, 0)], []), (223, [(0, 56)], .inl [(0, 0)], []), (223, [(0, 55)], .inl [(0, 0)], []), (223, [(0, 54)], .inl [(0, 0)], []), (223, [(0, 53)], .inl [(0, 0)], []), (223, [(0, 52)], .inl [(0, 0)], []), (223, [(0, 51)], .inl [(0, 0)], []), (223, [(0, 50)], .inl [(0, 0)], []), (223, [(0, 49)], .inl [(0, 0)], []), (223, [(0, 48)], .inl [(0, 0)], []), (223, [(0, 47)], .inl [(0, 0)], []), (223, [(0, 46)], .inl [(0, 0)], []), (223, [(0, 45)], .inl [(0, 0)], []), (223, [(0, 44)], .inl [(0, 0)], []), (223, [(0, 43)], .inl [(0, 0)], []), (223, [(0, 42)], .inl [(0, 0)], []), (223, [(0, 41)], .inl [(0, 0)], []), (223, [(0, 40)], .inl [(0, 0)], []), (223, [(0, 39)], .inl [(0, 0)], []), (223, [(0, 38)], .inl [(0, 0)], []), (223, [(0, 37)], .inl [(0, 0)], []), (223, [(0, 36)], .inl [(0, 0)], []), (223, [(0, 35)], .inl [(0, 0)], []), (223, [(0, 34)], .inl [(0, 0)], []), (223, [(0, 33)], .inl [(0, 0)], []), (223, [(0, 32)], .inl [(0, 0)], []), (223, [(0, 31)], .inl [(0, 0)], []), (223, [(0, 30)], .inl [(0, 0)], []), (223, [(0, 29)], .inl [(0, 0)], []), (223, [(0, 28)], .inl [(0, 0)], []), (223, [(0, 27)], .inl [(0, 0)], []), (223, [(0, 26)], .inl [(0, 0)], []), (223, [(0, 25)], .inl [(0, 0)], []), (223, [(0, 24)], .inl [(0, 0)], []), (223, [(0, 23)], .inl [(0, 0)], []), (223, [(0, 22)], .inl [(0, 0)], []), (223, [(0, 21)], .inl [(0, 0)], []), (223, [(0, 20)], .inl [(0, 0)], []), (223, [(0, 19)], .inl [(0, 0)], []), (223, [(0, 18)], .inl [(0, 0)], []), (223, [(0, 17)], .inl [(0, 0)], []), (223, [(0, 16)], .inl [(0, 0)], []), (223, [(0, 15)], .inl [(0, 0)], []), (223, [(0, 14)], .inl [(0, 0)], []), (223, [(0, 13)], .inl [(0, 0)], []), (223, [(0, 12)], .inl [(0, 0)], []), (223, [(0, 11)], .inl [(0, 0)], []), (223, [(0, 10)], .inl [(0, 0)], []), (223, [(0, 9)], .inl [(0, 0)], []), (223, [(0, 8)], .inl [(0, 0)], []), (223, [(0, 7)], .inl [(0, 0)], []), (223, [(0, 6)], .inl [(0, 0)], []), (223, [(0, 5)], .inl [(0, 0)], []), (223, [(0, 3)], .inl [(0, 0)], []), (223, [(0, 2)], .inl [(0, 0)], []), (223, [(0, 1)], .inl [(0, 0)], []), (223, [(0, 0)], .inl [(0, 0)], []), (220, [(0, 22)], .inl [(0, 0)], []), (220, [(0, 21)], .inl [(0, 0)], []), (220, [(0, 20)], .inl [(0, 0)], []), (220, [(0, 19)], .inl [(0, 0)], []), (220, [(0, 15)], .inl [(0, 0)], []), (220, [(0, 5)], .inl [(0, 900)], []), (220, [(0, 4)], .inl [(0, 0)], []), (220, [(0, 2)], .inl [(0, 0)], []), (220, [(0, 3)], .inl [(1, 0)], []), (220, [(0, 0)], .inl [(0, 0)], []), (220, [(0, 7)], .inr (.inr (some 223)), [])]
def emi : eD := [(220, [(0, 2)], .inl [(1, 0)], []), (220, [(0, 7)], .inr (.inr (some 223)), [])]
def emw : List (Nat × eX) := [(223, [(0, 4)]), (223, [(0, 63)]), (223, [(0, 62)]), (223, [(0, 61)]), (223, [(0, 60)]), (223, [(0, 59)]), (223, [(0, 58)]), (223, [(0, 57)]), (223, [(0, 56)]), (223, [(0, 55)]), (223, [(0, 54)]), (223, [(0, 53)]), (223, [(0, 52)]), (223, [(0, 51)]), (223, [(0, 50)]), (223, [(0, 49)]), (223, [(0, 48)]), (223, [(0, 47)]), (223, [(0, 46)]), (223, [(0, 45)]), (223, [(0, 44)]), (223, [(0, 43)]), (223, [(0, 42)]), (223, [(0, 41)]), (223, [(0, 40)]), (223, [(0, 39)]), (223, [(0, 38)]), (223, [(0, 37)]), (223, [(0, 36)]), (223, [(0, 35)]), (223, [(0, 34)]), (223, [(0, 33)]), (223, [(0, 32)]), (223, [(0, 31)]), (223, [(0, 30)]), (223, [(0, 29)]), (223, [(0, 28)]), (223, [(0, 27)]), (223, [(0, 26)]), (223, [(0, 25)]), (223, [(0, 24)]), (223, [(0, 23)]), (223, [(0, 22)]), (223, [(0, 21)]), (223, [(0, 20)]), (223, [(0, 19)]), (223, [(0, 18)]), (223, [(0, 17)]), (223, [(0, 16)]), (223, [(0, 15)]), (223, [(0, 14)]), (223, [(0, 13)]), (223, [(0, 12)]), (223, [(0, 11)]), (223, [(0, 10)]), (223, [(0, 9)]), (223, [(0, 8)]), (223, [(0, 7)]), (223, [(0, 6)]), (223, [(0, 5)]), (223, [(0, 4)]), (223, [(0, 3)]), (223, [(0, 2)]), (223, [(0, 1)]), (223, [(0, 0)]), (220, [(0, 22)]), (220, [(0, 21)]), (220, [(0, 20)]), (220, [(0, 19)]), (220, [(0, 15)]), (220, [(0, 5)]), (220, [(0, 4)]), (220, [(0, 2)]), (220, [(0, 3)]), (220, [(0, 0)])]
set_option maxRecDepth 100000 in
theorem emwf : (eWl [some (.inr (.inr (some 220))), none] && (([] : List eV).all eWv && eWd emi)) = true := by decide +kernel
set_option maxRecDepth 1000000 in
theorem em_iv : eIsV vt_X12_town 66 65 0 12 = true := by decide +kernel
theorem RI_fr {md : sMd} {hp hp' : List vOb} (hf : sFr md hp hp') (h1 : md.all (fun m => !Nat.beq m.1 223 && !Nat.beq m.1 225) = true) (h : RI hp) : RI hp' := by
  have g : ∀ k i, k = 223 ∨ k = 225 → ¬ sMin md k i := fun k i hk ⟨m, m1, m2, _⟩ => by
    have h2 := List.all_eq_true.mp h1 m m1
    rw [Bool.and_eq_true, m2] at h2
    rcases hk with rfl | rfl
    · exact absurd h2.1 (by decide)
    · exact absurd h2.2 (by decide)
  refine ⟨fun i hi => ?_, fun i hi => ?_⟩
  · obtain ⟨v, hv⟩ := h.1 i hi
    exact ⟨v, hC_fr hf (g 223 i (Or.inl rfl)) hv⟩
  · obtain ⟨v, hv⟩ := h.2 i hi
    exact ⟨v, hC_fr hf (g 225 i (Or.inr rfl)) hv⟩
theorem entm {d : Nat} (hd : 9 ≤ d) {hp : List vOb} {kl : vLs} {τ K R : Nat → Nat} {z : Nat} (hz : z ≤ 940) (hs : eSh shM hp) (hlen : hC hp 220 2 (.inl z)) (h7 : hC hp 220 7 (.inr (.inr (.inr (.inl (some 223)))))) (h9 : hC hp 220 9 (.inr (.inr (.inr (.inl (some 225)))))) (h1 : hC hp 220 1 (.inr (.inr (.inr (.inl (some 221)))))) (hT : ∀ i, i < z → hC hp 221 i (.inl (τ i))) (hS : mRs hp R) (hI : RI hp) (hl : eLm (rL [z]) [some (.inr (.inr (some 220))), none] kl) {ρ : Nat → Nat → Nat} (hP : PV ρ τ K R z 900 (fun _ => 0) (fun _ => 0) (fun _ => 0) (fun _ => 0) (fun _ => 0) (fun _ => 0)) (v0 : ρ 0 0 = 0) (v1 : ρ 0 1 = 0) (v2 : ρ 0 2 = 0) (v3 : ρ 0 3 = 0) (v4 : ρ 0 4 = 0) (v5 : ρ 0 5 = 1) (v6 : ρ 0 6 = 0) (v7 : ρ 0 7 = 0) (v8 : ρ 0 8 = 0) (v9 : ρ 0 9 = 0) : ∃ kl' hp' md, kRe vms vdf d vt_X12_town 0 0 (0, kl, [], hp) (69, kl', [], hp') ∧ eLm ρ LSR kl' ∧ RS hp' τ R z 900 ρ 0 (fun _ => 0) (fun _ => 0) (fun _ => 0) (fun _ => 0) ∧ hC hp' 220 2 (.inl 0) ∧ sFr md hp hp' ∧ ∀ k i, sMin md k i → (k = 220 ∧ (i ≤ 5 ∧ i ≠ 1 ∨ (11 ≤ i ∧ i ≤ 22))) ∨ k = 223 := by
  have hD : eDt (rL [z]) emi hp := eDt_cons (fun _ => by
    show hC hp 220 (eVal (rL [z]) [(0, 2)]) (eCv (rL [z]) (.inl [(1, 0)]))
    rw [eR_val (eR_c _ 2), eCv_i (eR_s (j := 0) (u := z) rfl)]
    exact hlen) (eDt_cons (fun _ => by
    show hC hp 220 (eVal (rL [z]) [(0, 7)]) _
    rw [eR_val (eR_c _ 7)]
    exact h7) eDt_nil)
  obtain ⟨kl1, hp1, k1, k2, k3, k4⟩ := e_go (vms := vms) (df := vdf) (d := d) (ρ := rL [z]) (by omega) emk0 emwf hs all_nil hl hD
  have hs1 := eSh_fr k4 hs
  have hR1 : nRdy hp1 τ z 900 := ⟨hs1, eDt_at (x := [(0, 3)]) (y := .inl [(1, 0)]) (g := []) k3 (by decide) (fun q hq => by cases hq) (eR_val (eR_c _ 3)) (eCv_i (eR_s rfl)), eDt_at (x := [(0, 5)]) (y := .inl [(0, 900)]) (g := []) k3 (by decide) (fun q hq => by cases hq) (eR_val (eR_c _ 5)) (eCv_i (eR_c _ 900)), eW_c k4 (by decide) h1, fun i hi => eW_row k4 (by decide) (hT i hi), hz, by omega⟩
  have hp4 : hC hp1 220 4 (.inl 0) := eDt_at (x := [(0, 4)]) (y := .inl [(0, 0)]) (g := []) k3 (by decide) (fun q hq => by cases hq) (eR_val (eR_c _ 4)) (eCv_i (eR_c _ 0))
  obtain ⟨d', rfl⟩ : ∃ d', d = d' + 1 := ⟨d - 1, by omega⟩
  obtain ⟨kr, hp2, c1, n0, n3, ⟨n5, n4⟩, n6⟩ := next_ok (d := d') (by omega) hR1 (Nat.zero_le z) hp4
  subst n0
  have hcall : kRe vms vdf (d' + 1) vt_X12_town 0 0 (66, kl1, [.inr (.inr (.inr (.inl (some 220))))], hp1) (69, kl1, [], hp2) := e_callv (kas := []) (rest := []) (r := none) em_iv rfl rfl (vRc_sh (n := 60) (t := 12) hs1 (by decide) rfl) c1
  have e1 : List.map (eCv (rL [z])) [.inr (.inr (some 220))] = [.inr (.inr (.inr (.inl (some 220))))] := rfl
  rw [e1] at k1
  obtain ⟨-, hM, -⟩ := hP.1
  obtain ⟨t1, t2, t7, t8, t6, t10⟩ := hM.2 0 (Nat.zero_le z)
  have hto := (xLex_to (τ := fun i => τ i % 256) (m := 900) (Nat.zero_le z)).1
  obtain ⟨T, hT1⟩ : ∃ T, (xLex (fun i => τ i % 256) z 900 0).1 = T := ⟨_, rfl⟩
  rw [hT1] at n4 n6 t7 t8 t6 t10 hto
  obtain ⟨kt, q0, q4, q1, q2, q3, qh, qhl⟩ := xTm_i hto
  have cells : hC hp2 220 11 (.inl (xTmk T)) ∧ (3 ≤ T.1 → hC hp2 220 14 (.inl (xNm T))) ∧ (T.1 = 2 → hC hp2 220 17 (.inr (.inr (.inl (xE256 T.2))))) := by
    have hw : T.1 = 2 → rnW 0 0 T.2 = xE256 T.2 := fun h => by
      rcases hto with ⟨b, -⟩ | ⟨b, -⟩ | ⟨b, b1, b2, b3⟩ | ⟨v, rfl, hv⟩ | ⟨c, rfl, hc⟩
      · omega
      · omega
      · exact (rnW_eq T.2 0 0 b1 (by decide) (by omega)).1
      · cases h
      · cases h
    rcases n4 with ⟨a1, a2⟩ | ⟨a1, a2⟩ | ⟨a1, a2, a3⟩ | ⟨v, rfl, a2, a3⟩ | ⟨c, rfl, a2, a3⟩
    · rw [q0.mpr a1]
      exact ⟨a2, fun h => by omega, fun h => by omega⟩
    · rw [q4.mpr a1]
      exact ⟨a2, fun h => by omega, fun h => by omega⟩
    · rw [q1.mpr a1]
      exact ⟨a2, fun h => by omega, fun _ => hw a1 ▸ a3⟩
    · rw [q2.mpr rfl]
      exact ⟨a2, fun _ => a3, (fun h => by cases h)⟩
    · rw [q3.mpr rfl]
      exact ⟨a2, fun _ => a3, (fun h => by cases h)⟩
  obtain ⟨g1, g2, g3⟩ := cells
  have s0 : eR ρ [(1, 0)] 0 := eR_s v0
  have w1 := eR_t 1 s0
  rw [t1] at w1
  have w2 := eR_t 2 s0
  rw [t2] at w2
  have w6 := eR_t 6 s0
  rw [t6] at w6
  have w7 := eR_t 7 s0
  rw [t7] at w7
  have w8 := eR_t 8 s0
  rw [t8] at w8
  have w10 := eR_t 10 s0
  rw [t10] at w10
  have cc : ∀ {k c u : Nat} {x : eX} {g : eCs} {D : eD}, eR ρ x u → ((∀ q ∈ g, eCo ρ q) → hC hp2 k c (.inl u)) → eDt ρ D hp2 → eDt ρ ((k, [(0, c)], .inl x, g) :: D) hp2 := fun {k c u x g D} hx hc hs => eDt_cons (fun hg => by
    show hC hp2 k (eVal ρ [(0, c)]) (eCv ρ (.inl x))
    rw [eR_val (eR_c ρ c), eCv_i hx]
    exact hc hg) hs
  have hDr : eDt ρ rH hp2 := by
    refine cc w1 (fun hg => n6 (fun h => eCo_neq w7 (hg _ List.mem_cons_self) (q4.mpr h))) (cc w7 (fun _ => g1) (cc w2 (fun _ => n5) (cc w6 (fun hg => g2 (qh.mp (eCo_eq w10 (by omega) (by decide) (hg _ List.mem_cons_self)))) (eDt_cons (fun hg => ?_) (eDt_cons (fun _ => ?_) (eDt_cons (fun _ => ?_) (eDt_add (k := 220) (eR_c ρ 20) (eCv_i (eR_s v7)) (hC_fr n3 (sMnot_ok rfl) (eDt_at (x := [(0, 20)]) (y := .inl [(0, 0)]) (g := []) k3 (by decide) (fun q hq => by cases hq) (eR_val (eR_c _ 20)) (eCv_i (eR_c _ 0)))) (eDt_add (k := 220) (eR_c ρ 21) (eCv_i (eR_s v8)) (hC_fr n3 (sMnot_ok rfl) (eDt_at (x := [(0, 21)]) (y := .inl [(0, 0)]) (g := []) k3 (by decide) (fun q hq => by cases hq) (eR_val (eR_c _ 21)) (eCv_i (eR_c _ 0)))) (eDt_add (k := 220) (eR_c ρ 19) (eCv_i (eR_s v9)) (hC_fr n3 (sMnot_ok rfl) (eDt_at (x := [(0, 19)]) (y := .inl [(0, 0)]) (g := []) k3 (by decide) (fun q hq => by cases hq) (eR_val (eR_c _ 19)) (eCv_i (eR_c _ 0)))) (eDt_add (k := 223) (eR_c ρ 0) (eCv_i (eR_s v1)) (hC_fr n3 (sMnot_ok rfl) (eDt_at (x := [(0, 0)]) (y := .inl [(0, 0)]) (g := []) k3 (by decide) (fun q hq => by cases hq) (eR_val (eR_c _ 0)) (eCv_i (eR_c _ 0)))) (eDt_add (k := 223) (eR_c ρ 1) (eCv_i (eR_s v2)) (hC_fr n3 (sMnot_ok rfl) (eDt_at (x := [(0, 1)]) (y := .inl [(0, 0)]) (g := []) k3 (by decide) (fun q hq => by cases hq) (eR_val (eR_c _ 1)) (eCv_i (eR_c _ 0)))) (eDt_add (k := 223) (eR_c ρ 2) (eCv_i (eR_s v4)) (hC_fr n3 (sMnot_ok rfl) (eDt_at (x := [(0, 2)]) (y := .inl [(0, 0)]) (g := []) k3 (by decide) (fun q hq => by cases hq) (eR_val (eR_c _ 2)) (eCv_i (eR_c _ 0)))) (eDt_add (k := 223) (eR_c ρ 3) (eCv_i (eR_s v3)) (hC_fr n3 (sMnot_ok rfl) (eDt_at (x := [(0, 3)]) (y := .inl [(0, 0)]) (g := []) k3 (by decide) (fun q hq => by cases hq) (eR_val (eR_c _ 3)) (eCv_i (eR_c _ 0)))) (eDt_add (k := 223) (eR_c ρ 4) (eCv_i (eR_s v5)) (hC_fr n3 (sMnot_ok rfl) (eDt_at (x := [(0, 4)]) (y := .inl [(0, 1)]) (g := []) k3 (by decide) (fun q hq => by cases hq) (eR_val (eR_c _ 4)) (eCv_i (eR_c _ 1)))) (eDt_add (k := 223) (eR_c ρ 5) (eCv_i (eR_s v6)) (hC_fr n3 (sMnot_ok rfl) (eDt_at (x := [(0, 5)]) (y := .inl [(0, 0)]) (g := []) k3 (by decide) (fun q hq => by cases hq) (eR_val (eR_c _ 5)) (eCv_i (eR_c _ 0))))  eDt_nil)))))))))))))))
    · show hC hp2 220 (eVal ρ [(0, 17)]) (eCv ρ (.inr (.inl [(1, 0), (4, 8)])))
      rw [eR_val (eR_c ρ 17), show eCv ρ (.inr (.inl [(1, 0), (4, 8)])) = .inr (.inr (.inl (xE256 T.2))) from eCv_l w8]
      exact g3 (q1.mp (eCo_eq w7 (by omega) (by decide) (hg _ List.mem_cons_self)))
    · show hC hp2 220 (eVal ρ [(0, 7)]) _
      rw [eR_val (eR_c ρ 7)]
      exact hC_fr n3 (sMnot_ok rfl) (eW_c k4 (by decide) h7)
    · show hC hp2 220 (eVal ρ [(0, 9)]) _
      rw [eR_val (eR_c ρ 9)]
      exact hC_fr n3 (sMnot_ok rfl) (eW_c k4 (by decide) h9)
  refine ⟨kl1, hp2, eMd (rL [z]) emw ++ nxF, k1.tr hcall, ?_, ⟨eSh_fr n3 hs1, nRdy_fr n3 rfl hR1, ?_, hC_fr n3 (sMnot_ok rfl) (eW_c k4 (by decide) h9), hDr, ⟨(hC_fr n3 (sMnot_ok rfl) (eDt_at (x := [(0, 22)]) (y := .inl [(0, 0)]) (g := []) k3 (by decide) (fun q hq => by cases hq) (eR_val (eR_c _ 22)) (eCv_i (eR_c _ 0)))), by decide⟩, (fun i hi => by
    match i with
    | 0 => exact (hC_fr n3 (sMnot_ok rfl) (eDt_at (x := [(0, 6)]) (y := .inl [(0, 0)]) (g := []) k3 (by decide) (fun q hq => by cases hq) (eR_val (eR_c _ 6)) (eCv_i (eR_c _ 0))))
    | 1 => exact (hC_fr n3 (sMnot_ok rfl) (eDt_at (x := [(0, 7)]) (y := .inl [(0, 0)]) (g := []) k3 (by decide) (fun q hq => by cases hq) (eR_val (eR_c _ 7)) (eCv_i (eR_c _ 0))))
    | 2 => exact (hC_fr n3 (sMnot_ok rfl) (eDt_at (x := [(0, 8)]) (y := .inl [(0, 0)]) (g := []) k3 (by decide) (fun q hq => by cases hq) (eR_val (eR_c _ 8)) (eCv_i (eR_c _ 0))))
    | 3 => exact (hC_fr n3 (sMnot_ok rfl) (eDt_at (x := [(0, 9)]) (y := .inl [(0, 0)]) (g := []) k3 (by decide) (fun q hq => by cases hq) (eR_val (eR_c _ 9)) (eCv_i (eR_c _ 0))))
    | 4 => exact (hC_fr n3 (sMnot_ok rfl) (eDt_at (x := [(0, 10)]) (y := .inl [(0, 0)]) (g := []) k3 (by decide) (fun q hq => by cases hq) (eR_val (eR_c _ 10)) (eCv_i (eR_c _ 0))))
    | 5 => exact (hC_fr n3 (sMnot_ok rfl) (eDt_at (x := [(0, 11)]) (y := .inl [(0, 0)]) (g := []) k3 (by decide) (fun q hq => by cases hq) (eR_val (eR_c _ 11)) (eCv_i (eR_c _ 0))))
    | i + 6 => omega), (fun i hi => by
    match i with
    | 0 => exact (hC_fr n3 (sMnot_ok rfl) (eDt_at (x := [(0, 27)]) (y := .inl [(0, 0)]) (g := []) k3 (by decide) (fun q hq => by cases hq) (eR_val (eR_c _ 27)) (eCv_i (eR_c _ 0))))
    | 1 => exact (hC_fr n3 (sMnot_ok rfl) (eDt_at (x := [(0, 28)]) (y := .inl [(0, 0)]) (g := []) k3 (by decide) (fun q hq => by cases hq) (eR_val (eR_c _ 28)) (eCv_i (eR_c _ 0))))
    | 2 => exact (hC_fr n3 (sMnot_ok rfl) (eDt_at (x := [(0, 29)]) (y := .inl [(0, 0)]) (g := []) k3 (by decide) (fun q hq => by cases hq) (eR_val (eR_c _ 29)) (eCv_i (eR_c _ 0))))
    | 3 => exact (hC_fr n3 (sMnot_ok rfl) (eDt_at (x := [(0, 30)]) (y := .inl [(0, 0)]) (g := []) k3 (by decide) (fun q hq => by cases hq) (eR_val (eR_c _ 30)) (eCv_i (eR_c _ 0))))
    | 4 => exact (hC_fr n3 (sMnot_ok rfl) (eDt_at (x := [(0, 31)]) (y := .inl [(0, 0)]) (g := []) k3 (by decide) (fun q hq => by cases hq) (eR_val (eR_c _ 31)) (eCv_i (eR_c _ 0))))
    | i + 5 => omega), (fun i hi => by
    match i with
    | 0 => exact (hC_fr n3 (sMnot_ok rfl) (eDt_at (x := [(0, 17)]) (y := .inl [(0, 0)]) (g := []) k3 (by decide) (fun q hq => by cases hq) (eR_val (eR_c _ 17)) (eCv_i (eR_c _ 0))))
    | 1 => exact (hC_fr n3 (sMnot_ok rfl) (eDt_at (x := [(0, 18)]) (y := .inl [(0, 0)]) (g := []) k3 (by decide) (fun q hq => by cases hq) (eR_val (eR_c _ 18)) (eCv_i (eR_c _ 0))))
    | 2 => exact (hC_fr n3 (sMnot_ok rfl) (eDt_at (x := [(0, 19)]) (y := .inl [(0, 0)]) (g := []) k3 (by decide) (fun q hq => by cases hq) (eR_val (eR_c _ 19)) (eCv_i (eR_c _ 0))))
    | 3 => exact (hC_fr n3 (sMnot_ok rfl) (eDt_at (x := [(0, 20)]) (y := .inl [(0, 0)]) (g := []) k3 (by decide) (fun q hq => by cases hq) (eR_val (eR_c _ 20)) (eCv_i (eR_c _ 0))))
    | 4 => exact (hC_fr n3 (sMnot_ok rfl) (eDt_at (x := [(0, 21)]) (y := .inl [(0, 0)]) (g := []) k3 (by decide) (fun q hq => by cases hq) (eR_val (eR_c _ 21)) (eCv_i (eR_c _ 0))))
    | i + 5 => omega), fun k hk i hi => ?_, RI_fr n3 (by decide) (RI_w k4 k3 (by decide) hI)⟩, (hC_fr n3 (sMnot_ok rfl) (eDt_at (x := [(0, 2)]) (y := .inl [(0, 0)]) (g := []) k3 (by decide) (fun q hq => by cases hq) (eR_val (eR_c _ 2)) (eCv_i (eR_c _ 0)))), (k4.mono (fun k i h => sMin_l h)).tr (n3.mono (fun k i h => sMin_r h)), fun k i h => ?_⟩
  · exact eLm_in (vs := [some (.inr (.inr (.inr (.inl (some 220))))), none]) ⟨rfl, trivial⟩ (cLm_wk (ls := [some (.inr (.inr (.inr (.inl (some 220))))), some (.inl 64)]) ⟨rfl, trivial⟩ (eLm_out (ρ := rL [z]) (ls := [some (.inr (.inr (some 220))), some (.inl [(0, 64)])]) ⟨rfl, eCv_i (eR_c _ 64), trivial⟩ k2))
  · exact ⟨hC_fr n3 (sMnot_ok rfl) (eW_c k4 (by decide) hS.1), fun i hi => ⟨hC_fr n3 (sMnot_ok rfl) (eW_row k4 (by decide) (hS.2 i hi).1), (hS.2 i hi).2⟩⟩
  · exfalso
    have e : nrC (ρ 0 1) (ρ 0 2) (ρ 0 4) (ρ 0 3) k = 0 := by
      rw [v1, v2, v3, v4]
      unfold nrC
      split
      · rfl
      · split
        · rfl
        · split <;> rfl
    rw [e] at hi
    omega
  · rcases sMin_app h with h | h
    · obtain ⟨e, e1, e2, e3⟩ := eMd_min h
      have h1 := List.all_eq_true.mp (show emw.all (fun e => (Nat.beq e.1 220 && (match eCn e.2 with
        | some c => (Nat.ble c 5 && !Nat.beq c 1) || (Nat.ble 11 c && Nat.ble c 22)
        | none => false)) || Nat.beq e.1 223) = true by decide) e e1
      rw [Bool.or_eq_true, Bool.and_eq_true, e2] at h1
      rcases h1 with ⟨h1, h2⟩ | h1
      · refine Or.inl ⟨Nat.eq_of_beq_eq_true h1, ?_⟩
        split at h2
        · next c hc =>
          rw [e3, eR_val (eCn_ok hc)]
          rw [Bool.or_eq_true, Bool.and_eq_true, Bool.and_eq_true] at h2
          rcases h2 with ⟨h2, h3⟩ | ⟨h2, h3⟩
          · refine Or.inl ⟨Nat.le_of_ble_eq_true h2, fun e9 => ?_⟩
            rw [e9] at h3
            cases h3
          · exact Or.inr ⟨Nat.le_of_ble_eq_true h2, Nat.le_of_ble_eq_true h3⟩
        · cases h2
      · exact Or.inr (Nat.eq_of_beq_eq_true h1)
    · obtain ⟨m, m1, m2, m3, m4⟩ := h
      unfold nxF at m1
      simp only [List.mem_cons, List.not_mem_nil, or_false] at m1
      rcases m1 with rfl | rfl | rfl
      · dsimp only at m2 m3 m4
        exact Or.inl ⟨m2.symm, by omega⟩
      · dsimp only at m2 m3 m4
        exact Or.inl ⟨m2.symm, by omega⟩
      · dsimp only at m2 m3 m4
        exact Or.inl ⟨m2.symm, by omega⟩
