/-! ===== a LINE side by side: porter ===== -/
def ys_porter_0 : List eX := [[(1, 0), (4, 1), (4, 1), (4, 1), (4, 1), (4, 1)], [(1, 1)], [(1, 2)], [(1, 3)], [(1, 4), (0, 1), (2, 0)], [(1, 5)], [(1, 6)], [(1, 7)], [(1, 8)], [(1, 9), (0, 1), (2, 0)], [(1, 10), (0, 1), (2, 0)]]
theorem ln17_porter {d d2 : Nat} (hd : 20 ≤ d) (hd2 : 20 ≤ d2) {hpC hpR : List vOb} {klC klR : vLs} {τ K R N DC NM TK BR ST : Nat → Nat} {z m ht : Nat} {ρ : Nat → Nat → Nat} (hP : PV ρ τ K R z m N DC NM TK BR ST) (hX : TX ρ τ K R z m) (hM : CM 17 cH17 shc17 hpC τ K z m ρ ht N DC TK BR ST) (hLk : eDt ρ (cH17 ++ cLk 4) hpC) (hlC : eLm ρ (LSC 17) klC) (hR : RS hpR τ R z m ρ ht NM TK BR ST) (hlR : eLm ρ LSR klR) (e0 : ρ 3 (ρ 0 0) = 2) (e1 : ρ 4 (ρ 0 0) = 4) : LL 17 cH17 shc17 d d2 hpC klC hpR klR τ K R z m ρ := by
  have hb := PV_b hP
  obtain ⟨b1, b2, b3, b4, b10, b9, b11, b12, b13⟩ := hb
  have hA := hP.1
  obtain ⟨-, h0, hz, ⟨b5, b6, b7, b8, bl⟩, hT, hB, hS, s11, s12, s13⟩ := hP
  have hP : PV ρ τ K R z m N DC NM TK BR ST := ⟨hA, h0, hz, ⟨b5, b6, b7, b8, bl⟩, hT, hB, hS, s11, s12, s13⟩
  have E0 : eCo ρ (0, [(1, 0), (4, 3)], [(0, 2)], true) := eCo_of (eR_val (eR_t 3 (eR_s rfl))) (eR_val (eR_c ρ 2)) (by decide) (kc0t (by rw [e0]))
  have E1 : eCo ρ (0, [(1, 0), (4, 4)], [(0, 4)], true) := eCo_of (eR_val (eR_t 4 (eR_s rfl))) (eR_val (eR_c ρ 4)) (by decide) (kc0t (by rw [e1]))
  have c1 := cl17_porter hd (CM_or17 hP hM) hM.1 hA h0 hz b1 b2 b3 b4 b10 b7 b8 b9 b11 b12 b13 E0 E1 hlC (eDt_sub (by decide) hLk)
  have c2 := rl_porter hd2 (RS_or hP hR) hR.1 hA h0 hz b1 b2 b3 b4 b10 b7 b8 b9 b11 b12 b13 E0 E1 hlR (eDt_sub (by decide) hR.2.2.2.2.1)
  rcases pl_porter_and c1 c2 with ⟨k, a, f1, f2⟩ | ⟨b, o1, o2⟩
  · exact Or.inl ⟨k, a, f1, f2⟩
  · refine Or.inr ?_
    obtain ⟨eb, F, kl1, hp1, k1, k2, k3, k4⟩ := o1
    obtain ⟨-, klr, hpr, r1, r2, r3, r4⟩ := o2
    obtain ⟨hq, hl9, f0, f1, f2, f3, f4⟩ := F
    obtain ⟨ws, w1, w2, w3, -⟩ := tab_wr hA (u := (ρ 1 (ρ 0 0))) (hA.1.1 _) f1
    have hfr : ∀ i, i < ρ 0 10 → N i ≠ ρ 5 (ρ 1 (ρ 0 0)) := fun i hi e => by
      have g := hA.2.2.2.2.2.1 (ρ 1 (ρ 0 0)) (hA.1.1 _)
      rw [f2] at g
      cases hx : xFi N (ρ 5 (ρ 1 (ρ 0 0))) (ρ 0 10) 0 with
      | none => exact xFi_none hx i (by omega) (by omega) e
      | some j =>
        rw [hx] at g
        have := xFi_some hx
        have := PV_DC hP j (by omega)
        have g : 4294967295 = DC j := g
        omega
    have hc : ∀ k', k' < 4 → nrC (ρ 0 1) (ρ 0 2) (ρ 0 4 + 1) (ρ 0 3) k' = if k' = 2 then nrC (ρ 0 1) (ρ 0 2) (ρ 0 4) (ρ 0 3) 2 + 1 else nrC (ρ 0 1) (ρ 0 2) (ρ 0 4) (ρ 0 3) k' := fun k' hk' => by
      rcases (show k' = 0 ∨ k' = 1 ∨ k' = 2 ∨ k' = 3 by omega) with rfl | rfl | rfl | rfl <;> rfl
    have hNR : NR 24 (ρ 0 1) (ρ 0 2) (ρ 0 4 + 1) (ρ 0 3) (ρ 0 10 + 1) (snoc N (ρ 0 10) (ρ 5 (ρ 1 (ρ 0 0)))) (snoc DC (ρ 0 10) (8 * 2 + ρ 0 4)) (snoc NM (35 + ρ 0 4) (ρ 8 (ρ 1 (ρ 0 0)))) := NR_add hA.2.2.2.1 (k := 2) (by decide) hc (by omega) (by omega) (by omega) (by omega) (by omega) ⟨ws, w1, w2, w3⟩ hfr
    obtain ⟨ρ', hP', hX', v0, v1, v2, v3, v4, v5, v6, v7, v8, v9, v10⟩ := PV_mk (n := (ρ 1 (ρ 1 (ρ 1 (ρ 1 (ρ 1 (ρ 0 0))))))) (s := (ρ 0 1)) (q := (ρ 0 2)) (p := (ρ 0 3)) (r := (ρ 0 4 + 1)) (hm := (ρ 0 5)) (fx := (ρ 0 6)) (tt := (ρ 0 7)) (bt := (ρ 0 8)) (ln := (ρ 0 9 + 1)) (nc := (ρ 0 10 + 1)) (TK := TK) (BR := BR) (ST := (snoc ST (ρ 0 4) (ρ 6 (ρ 1 (ρ 1 (ρ 0 0)))))) hNR hA.2.2.1 (hA.1.1 _) hz (by omega) (by omega) (by omega) (by omega) (by omega) hT hB (SB_snoc hS (by omega) (by omega))
    have hy : ∀ j, j < 11 → eR ρ (ys_porter_0.getD j []) (ρ' 0 j) := hy_11 (eR_to (eR_t 1 (eR_t 1 (eR_t 1 (eR_t 1 (eR_t 1 (eR_s (ρ := ρ) (j := 0) rfl)))))) v0.symm) (eR_to (eR_s rfl) v1.symm) (eR_to (eR_s rfl) v2.symm) (eR_to (eR_s rfl) v3.symm) (eR_to (eR_to (eR_b 0 (eR_s (ρ := ρ) (j := 4) rfl) (eR_c ρ 1)) (vAdd_s (by omega))) v4.symm) (eR_to (eR_s rfl) v5.symm) (eR_to (eR_s rfl) v6.symm) (eR_to (eR_s rfl) v7.symm) (eR_to (eR_s rfl) v8.symm) (eR_to (eR_to (eR_b 0 (eR_s (ρ := ρ) (j := 9) rfl) (eR_c ρ 1)) (vAdd_s (by omega))) v9.symm) (eR_to (eR_to (eR_b 0 (eR_s (ρ := ρ) (j := 10) rfl) (eR_c ρ 1)) (vAdd_s (by omega))) v10.symm)
    have hx := TX_eq hX hX'
    refine ⟨ρ', ht, (snoc N (ρ 0 10) (ρ 5 (ρ 1 (ρ 0 0)))), (snoc DC (ρ 0 10) (8 * 2 + ρ 0 4)), (snoc NM (35 + ρ 0 4) (ρ 8 (ρ 1 (ρ 0 0)))), TK, BR, (snoc ST (ρ 0 4) (ρ 6 (ρ 1 (ρ 1 (ρ 0 0))))), hP', hX', by rw [v0]; omega, ⟨kl1, hp1, _, k1, eLm_ln v9 b9 k2, ?_, ?_, k4, rfl⟩, ⟨klr, hpr, _, r1, eLm_r r2, ?_, r4, rfl⟩⟩
    · obtain ⟨g1, g2, g3⟩ := CM_next hM k4 k3 (by decide) hy hx (by decide)
      exact ⟨g1, g2, g3, ⟨eW_c k4 (by decide) hM.2.2.2.1.1, hM.2.2.2.1.2⟩, (fun i hi => eW_row k4 (by decide) (hM.2.2.2.2.1 i hi)), (fun i hi => eW_row k4 (by decide) (hM.2.2.2.2.2.1 i hi)), (fun i hi => by
          by_cases e : i = ρ 0 4
          · rw [e, snoc_at]
            exact eDt_at (y := .inl [(1, 0), (4, 1), (4, 1), (4, 6)]) (g := []) k3 (by decide) (fun q hq => by cases hq) (eR_val (eR_s (j := 4) rfl)) (eCv_i (eR_t 6 (eR_t 1 (eR_t 1 (eR_s (ρ := ρ) (j := 0) rfl)))))
          · rw [snoc_ne e]
            exact eW_in (L := [[(1, 4)]]) k4 (by decide) (fun y hy => by rw [List.mem_singleton.mp hy, eR_val (eR_s (ρ := ρ) (j := 4) rfl)]; exact fun e2 => e e2.symm) (hM.2.2.2.2.2.2.1 i (by rw [v4] at hi; omega))), ⟨(by rw [v10]; exact cN_add (x := [(1, 10)]) k4 (eR_val (eR_s (j := 10) rfl)) (by decide) (by decide) (by rw [w2]; have := xE32_lt (t := (2, ws)) (Or.inr (Or.inr (Or.inl ⟨rfl, w1.1, w1.2.1, w1.2.2⟩))); exact this) (eDt_at (y := .inr (.inl [(1, 0), (4, 1), (4, 5)])) (g := []) k3 (by decide) (fun q hq => by cases hq) (eR_val (eR_s (j := 10) rfl)) (eCv_l (eR_t 5 (eR_t 1 (eR_s (ρ := ρ) (j := 0) rfl))))) (eDt_at (y := .inl [(0, 2), (0, 8), (2, 2), (1, 4), (2, 0)]) (g := []) k3 (by decide) (fun q hq => by cases hq) (eR_val (eR_s (j := 10) rfl)) (eCv_i (eR_to (eR_b 0 (eR_b 2 (eR_c ρ 2) (eR_c ρ 8)) (eR_s (ρ := ρ) (j := 4) rfl)) (by simp only [eB0, eB2]; omega)))) hM.2.2.2.2.2.2.2.1), cR_w k4 (by decide) hM.2.2.2.2.2.2.2.2.1, cR_w k4 (by decide) hM.2.2.2.2.2.2.2.2.2.1, cR_w k4 (by decide) hM.2.2.2.2.2.2.2.2.2.2.1, cR_w k4 (by decide) hM.2.2.2.2.2.2.2.2.2.2.2.1, cR_w k4 (by decide) hM.2.2.2.2.2.2.2.2.2.2.2.2⟩⟩
    · rw [v0]
      exact eDt_at (y := .inl [(1, 0), (4, 1), (4, 1), (4, 1), (4, 1), (4, 1)]) (g := [(1, [(1, 0), (4, 1), (4, 1), (4, 1), (4, 1), (4, 3)], [(0, 1)], true)]) k3 (by decide) (fun r hr => by
        rw [List.mem_singleton.mp hr]
        exact eCo_of (eR_val (eR_t 3 (eR_t 1 (eR_t 1 (eR_t 1 (eR_t 1 (eR_s (ρ := ρ) (j := 0) rfl))))))) (eR_val (eR_c ρ 1)) (by decide) (kc1t (by unfold sBi; omega))) (eR_val (eR_c ρ 4)) (eCv_i (eR_t 1 (eR_t 1 (eR_t 1 (eR_t 1 (eR_t 1 (eR_s (ρ := ρ) (j := 0) rfl)))))))
    · obtain ⟨g1, g2, g3, g4, g5⟩ := RS_next hR r4 r3 (by decide) hy hx (by decide)
      exact ⟨g1, g2, g3, g4, g5, ⟨eW_c r4 (by decide) hR.2.2.2.2.2.1.1, hR.2.2.2.2.2.1.2⟩, (fun i hi => eW_in (L := [[(0, 2)], [(0, 22), (1, 4), (2, 0)], [(0, 17), (1, 4), (2, 0)]]) r4 (by decide) (fun y hy => by
                  simp only [List.mem_cons, List.not_mem_nil, or_false] at hy
                  rcases hy with rfl | rfl | rfl
                  · have e9 : eVal ρ [(0, 2)] = 2 := eR_val (eR_c ρ 2); rw [e9]; omega
                  · have e9 : eVal ρ [(0, 22), (1, 4), (2, 0)] = (eBn 0 22 (ρ 0 4)) := eR_val (eR_b 0 (eR_c ρ 22) (eR_s (ρ := ρ) (j := 4) rfl)); have f9 := eB0 22 (ρ 0 4); rw [e9]; omega
                  · have e9 : eVal ρ [(0, 17), (1, 4), (2, 0)] = (eBn 0 17 (ρ 0 4)) := eR_val (eR_b 0 (eR_c ρ 17) (eR_s (ρ := ρ) (j := 4) rfl)); have f9 := eB0 17 (ρ 0 4); rw [e9]; omega
                  ) (hR.2.2.2.2.2.2.1 i hi)), (fun i hi => eW_in (L := [[(0, 2)], [(0, 22), (1, 4), (2, 0)], [(0, 17), (1, 4), (2, 0)]]) r4 (by decide) (fun y hy => by
                  simp only [List.mem_cons, List.not_mem_nil, or_false] at hy
                  rcases hy with rfl | rfl | rfl
                  · have e9 : eVal ρ [(0, 2)] = 2 := eR_val (eR_c ρ 2); rw [e9]; omega
                  · have e9 : eVal ρ [(0, 22), (1, 4), (2, 0)] = (eBn 0 22 (ρ 0 4)) := eR_val (eR_b 0 (eR_c ρ 22) (eR_s (ρ := ρ) (j := 4) rfl)); have f9 := eB0 22 (ρ 0 4); rw [e9]; omega
                  · have e9 : eVal ρ [(0, 17), (1, 4), (2, 0)] = (eBn 0 17 (ρ 0 4)) := eR_val (eR_b 0 (eR_c ρ 17) (eR_s (ρ := ρ) (j := 4) rfl)); have f9 := eB0 17 (ρ 0 4); rw [e9]; omega
                  ) (hR.2.2.2.2.2.2.2.1 i hi)), (fun i hi => by
          by_cases e : i = ρ 0 4
          · rw [e, snoc_at]
            exact eDt_at (x := [(0, 17), (1, 4), (2, 0)]) (y := .inl [(1, 0), (4, 1), (4, 1), (4, 6)]) (g := []) r3 (by decide) (fun q hq => by cases hq) ((eR_val (eR_b 0 (eR_c ρ 17) (eR_s (j := 4) rfl))).trans (vAdd_s (by omega))) (eCv_i (eR_t 6 (eR_t 1 (eR_t 1 (eR_s (ρ := ρ) (j := 0) rfl)))))
          · rw [snoc_ne e]
            exact eW_in (L := [[(0, 2)], [(0, 22), (1, 4), (2, 0)], [(0, 17), (1, 4), (2, 0)]]) r4 (by decide) (fun y hy => by
                  simp only [List.mem_cons, List.not_mem_nil, or_false] at hy
                  rcases hy with rfl | rfl | rfl
                  · have e9 : eVal ρ [(0, 2)] = 2 := eR_val (eR_c ρ 2); rw [e9]; omega
                  · have e9 : eVal ρ [(0, 22), (1, 4), (2, 0)] = (eBn 0 22 (ρ 0 4)) := eR_val (eR_b 0 (eR_c ρ 22) (eR_s (ρ := ρ) (j := 4) rfl)); have f9 := eB0 22 (ρ 0 4); rw [e9]; omega
                  · have e9 : eVal ρ [(0, 17), (1, 4), (2, 0)] = (eBn 0 17 (ρ 0 4)) := eR_val (eR_b 0 (eR_c ρ 17) (eR_s (ρ := ρ) (j := 4) rfl)); have f9 := eB0 17 (ρ 0 4); rw [e9]; omega
                  ) (hR.2.2.2.2.2.2.2.2.1 i hi)), (by rw [v1, v2, v3, v4]; exact mN_add (b := 24) (k := 2) (x := [(0, 35), (1, 4), (2, 0)]) (by decide) r4 ((eR_val (eR_b 0 (eR_c ρ 35) (eR_s (ρ := ρ) (j := 4) rfl))).trans (vAdd_s (by omega))) (by decide) (by rw [w3]; exact xE256_lt w1.1 w1.2.2) (eDt_at (y := .inr (.inl [(1, 0), (4, 1), (4, 8)])) (g := []) r3 (by decide) (fun q hq => by cases hq) ((eR_val (eR_b 0 (eR_c ρ 35) (eR_s (ρ := ρ) (j := 4) rfl))).trans (vAdd_s (by omega))) (eCv_l (eR_t 8 (eR_t 1 (eR_s (ρ := ρ) (j := 0) rfl))))) (by omega) (by omega) (by omega) (by omega) hc hR.2.2.2.2.2.2.2.2.2.1), RI_w r4 r3 (by decide) hR.2.2.2.2.2.2.2.2.2.2⟩
theorem ln4_porter {d d2 : Nat} (hd : 20 ≤ d) (hd2 : 20 ≤ d2) {hpC hpR : List vOb} {klC klR : vLs} {τ K R N DC NM TK BR ST : Nat → Nat} {z m ht : Nat} {ρ : Nat → Nat → Nat} (hP : PV ρ τ K R z m N DC NM TK BR ST) (hX : TX ρ τ K R z m) (hM : CM 4 cH4 shc4 hpC τ K z m ρ ht N DC TK BR ST) (hLk : eDt ρ (cH4 ++ cLk 4) hpC) (hlC : eLm ρ (LSC 4) klC) (hR : RS hpR τ R z m ρ ht NM TK BR ST) (hlR : eLm ρ LSR klR) (e0 : ρ 3 (ρ 0 0) = 2) (e1 : ρ 4 (ρ 0 0) = 4) : LL 4 cH4 shc4 d d2 hpC klC hpR klR τ K R z m ρ := by
  have hb := PV_b hP
  obtain ⟨b1, b2, b3, b4, b10, b9, b11, b12, b13⟩ := hb
  have hA := hP.1
  obtain ⟨-, h0, hz, ⟨b5, b6, b7, b8, bl⟩, hT, hB, hS, s11, s12, s13⟩ := hP
  have hP : PV ρ τ K R z m N DC NM TK BR ST := ⟨hA, h0, hz, ⟨b5, b6, b7, b8, bl⟩, hT, hB, hS, s11, s12, s13⟩
  have E0 : eCo ρ (0, [(1, 0), (4, 3)], [(0, 2)], true) := eCo_of (eR_val (eR_t 3 (eR_s rfl))) (eR_val (eR_c ρ 2)) (by decide) (kc0t (by rw [e0]))
  have E1 : eCo ρ (0, [(1, 0), (4, 4)], [(0, 4)], true) := eCo_of (eR_val (eR_t 4 (eR_s rfl))) (eR_val (eR_c ρ 4)) (by decide) (kc0t (by rw [e1]))
  have c1 := cl4_porter hd (CM_or4 hP hM) hM.1 hA h0 hz b1 b2 b3 b4 b10 b7 b8 b9 b11 b12 b13 E0 E1 hlC (eDt_sub (by decide) hLk)
  have c2 := rl_porter hd2 (RS_or hP hR) hR.1 hA h0 hz b1 b2 b3 b4 b10 b7 b8 b9 b11 b12 b13 E0 E1 hlR (eDt_sub (by decide) hR.2.2.2.2.1)
  rcases pl_porter_and c1 c2 with ⟨k, a, f1, f2⟩ | ⟨b, o1, o2⟩
  · exact Or.inl ⟨k, a, f1, f2⟩
  · refine Or.inr ?_
    obtain ⟨eb, F, kl1, hp1, k1, k2, k3, k4⟩ := o1
    obtain ⟨-, klr, hpr, r1, r2, r3, r4⟩ := o2
    obtain ⟨hq, hl9, f0, f1, f2, f3, f4⟩ := F
    obtain ⟨ws, w1, w2, w3, -⟩ := tab_wr hA (u := (ρ 1 (ρ 0 0))) (hA.1.1 _) f1
    have hfr : ∀ i, i < ρ 0 10 → N i ≠ ρ 5 (ρ 1 (ρ 0 0)) := fun i hi e => by
      have g := hA.2.2.2.2.2.1 (ρ 1 (ρ 0 0)) (hA.1.1 _)
      rw [f2] at g
      cases hx : xFi N (ρ 5 (ρ 1 (ρ 0 0))) (ρ 0 10) 0 with
      | none => exact xFi_none hx i (by omega) (by omega) e
      | some j =>
        rw [hx] at g
        have := xFi_some hx
        have := PV_DC hP j (by omega)
        have g : 4294967295 = DC j := g
        omega
    have hc : ∀ k', k' < 4 → nrC (ρ 0 1) (ρ 0 2) (ρ 0 4 + 1) (ρ 0 3) k' = if k' = 2 then nrC (ρ 0 1) (ρ 0 2) (ρ 0 4) (ρ 0 3) 2 + 1 else nrC (ρ 0 1) (ρ 0 2) (ρ 0 4) (ρ 0 3) k' := fun k' hk' => by
      rcases (show k' = 0 ∨ k' = 1 ∨ k' = 2 ∨ k' = 3 by omega) with rfl | rfl | rfl | rfl <;> rfl
    have hNR : NR 24 (ρ 0 1) (ρ 0 2) (ρ 0 4 + 1) (ρ 0 3) (ρ 0 10 + 1) (snoc N (ρ 0 10) (ρ 5 (ρ 1 (ρ 0 0)))) (snoc DC (ρ 0 10) (8 * 2 + ρ 0 4)) (snoc NM (35 + ρ 0 4) (ρ 8 (ρ 1 (ρ 0 0)))) := NR_add hA.2.2.2.1 (k := 2) (by decide) hc (by omega) (by omega) (by omega) (by omega) (by omega) ⟨ws, w1, w2, w3⟩ hfr
    obtain ⟨ρ', hP', hX', v0, v1, v2, v3, v4, v5, v6, v7, v8, v9, v10⟩ := PV_mk (n := (ρ 1 (ρ 1 (ρ 1 (ρ 1 (ρ 1 (ρ 0 0))))))) (s := (ρ 0 1)) (q := (ρ 0 2)) (p := (ρ 0 3)) (r := (ρ 0 4 + 1)) (hm := (ρ 0 5)) (fx := (ρ 0 6)) (tt := (ρ 0 7)) (bt := (ρ 0 8)) (ln := (ρ 0 9 + 1)) (nc := (ρ 0 10 + 1)) (TK := TK) (BR := BR) (ST := (snoc ST (ρ 0 4) (ρ 6 (ρ 1 (ρ 1 (ρ 0 0)))))) hNR hA.2.2.1 (hA.1.1 _) hz (by omega) (by omega) (by omega) (by omega) (by omega) hT hB (SB_snoc hS (by omega) (by omega))
    have hy : ∀ j, j < 11 → eR ρ (ys_porter_0.getD j []) (ρ' 0 j) := hy_11 (eR_to (eR_t 1 (eR_t 1 (eR_t 1 (eR_t 1 (eR_t 1 (eR_s (ρ := ρ) (j := 0) rfl)))))) v0.symm) (eR_to (eR_s rfl) v1.symm) (eR_to (eR_s rfl) v2.symm) (eR_to (eR_s rfl) v3.symm) (eR_to (eR_to (eR_b 0 (eR_s (ρ := ρ) (j := 4) rfl) (eR_c ρ 1)) (vAdd_s (by omega))) v4.symm) (eR_to (eR_s rfl) v5.symm) (eR_to (eR_s rfl) v6.symm) (eR_to (eR_s rfl) v7.symm) (eR_to (eR_s rfl) v8.symm) (eR_to (eR_to (eR_b 0 (eR_s (ρ := ρ) (j := 9) rfl) (eR_c ρ 1)) (vAdd_s (by omega))) v9.symm) (eR_to (eR_to (eR_b 0 (eR_s (ρ := ρ) (j := 10) rfl) (eR_c ρ 1)) (vAdd_s (by omega))) v10.symm)
    have hx := TX_eq hX hX'
    refine ⟨ρ', ht, (snoc N (ρ 0 10) (ρ 5 (ρ 1 (ρ 0 0)))), (snoc DC (ρ 0 10) (8 * 2 + ρ 0 4)), (snoc NM (35 + ρ 0 4) (ρ 8 (ρ 1 (ρ 0 0)))), TK, BR, (snoc ST (ρ 0 4) (ρ 6 (ρ 1 (ρ 1 (ρ 0 0))))), hP', hX', by rw [v0]; omega, ⟨kl1, hp1, _, k1, eLm_ln v9 b9 k2, ?_, ?_, k4, rfl⟩, ⟨klr, hpr, _, r1, eLm_r r2, ?_, r4, rfl⟩⟩
    · obtain ⟨g1, g2, g3⟩ := CM_next hM k4 k3 (by decide) hy hx (by decide)
      exact ⟨g1, g2, g3, ⟨eW_c k4 (by decide) hM.2.2.2.1.1, hM.2.2.2.1.2⟩, (fun i hi => eW_row k4 (by decide) (hM.2.2.2.2.1 i hi)), (fun i hi => eW_row k4 (by decide) (hM.2.2.2.2.2.1 i hi)), (fun i hi => by
          by_cases e : i = ρ 0 4
          · rw [e, snoc_at]
            exact eDt_at (y := .inl [(1, 0), (4, 1), (4, 1), (4, 6)]) (g := []) k3 (by decide) (fun q hq => by cases hq) (eR_val (eR_s (j := 4) rfl)) (eCv_i (eR_t 6 (eR_t 1 (eR_t 1 (eR_s (ρ := ρ) (j := 0) rfl)))))
          · rw [snoc_ne e]
            exact eW_in (L := [[(1, 4)]]) k4 (by decide) (fun y hy => by rw [List.mem_singleton.mp hy, eR_val (eR_s (ρ := ρ) (j := 4) rfl)]; exact fun e2 => e e2.symm) (hM.2.2.2.2.2.2.1 i (by rw [v4] at hi; omega))), ⟨(by rw [v10]; exact cN_add (x := [(1, 10)]) k4 (eR_val (eR_s (j := 10) rfl)) (by decide) (by decide) (by rw [w2]; have := xE32_lt (t := (2, ws)) (Or.inr (Or.inr (Or.inl ⟨rfl, w1.1, w1.2.1, w1.2.2⟩))); exact this) (eDt_at (y := .inr (.inl [(1, 0), (4, 1), (4, 5)])) (g := []) k3 (by decide) (fun q hq => by cases hq) (eR_val (eR_s (j := 10) rfl)) (eCv_l (eR_t 5 (eR_t 1 (eR_s (ρ := ρ) (j := 0) rfl))))) (eDt_at (y := .inl [(0, 2), (0, 8), (2, 2), (1, 4), (2, 0)]) (g := []) k3 (by decide) (fun q hq => by cases hq) (eR_val (eR_s (j := 10) rfl)) (eCv_i (eR_to (eR_b 0 (eR_b 2 (eR_c ρ 2) (eR_c ρ 8)) (eR_s (ρ := ρ) (j := 4) rfl)) (by simp only [eB0, eB2]; omega)))) hM.2.2.2.2.2.2.2.1), cR_w k4 (by decide) hM.2.2.2.2.2.2.2.2.1, cR_w k4 (by decide) hM.2.2.2.2.2.2.2.2.2.1, cR_w k4 (by decide) hM.2.2.2.2.2.2.2.2.2.2.1, cR_w k4 (by decide) hM.2.2.2.2.2.2.2.2.2.2.2.1, cR_w k4 (by decide) hM.2.2.2.2.2.2.2.2.2.2.2.2⟩⟩
    · rw [v0]
      exact eDt_at (y := .inl [(1, 0), (4, 1), (4, 1), (4, 1), (4, 1), (4, 1)]) (g := [(1, [(1, 0), (4, 1), (4, 1), (4, 1), (4, 1), (4, 3)], [(0, 1)], true)]) k3 (by decide) (fun r hr => by
        rw [List.mem_singleton.mp hr]
        exact eCo_of (eR_val (eR_t 3 (eR_t 1 (eR_t 1 (eR_t 1 (eR_t 1 (eR_s (ρ := ρ) (j := 0) rfl))))))) (eR_val (eR_c ρ 1)) (by decide) (kc1t (by unfold sBi; omega))) (eR_val (eR_c ρ 4)) (eCv_i (eR_t 1 (eR_t 1 (eR_t 1 (eR_t 1 (eR_t 1 (eR_s (ρ := ρ) (j := 0) rfl)))))))
    · obtain ⟨g1, g2, g3, g4, g5⟩ := RS_next hR r4 r3 (by decide) hy hx (by decide)
      exact ⟨g1, g2, g3, g4, g5, ⟨eW_c r4 (by decide) hR.2.2.2.2.2.1.1, hR.2.2.2.2.2.1.2⟩, (fun i hi => eW_in (L := [[(0, 2)], [(0, 22), (1, 4), (2, 0)], [(0, 17), (1, 4), (2, 0)]]) r4 (by decide) (fun y hy => by
                  simp only [List.mem_cons, List.not_mem_nil, or_false] at hy
                  rcases hy with rfl | rfl | rfl
                  · have e9 : eVal ρ [(0, 2)] = 2 := eR_val (eR_c ρ 2); rw [e9]; omega
                  · have e9 : eVal ρ [(0, 22), (1, 4), (2, 0)] = (eBn 0 22 (ρ 0 4)) := eR_val (eR_b 0 (eR_c ρ 22) (eR_s (ρ := ρ) (j := 4) rfl)); have f9 := eB0 22 (ρ 0 4); rw [e9]; omega
                  · have e9 : eVal ρ [(0, 17), (1, 4), (2, 0)] = (eBn 0 17 (ρ 0 4)) := eR_val (eR_b 0 (eR_c ρ 17) (eR_s (ρ := ρ) (j := 4) rfl)); have f9 := eB0 17 (ρ 0 4); rw [e9]; omega
                  ) (hR.2.2.2.2.2.2.1 i hi)), (fun i hi => eW_in (L := [[(0, 2)], [(0, 22), (1, 4), (2, 0)], [(0, 17), (1, 4), (2, 0)]]) r4 (by decide) (fun y hy => by
                  simp only [List.mem_cons, List.not_mem_nil, or_false] at hy
                  rcases hy with rfl | rfl | rfl
                  · have e9 : eVal ρ [(0, 2)] = 2 := eR_val (eR_c ρ 2); rw [e9]; omega
                  · have e9 : eVal ρ [(0, 22), (1, 4), (2, 0)] = (eBn 0 22 (ρ 0 4)) := eR_val (eR_b 0 (eR_c ρ 22) (eR_s (ρ := ρ) (j := 4) rfl)); have f9 := eB0 22 (ρ 0 4); rw [e9]; omega
                  · have e9 : eVal ρ [(0, 17), (1, 4), (2, 0)] = (eBn 0 17 (ρ 0 4)) := eR_val (eR_b 0 (eR_c ρ 17) (eR_s (ρ := ρ) (j := 4) rfl)); have f9 := eB0 17 (ρ 0 4); rw [e9]; omega
                  ) (hR.2.2.2.2.2.2.2.1 i hi)), (fun i hi => by
          by_cases e : i = ρ 0 4
          · rw [e, snoc_at]
            exact eDt_at (x := [(0, 17), (1, 4), (2, 0)]) (y := .inl [(1, 0), (4, 1), (4, 1), (4, 6)]) (g := []) r3 (by decide) (fun q hq => by cases hq) ((eR_val (eR_b 0 (eR_c ρ 17) (eR_s (j := 4) rfl))).trans (vAdd_s (by omega))) (eCv_i (eR_t 6 (eR_t 1 (eR_t 1 (eR_s (ρ := ρ) (j := 0) rfl)))))
          · rw [snoc_ne e]
            exact eW_in (L := [[(0, 2)], [(0, 22), (1, 4), (2, 0)], [(0, 17), (1, 4), (2, 0)]]) r4 (by decide) (fun y hy => by
                  simp only [List.mem_cons, List.not_mem_nil, or_false] at hy
                  rcases hy with rfl | rfl | rfl
                  · have e9 : eVal ρ [(0, 2)] = 2 := eR_val (eR_c ρ 2); rw [e9]; omega
                  · have e9 : eVal ρ [(0, 22), (1, 4), (2, 0)] = (eBn 0 22 (ρ 0 4)) := eR_val (eR_b 0 (eR_c ρ 22) (eR_s (ρ := ρ) (j := 4) rfl)); have f9 := eB0 22 (ρ 0 4); rw [e9]; omega
                  · have e9 : eVal ρ [(0, 17), (1, 4), (2, 0)] = (eBn 0 17 (ρ 0 4)) := eR_val (eR_b 0 (eR_c ρ 17) (eR_s (ρ := ρ) (j := 4) rfl)); have f9 := eB0 17 (ρ 0 4); rw [e9]; omega
                  ) (hR.2.2.2.2.2.2.2.2.1 i hi)), (by rw [v1, v2, v3, v4]; exact mN_add (b := 24) (k := 2) (x := [(0, 35), (1, 4), (2, 0)]) (by decide) r4 ((eR_val (eR_b 0 (eR_c ρ 35) (eR_s (ρ := ρ) (j := 4) rfl))).trans (vAdd_s (by omega))) (by decide) (by rw [w3]; exact xE256_lt w1.1 w1.2.2) (eDt_at (y := .inr (.inl [(1, 0), (4, 1), (4, 8)])) (g := []) r3 (by decide) (fun q hq => by cases hq) ((eR_val (eR_b 0 (eR_c ρ 35) (eR_s (ρ := ρ) (j := 4) rfl))).trans (vAdd_s (by omega))) (eCv_l (eR_t 8 (eR_t 1 (eR_s (ρ := ρ) (j := 0) rfl))))) (by omega) (by omega) (by omega) (by omega) hc hR.2.2.2.2.2.2.2.2.2.1), RI_w r4 r3 (by decide) hR.2.2.2.2.2.2.2.2.2.2⟩
