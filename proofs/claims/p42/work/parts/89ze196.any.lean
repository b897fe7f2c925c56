/-! ===== any LINE ===== -/
theorem ln17_other {d d2 : Nat} (hd : 20 ≤ d) (hd2 : 20 ≤ d2) {hpC hpR : List vOb} {klC klR : vLs} {τ K R N DC NM TK BR ST : Nat → Nat} {z m ht : Nat} {ρ : Nat → Nat → Nat} (hP : PV ρ τ K R z m N DC NM TK BR ST) (hX : TX ρ τ K R z m) (hM : CM 17 cH17 shc17 hpC τ K z m ρ ht N DC TK BR ST) (hLk : ∀ c, ρ 4 (ρ 0 0) = c → eDt ρ (cH17 ++ cLk c) hpC) (hlC : eLm ρ (LSC 17) klC) (hR : RS hpR τ R z m ρ ht NM TK BR ST) (hlR : eLm ρ LSR klR) (h3 : ρ 3 (ρ 0 0) ≠ 0) (n0 : ρ 4 (ρ 0 0) ≠ 0) (n2 : ρ 4 (ρ 0 0) ≠ 2) (n3 : ρ 4 (ρ 0 0) ≠ 3) (n4 : ρ 4 (ρ 0 0) ≠ 4) (n5 : ρ 4 (ρ 0 0) ≠ 5) (n6 : ρ 4 (ρ 0 0) ≠ 6) (n7 : ρ 4 (ρ 0 0) ≠ 7) : LL 17 cH17 shc17 d d2 hpC klC hpR klR τ K R z m ρ := by
  have hb := PV_b hP
  obtain ⟨b1, b2, b3, b4, b10, b9, b11, b12, b13⟩ := hb
  have hA := hP.1
  obtain ⟨-, h0, hz, ⟨b5, b6, b7, b8, bl⟩, -⟩ := id hP
  have hw := tab_w hA (u := ρ 0 0) h0
  have hk := tab_k hA (u := ρ 0 0) h0
  have E0 : eCo ρ (1, [(1, 0), (4, 3)], [(0, 0)], true) := eCo_of (eR_val (eR_t 3 (eR_s rfl))) (eR_val (eR_c ρ 0)) (by decide) (kc1t (by unfold sBi; omega))
  have E1 : eCo ρ (0, [(1, 0), (4, 4)], [(0, 0)], false) := eCo_of (eR_val (eR_t 4 (eR_s rfl))) (eR_val (eR_c ρ 0)) (by decide) (kc0f (by unfold sBi; omega))
  have E2 : eCo ρ (0, [(1, 0), (4, 4)], [(0, 2)], false) := eCo_of (eR_val (eR_t 4 (eR_s rfl))) (eR_val (eR_c ρ 2)) (by decide) (kc0f (by unfold sBi; omega))
  have E3 : eCo ρ (0, [(1, 0), (4, 4)], [(0, 3)], false) := eCo_of (eR_val (eR_t 4 (eR_s rfl))) (eR_val (eR_c ρ 3)) (by decide) (kc0f (by unfold sBi; omega))
  have E4 : eCo ρ (0, [(1, 0), (4, 4)], [(0, 4)], false) := eCo_of (eR_val (eR_t 4 (eR_s rfl))) (eR_val (eR_c ρ 4)) (by decide) (kc0f (by unfold sBi; omega))
  have E5 : eCo ρ (0, [(1, 0), (4, 4)], [(0, 5)], false) := eCo_of (eR_val (eR_t 4 (eR_s rfl))) (eR_val (eR_c ρ 5)) (by decide) (kc0f (by unfold sBi; omega))
  have E6 : eCo ρ (0, [(1, 0), (4, 4)], [(0, 6)], false) := eCo_of (eR_val (eR_t 4 (eR_s rfl))) (eR_val (eR_c ρ 6)) (by decide) (kc0f (by unfold sBi; omega))
  have E7 : eCo ρ (0, [(1, 0), (4, 4)], [(0, 7)], false) := eCo_of (eR_val (eR_t 4 (eR_s rfl))) (eR_val (eR_c ρ 7)) (by decide) (kc0f (by unfold sBi; omega))
  have c2 := rl_other hd2 (RS_or hP hR) hR.1 hA h0 hz b1 b2 b3 b4 b10 b7 b8 b9 b11 b12 b13 E0 E1 E2 E3 E4 E5 E6 E7 hlR (eDt_sub (by decide) hR.2.2.2.2.1)
  rcases (show ρ 4 (ρ 0 0) = 1 ∨ ρ 4 (ρ 0 0) = 8 ∨ ρ 4 (ρ 0 0) = 9 ∨ ρ 4 (ρ 0 0) = 10 ∨ ρ 4 (ρ 0 0) = 11 ∨ ρ 4 (ρ 0 0) = 12 ∨ ρ 4 (ρ 0 0) = 13 ∨ ρ 4 (ρ 0 0) = 14 ∨ ρ 4 (ρ 0 0) = 15 ∨ ρ 4 (ρ 0 0) = 16 ∨ ρ 4 (ρ 0 0) = 17 ∨ ρ 4 (ρ 0 0) = 18 ∨ ρ 4 (ρ 0 0) = 19 ∨ ρ 4 (ρ 0 0) = 20 ∨ ρ 4 (ρ 0 0) = 21 ∨ ρ 4 (ρ 0 0) = 22 ∨ ρ 4 (ρ 0 0) = 23 ∨ ρ 4 (ρ 0 0) = 24 ∨ ρ 4 (ρ 0 0) = 4294967295 by omega) with e | e | e | e | e | e | e | e | e | e | e | e | e | e | e | e | e | e | e
  · rcases pl_other_and (cl17_other hd (CM_or17 hP hM) hM.1 hA h0 hz b1 b2 b3 b4 b10 b7 b8 b9 b11 b12 b13 E0 E1 E2 E3 E4 E5 E6 E7 hlC (eDt_sub (by decide) (hLk 1 e))) c2 with ⟨k, a, f1, f2⟩ | ⟨b, o1, -⟩
    · exact Or.inl ⟨k, a, f1, f2⟩
    · exact o1.elim
  · rcases pl_other_and (cl17_other_8 hd (CM_or17 hP hM) hM.1 hA h0 hz b1 b2 b3 b4 b10 b7 b8 b9 b11 b12 b13 E0 E1 E2 E3 E4 E5 E6 E7 hlC (eDt_sub (by decide) (hLk 8 e))) c2 with ⟨k, a, f1, f2⟩ | ⟨b, o1, -⟩
    · exact Or.inl ⟨k, a, f1, f2⟩
    · exact o1.elim
  · rcases pl_other_and (cl17_other_9 hd (CM_or17 hP hM) hM.1 hA h0 hz b1 b2 b3 b4 b10 b7 b8 b9 b11 b12 b13 E0 E1 E2 E3 E4 E5 E6 E7 hlC (eDt_sub (by decide) (hLk 9 e))) c2 with ⟨k, a, f1, f2⟩ | ⟨b, o1, -⟩
    · exact Or.inl ⟨k, a, f1, f2⟩
    · exact o1.elim
  · rcases pl_other_and (cl17_other_10 hd (CM_or17 hP hM) hM.1 hA h0 hz b1 b2 b3 b4 b10 b7 b8 b9 b11 b12 b13 E0 E1 E2 E3 E4 E5 E6 E7 hlC (eDt_sub (by decide) (hLk 10 e))) c2 with ⟨k, a, f1, f2⟩ | ⟨b, o1, -⟩
    · exact Or.inl ⟨k, a, f1, f2⟩
    · exact o1.elim
  · rcases pl_other_and (cl17_other_11 hd (CM_or17 hP hM) hM.1 hA h0 hz b1 b2 b3 b4 b10 b7 b8 b9 b11 b12 b13 E0 E1 E2 E3 E4 E5 E6 E7 hlC (eDt_sub (by decide) (hLk 11 e))) c2 with ⟨k, a, f1, f2⟩ | ⟨b, o1, -⟩
    · exact Or.inl ⟨k, a, f1, f2⟩
    · exact o1.elim
  · rcases pl_other_and (cl17_other_12 hd (CM_or17 hP hM) hM.1 hA h0 hz b1 b2 b3 b4 b10 b7 b8 b9 b11 b12 b13 E0 E1 E2 E3 E4 E5 E6 E7 hlC (eDt_sub (by decide) (hLk 12 e))) c2 with ⟨k, a, f1, f2⟩ | ⟨b, o1, -⟩
    · exact Or.inl ⟨k, a, f1, f2⟩
    · exact o1.elim
  · rcases pl_other_and (cl17_other_13 hd (CM_or17 hP hM) hM.1 hA h0 hz b1 b2 b3 b4 b10 b7 b8 b9 b11 b12 b13 E0 E1 E2 E3 E4 E5 E6 E7 hlC (eDt_sub (by decide) (hLk 13 e))) c2 with ⟨k, a, f1, f2⟩ | ⟨b, o1, -⟩
    · exact Or.inl ⟨k, a, f1, f2⟩
    · exact o1.elim
  · rcases pl_other_and (cl17_other_14 hd (CM_or17 hP hM) hM.1 hA h0 hz b1 b2 b3 b4 b10 b7 b8 b9 b11 b12 b13 E0 E1 E2 E3 E4 E5 E6 E7 hlC (eDt_sub (by decide) (hLk 14 e))) c2 with ⟨k, a, f1, f2⟩ | ⟨b, o1, -⟩
    · exact Or.inl ⟨k, a, f1, f2⟩
    · exact o1.elim
  · rcases pl_other_and (cl17_other_15 hd (CM_or17 hP hM) hM.1 hA h0 hz b1 b2 b3 b4 b10 b7 b8 b9 b11 b12 b13 E0 E1 E2 E3 E4 E5 E6 E7 hlC (eDt_sub (by decide) (hLk 15 e))) c2 with ⟨k, a, f1, f2⟩ | ⟨b, o1, -⟩
    · exact Or.inl ⟨k, a, f1, f2⟩
    · exact o1.elim
  · rcases pl_other_and (cl17_other_16 hd (CM_or17 hP hM) hM.1 hA h0 hz b1 b2 b3 b4 b10 b7 b8 b9 b11 b12 b13 E0 E1 E2 E3 E4 E5 E6 E7 hlC (eDt_sub (by decide) (hLk 16 e))) c2 with ⟨k, a, f1, f2⟩ | ⟨b, o1, -⟩
    · exact Or.inl ⟨k, a, f1, f2⟩
    · exact o1.elim
  · rcases pl_other_and (cl17_other_17 hd (CM_or17 hP hM) hM.1 hA h0 hz b1 b2 b3 b4 b10 b7 b8 b9 b11 b12 b13 E0 E1 E2 E3 E4 E5 E6 E7 hlC (eDt_sub (by decide) (hLk 17 e))) c2 with ⟨k, a, f1, f2⟩ | ⟨b, o1, -⟩
    · exact Or.inl ⟨k, a, f1, f2⟩
    · exact o1.elim
  · rcases pl_other_and (cl17_other_18 hd (CM_or17 hP hM) hM.1 hA h0 hz b1 b2 b3 b4 b10 b7 b8 b9 b11 b12 b13 E0 E1 E2 E3 E4 E5 E6 E7 hlC (eDt_sub (by decide) (hLk 18 e))) c2 with ⟨k, a, f1, f2⟩ | ⟨b, o1, -⟩
    · exact Or.inl ⟨k, a, f1, f2⟩
    · exact o1.elim
  · rcases pl_other_and (cl17_other_19 hd (CM_or17 hP hM) hM.1 hA h0 hz b1 b2 b3 b4 b10 b7 b8 b9 b11 b12 b13 E0 E1 E2 E3 E4 E5 E6 E7 hlC (eDt_sub (by decide) (hLk 19 e))) c2 with ⟨k, a, f1, f2⟩ | ⟨b, o1, -⟩
    · exact Or.inl ⟨k, a, f1, f2⟩
    · exact o1.elim
  · rcases pl_other_and (cl17_other_20 hd (CM_or17 hP hM) hM.1 hA h0 hz b1 b2 b3 b4 b10 b7 b8 b9 b11 b12 b13 E0 E1 E2 E3 E4 E5 E6 E7 hlC (eDt_sub (by decide) (hLk 20 e))) c2 with ⟨k, a, f1, f2⟩ | ⟨b, o1, -⟩
    · exact Or.inl ⟨k, a, f1, f2⟩
    · exact o1.elim
  · rcases pl_other_and (cl17_other_21 hd (CM_or17 hP hM) hM.1 hA h0 hz b1 b2 b3 b4 b10 b7 b8 b9 b11 b12 b13 E0 E1 E2 E3 E4 E5 E6 E7 hlC (eDt_sub (by decide) (hLk 21 e))) c2 with ⟨k, a, f1, f2⟩ | ⟨b, o1, -⟩
    · exact Or.inl ⟨k, a, f1, f2⟩
    · exact o1.elim
  · rcases pl_other_and (cl17_other_22 hd (CM_or17 hP hM) hM.1 hA h0 hz b1 b2 b3 b4 b10 b7 b8 b9 b11 b12 b13 E0 E1 E2 E3 E4 E5 E6 E7 hlC (eDt_sub (by decide) (hLk 22 e))) c2 with ⟨k, a, f1, f2⟩ | ⟨b, o1, -⟩
    · exact Or.inl ⟨k, a, f1, f2⟩
    · exact o1.elim
  · rcases pl_other_and (cl17_other_23 hd (CM_or17 hP hM) hM.1 hA h0 hz b1 b2 b3 b4 b10 b7 b8 b9 b11 b12 b13 E0 E1 E2 E3 E4 E5 E6 E7 hlC (eDt_sub (by decide) (hLk 23 e))) c2 with ⟨k, a, f1, f2⟩ | ⟨b, o1, -⟩
    · exact Or.inl ⟨k, a, f1, f2⟩
    · exact o1.elim
  · rcases pl_other_and (cl17_other_24 hd (CM_or17 hP hM) hM.1 hA h0 hz b1 b2 b3 b4 b10 b7 b8 b9 b11 b12 b13 E0 E1 E2 E3 E4 E5 E6 E7 hlC (eDt_sub (by decide) (hLk 24 e))) c2 with ⟨k, a, f1, f2⟩ | ⟨b, o1, -⟩
    · exact Or.inl ⟨k, a, f1, f2⟩
    · exact o1.elim
  · rcases pl_other_and (cl17_other_4294967295 hd (CM_or17 hP hM) hM.1 hA h0 hz b1 b2 b3 b4 b10 b7 b8 b9 b11 b12 b13 E0 E1 E2 E3 E4 E5 E6 E7 hlC (eDt_sub (by decide) (hLk 4294967295 e))) c2 with ⟨k, a, f1, f2⟩ | ⟨b, o1, -⟩
    · exact Or.inl ⟨k, a, f1, f2⟩
    · exact o1.elim
theorem ln17_any {d d2 : Nat} (hd : 20 ≤ d) (hd2 : 20 ≤ d2) {hpC hpR : List vOb} {klC klR : vLs} {τ K R N DC NM TK BR ST : Nat → Nat} {z m ht : Nat} {ρ : Nat → Nat → Nat} (hP : PV ρ τ K R z m N DC NM TK BR ST) (hX : TX ρ τ K R z m) (hM : CM 17 cH17 shc17 hpC τ K z m ρ ht N DC TK BR ST) (hLk : ∀ c, ρ 4 (ρ 0 0) = c → eDt ρ (cH17 ++ cLk c) hpC) (hlC : eLm ρ (LSC 17) klC) (hR : RS hpR τ R z m ρ ht NM TK BR ST) (hlR : eLm ρ LSR klR) (h3 : ρ 3 (ρ 0 0) ≠ 0) : LL 17 cH17 shc17 d d2 hpC klC hpR klR τ K R z m ρ := by
  have hw := tab_w hP.1 (u := ρ 0 0) hP.2.1
  have hk := tab_k hP.1 (u := ρ 0 0) hP.2.1
  by_cases n0 : ρ 4 (ρ 0 0) = 0
  · have e3 : ρ 3 (ρ 0 0) = 2 := by omega
    exact ln17_sort hd hd2 hP hX hM (hLk 0 n0) hlC hR hlR e3 n0
  by_cases n2 : ρ 4 (ρ 0 0) = 2
  · have e3 : ρ 3 (ρ 0 0) = 2 := by omega
    exact ln17_talks hd hd2 hP hX hM (hLk 2 n2) hlC hR hlR e3 n2
  by_cases n3 : ρ 4 (ρ 0 0) = 3
  · have e3 : ρ 3 (ρ 0 0) = 2 := by omega
    exact ln17_person hd hd2 hP hX hM (hLk 3 n3) hlC hR hlR e3 n3
  by_cases n4 : ρ 4 (ρ 0 0) = 4
  · have e3 : ρ 3 (ρ 0 0) = 2 := by omega
    exact ln17_porter hd hd2 hP hX hM (hLk 4 n4) hlC hR hlR e3 n4
  by_cases n5 : ρ 4 (ρ 0 0) = 5
  · have e3 : ρ 3 (ρ 0 0) = 2 := by omega
    exact ln17_bars hd hd2 hP hX hM (hLk 5 n5) hlC hR hlR e3 n5
  by_cases n6 : ρ 4 (ρ 0 0) = 6
  · have e3 : ρ 3 (ρ 0 0) = 2 := by omega
    exact ln17_pain hd hd2 hP hX hM (hLk 6 n6) hlC hR hlR e3 n6
  by_cases n7 : ρ 4 (ρ 0 0) = 7
  · have e3 : ρ 3 (ρ 0 0) = 2 := by omega
    have h4 := hM.2.2.2.1.2
    rcases (show ht = 0 ∨ ht = 1 by omega) with hh | hh
    · exact ln17_harm0 hd hd2 hP hX hM (hLk 7 n7) hlC hR hlR e3 n7 hh
    · exact ln17_harm1 hd hd2 hP hX hM (hLk 7 n7) hlC hR hlR e3 n7 hh
  exact ln17_other hd hd2 hP hX hM hLk hlC hR hlR h3 n0 n2 n3 n4 n5 n6 n7
theorem ln4_other {d d2 : Nat} (hd : 20 ≤ d) (hd2 : 20 ≤ d2) {hpC hpR : List vOb} {klC klR : vLs} {τ K R N DC NM TK BR ST : Nat → Nat} {z m ht : Nat} {ρ : Nat → Nat → Nat} (hP : PV ρ τ K R z m N DC NM TK BR ST) (hX : TX ρ τ K R z m) (hM : CM 4 cH4 shc4 hpC τ K z m ρ ht N DC TK BR ST) (hLk : ∀ c, ρ 4 (ρ 0 0) = c → eDt ρ (cH4 ++ cLk c) hpC) (hlC : eLm ρ (LSC 4) klC) (hR : RS hpR τ R z m ρ ht NM TK BR ST) (hlR : eLm ρ LSR klR) (h3 : ρ 3 (ρ 0 0) ≠ 0) (n0 : ρ 4 (ρ 0 0) ≠ 0) (n2 : ρ 4 (ρ 0 0) ≠ 2) (n3 : ρ 4 (ρ 0 0) ≠ 3) (n4 : ρ 4 (ρ 0 0) ≠ 4) (n5 : ρ 4 (ρ 0 0) ≠ 5) (n6 : ρ 4 (ρ 0 0) ≠ 6) (n7 : ρ 4 (ρ 0 0) ≠ 7) : LL 4 cH4 shc4 d d2 hpC klC hpR klR τ K R z m ρ := by
  have hb := PV_b hP
  obtain ⟨b1, b2, b3, b4, b10, b9, b11, b12, b13⟩ := hb
  have hA := hP.1
  obtain ⟨-, h0, hz, ⟨b5, b6, b7, b8, bl⟩, -⟩ := id hP
  have hw := tab_w hA (u := ρ 0 0) h0
  have hk := tab_k hA (u := ρ 0 0) h0
  have E0 : eCo ρ (1, [(1, 0), (4, 3)], [(0, 0)], true) := eCo_of (eR_val (eR_t 3 (eR_s rfl))) (eR_val (eR_c ρ 0)) (by decide) (kc1t (by unfold sBi; omega))
  have E1 : eCo ρ (0, [(1, 0), (4, 4)], [(0, 0)], false) := eCo_of (eR_val (eR_t 4 (eR_s rfl))) (eR_val (eR_c ρ 0)) (by decide) (kc0f (by unfold sBi; omega))
  have E2 : eCo ρ (0, [(1, 0), (4, 4)], [(0, 2)], false) := eCo_of (eR_val (eR_t 4 (eR_s rfl))) (eR_val (eR_c ρ 2)) (by decide) (kc0f (by unfold sBi; omega))
  have E3 : eCo ρ (0, [(1, 0), (4, 4)], [(0, 3)], false) := eCo_of (eR_val (eR_t 4 (eR_s rfl))) (eR_val (eR_c ρ 3)) (by decide) (kc0f (by unfold sBi; omega))
  have E4 : eCo ρ (0, [(1, 0), (4, 4)], [(0, 4)], false) := eCo_of (eR_val (eR_t 4 (eR_s rfl))) (eR_val (eR_c ρ 4)) (by decide) (kc0f (by unfold sBi; omega))
  have E5 : eCo ρ (0, [(1, 0), (4, 4)], [(0, 5)], false) := eCo_of (eR_val (eR_t 4 (eR_s rfl))) (eR_val (eR_c ρ 5)) (by decide) (kc0f (by unfold sBi; omega))
  have E6 : eCo ρ (0, [(1, 0), (4, 4)], [(0, 6)], false) := eCo_of (eR_val (eR_t 4 (eR_s rfl))) (eR_val (eR_c ρ 6)) (by decide) (kc0f (by unfold sBi; omega))
  have E7 : eCo ρ (0, [(1, 0), (4, 4)], [(0, 7)], false) := eCo_of (eR_val (eR_t 4 (eR_s rfl))) (eR_val (eR_c ρ 7)) (by decide) (kc0f (by unfold sBi; omega))
  have c2 := rl_other hd2 (RS_or hP hR) hR.1 hA h0 hz b1 b2 b3 b4 b10 b7 b8 b9 b11 b12 b13 E0 E1 E2 E3 E4 E5 E6 E7 hlR (eDt_sub (by decide) hR.2.2.2.2.1)
  rcases (show ρ 4 (ρ 0 0) = 1 ∨ ρ 4 (ρ 0 0) = 8 ∨ ρ 4 (ρ 0 0) = 9 ∨ ρ 4 (ρ 0 0) = 10 ∨ ρ 4 (ρ 0 0) = 11 ∨ ρ 4 (ρ 0 0) = 12 ∨ ρ 4 (ρ 0 0) = 13 ∨ ρ 4 (ρ 0 0) = 14 ∨ ρ 4 (ρ 0 0) = 15 ∨ ρ 4 (ρ 0 0) = 16 ∨ ρ 4 (ρ 0 0) = 17 ∨ ρ 4 (ρ 0 0) = 18 ∨ ρ 4 (ρ 0 0) = 19 ∨ ρ 4 (ρ 0 0) = 20 ∨ ρ 4 (ρ 0 0) = 21 ∨ ρ 4 (ρ 0 0) = 22 ∨ ρ 4 (ρ 0 0) = 23 ∨ ρ 4 (ρ 0 0) = 24 ∨ ρ 4 (ρ 0 0) = 4294967295 by omega) with e | e | e | e | e | e | e | e | e | e | e | e | e | e | e | e | e | e | e
  · rcases pl_other_and (cl4_other hd (CM_or4 hP hM) hM.1 hA h0 hz b1 b2 b3 b4 b10 b7 b8 b9 b11 b12 b13 E0 E1 E2 E3 E4 E5 E6 E7 hlC (eDt_sub (by decide) (hLk 1 e))) c2 with ⟨k, a, f1, f2⟩ | ⟨b, o1, -⟩
    · exact Or.inl ⟨k, a, f1, f2⟩
    · exact o1.elim
  · rcases pl_other_and (cl4_other_8 hd (CM_or4 hP hM) hM.1 hA h0 hz b1 b2 b3 b4 b10 b7 b8 b9 b11 b12 b13 E0 E1 E2 E3 E4 E5 E6 E7 hlC (eDt_sub (by decide) (hLk 8 e))) c2 with ⟨k, a, f1, f2⟩ | ⟨b, o1, -⟩
    · exact Or.inl ⟨k, a, f1, f2⟩
    · exact o1.elim
  · rcases pl_other_and (cl4_other_9 hd (CM_or4 hP hM) hM.1 hA h0 hz b1 b2 b3 b4 b10 b7 b8 b9 b11 b12 b13 E0 E1 E2 E3 E4 E5 E6 E7 hlC (eDt_sub (by decide) (hLk 9 e))) c2 with ⟨k, a, f1, f2⟩ | ⟨b, o1, -⟩
    · exact Or.inl ⟨k, a, f1, f2⟩
    · exact o1.elim
  · rcases pl_other_and (cl4_other_10 hd (CM_or4 hP hM) hM.1 hA h0 hz b1 b2 b3 b4 b10 b7 b8 b9 b11 b12 b13 E0 E1 E2 E3 E4 E5 E6 E7 hlC (eDt_sub (by decide) (hLk 10 e))) c2 with ⟨k, a, f1, f2⟩ | ⟨b, o1, -⟩
    · exact Or.inl ⟨k, a, f1, f2⟩
    · exact o1.elim
  · rcases pl_other_and (cl4_other_11 hd (CM_or4 hP hM) hM.1 hA h0 hz b1 b2 b3 b4 b10 b7 b8 b9 b11 b12 b13 E0 E1 E2 E3 E4 E5 E6 E7 hlC (eDt_sub (by decide) (hLk 11 e))) c2 with ⟨k, a, f1, f2⟩ | ⟨b, o1, -⟩
    · exact Or.inl ⟨k, a, f1, f2⟩
    · exact o1.elim
  · rcases pl_other_and (cl4_other_12 hd (CM_or4 hP hM) hM.1 hA h0 hz b1 b2 b3 b4 b10 b7 b8 b9 b11 b12 b13 E0 E1 E2 E3 E4 E5 E6 E7 hlC (eDt_sub (by decide) (hLk 12 e))) c2 with ⟨k, a, f1, f2⟩ | ⟨b, o1, -⟩
    · exact Or.inl ⟨k, a, f1, f2⟩
    · exact o1.elim
  · rcases pl_other_and (cl4_other_13 hd (CM_or4 hP hM) hM.1 hA h0 hz b1 b2 b3 b4 b10 b7 b8 b9 b11 b12 b13 E0 E1 E2 E3 E4 E5 E6 E7 hlC (eDt_sub (by decide) (hLk 13 e))) c2 with ⟨k, a, f1, f2⟩ | ⟨b, o1, -⟩
    · exact Or.inl ⟨k, a, f1, f2⟩
    · exact o1.elim
  · rcases pl_other_and (cl4_other_14 hd (CM_or4 hP hM) hM.1 hA h0 hz b1 b2 b3 b4 b10 b7 b8 b9 b11 b12 b13 E0 E1 E2 E3 E4 E5 E6 E7 hlC (eDt_sub (by decide) (hLk 14 e))) c2 with ⟨k, a, f1, f2⟩ | ⟨b, o1, -⟩
    · exact Or.inl ⟨k, a, f1, f2⟩
    · exact o1.elim
  · rcases pl_other_and (cl4_other_15 hd (CM_or4 hP hM) hM.1 hA h0 hz b1 b2 b3 b4 b10 b7 b8 b9 b11 b12 b13 E0 E1 E2 E3 E4 E5 E6 E7 hlC (eDt_sub (by decide) (hLk 15 e))) c2 with ⟨k, a, f1, f2⟩ | ⟨b, o1, -⟩
    · exact Or.inl ⟨k, a, f1, f2⟩
    · exact o1.elim
  · rcases pl_other_and (cl4_other_16 hd (CM_or4 hP hM) hM.1 hA h0 hz b1 b2 b3 b4 b10 b7 b8 b9 b11 b12 b13 E0 E1 E2 E3 E4 E5 E6 E7 hlC (eDt_sub (by decide) (hLk 16 e))) c2 with ⟨k, a, f1, f2⟩ | ⟨b, o1, -⟩
    · exact Or.inl ⟨k, a, f1, f2⟩
    · exact o1.elim
  · rcases pl_other_and (cl4_other_17 hd (CM_or4 hP hM) hM.1 hA h0 hz b1 b2 b3 b4 b10 b7 b8 b9 b11 b12 b13 E0 E1 E2 E3 E4 E5 E6 E7 hlC (eDt_sub (by decide) (hLk 17 e))) c2 with ⟨k, a, f1, f2⟩ | ⟨b, o1, -⟩
    · exact Or.inl ⟨k, a, f1, f2⟩
    · exact o1.elim
  · rcases pl_other_and (cl4_other_18 hd (CM_or4 hP hM) hM.1 hA h0 hz b1 b2 b3 b4 b10 b7 b8 b9 b11 b12 b13 E0 E1 E2 E3 E4 E5 E6 E7 hlC (eDt_sub (by decide) (hLk 18 e))) c2 with ⟨k, a, f1, f2⟩ | ⟨b, o1, -⟩
    · exact Or.inl ⟨k, a, f1, f2⟩
    · exact o1.elim
  · rcases pl_other_and (cl4_other_19 hd (CM_or4 hP hM) hM.1 hA h0 hz b1 b2 b3 b4 b10 b7 b8 b9 b11 b12 b13 E0 E1 E2 E3 E4 E5 E6 E7 hlC (eDt_sub (by decide) (hLk 19 e))) c2 with ⟨k, a, f1, f2⟩ | ⟨b, o1, -⟩
    · exact Or.inl ⟨k, a, f1, f2⟩
    · exact o1.elim
  · rcases pl_other_and (cl4_other_20 hd (CM_or4 hP hM) hM.1 hA h0 hz b1 b2 b3 b4 b10 b7 b8 b9 b11 b12 b13 E0 E1 E2 E3 E4 E5 E6 E7 hlC (eDt_sub (by decide) (hLk 20 e))) c2 with ⟨k, a, f1, f2⟩ | ⟨b, o1, -⟩
    · exact Or.inl ⟨k, a, f1, f2⟩
    · exact o1.elim
  · rcases pl_other_and (cl4_other_21 hd (CM_or4 hP hM) hM.1 hA h0 hz b1 b2 b3 b4 b10 b7 b8 b9 b11 b12 b13 E0 E1 E2 E3 E4 E5 E6 E7 hlC (eDt_sub (by decide) (hLk 21 e))) c2 with ⟨k, a, f1, f2⟩ | ⟨b, o1, -⟩
    · exact Or.inl ⟨k, a, f1, f2⟩
    · exact o1.elim
  · rcases pl_other_and (cl4_other_22 hd (CM_or4 hP hM) hM.1 hA h0 hz b1 b2 b3 b4 b10 b7 b8 b9 b11 b12 b13 E0 E1 E2 E3 E4 E5 E6 E7 hlC (eDt_sub (by decide) (hLk 22 e))) c2 with ⟨k, a, f1, f2⟩ | ⟨b, o1, -⟩
    · exact Or.inl ⟨k, a, f1, f2⟩
    · exact o1.elim
  · rcases pl_other_and (cl4_other_23 hd (CM_or4 hP hM) hM.1 hA h0 hz b1 b2 b3 b4 b10 b7 b8 b9 b11 b12 b13 E0 E1 E2 E3 E4 E5 E6 E7 hlC (eDt_sub (by decide) (hLk 23 e))) c2 with ⟨k, a, f1, f2⟩ | ⟨b, o1, -⟩
    · exact Or.inl ⟨k, a, f1, f2⟩
    · exact o1.elim
  · rcases pl_other_and (cl4_other_24 hd (CM_or4 hP hM) hM.1 hA h0 hz b1 b2 b3 b4 b10 b7 b8 b9 b11 b12 b13 E0 E1 E2 E3 E4 E5 E6 E7 hlC (eDt_sub (by decide) (hLk 24 e))) c2 with ⟨k, a, f1, f2⟩ | ⟨b, o1, -⟩
    · exact Or.inl ⟨k, a, f1, f2⟩
    · exact o1.elim
  · rcases pl_other_and (cl4_other_4294967295 hd (CM_or4 hP hM) hM.1 hA h0 hz b1 b2 b3 b4 b10 b7 b8 b9 b11 b12 b13 E0 E1 E2 E3 E4 E5 E6 E7 hlC (eDt_sub (by decide) (hLk 4294967295 e))) c2 with ⟨k, a, f1, f2⟩ | ⟨b, o1, -⟩
    · exact Or.inl ⟨k, a, f1, f2⟩
    · exact o1.elim
theorem ln4_any {d d2 : Nat} (hd : 20 ≤ d) (hd2 : 20 ≤ d2) {hpC hpR : List vOb} {klC klR : vLs} {τ K R N DC NM TK BR ST : Nat → Nat} {z m ht : Nat} {ρ : Nat → Nat → Nat} (hP : PV ρ τ K R z m N DC NM TK BR ST) (hX : TX ρ τ K R z m) (hM : CM 4 cH4 shc4 hpC τ K z m ρ ht N DC TK BR ST) (hLk : ∀ c, ρ 4 (ρ 0 0) = c → eDt ρ (cH4 ++ cLk c) hpC) (hlC : eLm ρ (LSC 4) klC) (hR : RS hpR τ R z m ρ ht NM TK BR ST) (hlR : eLm ρ LSR klR) (h3 : ρ 3 (ρ 0 0) ≠ 0) : LL 4 cH4 shc4 d d2 hpC klC hpR klR τ K R z m ρ := by
  have hw := tab_w hP.1 (u := ρ 0 0) hP.2.1
  have hk := tab_k hP.1 (u := ρ 0 0) hP.2.1
  by_cases n0 : ρ 4 (ρ 0 0) = 0
  · have e3 : ρ 3 (ρ 0 0) = 2 := by omega
    exact ln4_sort hd hd2 hP hX hM (hLk 0 n0) hlC hR hlR e3 n0
  by_cases n2 : ρ 4 (ρ 0 0) = 2
  · have e3 : ρ 3 (ρ 0 0) = 2 := by omega
    exact ln4_talks hd hd2 hP hX hM (hLk 2 n2) hlC hR hlR e3 n2
  by_cases n3 : ρ 4 (ρ 0 0) = 3
  · have e3 : ρ 3 (ρ 0 0) = 2 := by omega
    exact ln4_person hd hd2 hP hX hM (hLk 3 n3) hlC hR hlR e3 n3
  by_cases n4 : ρ 4 (ρ 0 0) = 4
  · have e3 : ρ 3 (ρ 0 0) = 2 := by omega
    exact ln4_porter hd hd2 hP hX hM (hLk 4 n4) hlC hR hlR e3 n4
  by_cases n5 : ρ 4 (ρ 0 0) = 5
  · have e3 : ρ 3 (ρ 0 0) = 2 := by omega
    exact ln4_bars hd hd2 hP hX hM (hLk 5 n5) hlC hR hlR e3 n5
  by_cases n6 : ρ 4 (ρ 0 0) = 6
  · have e3 : ρ 3 (ρ 0 0) = 2 := by omega
    exact ln4_pain hd hd2 hP hX hM (hLk 6 n6) hlC hR hlR e3 n6
  by_cases n7 : ρ 4 (ρ 0 0) = 7
  · have e3 : ρ 3 (ρ 0 0) = 2 := by omega
    have h4 := hM.2.2.2.1.2
    rcases (show ht = 0 ∨ ht = 1 by omega) with hh | hh
    · exact ln4_harm0 hd hd2 hP hX hM (hLk 7 n7) hlC hR hlR e3 n7 hh
    · exact ln4_harm1 hd hd2 hP hX hM (hLk 7 n7) hlC hR hlR e3 n7 hh
  exact ln4_other hd hd2 hP hX hM hLk hlC hR hlR h3 n0 n2 n3 n4 n5 n6 n7
