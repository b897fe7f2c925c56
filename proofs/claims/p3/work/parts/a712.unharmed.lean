/-! ===== unharmed of the class: piece by piece ===== -/
def uN8 : List (Option sC) := List.replicate 8 none
def uA : nN := (38, [none, some (zS 0 6), some (zS 0 1), some (zS 0 12), none, none, none, none], [], [])
def uC (k : Nat) : nN := (42, [none, some (zS 0 6), some (zS 0 1), some (zS 0 12), some (zK k), none, none, none], [], [])
def uD (j : Nat) : nN := (90, [none, some (zS 0 6), none, none, none, some zF, some zF, some (zK j)], [], [])
def uR : nN := (111, uN8, [zF], [])
def uT : nN := (19, uN8, [], [])
noncomputable def uK (stops : List Nat) (A : nN) (Bs : List nN) : Bool := nChk0 m_X11_unharmed hT [] sNo [] stops 3000 A Bs
set_option maxRecDepth 1000000 in
theorem u_a : uK [42] uA [uC 12] = true := by decide +kernel
set_option maxRecDepth 1000000 in
theorem u_c1 : uK [42, 90] (uC 1) [uD 0] = true := by decide +kernel
set_option maxRecDepth 1000000 in
theorem u_ck : (List.range 11).all (fun k => uK [42, 90] (uC (k + 2)) [uC (k + 1), uD 0]) = true := by decide +kernel
set_option maxRecDepth 1000000 in
theorem u_d6 : uK [90] (uD 6) [uR] = true := by decide +kernel
set_option maxRecDepth 1000000 in
theorem u_dj : (List.range 6).all (fun j => uK [90] (uD j) [uD (j + 1), uR]) = true := by decide +kernel
def uGo (A B : nN) : Prop := ∀ κ, nSat hT [] [] A κ → ∃ κ', kRe vms vdf 59 m_X11_unharmed.2.2.2.2.1 0 0 κ κ' ∧ κ'.2.2.2 = κ.2.2.2 ∧ nSat hT [] [] B κ'
theorem uGo.tr {A B C : nN} (h1 : uGo A B) (h2 : uGo B C) : uGo A C := fun κ h => by
  obtain ⟨κ1, a1, a2, a3⟩ := h1 κ h
  obtain ⟨κ2, b1, b2, b3⟩ := h2 κ1 a3
  exact ⟨κ2, a1.tr b1, b2.trans a2, b3⟩
theorem uGo_1 {stops : List Nat} {A B : nN} (h : uK stops A [B] = true) : uGo A B := fun κ hA => by
  obtain ⟨κ', b1, b2, b3⟩ := n_one (fun hp0 => sNo_ok) h hA
  exact ⟨κ', b1, sFr_eq b2, b3⟩
theorem uGo_2 {stops : List Nat} {A B C E : nN} (h : uK stops A [B, C] = true) (hB : uGo B E) (hC : uGo C E) : uGo A E := fun κ hA => by
  obtain ⟨κ', B', b0, b1, b2, b3⟩ := n_ok0 (fun hp0 => sNo_ok) h hA
  have e := sFr_eq b2
  simp only [List.mem_cons, List.not_mem_nil, or_false] at b0
  rcases b0 with b0 | b0
  · rw [b0] at b3
    obtain ⟨κ2, c1, c2, c3⟩ := hB κ' b3
    exact ⟨κ2, b1.tr c1, c2.trans e, c3⟩
  · rw [b0] at b3
    obtain ⟨κ2, c1, c2, c3⟩ := hC κ' b3
    exact ⟨κ2, b1.tr c1, c2.trans e, c3⟩
theorem uGo_rf (A : nN) : uGo A A := fun κ h => ⟨κ, kRe.rf _, rfl, h⟩
theorem uD_ok : ∀ n, n ≤ 6 → uGo (uD (6 - n)) uR
  | 0, _ => uGo_1 u_d6
  | n + 1, h => by
    have hj := List.all_eq_true.mp u_dj (6 - (n + 1)) (List.mem_range.mpr (by omega))
    have e : 6 - (n + 1) + 1 = 6 - n := by omega
    rw [e] at hj
    exact uGo_2 hj (uD_ok n (by omega)) (uGo_rf _)
theorem uC_ok : ∀ k, k ≤ 11 → uGo (uC (k + 1)) uR
  | 0, _ => (uGo_1 u_c1).tr (uD_ok 6 (by omega))
  | k + 1, h => uGo_2 (List.all_eq_true.mp u_ck k (List.mem_range.mpr (by omega))) (uC_ok k (by omega)) (uD_ok 6 (by omega))
theorem uA_ok : uGo uA uR := (uGo_1 u_a).tr (uC_ok 11 (by omega))
theorem u_ret : nRet m_X11_unharmed uR (some zF) = true := by decide +kernel
def uP (tw : Nat) : List Nat := [0, tw]
theorem x3u_of {c tw : Nat} (hpl : ∀ k ∈ uP tw, k ∈ plC) (hk : nChk0 m_X11_unharmed (hTcN c) (uP tw) sNo [] [19, 38] 3000 (0, x3L8, [], []) [uT, uA] = true) : x3OK 290 m_X11_unharmed 19 c := by
  intro hp w1 w2 hty hw1 hw2
  have hA : nSat (hTcN c) (uP tw) [] (0, x3L8, [], []) (0, vEnt [vOj 0, .inl w1, .inl w2] m_X11_unharmed.2.2.1, [], hp) := ⟨rfl, x3_e8 w1 w2 hw1 hw2, trivial, kTy_sub hpl hty, fun c hc => by cases hc⟩
  obtain ⟨⟨pc', ls', st', hp'⟩, B, b1, b2, b3, b4⟩ := n_ok0 (vms := vms) (df := vdf) (d := 59) (fun hp0 => sNo_ok) hk hA
  have e := sFr_eq b3
  dsimp only at e
  rw [e] at b2 b4
  simp only [List.mem_cons, List.not_mem_nil, or_false] at b1
  rcases b1 with h | h
  · rw [h] at b4
    obtain ⟨q1, -, q3, -, -⟩ := b4
    have q1 : pc' = 19 := q1
    have q3 : nAr [] [] st' := q3
    subst q1
    match st', q3 with
    | [], _ => exact Or.inl ⟨ls', b2⟩
    | _ :: _, q3 => exact q3.elim
  · rw [h] at b4
    obtain ⟨s1, s2, s3, s4, s5⟩ := b4
    obtain ⟨κ2, c1, c2, c3⟩ := uA_ok (pc', ls', st', hp) ⟨s1, s2, s3, (fun k hk => absurd hk List.not_mem_nil), s5⟩
    have hend : kEnd vms vdf 59 m_X11_unharmed (0, vEnt [vOj 0, .inl w1, .inl w2] m_X11_unharmed.2.2.1, [], hp) (fun kr hp9 => hp9 = hp ∧ ∃ u, u < 4294967296 ∧ kr = some (.inl u)) :=
      kEnd.of (b2.tr c1) (n_ret u_ret c3 (fun kr hkr => ⟨c2, sRt_int hkr⟩))
    obtain ⟨kr, hp9, h1, h2, u, u1, u2⟩ := kEnd_cal (j := 290) (M := m_X11_unharmed) rfl (show (vArgs [vOj 0, .inl w1, .inl w2]).length ≤ 8 from (by decide : 3 ≤ 8)) rfl rfl hend
    subst h2 u2
    exact Or.inr ⟨u, u1, h1⟩
theorem uP_4 : ∀ k ∈ uP 4, k ∈ plC := by decide +kernel
theorem uP_17 : ∀ k ∈ uP 17, k ∈ plC := by decide +kernel
set_option maxRecDepth 1000000 in
theorem x3k_unharmed_0 : nChk0 m_X11_unharmed hTc0 (uP 4) sNo [] [19, 38] 3000 (0, x3L8, [], []) [uT, uA] = true := by decide +kernel
theorem x3_unharmed_0 : x3OK 290 m_X11_unharmed 19 0 := x3u_of (c := 0) uP_4 x3k_unharmed_0
set_option maxRecDepth 1000000 in
theorem x3k_unharmed_1 : nChk0 m_X11_unharmed hTc1 (uP 17) sNo [] [19, 38] 3000 (0, x3L8, [], []) [uT, uA] = true := by decide +kernel
theorem x3_unharmed_1 : x3OK 290 m_X11_unharmed 19 1 := x3u_of (c := 1) uP_17 x3k_unharmed_1
set_option maxRecDepth 1000000 in
theorem x3k_unharmed_2 : nChk0 m_X11_unharmed hTc2 (uP 4) sNo [] [19, 38] 3000 (0, x3L8, [], []) [uT, uA] = true := by decide +kernel
theorem x3_unharmed_2 : x3OK 290 m_X11_unharmed 19 2 := x3u_of (c := 2) uP_4 x3k_unharmed_2
set_option maxRecDepth 1000000 in
theorem x3k_unharmed_3 : nChk0 m_X11_unharmed hTc3 (uP 17) sNo [] [19, 38] 3000 (0, x3L8, [], []) [uT, uA] = true := by decide +kernel
theorem x3_unharmed_3 : x3OK 290 m_X11_unharmed 19 3 := x3u_of (c := 3) uP_17 x3k_unharmed_3
