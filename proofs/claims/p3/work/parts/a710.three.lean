/-! ===== pain, porter, unharmed of the class: up to the throw, or to the end ===== -/
def x3P (tw : Nat) : List Nat := 0 :: ((List.range 13).map (fun k => k + tw) ++ (List.range 9).map (fun k => k + 31))
theorem x3P_4 : ∀ k ∈ x3P 4, k ∈ plC := by decide +kernel
theorem x3P_17 : ∀ k ∈ x3P 17, k ∈ plC := by decide +kernel
noncomputable def x3S (T : sHp) (es : List sCtE) : sCal := sCalI vms (sCt T [] es) [] 3000 6
def x3B (pcN nl : Nat) (rs : List Nat) : List nN := (pcN, List.replicate nl none, [], []) :: rs.map (fun r => (r, List.replicate nl none, [zF], []))
def x3OK (j : Nat) (M : vMt) (pcN : Nat) (c : Nat) : Prop := ∀ (hp : List vOb) (w1 w2 : Nat), kTy (hTcN c) plC hp → w1 < 4294967296 → w2 < 4294967296 →
  (∃ ls', kRe vms vdf 59 M.2.2.2.2.1 0 0 (0, vEnt [vOj 0, .inl w1, .inl w2] M.2.2.1, [], hp) (pcN, ls', [], hp)) ∨ (∃ u, u < 4294967296 ∧ ∃ N, ∀ fuel, N ≤ fuel → vCalD vms vdf fuel 60 j [vOj 0, .inl w1, .inl w2] hp = some (some (.inl u), hp, 0, 0))
theorem x3OK_of {j : Nat} {M : vMt} {pcN c nl : Nat} {pl rs : List Nat} {scal : sCal} {la : List (Option sC)} (hM : vms[j]? = some M) (hal : ∀ w1 w2 : Nat, (vArgs [vOj 0, .inl w1, .inl w2]).length ≤ M.2.2.1) (hcl : (mRm M).cells = 0) (hsl : (mRm M).slots = 0) (hpl : ∀ k ∈ pl, k ∈ plC) (hs : ∀ hp0, sCalOK vms vdf 59 [] hp0 scal)
    (hent : ∀ w1 w2 : Nat, w1 < 4294967296 → w2 < 4294967296 → nLr [] la (vEnt [vOj 0, .inl w1, .inl w2] M.2.2.1))
    (hk : nChk0 M (hTcN c) pl scal [] [pcN] 3000 (0, la, [], []) (x3B pcN nl rs) = true) (hr : rs.all (fun r => nRet M (r, List.replicate nl none, [zF], []) (some zF)) = true) : x3OK j M pcN c := by
  intro hp w1 w2 hty hw1 hw2
  have hA : nSat (hTcN c) pl [] (0, la, [], []) (0, vEnt [vOj 0, .inl w1, .inl w2] M.2.2.1, [], hp) := ⟨rfl, hent w1 w2 hw1 hw2, trivial, kTy_sub hpl hty, fun c hc => by cases hc⟩
  obtain ⟨⟨pc', ls', st', hp'⟩, B, b1, b2, b3, b4⟩ := n_ok0 hs hk hA
  have e := sFr_eq b3
  dsimp only at e
  rw [e] at b2 b4
  rcases List.mem_cons.mp b1 with h | h
  · subst h
    obtain ⟨q1, -, q3, -, -⟩ := b4
    dsimp only at q1 q3
    subst q1
    match st', q3 with
    | [], _ => exact Or.inl ⟨ls', b2⟩
    | _ :: _, q3 => exact q3.elim
  · obtain ⟨r, r1, r2⟩ := List.mem_map.mp h
    subst r2
    have hend : kEnd vms vdf 59 M (0, vEnt [vOj 0, .inl w1, .inl w2] M.2.2.1, [], hp) (fun kr hp9 => hp9 = hp ∧ ∃ u, u < 4294967296 ∧ kr = some (.inl u)) :=
      kEnd.of b2 (n_ret (List.all_eq_true.mp hr r r1) b4 (fun kr hkr => ⟨rfl, sRt_int hkr⟩))
    obtain ⟨kr, hp9, h1, h2, u, u1, u2⟩ := kEnd_cal hM (hal w1 w2) hcl hsl hend
    subst h2 u2
    exact Or.inr ⟨u, u1, h1⟩
theorem x3_in {w : Nat} (hw : w < 4294967296) : ∀ c, some zF = some c → ∃ y, some (.inl w : vAV) = some y ∧ sCr [] c y := fun c hc => by
  cases hc
  exact ⟨_, rfl, w, hw, sIn_full (sBi_lt w), rfl⟩
theorem x3_o : ∀ c, some (yO 0) = some c → ∃ y, some (vOj 0) = some y ∧ sCr [] c y := fun c hc => by
  cases hc
  exact ⟨_, rfl, rfl⟩
theorem x3_n {v : Option vAV} : ∀ c : sC, none = some c → ∃ y, v = some y ∧ sCr [] c y := fun c hc => by cases hc
def x3L3 : List (Option sC) := [some (yO 0), some zF, some zF]
def x3L8 : List (Option sC) := [some (yO 0), some zF, some zF, none, none, none, none, none]
theorem x3_e3 (w1 w2 : Nat) (h1 : w1 < 4294967296) (h2 : w2 < 4294967296) : nLr [] x3L3 (vEnt [vOj 0, .inl w1, .inl w2] 3) := ⟨x3_o, x3_in h1, x3_in h2, trivial⟩
theorem x3_e8 (w1 w2 : Nat) (h1 : w1 < 4294967296) (h2 : w2 < 4294967296) : nLr [] x3L8 (vEnt [vOj 0, .inl w1, .inl w2] 8) := ⟨x3_o, x3_in h1, x3_in h2, x3_n, x3_n, x3_n, x3_n, x3_n, trivial⟩
theorem x3_S0 {T : sHp} (hp0 : List vOb) : sCalOK vms vdf 59 [] hp0 (x3S T []) := sCalI_ok (d0 := 0) (fun m hm => sCt_ok (T := T) cs_nil) 6 59 (by decide)
theorem x3r_pain : ([73, 83, 93, 103, 113, 123, 133] : List Nat).all (fun r => nRet m_X11_pain (r, List.replicate 3 none, [zF], []) (some zF)) = true := by decide +kernel
set_option maxRecDepth 1000000 in
theorem x3k_pain_0 : nChk0 m_X11_pain hTc0 (x3P 4) (x3S hTc0 []) [] [18] 3000 (0, x3L3, [], []) (x3B 18 3 [73, 83, 93, 103, 113, 123, 133]) = true := by decide +kernel
theorem x3_pain_0 : x3OK 287 m_X11_pain 18 0 := x3OK_of (c := 0) (pl := x3P 4) (scal := x3S hTc0 []) (la := x3L3) (nl := 3) (rs := [73, 83, 93, 103, 113, 123, 133]) rfl (fun _ _ => (by decide : 3 ≤ 3)) rfl rfl x3P_4 (fun hp0 => x3_S0 hp0) x3_e3 x3k_pain_0 x3r_pain
set_option maxRecDepth 1000000 in
theorem x3k_pain_1 : nChk0 m_X11_pain hTc1 (x3P 17) (x3S hTc1 []) [] [18] 3000 (0, x3L3, [], []) (x3B 18 3 [73, 83, 93, 103, 113, 123, 133]) = true := by decide +kernel
theorem x3_pain_1 : x3OK 287 m_X11_pain 18 1 := x3OK_of (c := 1) (pl := x3P 17) (scal := x3S hTc1 []) (la := x3L3) (nl := 3) (rs := [73, 83, 93, 103, 113, 123, 133]) rfl (fun _ _ => (by decide : 3 ≤ 3)) rfl rfl x3P_17 (fun hp0 => x3_S0 hp0) x3_e3 x3k_pain_1 x3r_pain
set_option maxRecDepth 1000000 in
theorem x3k_pain_2 : nChk0 m_X11_pain hTc2 (x3P 4) (x3S hTc2 []) [] [18] 3000 (0, x3L3, [], []) (x3B 18 3 [73, 83, 93, 103, 113, 123, 133]) = true := by decide +kernel
theorem x3_pain_2 : x3OK 287 m_X11_pain 18 2 := x3OK_of (c := 2) (pl := x3P 4) (scal := x3S hTc2 []) (la := x3L3) (nl := 3) (rs := [73, 83, 93, 103, 113, 123, 133]) rfl (fun _ _ => (by decide : 3 ≤ 3)) rfl rfl x3P_4 (fun hp0 => x3_S0 hp0) x3_e3 x3k_pain_2 x3r_pain
set_option maxRecDepth 1000000 in
theorem x3k_pain_3 : nChk0 m_X11_pain hTc3 (x3P 17) (x3S hTc3 []) [] [18] 3000 (0, x3L3, [], []) (x3B 18 3 [73, 83, 93, 103, 113, 123, 133]) = true := by decide +kernel
theorem x3_pain_3 : x3OK 287 m_X11_pain 18 3 := x3OK_of (c := 3) (pl := x3P 17) (scal := x3S hTc3 []) (la := x3L3) (nl := 3) (rs := [73, 83, 93, 103, 113, 123, 133]) rfl (fun _ _ => (by decide : 3 ≤ 3)) rfl rfl x3P_17 (fun hp0 => x3_S0 hp0) x3_e3 x3k_pain_3 x3r_pain
