/-! ===== town() of the class: its pieces ===== -/
set_option maxRecDepth 1000000 in
theorem xtA4_k : eQ (eRun [(0, 88, 19), (1, 48, 13)] (eCalI eNo vms [(0, 88, 19), (1, 48, 13)] 300 8) vt_X11_town [19] 9 [false] (0, [some (.inr (.inr (some 0))), none, none], [], [(0, [(0, 0)], .inr (.inr (some 1)), []), (0, [(0, 1)], .inl [(1, 0)], []), (0, [(0, 3)], .inr (.inr (some 4)), []), (0, [(0, 4)], .inr (.inr (some 30)), [])], [])) (19, [some (.inr (.inr (some 0))), none, none], [.inr (.inr (some 4)), .inr (.inr (some 1)), .inr (.inr (some 30))], [(0, [(0, 1)], .inl [(0, 0)], []), (1, [(0, 12)], .inl [(0, 0)], []), (1, [(0, 11)], .inl [(0, 0)], []), (1, [(0, 4)], .inl [(0, 0)], []), (1, [(0, 3)], .inl [(0, 900)], []), (1, [(0, 2)], .inl [(1, 0)], []), (0, [(0, 0)], .inr (.inr (some 1)), []), (0, [(0, 3)], .inr (.inr (some 4)), []), (0, [(0, 4)], .inr (.inr (some 30)), [])], [(0, [(0, 1)]), (1, [(0, 12)]), (1, [(0, 11)]), (1, [(0, 4)]), (1, [(0, 3)]), (1, [(0, 2)])]) [(4, [(1, 0)], [(0, 940)], false)] [] = true := by decide +kernel
def xtA4_i : eD := [(0, [(0, 0)], .inr (.inr (some 1)), []), (0, [(0, 1)], .inl [(1, 0)], []), (0, [(0, 3)], .inr (.inr (some 4)), []), (0, [(0, 4)], .inr (.inr (some 30)), [])]
def xtA4_d : eD := [(0, [(0, 1)], .inl [(0, 0)], []), (1, [(0, 12)], .inl [(0, 0)], []), (1, [(0, 11)], .inl [(0, 0)], []), (1, [(0, 4)], .inl [(0, 0)], []), (1, [(0, 3)], .inl [(0, 900)], []), (1, [(0, 2)], .inl [(1, 0)], []), (0, [(0, 0)], .inr (.inr (some 1)), []), (0, [(0, 3)], .inr (.inr (some 4)), []), (0, [(0, 4)], .inr (.inr (some 30)), [])]
def xtA4_w : List (Nat × eX) := [(0, [(0, 1)]), (1, [(0, 12)]), (1, [(0, 11)]), (1, [(0, 4)]), (1, [(0, 3)]), (1, [(0, 2)])]
set_option maxRecDepth 100000 in
theorem xtA4_f : (eWl [some (.inr (.inr (some 0))), none, none] && (([] : List eV).all eWv && eWd xtA4_i)) = true := by decide +kernel
theorem xtA4 {d : Nat} (hd : 8 ≤ d) {hp : List vOb} {kl : vLs} {τ K : Nat → Nat} {z : Nat} (hz : z ≤ 940) (hs0 : eSh [(0, 88, 19), (1, 48, 13)] hp) (hs : eSh shc4 hp) (hsC : eSh shC hp) (h00 : hC hp 0 0 (.inr (.inr (.inr (.inl (some 1)))))) (h01 : hC hp 0 1 (.inl z)) (h03 : hC hp 0 3 (.inr (.inr (.inr (.inl (some 4)))))) (h04 : hC hp 0 4 (.inr (.inr (.inr (.inl (some 30)))))) (h10 : hC hp 1 0 (.inr (.inr (.inr (.inl (some 2)))))) (h11 : hC hp 1 1 (.inr (.inr (.inr (.inl (some 3)))))) (hT : ∀ i, i < z → hC hp 2 i (.inl (τ i)) ∧ byR (τ i)) (hK : ∀ i, i < 25 → hC hp 3 i (.inr (.inr (.inl (K i)))) ∧ K i < 18446744073709551616) (hr : eDt (rL []) (ei4.drop 1) hp) (hc : cRs 4 hp) (hl : eLm (rL [z]) [some (.inr (.inr (some 0))), none, none] kl) : ∃ kl' hp', kRe vms vdf d vt_X11_town 0 0 (0, kl, [], hp) (19, kl', [(.inr (.inr (.inr (.inl (some 4))))), (.inr (.inr (.inr (.inl (some 1))))), (.inr (.inr (.inr (.inl (some 30)))))], hp') ∧ eLm (rL []) [some (.inr (.inr (some 0))), none, none] kl' ∧ cRdy hp' τ K z 900 ∧ hC hp' 1 4 (.inl 0) ∧ hC hp' 1 11 (.inl 0) ∧ eDt (rL []) (ei4.drop 1) hp' ∧ cRs 4 hp' ∧ eSh shc4 hp' ∧ hC hp' 0 1 (.inl 0) ∧ sFr [(0, 1, 1), (1, 2, 12)] hp hp' := by
  have s0 : eR (rL [z]) [(1, 0)] z := eR_s (j := 0) (u := z) rfl
  have hD : eDt (rL [z]) xtA4_i hp := eDt_add (k := 0) (eR_c _ 0) rfl h00 (eDt_add (k := 0) (eR_c _ 1) (eCv_i s0) h01 (eDt_add (k := 0) (eR_c _ 3) rfl h03 (eDt_add (k := 0) (eR_c _ 4) rfl h04 eDt_nil)))
  have g1 : eCo (rL [z]) (4, [(1, 0)], [(0, 940)], false) := eCo_of (eR_val s0) (eR_val (eR_c _ 940)) (by decide) (kc4f (by unfold sBi; omega))
  obtain ⟨kl1, hp1, k1, k2, k3, k4⟩ := e_go (vms := vms) (df := vdf) (d := d) (ρ := rL [z]) hd xtA4_k xtA4_f hs0 (all_cons g1 all_nil) hl hD
  have k4 : sFr [(0, 1, 1), (1, 2, 12)] hp hp1 := k4.mono (eBox_ok (by decide))
  have fr : ∀ {k i : Nat} {v : vAV}, 2 ≤ k → hC hp k i v → hC hp1 k i v := fun hk hv => hC_fr k4 (fun ⟨m, m1, m2, m3, m4⟩ => by
    simp only [List.mem_cons, List.not_mem_nil, or_false] at m1
    rcases m1 with rfl | rfl <;> dsimp only at m2 <;> omega) hv
  have at1 : ∀ {c : Nat} {y : eX} {v : Nat}, (match eGet 1 [(0, c)] xtA4_d with
    | some q => evB q.1 (.inl y) && elB ecB q.2 []
    | none => false) = true → eR (rL [z]) y v → hC hp1 1 c (.inl v) := fun {c y v} h hy => eDt_at (x := [(0, c)]) (y := .inl y) (g := []) k3 h (fun q hq => by cases hq) (eR_val (eR_c _ c)) (eCv_i hy)
  refine ⟨kl1, hp1, k1, eLm_in (vs := [some (.inr (.inr (.inr (.inl (some 0))))), none, none]) ⟨rfl, trivial⟩ (eLm_out (ρ := rL [z]) (ls := [some (.inr (.inr (some 0))), none, none]) ⟨rfl, trivial⟩ k2), ⟨eSh_fr k4 hsC, at1 (by decide) s0, at1 (y := [(0, 900)]) (by decide) (eR_c _ 900), hC_fr k4 (sMnot_ok rfl) h10, hC_fr k4 (sMnot_ok rfl) h11, fun i hi => ⟨fr (by omega) (hT i hi).1, (hT i hi).2⟩, fun i hi => ⟨fr (by omega) (hK i hi).1, (hK i hi).2⟩, hz, by omega⟩, at1 (y := [(0, 0)]) (by decide) (eR_c _ 0), at1 (y := [(0, 0)]) (by decide) (eR_c _ 0), fun e he hg => ?_, ⟨cR_r (fun hv => fr (by omega) hv) hc.1, cR_r (fun hv => fr (by omega) hv) hc.2.1, cR_r (fun hv => fr (by omega) hv) hc.2.2.1, cR_r (fun hv => fr (by omega) hv) hc.2.2.2.1, cR_r (fun hv => fr (by omega) hv) hc.2.2.2.2⟩, eSh_fr k4 hs, eDt_at (x := [(0, 1)]) (y := .inl [(0, 0)]) (g := []) k3 (by decide) (fun q hq => by cases hq) (eR_val (eR_c _ 1)) (eCv_i (eR_c _ 0)), k4⟩
  have hk := List.all_eq_true.mp (show (ei4.drop 1).all (fun e => Nat.ble 2 e.1) = true by decide) e he
  exact fr (Nat.le_of_ble_eq_true hk) (hr e he hg)
set_option maxRecDepth 1000000 in
theorem xtC4_k : eQ (eRun [(0, 88, 19)] (eCalI eNo vms [(0, 88, 19)] 300 8) vt_X11_town [63] 17 [true] (22, [some (.inr (.inr (some 0))), none, none], [.inl [(1, 0)]], [(0, [(0, 2)], .inr (.inr (some 17)), []), (0, [(0, 3)], .inr (.inr (some 4)), []), (0, [(0, 5)], .inr (.inr (some 31)), [])], [])) (63, [some (.inr (.inr (some 0))), some (.inl [(1, 0)]), some (.inr (.inr (some 17)))], [.inr (.inr (some 4)), .inr (.inr (some 31))], [(0, [(0, 3)], .inr (.inr (some 17)), []), (0, [(0, 2)], .inr (.inr (some 4)), []), (0, [(0, 5)], .inr (.inr (some 31)), [])], [(0, [(0, 3)]), (0, [(0, 2)])]) [(3, [(1, 0)], [(0, 0)], true)] [] = true := by decide +kernel
def xtC4_i : eD := [(0, [(0, 2)], .inr (.inr (some 17)), []), (0, [(0, 3)], .inr (.inr (some 4)), []), (0, [(0, 5)], .inr (.inr (some 31)), [])]
def xtC4_d : eD := [(0, [(0, 3)], .inr (.inr (some 17)), []), (0, [(0, 2)], .inr (.inr (some 4)), []), (0, [(0, 5)], .inr (.inr (some 31)), [])]
def xtC4_w : List (Nat × eX) := [(0, [(0, 3)]), (0, [(0, 2)])]
set_option maxRecDepth 100000 in
theorem xtC4_f : (eWl [some (.inr (.inr (some 0))), none, none] && (([.inl [(1, 0)]] : List eV).all eWv && eWd xtC4_i)) = true := by decide +kernel
set_option maxRecDepth 1000000 in
theorem xtA17_k : eQ (eRun [(0, 88, 19), (1, 48, 13)] (eCalI eNo vms [(0, 88, 19), (1, 48, 13)] 300 8) vt_X11_town [19] 9 [false] (0, [some (.inr (.inr (some 0))), none, none], [], [(0, [(0, 0)], .inr (.inr (some 1)), []), (0, [(0, 1)], .inl [(1, 0)], []), (0, [(0, 3)], .inr (.inr (some 17)), []), (0, [(0, 4)], .inr (.inr (some 30)), [])], [])) (19, [some (.inr (.inr (some 0))), none, none], [.inr (.inr (some 17)), .inr (.inr (some 1)), .inr (.inr (some 30))], [(0, [(0, 1)], .inl [(0, 0)], []), (1, [(0, 12)], .inl [(0, 0)], []), (1, [(0, 11)], .inl [(0, 0)], []), (1, [(0, 4)], .inl [(0, 0)], []), (1, [(0, 3)], .inl [(0, 900)], []), (1, [(0, 2)], .inl [(1, 0)], []), (0, [(0, 0)], .inr (.inr (some 1)), []), (0, [(0, 3)], .inr (.inr (some 17)), []), (0, [(0, 4)], .inr (.inr (some 30)), [])], [(0, [(0, 1)]), (1, [(0, 12)]), (1, [(0, 11)]), (1, [(0, 4)]), (1, [(0, 3)]), (1, [(0, 2)])]) [(4, [(1, 0)], [(0, 940)], false)] [] = true := by decide +kernel
def xtA17_i : eD := [(0, [(0, 0)], .inr (.inr (some 1)), []), (0, [(0, 1)], .inl [(1, 0)], []), (0, [(0, 3)], .inr (.inr (some 17)), []), (0, [(0, 4)], .inr (.inr (some 30)), [])]
def xtA17_d : eD := [(0, [(0, 1)], .inl [(0, 0)], []), (1, [(0, 12)], .inl [(0, 0)], []), (1, [(0, 11)], .inl [(0, 0)], []), (1, [(0, 4)], .inl [(0, 0)], []), (1, [(0, 3)], .inl [(0, 900)], []), (1, [(0, 2)], .inl [(1, 0)], []), (0, [(0, 0)], .inr (.inr (some 1)), []), (0, [(0, 3)], .inr (.inr (some 17)), []), (0, [(0, 4)], .inr (.inr (some 30)), [])]
def xtA17_w : List (Nat × eX) := [(0, [(0, 1)]), (1, [(0, 12)]), (1, [(0, 11)]), (1, [(0, 4)]), (1, [(0, 3)]), (1, [(0, 2)])]
set_option maxRecDepth 100000 in
theorem xtA17_f : (eWl [some (.inr (.inr (some 0))), none, none] && (([] : List eV).all eWv && eWd xtA17_i)) = true := by decide +kernel
theorem xtA17 {d : Nat} (hd : 8 ≤ d) {hp : List vOb} {kl : vLs} {τ K : Nat → Nat} {z : Nat} (hz : z ≤ 940) (hs0 : eSh [(0, 88, 19), (1, 48, 13)] hp) (hs : eSh shc17 hp) (hsC : eSh shC hp) (h00 : hC hp 0 0 (.inr (.inr (.inr (.inl (some 1)))))) (h01 : hC hp 0 1 (.inl z)) (h03 : hC hp 0 3 (.inr (.inr (.inr (.inl (some 17)))))) (h04 : hC hp 0 4 (.inr (.inr (.inr (.inl (some 30)))))) (h10 : hC hp 1 0 (.inr (.inr (.inr (.inl (some 2)))))) (h11 : hC hp 1 1 (.inr (.inr (.inr (.inl (some 3)))))) (hT : ∀ i, i < z → hC hp 2 i (.inl (τ i)) ∧ byR (τ i)) (hK : ∀ i, i < 25 → hC hp 3 i (.inr (.inr (.inl (K i)))) ∧ K i < 18446744073709551616) (hr : eDt (rL []) (ei17.drop 1) hp) (hc : cRs 17 hp) (hl : eLm (rL [z]) [some (.inr (.inr (some 0))), none, none] kl) : ∃ kl' hp', kRe vms vdf d vt_X11_town 0 0 (0, kl, [], hp) (19, kl', [(.inr (.inr (.inr (.inl (some 17))))), (.inr (.inr (.inr (.inl (some 1))))), (.inr (.inr (.inr (.inl (some 30)))))], hp') ∧ eLm (rL []) [some (.inr (.inr (some 0))), none, none] kl' ∧ cRdy hp' τ K z 900 ∧ hC hp' 1 4 (.inl 0) ∧ hC hp' 1 11 (.inl 0) ∧ eDt (rL []) (ei17.drop 1) hp' ∧ cRs 17 hp' ∧ eSh shc17 hp' ∧ hC hp' 0 1 (.inl 0) ∧ sFr [(0, 1, 1), (1, 2, 12)] hp hp' := by
  have s0 : eR (rL [z]) [(1, 0)] z := eR_s (j := 0) (u := z) rfl
  have hD : eDt (rL [z]) xtA17_i hp := eDt_add (k := 0) (eR_c _ 0) rfl h00 (eDt_add (k := 0) (eR_c _ 1) (eCv_i s0) h01 (eDt_add (k := 0) (eR_c _ 3) rfl h03 (eDt_add (k := 0) (eR_c _ 4) rfl h04 eDt_nil)))
  have g1 : eCo (rL [z]) (4, [(1, 0)], [(0, 940)], false) := eCo_of (eR_val s0) (eR_val (eR_c _ 940)) (by decide) (kc4f (by unfold sBi; omega))
  obtain ⟨kl1, hp1, k1, k2, k3, k4⟩ := e_go (vms := vms) (df := vdf) (d := d) (ρ := rL [z]) hd xtA17_k xtA17_f hs0 (all_cons g1 all_nil) hl hD
  have k4 : sFr [(0, 1, 1), (1, 2, 12)] hp hp1 := k4.mono (eBox_ok (by decide))
  have fr : ∀ {k i : Nat} {v : vAV}, 2 ≤ k → hC hp k i v → hC hp1 k i v := fun hk hv => hC_fr k4 (fun ⟨m, m1, m2, m3, m4⟩ => by
    simp only [List.mem_cons, List.not_mem_nil, or_false] at m1
    rcases m1 with rfl | rfl <;> dsimp only at m2 <;> omega) hv
  have at1 : ∀ {c : Nat} {y : eX} {v : Nat}, (match eGet 1 [(0, c)] xtA17_d with
    | some q => evB q.1 (.inl y) && elB ecB q.2 []
    | none => false) = true → eR (rL [z]) y v → hC hp1 1 c (.inl v) := fun {c y v} h hy => eDt_at (x := [(0, c)]) (y := .inl y) (g := []) k3 h (fun q hq => by cases hq) (eR_val (eR_c _ c)) (eCv_i hy)
  refine ⟨kl1, hp1, k1, eLm_in (vs := [some (.inr (.inr (.inr (.inl (some 0))))), none, none]) ⟨rfl, trivial⟩ (eLm_out (ρ := rL [z]) (ls := [some (.inr (.inr (some 0))), none, none]) ⟨rfl, trivial⟩ k2), ⟨eSh_fr k4 hsC, at1 (by decide) s0, at1 (y := [(0, 900)]) (by decide) (eR_c _ 900), hC_fr k4 (sMnot_ok rfl) h10, hC_fr k4 (sMnot_ok rfl) h11, fun i hi => ⟨fr (by omega) (hT i hi).1, (hT i hi).2⟩, fun i hi => ⟨fr (by omega) (hK i hi).1, (hK i hi).2⟩, hz, by omega⟩, at1 (y := [(0, 0)]) (by decide) (eR_c _ 0), at1 (y := [(0, 0)]) (by decide) (eR_c _ 0), fun e he hg => ?_, ⟨cR_r (fun hv => fr (by omega) hv) hc.1, cR_r (fun hv => fr (by omega) hv) hc.2.1, cR_r (fun hv => fr (by omega) hv) hc.2.2.1, cR_r (fun hv => fr (by omega) hv) hc.2.2.2.1, cR_r (fun hv => fr (by omega) hv) hc.2.2.2.2⟩, eSh_fr k4 hs, eDt_at (x := [(0, 1)]) (y := .inl [(0, 0)]) (g := []) k3 (by decide) (fun q hq => by cases hq) (eR_val (eR_c _ 1)) (eCv_i (eR_c _ 0)), k4⟩
  have hk := List.all_eq_true.mp (show (ei17.drop 1).all (fun e => Nat.ble 2 e.1) = true by decide) e he
  exact fr (Nat.le_of_ble_eq_true hk) (hr e he hg)
set_option maxRecDepth 1000000 in
theorem xtC17_k : eQ (eRun [(0, 88, 19)] (eCalI eNo vms [(0, 88, 19)] 300 8) vt_X11_town [63] 17 [true] (22, [some (.inr (.inr (some 0))), none, none], [.inl [(1, 0)]], [(0, [(0, 2)], .inr (.inr (some 4)), []), (0, [(0, 3)], .inr (.inr (some 17)), []), (0, [(0, 5)], .inr (.inr (some 31)), [])], [])) (63, [some (.inr (.inr (some 0))), some (.inl [(1, 0)]), some (.inr (.inr (some 4)))], [.inr (.inr (some 17)), .inr (.inr (some 31))], [(0, [(0, 3)], .inr (.inr (some 4)), []), (0, [(0, 2)], .inr (.inr (some 17)), []), (0, [(0, 5)], .inr (.inr (some 31)), [])], [(0, [(0, 3)]), (0, [(0, 2)])]) [(3, [(1, 0)], [(0, 0)], true)] [] = true := by decide +kernel
def xtC17_i : eD := [(0, [(0, 2)], .inr (.inr (some 4)), []), (0, [(0, 3)], .inr (.inr (some 17)), []), (0, [(0, 5)], .inr (.inr (some 31)), [])]
def xtC17_d : eD := [(0, [(0, 3)], .inr (.inr (some 4)), []), (0, [(0, 2)], .inr (.inr (some 17)), []), (0, [(0, 5)], .inr (.inr (some 31)), [])]
def xtC17_w : List (Nat × eX) := [(0, [(0, 3)]), (0, [(0, 2)])]
set_option maxRecDepth 100000 in
theorem xtC17_f : (eWl [some (.inr (.inr (some 0))), none, none] && (([.inl [(1, 0)]] : List eV).all eWv && eWd xtC17_i)) = true := by decide +kernel
set_option maxRecDepth 1000000 in
theorem xtF_k : eQ (eRun [(0, 88, 19), (1, 48, 13)] (eCalI eNo vms [(0, 88, 19), (1, 48, 13)] 300 8) vt_X11_town [36] 8 [] (22, [some (.inr (.inr (some 0))), none, none], [.inl [(0, 4294967295)]], [(0, [(0, 0)], .inr (.inr (some 1)), []), (1, [(0, 12)], .inl [(1, 0)], [])], [])) (36, [some (.inr (.inr (some 0))), some (.inl [(0, 4294967295)]), none], [.inl [(0, 4294967295), (1, 0), (2, 1)]], [(0, [(0, 0)], .inr (.inr (some 1)), []), (1, [(0, 12)], .inl [(1, 0)], [])], []) [] [] = true := by decide +kernel
def xtF_i : eD := [(0, [(0, 0)], .inr (.inr (some 1)), []), (1, [(0, 12)], .inl [(1, 0)], [])]
set_option maxRecDepth 100000 in
theorem xtF_f : (eWl [some (.inr (.inr (some 0))), none, none] && (([.inl [(0, 4294967295)]] : List eV).all eWv && eWd xtF_i)) = true := by decide +kernel
theorem xtF {d : Nat} (hd : 8 ≤ d) {hp : List vOb} {kl : vLs} {a : Nat} (hs0 : eSh [(0, 88, 19), (1, 48, 13)] hp) (h00 : hC hp 0 0 (.inr (.inr (.inr (.inl (some 1)))))) (h12 : hC hp 1 12 (.inl a)) (hl : eLm (rL []) [some (.inr (.inr (some 0))), none, none] kl) : ∃ kl' hp', kRe vms vdf d vt_X11_town 0 0 (22, kl, [.inl 4294967295], hp) (36, kl', [.inl (eBn 1 4294967295 a)], hp') ∧ sFr [] hp hp' := by
  have s0 : eR (rL [a]) [(1, 0)] a := eR_s (j := 0) (u := a) rfl
  obtain ⟨kl1, hp1, k1, k2, k3, k4⟩ := e_go (vms := vms) (df := vdf) (d := d) (ρ := rL [a]) hd xtF_k xtF_f hs0 all_nil (eLm_in (vs := [some (.inr (.inr (.inr (.inl (some 0))))), none, none]) ⟨rfl, trivial⟩ (eLm_out (ρ := rL []) (ls := [some (.inr (.inr (some 0))), none, none]) ⟨rfl, trivial⟩ hl)) (eDt_add (k := 0) (eR_c _ 0) rfl h00 (eDt_add (k := 1) (eR_c _ 12) (eCv_i s0) h12 eDt_nil))
  have e1 : List.map (eCv (rL [a])) [.inl [(0, 4294967295)]] = [.inl 4294967295] := by
    rw [List.map_cons, eCv_i (eR_c _ 4294967295)]
    rfl
  have e2 : List.map (eCv (rL [a])) [.inl [(0, 4294967295), (1, 0), (2, 1)]] = [.inl (eBn 1 4294967295 a)] := eSt_cons (eCv_i (eR_b 1 (eR_c _ 4294967295) s0)) eSt_nil
  rw [e1, e2] at k1
  exact ⟨kl1, hp1, k1, k4⟩
set_option maxRecDepth 1000000 in
theorem xtE49_k : eQ (eRun [(0, 88, 19), (49, 56, 12), (67, 40, 3)] (eCalI eNo vms [(0, 88, 19), (49, 56, 12), (67, 40, 3)] 300 8) vt_X11_town [81] 7 [] (66, [some (.inr (.inr (some 0))), some (.inl [(1, 0)]), none], [], [(0, [(0, 7)], .inr (.inr (some 49)), []), (0, [(0, 11)], .inr (.inr (some 67)), [])], [])) (81, [some (.inr (.inr (some 0))), some (.inl [(1, 0)]), none], [.inl [(1, 0)]], [(67, [(0, 2)], .inl [(0, 0)], []), (49, [(0, 2)], .inl [(0, 0)], []), (49, [(0, 1)], .inl [(0, 0)], []), (49, [(0, 0)], .inl [(0, 0)], []), (0, [(0, 7)], .inr (.inr (some 49)), []), (0, [(0, 11)], .inr (.inr (some 67)), [])], [(67, [(0, 2)]), (49, [(0, 2)]), (49, [(0, 1)]), (49, [(0, 0)])]) [] [] = true := by decide +kernel
def xtE49_i : eD := [(0, [(0, 7)], .inr (.inr (some 49)), []), (0, [(0, 11)], .inr (.inr (some 67)), [])]
def xtE49_w : List (Nat × eX) := [(67, [(0, 2)]), (49, [(0, 2)]), (49, [(0, 1)]), (49, [(0, 0)])]
set_option maxRecDepth 100000 in
theorem xtE49_f : (eWl [some (.inr (.inr (some 0))), some (.inl [(1, 0)]), none] && (([] : List eV).all eWv && eWd xtE49_i)) = true := by decide +kernel
set_option maxRecDepth 1000000 in
theorem xtE55_k : eQ (eRun [(0, 88, 19), (55, 56, 12), (67, 40, 3)] (eCalI eNo vms [(0, 88, 19), (55, 56, 12), (67, 40, 3)] 300 8) vt_X11_town [81] 7 [] (66, [some (.inr (.inr (some 0))), some (.inl [(1, 0)]), none], [], [(0, [(0, 7)], .inr (.inr (some 55)), []), (0, [(0, 11)], .inr (.inr (some 67)), [])], [])) (81, [some (.inr (.inr (some 0))), some (.inl [(1, 0)]), none], [.inl [(1, 0)]], [(67, [(0, 2)], .inl [(0, 0)], []), (55, [(0, 2)], .inl [(0, 0)], []), (55, [(0, 1)], .inl [(0, 0)], []), (55, [(0, 0)], .inl [(0, 0)], []), (0, [(0, 7)], .inr (.inr (some 55)), []), (0, [(0, 11)], .inr (.inr (some 67)), [])], [(67, [(0, 2)]), (55, [(0, 2)]), (55, [(0, 1)]), (55, [(0, 0)])]) [] [] = true := by decide +kernel
def xtE55_i : eD := [(0, [(0, 7)], .inr (.inr (some 55)), []), (0, [(0, 11)], .inr (.inr (some 67)), [])]
def xtE55_w : List (Nat × eX) := [(67, [(0, 2)]), (55, [(0, 2)]), (55, [(0, 1)]), (55, [(0, 0)])]
set_option maxRecDepth 100000 in
theorem xtE55_f : (eWl [some (.inr (.inr (some 0))), some (.inl [(1, 0)]), none] && (([] : List eV).all eWv && eWd xtE55_i)) = true := by decide +kernel
theorem xtE {d : Nat} (hd : 8 ≤ d) {hp : List vOb} {kl : vLs} {ln : Nat} (hs : eSh [(0, 88, 19), (49, 56, 12), (55, 56, 12), (67, 40, 3)] hp) (h7 : hC hp 0 7 (.inr (.inr (.inr (.inl (some 49))))) ∨ hC hp 0 7 (.inr (.inr (.inr (.inl (some 55)))))) (h11 : hC hp 0 11 (.inr (.inr (.inr (.inl (some 67)))))) (hl : eLm (rL [ln]) [some (.inr (.inr (some 0))), some (.inl [(1, 0)]), none] kl) : ∃ kl' hp', kRe vms vdf d vt_X11_town 0 0 (66, kl, [], hp) (81, kl', [.inl ln], hp') ∧ sFr [(49, 0, 2), (55, 0, 2), (67, 2, 2)] hp hp' := by
  have e2 : List.map (eCv (rL [ln])) [.inl [(1, 0)]] = [.inl ln] := by
    rw [List.map_cons, eCv_i (eR_s (j := 0) (u := ln) rfl)]
    rfl
  rcases h7 with h7 | h7
  · obtain ⟨kl1, hp1, k1, k2, k3, k4⟩ := e_go (vms := vms) (df := vdf) (d := d) (ρ := rL [ln]) hd xtE49_k xtE49_f (eSh_mem hs (by decide)) all_nil hl (eDt_add (k := 0) (eR_c _ 7) rfl h7 (eDt_add (k := 0) (eR_c _ 11) rfl h11 eDt_nil))
    rw [e2] at k1
    exact ⟨kl1, hp1, k1, k4.mono (eBox_ok (by decide))⟩
  · obtain ⟨kl1, hp1, k1, k2, k3, k4⟩ := e_go (vms := vms) (df := vdf) (d := d) (ρ := rL [ln]) hd xtE55_k xtE55_f (eSh_mem hs (by decide)) all_nil hl (eDt_add (k := 0) (eR_c _ 7) rfl h7 (eDt_add (k := 0) (eR_c _ 11) rfl h11 eDt_nil))
    rw [e2] at k1
    exact ⟨kl1, hp1, k1, k4.mono (eBox_ok (by decide))⟩
theorem xtS4 {d : Nat} (hd : 20 ≤ d) {hp : List vOb} {kl : vLs} {ln : Nat} (hln : ln ≤ 900) (hs : eSh [(0, 88, 19), (31, 64, 9), (49, 56, 12), (55, 56, 12), (67, 40, 3)] hp) (h2 : hC hp 0 2 (.inr (.inr (.inr (.inl (some 17)))))) (h3 : hC hp 0 3 (.inr (.inr (.inr (.inl (some 4)))))) (h5 : hC hp 0 5 (.inr (.inr (.inr (.inl (some 31)))))) (h7 : hC hp 0 7 (.inr (.inr (.inr (.inl (some 49))))) ∨ hC hp 0 7 (.inr (.inr (.inr (.inl (some 55)))))) (h11 : hC hp 0 11 (.inr (.inr (.inr (.inl (some 67)))))) (hty : kTy hT cc_State_begin_245_e.2.2.1 hp) (hl : eLm (rL []) [some (.inr (.inr (some 0))), none, none] kl) : ∃ kl' hp', kRe vms vdf d vt_X11_town 0 0 (22, kl, [.inl ln], hp) (81, kl', [.inl ln], hp') ∧ hC hp' 0 2 (.inr (.inr (.inr (.inl (some 4))))) ∧ hC hp' 0 3 (.inr (.inr (.inr (.inl (some 17))))) ∧ sFr ((0, 2, 3) :: (49, 0, 2) :: (55, 0, 2) :: (67, 2, 2) :: cc_State_begin_245_e.2.2.2.2) hp hp' := by
  have s0 : eR (rL [ln]) [(1, 0)] ln := eR_s (j := 0) (u := ln) rfl
  have g1 : eCo (rL [ln]) (3, [(1, 0)], [(0, 0)], true) := eCo_of (eR_val s0) (eR_val (eR_c _ 0)) (by decide) (kc3t (by unfold sBi; omega))
  obtain ⟨kl1, hp1, k1, k2, k3, k4⟩ := e_go (vms := vms) (df := vdf) (d := d) (ρ := rL [ln]) (by omega) xtC4_k xtC4_f (eSh_mem hs (by decide)) (all_cons g1 all_nil) (eLm_in (vs := [some (.inr (.inr (.inr (.inl (some 0))))), none, none]) ⟨rfl, trivial⟩ (eLm_out (ρ := rL []) (ls := [some (.inr (.inr (some 0))), none, none]) ⟨rfl, trivial⟩ hl)) (eDt_add (k := 0) (eR_c _ 2) rfl h2 (eDt_add (k := 0) (eR_c _ 3) rfl h3 (eDt_add (k := 0) (eR_c _ 5) rfl h5 eDt_nil)))
  have k4 : sFr [(0, 2, 3)] hp hp1 := k4.mono (eBox_ok (by decide))
  have e1 : List.map (eCv (rL [ln])) [.inl [(1, 0)]] = [.inl ln] := by
    rw [List.map_cons, eCv_i s0]
    rfl
  have e2 : List.map (eCv (rL [ln])) [.inr (.inr (some 4)), .inr (.inr (some 31))] = [(.inr (.inr (.inr (.inl (some 4))))), (.inr (.inr (.inr (.inl (some 31)))))] := rfl
  rw [e1, e2] at k1
  have hty1 : kTy hT cc_State_begin_245_e.2.2.1 hp1 := fun k hk => by
    obtain ⟨oT, ob, q1, q2, q3⟩ := hty k hk
    obtain ⟨o', w1, w2, w3, w4⟩ := k4.2 _ _ q2
    have hk0 : k ≠ 0 := fun e => by
      rw [e] at hk
      exact absurd hk (by decide)
    have e : o' = ob := Prod.ext w2 (List.ext_getElem? (fun i => w4 i (fun ⟨m, m1, m2, _⟩ => by
      rw [List.mem_singleton.mp m1] at m2
      exact hk0 m2.symm)))
    exact ⟨oT, ob, q1, by rw [w1, e], q3⟩
  obtain ⟨r, hp2, c1, c2, c3, c4⟩ := cc_State_begin_245_ok d (by omega) [(.inr (.inr (.inr (.inl (some 31))))), (.inr (.inr (.inr (.inl (some 4)))))] hp1 ⟨rfl, rfl, trivial⟩ hty1
  have hr : r = none := by
    match r, c2 with
    | none, _ => rfl
    | some _, c2 => exact c2.elim
  subst hr
  have hcall : kRe vms vdf d vt_X11_town 0 0 (63, kl1, [(.inr (.inr (.inr (.inl (some 4))))), (.inr (.inr (.inr (.inl (some 31)))))], hp1) (66, kl1, [], hp2) := e_callv (kas := [(.inr (.inr (.inr (.inl (some 4)))))]) (rest := []) (r := none) iv_bg rfl rfl (vRc_sh (n := 9) (t := 8) (eSh_fr k4 hs) (by decide) rfl) c1
  have k2 : eLm (rL [ln]) [some (.inr (.inr (some 0))), some (.inl [(1, 0)]), none] kl1 := eLm_in (vs := [some (.inr (.inr (.inr (.inl (some 0))))), some (.inl ln), none]) ⟨rfl, eCv_i s0, trivial⟩ (cLm_wk (ls := [some (.inr (.inr (.inr (.inl (some 0))))), some (.inl ln), some (.inr (.inr (.inr (.inl (some 17)))))]) ⟨rfl, rfl, trivial⟩ (eLm_out (ρ := rL [ln]) (ls := [some (.inr (.inr (some 0))), some (.inl [(1, 0)]), some (.inr (.inr (some 17)))]) ⟨rfl, eCv_i s0, rfl, trivial⟩ k2))
  have f1 : ∀ {i : Nat} {v : vAV}, i ≠ 2 → i ≠ 3 → hC hp 0 i v → hC hp2 0 i v := fun i2 i3 hv => hC_fr c3 (sMnot_ok rfl) (hC_fr k4 (fun ⟨m, m1, m2, m3, m4⟩ => by
    rw [List.mem_singleton.mp m1] at m3 m4
    dsimp only at m3 m4
    omega) hv)
  obtain ⟨kl3, hp3, g1, g2⟩ := xtE (d := d) (by omega) (eSh_mem (eSh_fr c3 (eSh_fr k4 hs)) (by decide)) (h7.imp (f1 (by decide) (by decide)) (f1 (by decide) (by decide))) (f1 (by decide) (by decide) h11) k2
  have f2 : ∀ {i : Nat} {v : vAV}, hC hp1 0 i v → hC hp3 0 i v := fun hv => hC_fr g2 (sMnot_ok rfl) (hC_fr c3 (sMnot_ok rfl) hv)
  refine ⟨kl3, hp3, (k1.tr hcall).tr g1, f2 (eDt_at (x := [(0, 2)]) (y := .inr (.inr (some 4))) (g := []) k3 (by decide) (fun q hq => by cases hq) (eR_val (eR_c _ 2)) rfl), f2 (eDt_at (x := [(0, 3)]) (y := .inr (.inr (some 17))) (g := []) k3 (by decide) (fun q hq => by cases hq) (eR_val (eR_c _ 3)) rfl), ((k4.mono (fun k i ⟨m, m1, m2⟩ => ?_)).tr (c3.mono (fun k i ⟨m, m1, m2⟩ => ?_))).tr (g2.mono (fun k i ⟨m, m1, m2⟩ => ?_))⟩
  · rw [List.mem_singleton.mp m1] at m2
    exact ⟨_, List.mem_cons_self, m2⟩
  · exact ⟨m, List.mem_cons_of_mem _ (List.mem_cons_of_mem _ (List.mem_cons_of_mem _ (List.mem_cons_of_mem _ m1))), m2⟩
  · simp only [List.mem_cons, List.not_mem_nil, or_false] at m1
    rcases m1 with rfl | rfl | rfl
    · exact ⟨_, List.mem_cons_of_mem _ List.mem_cons_self, m2⟩
    · exact ⟨_, List.mem_cons_of_mem _ (List.mem_cons_of_mem _ List.mem_cons_self), m2⟩
    · exact ⟨_, List.mem_cons_of_mem _ (List.mem_cons_of_mem _ (List.mem_cons_of_mem _ List.mem_cons_self)), m2⟩
theorem xtS17 {d : Nat} (hd : 20 ≤ d) {hp : List vOb} {kl : vLs} {ln : Nat} (hln : ln ≤ 900) (hs : eSh [(0, 88, 19), (31, 64, 9), (49, 56, 12), (55, 56, 12), (67, 40, 3)] hp) (h2 : hC hp 0 2 (.inr (.inr (.inr (.inl (some 4)))))) (h3 : hC hp 0 3 (.inr (.inr (.inr (.inl (some 17)))))) (h5 : hC hp 0 5 (.inr (.inr (.inr (.inl (some 31)))))) (h7 : hC hp 0 7 (.inr (.inr (.inr (.inl (some 49))))) ∨ hC hp 0 7 (.inr (.inr (.inr (.inl (some 55)))))) (h11 : hC hp 0 11 (.inr (.inr (.inr (.inl (some 67)))))) (hty : kTy hT cc_State_begin_18_e.2.2.1 hp) (hl : eLm (rL []) [some (.inr (.inr (some 0))), none, none] kl) : ∃ kl' hp', kRe vms vdf d vt_X11_town 0 0 (22, kl, [.inl ln], hp) (81, kl', [.inl ln], hp') ∧ hC hp' 0 2 (.inr (.inr (.inr (.inl (some 17))))) ∧ hC hp' 0 3 (.inr (.inr (.inr (.inl (some 4))))) ∧ sFr ((0, 2, 3) :: (49, 0, 2) :: (55, 0, 2) :: (67, 2, 2) :: cc_State_begin_18_e.2.2.2.2) hp hp' := by
  have s0 : eR (rL [ln]) [(1, 0)] ln := eR_s (j := 0) (u := ln) rfl
  have g1 : eCo (rL [ln]) (3, [(1, 0)], [(0, 0)], true) := eCo_of (eR_val s0) (eR_val (eR_c _ 0)) (by decide) (kc3t (by unfold sBi; omega))
  obtain ⟨kl1, hp1, k1, k2, k3, k4⟩ := e_go (vms := vms) (df := vdf) (d := d) (ρ := rL [ln]) (by omega) xtC17_k xtC17_f (eSh_mem hs (by decide)) (all_cons g1 all_nil) (eLm_in (vs := [some (.inr (.inr (.inr (.inl (some 0))))), none, none]) ⟨rfl, trivial⟩ (eLm_out (ρ := rL []) (ls := [some (.inr (.inr (some 0))), none, none]) ⟨rfl, trivial⟩ hl)) (eDt_add (k := 0) (eR_c _ 2) rfl h2 (eDt_add (k := 0) (eR_c _ 3) rfl h3 (eDt_add (k := 0) (eR_c _ 5) rfl h5 eDt_nil)))
  have k4 : sFr [(0, 2, 3)] hp hp1 := k4.mono (eBox_ok (by decide))
  have e1 : List.map (eCv (rL [ln])) [.inl [(1, 0)]] = [.inl ln] := by
    rw [List.map_cons, eCv_i s0]
    rfl
  have e2 : List.map (eCv (rL [ln])) [.inr (.inr (some 17)), .inr (.inr (some 31))] = [(.inr (.inr (.inr (.inl (some 17))))), (.inr (.inr (.inr (.inl (some 31)))))] := rfl
  rw [e1, e2] at k1
  have hty1 : kTy hT cc_State_begin_18_e.2.2.1 hp1 := fun k hk => by
    obtain ⟨oT, ob, q1, q2, q3⟩ := hty k hk
    obtain ⟨o', w1, w2, w3, w4⟩ := k4.2 _ _ q2
    have hk0 : k ≠ 0 := fun e => by
      rw [e] at hk
      exact absurd hk (by decide)
    have e : o' = ob := Prod.ext w2 (List.ext_getElem? (fun i => w4 i (fun ⟨m, m1, m2, _⟩ => by
      rw [List.mem_singleton.mp m1] at m2
      exact hk0 m2.symm)))
    exact ⟨oT, ob, q1, by rw [w1, e], q3⟩
  obtain ⟨r, hp2, c1, c2, c3, c4⟩ := cc_State_begin_18_ok d (by omega) [(.inr (.inr (.inr (.inl (some 31))))), (.inr (.inr (.inr (.inl (some 17)))))] hp1 ⟨rfl, rfl, trivial⟩ hty1
  have hr : r = none := by
    match r, c2 with
    | none, _ => rfl
    | some _, c2 => exact c2.elim
  subst hr
  have hcall : kRe vms vdf d vt_X11_town 0 0 (63, kl1, [(.inr (.inr (.inr (.inl (some 17))))), (.inr (.inr (.inr (.inl (some 31)))))], hp1) (66, kl1, [], hp2) := e_callv (kas := [(.inr (.inr (.inr (.inl (some 17)))))]) (rest := []) (r := none) iv_bg rfl rfl (vRc_sh (n := 9) (t := 8) (eSh_fr k4 hs) (by decide) rfl) c1
  have k2 : eLm (rL [ln]) [some (.inr (.inr (some 0))), some (.inl [(1, 0)]), none] kl1 := eLm_in (vs := [some (.inr (.inr (.inr (.inl (some 0))))), some (.inl ln), none]) ⟨rfl, eCv_i s0, trivial⟩ (cLm_wk (ls := [some (.inr (.inr (.inr (.inl (some 0))))), some (.inl ln), some (.inr (.inr (.inr (.inl (some 4)))))]) ⟨rfl, rfl, trivial⟩ (eLm_out (ρ := rL [ln]) (ls := [some (.inr (.inr (some 0))), some (.inl [(1, 0)]), some (.inr (.inr (some 4)))]) ⟨rfl, eCv_i s0, rfl, trivial⟩ k2))
  have f1 : ∀ {i : Nat} {v : vAV}, i ≠ 2 → i ≠ 3 → hC hp 0 i v → hC hp2 0 i v := fun i2 i3 hv => hC_fr c3 (sMnot_ok rfl) (hC_fr k4 (fun ⟨m, m1, m2, m3, m4⟩ => by
    rw [List.mem_singleton.mp m1] at m3 m4
    dsimp only at m3 m4
    omega) hv)
  obtain ⟨kl3, hp3, g1, g2⟩ := xtE (d := d) (by omega) (eSh_mem (eSh_fr c3 (eSh_fr k4 hs)) (by decide)) (h7.imp (f1 (by decide) (by decide)) (f1 (by decide) (by decide))) (f1 (by decide) (by decide) h11) k2
  have f2 : ∀ {i : Nat} {v : vAV}, hC hp1 0 i v → hC hp3 0 i v := fun hv => hC_fr g2 (sMnot_ok rfl) (hC_fr c3 (sMnot_ok rfl) hv)
  refine ⟨kl3, hp3, (k1.tr hcall).tr g1, f2 (eDt_at (x := [(0, 2)]) (y := .inr (.inr (some 17))) (g := []) k3 (by decide) (fun q hq => by cases hq) (eR_val (eR_c _ 2)) rfl), f2 (eDt_at (x := [(0, 3)]) (y := .inr (.inr (some 4))) (g := []) k3 (by decide) (fun q hq => by cases hq) (eR_val (eR_c _ 3)) rfl), ((k4.mono (fun k i ⟨m, m1, m2⟩ => ?_)).tr (c3.mono (fun k i ⟨m, m1, m2⟩ => ?_))).tr (g2.mono (fun k i ⟨m, m1, m2⟩ => ?_))⟩
  · rw [List.mem_singleton.mp m1] at m2
    exact ⟨_, List.mem_cons_self, m2⟩
  · exact ⟨m, List.mem_cons_of_mem _ (List.mem_cons_of_mem _ (List.mem_cons_of_mem _ (List.mem_cons_of_mem _ m1))), m2⟩
  · simp only [List.mem_cons, List.not_mem_nil, or_false] at m1
    rcases m1 with rfl | rfl | rfl
    · exact ⟨_, List.mem_cons_of_mem _ List.mem_cons_self, m2⟩
    · exact ⟨_, List.mem_cons_of_mem _ (List.mem_cons_of_mem _ List.mem_cons_self), m2⟩
    · exact ⟨_, List.mem_cons_of_mem _ (List.mem_cons_of_mem _ (List.mem_cons_of_mem _ List.mem_cons_self)), m2⟩
