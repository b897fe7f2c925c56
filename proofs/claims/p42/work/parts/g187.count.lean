/-! ===== count(): class and reference answer alike ===== -/
theorem hM_xcnt : vms[285]? = some m_X11_count := by rw [← vNth_eq]; rfl
theorem hM_mcnt : vms[286]? = some m_X12_count := by rw [← vNth_eq]; rfl
set_option maxRecDepth 1000000 in
theorem cn_r : ([47, 55, 63, 71, 79, 84].all (fun pc => vIr m_X11_count pc) && vIr m_X12_count 36) = true := by decide +kernel
set_option maxRecDepth 1000000 in
theorem cx4_0_k : eQ (eRun [(0, 88, 19), (4, 72, 19)] (eCalI eNo vms [(0, 88, 19), (4, 72, 19)] 300 8) vt_X11_count [47] 5 [] (0, [some (.inr (.inr (some 0))), some (.inl [(0, 0)])], [], [(0, [(0, 2)], .inr (.inr (some 4)), []), (4, [(0, 0)], .inl [(1, 0)], [])], [])) (47, [some (.inr (.inr (some 0))), some (.inl [(0, 0)])], [.inl [(1, 0)]], [(0, [(0, 2)], .inr (.inr (some 4)), []), (4, [(0, 0)], .inl [(1, 0)], [])], []) [] [] = true := by decide +kernel
set_option maxRecDepth 100000 in
theorem cx4_0_f : (eWl [some (.inr (.inr (some 0))), some (.inl [(0, 0)])] && (([] : List eV).all eWv && eWd [(0, [(0, 2)], .inr (.inr (some 4)), []), (4, [(0, 0)], .inl [(1, 0)], [])])) = true := by decide +kernel
theorem cx4_0 {hp : List vOb} {u : Nat} (hs : eSh [(0, 88, 19), (4, 72, 19)] hp) (h0 : hC hp 0 2 (.inr (.inr (.inr (.inl (some 4)))))) (h1 : hC hp 4 0 (.inl u)) : ∃ hp', (∃ N, ∀ fuel, N ≤ fuel → vCalD vms vdf fuel 60 285 [(.inr (.inr (.inr (.inl (some 0))))), .inl 0] hp = some (some (.inl u), hp', 0, 0)) ∧ sFr [] hp hp' := by
  obtain ⟨kl0, g0, P0, l0, -, z0⟩ := e_go (vms := vms) (df := vdf) (d := 59) (ρ := rL [u]) (by decide) cx4_0_k cx4_0_f hs all_nil (kl := vEnt [(.inr (.inr (.inr (.inl (some 0))))), .inl 0] m_X11_count.2.2.1) ⟨rfl, congrArg some (eCv_i (eR_c _ 0)).symm, trivial⟩ (eDt_add (k := 0) (eR_c _ 2) rfl h0 (eDt_add (k := 4) (eR_c _ 0) (eCv_i (eR_s (j := 0) (u := u) rfl)) h1 eDt_nil))
  have z0 : sFr [] hp g0 := z0
  have e9 : List.map (eCv (rL [u])) [.inl [(1, 0)]] = [.inl u] := eSt_cons (eCv_i (eR_s (j := 0) (u := u) rfl)) eSt_nil
  rw [e9] at P0
  obtain ⟨rv, hp', u1, u2, u3⟩ := kEnd_cal (d := 59) (kav := [(.inr (.inr (.inr (.inl (some 0))))), .inl 0]) (hp := hp) (P := fun rv hp' => rv = some (.inl u) ∧ sFr [] hp hp') hM_xcnt (by decide) rfl rfl (kEnd.of P0 (k_iret2 (List.all_eq_true.mp (and2 cn_r).1 47 (by decide)) rfl ⟨rfl, z0⟩))
  subst u2
  exact ⟨hp', u1, u3⟩
set_option maxRecDepth 1000000 in
theorem cx4_1_k : eQ (eRun [(0, 88, 19), (4, 72, 19)] (eCalI eNo vms [(0, 88, 19), (4, 72, 19)] 300 8) vt_X11_count [55] 5 [] (0, [some (.inr (.inr (some 0))), some (.inl [(0, 1)])], [], [(0, [(0, 2)], .inr (.inr (some 4)), []), (4, [(0, 1)], .inl [(1, 0)], [])], [])) (55, [some (.inr (.inr (some 0))), some (.inl [(0, 1)])], [.inl [(1, 0)]], [(0, [(0, 2)], .inr (.inr (some 4)), []), (4, [(0, 1)], .inl [(1, 0)], [])], []) [] [] = true := by decide +kernel
set_option maxRecDepth 100000 in
theorem cx4_1_f : (eWl [some (.inr (.inr (some 0))), some (.inl [(0, 1)])] && (([] : List eV).all eWv && eWd [(0, [(0, 2)], .inr (.inr (some 4)), []), (4, [(0, 1)], .inl [(1, 0)], [])])) = true := by decide +kernel
theorem cx4_1 {hp : List vOb} {u : Nat} (hs : eSh [(0, 88, 19), (4, 72, 19)] hp) (h0 : hC hp 0 2 (.inr (.inr (.inr (.inl (some 4)))))) (h1 : hC hp 4 1 (.inl u)) : ∃ hp', (∃ N, ∀ fuel, N ≤ fuel → vCalD vms vdf fuel 60 285 [(.inr (.inr (.inr (.inl (some 0))))), .inl 1] hp = some (some (.inl u), hp', 0, 0)) ∧ sFr [] hp hp' := by
  obtain ⟨kl0, g0, P0, l0, -, z0⟩ := e_go (vms := vms) (df := vdf) (d := 59) (ρ := rL [u]) (by decide) cx4_1_k cx4_1_f hs all_nil (kl := vEnt [(.inr (.inr (.inr (.inl (some 0))))), .inl 1] m_X11_count.2.2.1) ⟨rfl, congrArg some (eCv_i (eR_c _ 1)).symm, trivial⟩ (eDt_add (k := 0) (eR_c _ 2) rfl h0 (eDt_add (k := 4) (eR_c _ 1) (eCv_i (eR_s (j := 0) (u := u) rfl)) h1 eDt_nil))
  have z0 : sFr [] hp g0 := z0
  have e9 : List.map (eCv (rL [u])) [.inl [(1, 0)]] = [.inl u] := eSt_cons (eCv_i (eR_s (j := 0) (u := u) rfl)) eSt_nil
  rw [e9] at P0
  obtain ⟨rv, hp', u1, u2, u3⟩ := kEnd_cal (d := 59) (kav := [(.inr (.inr (.inr (.inl (some 0))))), .inl 1]) (hp := hp) (P := fun rv hp' => rv = some (.inl u) ∧ sFr [] hp hp') hM_xcnt (by decide) rfl rfl (kEnd.of P0 (k_iret2 (List.all_eq_true.mp (and2 cn_r).1 55 (by decide)) rfl ⟨rfl, z0⟩))
  subst u2
  exact ⟨hp', u1, u3⟩
set_option maxRecDepth 1000000 in
theorem cx4_2_k : eQ (eRun [(0, 88, 19), (4, 72, 19)] (eCalI eNo vms [(0, 88, 19), (4, 72, 19)] 300 8) vt_X11_count [63] 5 [] (0, [some (.inr (.inr (some 0))), some (.inl [(0, 2)])], [], [(0, [(0, 2)], .inr (.inr (some 4)), []), (4, [(0, 2)], .inl [(1, 0)], [])], [])) (63, [some (.inr (.inr (some 0))), some (.inl [(0, 2)])], [.inl [(1, 0)]], [(0, [(0, 2)], .inr (.inr (some 4)), []), (4, [(0, 2)], .inl [(1, 0)], [])], []) [] [] = true := by decide +kernel
set_option maxRecDepth 100000 in
theorem cx4_2_f : (eWl [some (.inr (.inr (some 0))), some (.inl [(0, 2)])] && (([] : List eV).all eWv && eWd [(0, [(0, 2)], .inr (.inr (some 4)), []), (4, [(0, 2)], .inl [(1, 0)], [])])) = true := by decide +kernel
theorem cx4_2 {hp : List vOb} {u : Nat} (hs : eSh [(0, 88, 19), (4, 72, 19)] hp) (h0 : hC hp 0 2 (.inr (.inr (.inr (.inl (some 4)))))) (h1 : hC hp 4 2 (.inl u)) : ∃ hp', (∃ N, ∀ fuel, N ≤ fuel → vCalD vms vdf fuel 60 285 [(.inr (.inr (.inr (.inl (some 0))))), .inl 2] hp = some (some (.inl u), hp', 0, 0)) ∧ sFr [] hp hp' := by
  obtain ⟨kl0, g0, P0, l0, -, z0⟩ := e_go (vms := vms) (df := vdf) (d := 59) (ρ := rL [u]) (by decide) cx4_2_k cx4_2_f hs all_nil (kl := vEnt [(.inr (.inr (.inr (.inl (some 0))))), .inl 2] m_X11_count.2.2.1) ⟨rfl, congrArg some (eCv_i (eR_c _ 2)).symm, trivial⟩ (eDt_add (k := 0) (eR_c _ 2) rfl h0 (eDt_add (k := 4) (eR_c _ 2) (eCv_i (eR_s (j := 0) (u := u) rfl)) h1 eDt_nil))
  have z0 : sFr [] hp g0 := z0
  have e9 : List.map (eCv (rL [u])) [.inl [(1, 0)]] = [.inl u] := eSt_cons (eCv_i (eR_s (j := 0) (u := u) rfl)) eSt_nil
  rw [e9] at P0
  obtain ⟨rv, hp', u1, u2, u3⟩ := kEnd_cal (d := 59) (kav := [(.inr (.inr (.inr (.inl (some 0))))), .inl 2]) (hp := hp) (P := fun rv hp' => rv = some (.inl u) ∧ sFr [] hp hp') hM_xcnt (by decide) rfl rfl (kEnd.of P0 (k_iret2 (List.all_eq_true.mp (and2 cn_r).1 63 (by decide)) rfl ⟨rfl, z0⟩))
  subst u2
  exact ⟨hp', u1, u3⟩
set_option maxRecDepth 1000000 in
theorem cx4_3_k : eQ (eRun [(0, 88, 19), (4, 72, 19)] (eCalI eNo vms [(0, 88, 19), (4, 72, 19)] 300 8) vt_X11_count [71] 5 [] (0, [some (.inr (.inr (some 0))), some (.inl [(0, 3)])], [], [(0, [(0, 2)], .inr (.inr (some 4)), []), (4, [(0, 3)], .inl [(1, 0)], [])], [])) (71, [some (.inr (.inr (some 0))), some (.inl [(0, 3)])], [.inl [(1, 0)]], [(0, [(0, 2)], .inr (.inr (some 4)), []), (4, [(0, 3)], .inl [(1, 0)], [])], []) [] [] = true := by decide +kernel
set_option maxRecDepth 100000 in
theorem cx4_3_f : (eWl [some (.inr (.inr (some 0))), some (.inl [(0, 3)])] && (([] : List eV).all eWv && eWd [(0, [(0, 2)], .inr (.inr (some 4)), []), (4, [(0, 3)], .inl [(1, 0)], [])])) = true := by decide +kernel
theorem cx4_3 {hp : List vOb} {u : Nat} (hs : eSh [(0, 88, 19), (4, 72, 19)] hp) (h0 : hC hp 0 2 (.inr (.inr (.inr (.inl (some 4)))))) (h1 : hC hp 4 3 (.inl u)) : ∃ hp', (∃ N, ∀ fuel, N ≤ fuel → vCalD vms vdf fuel 60 285 [(.inr (.inr (.inr (.inl (some 0))))), .inl 3] hp = some (some (.inl u), hp', 0, 0)) ∧ sFr [] hp hp' := by
  obtain ⟨kl0, g0, P0, l0, -, z0⟩ := e_go (vms := vms) (df := vdf) (d := 59) (ρ := rL [u]) (by decide) cx4_3_k cx4_3_f hs all_nil (kl := vEnt [(.inr (.inr (.inr (.inl (some 0))))), .inl 3] m_X11_count.2.2.1) ⟨rfl, congrArg some (eCv_i (eR_c _ 3)).symm, trivial⟩ (eDt_add (k := 0) (eR_c _ 2) rfl h0 (eDt_add (k := 4) (eR_c _ 3) (eCv_i (eR_s (j := 0) (u := u) rfl)) h1 eDt_nil))
  have z0 : sFr [] hp g0 := z0
  have e9 : List.map (eCv (rL [u])) [.inl [(1, 0)]] = [.inl u] := eSt_cons (eCv_i (eR_s (j := 0) (u := u) rfl)) eSt_nil
  rw [e9] at P0
  obtain ⟨rv, hp', u1, u2, u3⟩ := kEnd_cal (d := 59) (kav := [(.inr (.inr (.inr (.inl (some 0))))), .inl 3]) (hp := hp) (P := fun rv hp' => rv = some (.inl u) ∧ sFr [] hp hp') hM_xcnt (by decide) rfl rfl (kEnd.of P0 (k_iret2 (List.all_eq_true.mp (and2 cn_r).1 71 (by decide)) rfl ⟨rfl, z0⟩))
  subst u2
  exact ⟨hp', u1, u3⟩
set_option maxRecDepth 1000000 in
theorem cx4_4_k : eQ (eRun [(0, 88, 19), (4, 72, 19)] (eCalI eNo vms [(0, 88, 19), (4, 72, 19)] 300 8) vt_X11_count [79] 5 [] (0, [some (.inr (.inr (some 0))), some (.inl [(0, 4)])], [], [(0, [(0, 2)], .inr (.inr (some 4)), []), (4, [(0, 4)], .inl [(1, 0)], [])], [])) (79, [some (.inr (.inr (some 0))), some (.inl [(0, 4)])], [.inl [(1, 0)]], [(0, [(0, 2)], .inr (.inr (some 4)), []), (4, [(0, 4)], .inl [(1, 0)], [])], []) [] [] = true := by decide +kernel
set_option maxRecDepth 100000 in
theorem cx4_4_f : (eWl [some (.inr (.inr (some 0))), some (.inl [(0, 4)])] && (([] : List eV).all eWv && eWd [(0, [(0, 2)], .inr (.inr (some 4)), []), (4, [(0, 4)], .inl [(1, 0)], [])])) = true := by decide +kernel
theorem cx4_4 {hp : List vOb} {u : Nat} (hs : eSh [(0, 88, 19), (4, 72, 19)] hp) (h0 : hC hp 0 2 (.inr (.inr (.inr (.inl (some 4)))))) (h1 : hC hp 4 4 (.inl u)) : ∃ hp', (∃ N, ∀ fuel, N ≤ fuel → vCalD vms vdf fuel 60 285 [(.inr (.inr (.inr (.inl (some 0))))), .inl 4] hp = some (some (.inl u), hp', 0, 0)) ∧ sFr [] hp hp' := by
  obtain ⟨kl0, g0, P0, l0, -, z0⟩ := e_go (vms := vms) (df := vdf) (d := 59) (ρ := rL [u]) (by decide) cx4_4_k cx4_4_f hs all_nil (kl := vEnt [(.inr (.inr (.inr (.inl (some 0))))), .inl 4] m_X11_count.2.2.1) ⟨rfl, congrArg some (eCv_i (eR_c _ 4)).symm, trivial⟩ (eDt_add (k := 0) (eR_c _ 2) rfl h0 (eDt_add (k := 4) (eR_c _ 4) (eCv_i (eR_s (j := 0) (u := u) rfl)) h1 eDt_nil))
  have z0 : sFr [] hp g0 := z0
  have e9 : List.map (eCv (rL [u])) [.inl [(1, 0)]] = [.inl u] := eSt_cons (eCv_i (eR_s (j := 0) (u := u) rfl)) eSt_nil
  rw [e9] at P0
  obtain ⟨rv, hp', u1, u2, u3⟩ := kEnd_cal (d := 59) (kav := [(.inr (.inr (.inr (.inl (some 0))))), .inl 4]) (hp := hp) (P := fun rv hp' => rv = some (.inl u) ∧ sFr [] hp hp') hM_xcnt (by decide) rfl rfl (kEnd.of P0 (k_iret2 (List.all_eq_true.mp (and2 cn_r).1 79 (by decide)) rfl ⟨rfl, z0⟩))
  subst u2
  exact ⟨hp', u1, u3⟩
set_option maxRecDepth 1000000 in
theorem cx17_0_k : eQ (eRun [(0, 88, 19), (17, 72, 19)] (eCalI eNo vms [(0, 88, 19), (17, 72, 19)] 300 8) vt_X11_count [47] 5 [] (0, [some (.inr (.inr (some 0))), some (.inl [(0, 0)])], [], [(0, [(0, 2)], .inr (.inr (some 17)), []), (17, [(0, 0)], .inl [(1, 0)], [])], [])) (47, [some (.inr (.inr (some 0))), some (.inl [(0, 0)])], [.inl [(1, 0)]], [(0, [(0, 2)], .inr (.inr (some 17)), []), (17, [(0, 0)], .inl [(1, 0)], [])], []) [] [] = true := by decide +kernel
set_option maxRecDepth 100000 in
theorem cx17_0_f : (eWl [some (.inr (.inr (some 0))), some (.inl [(0, 0)])] && (([] : List eV).all eWv && eWd [(0, [(0, 2)], .inr (.inr (some 17)), []), (17, [(0, 0)], .inl [(1, 0)], [])])) = true := by decide +kernel
theorem cx17_0 {hp : List vOb} {u : Nat} (hs : eSh [(0, 88, 19), (17, 72, 19)] hp) (h0 : hC hp 0 2 (.inr (.inr (.inr (.inl (some 17)))))) (h1 : hC hp 17 0 (.inl u)) : ∃ hp', (∃ N, ∀ fuel, N ≤ fuel → vCalD vms vdf fuel 60 285 [(.inr (.inr (.inr (.inl (some 0))))), .inl 0] hp = some (some (.inl u), hp', 0, 0)) ∧ sFr [] hp hp' := by
  obtain ⟨kl0, g0, P0, l0, -, z0⟩ := e_go (vms := vms) (df := vdf) (d := 59) (ρ := rL [u]) (by decide) cx17_0_k cx17_0_f hs all_nil (kl := vEnt [(.inr (.inr (.inr (.inl (some 0))))), .inl 0] m_X11_count.2.2.1) ⟨rfl, congrArg some (eCv_i (eR_c _ 0)).symm, trivial⟩ (eDt_add (k := 0) (eR_c _ 2) rfl h0 (eDt_add (k := 17) (eR_c _ 0) (eCv_i (eR_s (j := 0) (u := u) rfl)) h1 eDt_nil))
  have z0 : sFr [] hp g0 := z0
  have e9 : List.map (eCv (rL [u])) [.inl [(1, 0)]] = [.inl u] := eSt_cons (eCv_i (eR_s (j := 0) (u := u) rfl)) eSt_nil
  rw [e9] at P0
  obtain ⟨rv, hp', u1, u2, u3⟩ := kEnd_cal (d := 59) (kav := [(.inr (.inr (.inr (.inl (some 0))))), .inl 0]) (hp := hp) (P := fun rv hp' => rv = some (.inl u) ∧ sFr [] hp hp') hM_xcnt (by decide) rfl rfl (kEnd.of P0 (k_iret2 (List.all_eq_true.mp (and2 cn_r).1 47 (by decide)) rfl ⟨rfl, z0⟩))
  subst u2
  exact ⟨hp', u1, u3⟩
set_option maxRecDepth 1000000 in
theorem cx17_1_k : eQ (eRun [(0, 88, 19), (17, 72, 19)] (eCalI eNo vms [(0, 88, 19), (17, 72, 19)] 300 8) vt_X11_count [55] 5 [] (0, [some (.inr (.inr (some 0))), some (.inl [(0, 1)])], [], [(0, [(0, 2)], .inr (.inr (some 17)), []), (17, [(0, 1)], .inl [(1, 0)], [])], [])) (55, [some (.inr (.inr (some 0))), some (.inl [(0, 1)])], [.inl [(1, 0)]], [(0, [(0, 2)], .inr (.inr (some 17)), []), (17, [(0, 1)], .inl [(1, 0)], [])], []) [] [] = true := by decide +kernel
set_option maxRecDepth 100000 in
theorem cx17_1_f : (eWl [some (.inr (.inr (some 0))), some (.inl [(0, 1)])] && (([] : List eV).all eWv && eWd [(0, [(0, 2)], .inr (.inr (some 17)), []), (17, [(0, 1)], .inl [(1, 0)], [])])) = true := by decide +kernel
theorem cx17_1 {hp : List vOb} {u : Nat} (hs : eSh [(0, 88, 19), (17, 72, 19)] hp) (h0 : hC hp 0 2 (.inr (.inr (.inr (.inl (some 17)))))) (h1 : hC hp 17 1 (.inl u)) : ∃ hp', (∃ N, ∀ fuel, N ≤ fuel → vCalD vms vdf fuel 60 285 [(.inr (.inr (.inr (.inl (some 0))))), .inl 1] hp = some (some (.inl u), hp', 0, 0)) ∧ sFr [] hp hp' := by
  obtain ⟨kl0, g0, P0, l0, -, z0⟩ := e_go (vms := vms) (df := vdf) (d := 59) (ρ := rL [u]) (by decide) cx17_1_k cx17_1_f hs all_nil (kl := vEnt [(.inr (.inr (.inr (.inl (some 0))))), .inl 1] m_X11_count.2.2.1) ⟨rfl, congrArg some (eCv_i (eR_c _ 1)).symm, trivial⟩ (eDt_add (k := 0) (eR_c _ 2) rfl h0 (eDt_add (k := 17) (eR_c _ 1) (eCv_i (eR_s (j := 0) (u := u) rfl)) h1 eDt_nil))
  have z0 : sFr [] hp g0 := z0
  have e9 : List.map (eCv (rL [u])) [.inl [(1, 0)]] = [.inl u] := eSt_cons (eCv_i (eR_s (j := 0) (u := u) rfl)) eSt_nil
  rw [e9] at P0
  obtain ⟨rv, hp', u1, u2, u3⟩ := kEnd_cal (d := 59) (kav := [(.inr (.inr (.inr (.inl (some 0))))), .inl 1]) (hp := hp) (P := fun rv hp' => rv = some (.inl u) ∧ sFr [] hp hp') hM_xcnt (by decide) rfl rfl (kEnd.of P0 (k_iret2 (List.all_eq_true.mp (and2 cn_r).1 55 (by decide)) rfl ⟨rfl, z0⟩))
  subst u2
  exact ⟨hp', u1, u3⟩
set_option maxRecDepth 1000000 in
theorem cx17_2_k : eQ (eRun [(0, 88, 19), (17, 72, 19)] (eCalI eNo vms [(0, 88, 19), (17, 72, 19)] 300 8) vt_X11_count [63] 5 [] (0, [some (.inr (.inr (some 0))), some (.inl [(0, 2)])], [], [(0, [(0, 2)], .inr (.inr (some 17)), []), (17, [(0, 2)], .inl [(1, 0)], [])], [])) (63, [some (.inr (.inr (some 0))), some (.inl [(0, 2)])], [.inl [(1, 0)]], [(0, [(0, 2)], .inr (.inr (some 17)), []), (17, [(0, 2)], .inl [(1, 0)], [])], []) [] [] = true := by decide +kernel
set_option maxRecDepth 100000 in
theorem cx17_2_f : (eWl [some (.inr (.inr (some 0))), some (.inl [(0, 2)])] && (([] : List eV).all eWv && eWd [(0, [(0, 2)], .inr (.inr (some 17)), []), (17, [(0, 2)], .inl [(1, 0)], [])])) = true := by decide +kernel
theorem cx17_2 {hp : List vOb} {u : Nat} (hs : eSh [(0, 88, 19), (17, 72, 19)] hp) (h0 : hC hp 0 2 (.inr (.inr (.inr (.inl (some 17)))))) (h1 : hC hp 17 2 (.inl u)) : ∃ hp', (∃ N, ∀ fuel, N ≤ fuel → vCalD vms vdf fuel 60 285 [(.inr (.inr (.inr (.inl (some 0))))), .inl 2] hp = some (some (.inl u), hp', 0, 0)) ∧ sFr [] hp hp' := by
  obtain ⟨kl0, g0, P0, l0, -, z0⟩ := e_go (vms := vms) (df := vdf) (d := 59) (ρ := rL [u]) (by decide) cx17_2_k cx17_2_f hs all_nil (kl := vEnt [(.inr (.inr (.inr (.inl (some 0))))), .inl 2] m_X11_count.2.2.1) ⟨rfl, congrArg some (eCv_i (eR_c _ 2)).symm, trivial⟩ (eDt_add (k := 0) (eR_c _ 2) rfl h0 (eDt_add (k := 17) (eR_c _ 2) (eCv_i (eR_s (j := 0) (u := u) rfl)) h1 eDt_nil))
  have z0 : sFr [] hp g0 := z0
  have e9 : List.map (eCv (rL [u])) [.inl [(1, 0)]] = [.inl u] := eSt_cons (eCv_i (eR_s (j := 0) (u := u) rfl)) eSt_nil
  rw [e9] at P0
  obtain ⟨rv, hp', u1, u2, u3⟩ := kEnd_cal (d := 59) (kav := [(.inr (.inr (.inr (.inl (some 0))))), .inl 2]) (hp := hp) (P := fun rv hp' => rv = some (.inl u) ∧ sFr [] hp hp') hM_xcnt (by decide) rfl rfl (kEnd.of P0 (k_iret2 (List.all_eq_true.mp (and2 cn_r).1 63 (by decide)) rfl ⟨rfl, z0⟩))
  subst u2
  exact ⟨hp', u1, u3⟩
set_option maxRecDepth 1000000 in
theorem cx17_3_k : eQ (eRun [(0, 88, 19), (17, 72, 19)] (eCalI eNo vms [(0, 88, 19), (17, 72, 19)] 300 8) vt_X11_count [71] 5 [] (0, [some (.inr (.inr (some 0))), some (.inl [(0, 3)])], [], [(0, [(0, 2)], .inr (.inr (some 17)), []), (17, [(0, 3)], .inl [(1, 0)], [])], [])) (71, [some (.inr (.inr (some 0))), some (.inl [(0, 3)])], [.inl [(1, 0)]], [(0, [(0, 2)], .inr (.inr (some 17)), []), (17, [(0, 3)], .inl [(1, 0)], [])], []) [] [] = true := by decide +kernel
set_option maxRecDepth 100000 in
theorem cx17_3_f : (eWl [some (.inr (.inr (some 0))), some (.inl [(0, 3)])] && (([] : List eV).all eWv && eWd [(0, [(0, 2)], .inr (.inr (some 17)), []), (17, [(0, 3)], .inl [(1, 0)], [])])) = true := by decide +kernel
theorem cx17_3 {hp : List vOb} {u : Nat} (hs : eSh [(0, 88, 19), (17, 72, 19)] hp) (h0 : hC hp 0 2 (.inr (.inr (.inr (.inl (some 17)))))) (h1 : hC hp 17 3 (.inl u)) : ∃ hp', (∃ N, ∀ fuel, N ≤ fuel → vCalD vms vdf fuel 60 285 [(.inr (.inr (.inr (.inl (some 0))))), .inl 3] hp = some (some (.inl u), hp', 0, 0)) ∧ sFr [] hp hp' := by
  obtain ⟨kl0, g0, P0, l0, -, z0⟩ := e_go (vms := vms) (df := vdf) (d := 59) (ρ := rL [u]) (by decide) cx17_3_k cx17_3_f hs all_nil (kl := vEnt [(.inr (.inr (.inr (.inl (some 0))))), .inl 3] m_X11_count.2.2.1) ⟨rfl, congrArg some (eCv_i (eR_c _ 3)).symm, trivial⟩ (eDt_add (k := 0) (eR_c _ 2) rfl h0 (eDt_add (k := 17) (eR_c _ 3) (eCv_i (eR_s (j := 0) (u := u) rfl)) h1 eDt_nil))
  have z0 : sFr [] hp g0 := z0
  have e9 : List.map (eCv (rL [u])) [.inl [(1, 0)]] = [.inl u] := eSt_cons (eCv_i (eR_s (j := 0) (u := u) rfl)) eSt_nil
  rw [e9] at P0
  obtain ⟨rv, hp', u1, u2, u3⟩ := kEnd_cal (d := 59) (kav := [(.inr (.inr (.inr (.inl (some 0))))), .inl 3]) (hp := hp) (P := fun rv hp' => rv = some (.inl u) ∧ sFr [] hp hp') hM_xcnt (by decide) rfl rfl (kEnd.of P0 (k_iret2 (List.all_eq_true.mp (and2 cn_r).1 71 (by decide)) rfl ⟨rfl, z0⟩))
  subst u2
  exact ⟨hp', u1, u3⟩
set_option maxRecDepth 1000000 in
theorem cx17_4_k : eQ (eRun [(0, 88, 19), (17, 72, 19)] (eCalI eNo vms [(0, 88, 19), (17, 72, 19)] 300 8) vt_X11_count [79] 5 [] (0, [some (.inr (.inr (some 0))), some (.inl [(0, 4)])], [], [(0, [(0, 2)], .inr (.inr (some 17)), []), (17, [(0, 4)], .inl [(1, 0)], [])], [])) (79, [some (.inr (.inr (some 0))), some (.inl [(0, 4)])], [.inl [(1, 0)]], [(0, [(0, 2)], .inr (.inr (some 17)), []), (17, [(0, 4)], .inl [(1, 0)], [])], []) [] [] = true := by decide +kernel
set_option maxRecDepth 100000 in
theorem cx17_4_f : (eWl [some (.inr (.inr (some 0))), some (.inl [(0, 4)])] && (([] : List eV).all eWv && eWd [(0, [(0, 2)], .inr (.inr (some 17)), []), (17, [(0, 4)], .inl [(1, 0)], [])])) = true := by decide +kernel
theorem cx17_4 {hp : List vOb} {u : Nat} (hs : eSh [(0, 88, 19), (17, 72, 19)] hp) (h0 : hC hp 0 2 (.inr (.inr (.inr (.inl (some 17)))))) (h1 : hC hp 17 4 (.inl u)) : ∃ hp', (∃ N, ∀ fuel, N ≤ fuel → vCalD vms vdf fuel 60 285 [(.inr (.inr (.inr (.inl (some 0))))), .inl 4] hp = some (some (.inl u), hp', 0, 0)) ∧ sFr [] hp hp' := by
  obtain ⟨kl0, g0, P0, l0, -, z0⟩ := e_go (vms := vms) (df := vdf) (d := 59) (ρ := rL [u]) (by decide) cx17_4_k cx17_4_f hs all_nil (kl := vEnt [(.inr (.inr (.inr (.inl (some 0))))), .inl 4] m_X11_count.2.2.1) ⟨rfl, congrArg some (eCv_i (eR_c _ 4)).symm, trivial⟩ (eDt_add (k := 0) (eR_c _ 2) rfl h0 (eDt_add (k := 17) (eR_c _ 4) (eCv_i (eR_s (j := 0) (u := u) rfl)) h1 eDt_nil))
  have z0 : sFr [] hp g0 := z0
  have e9 : List.map (eCv (rL [u])) [.inl [(1, 0)]] = [.inl u] := eSt_cons (eCv_i (eR_s (j := 0) (u := u) rfl)) eSt_nil
  rw [e9] at P0
  obtain ⟨rv, hp', u1, u2, u3⟩ := kEnd_cal (d := 59) (kav := [(.inr (.inr (.inr (.inl (some 0))))), .inl 4]) (hp := hp) (P := fun rv hp' => rv = some (.inl u) ∧ sFr [] hp hp') hM_xcnt (by decide) rfl rfl (kEnd.of P0 (k_iret2 (List.all_eq_true.mp (and2 cn_r).1 79 (by decide)) rfl ⟨rfl, z0⟩))
  subst u2
  exact ⟨hp', u1, u3⟩
set_option maxRecDepth 1000000 in
theorem cx_5_k : eQ (eRun [(0, 88, 19)] (eCalI eNo vms [(0, 88, 19)] 300 8) vt_X11_count [84] 4 [] (0, [some (.inr (.inr (some 0))), some (.inl [(0, 5)])], [], [(0, [(0, 1)], .inl [(1, 0)], [])], [])) (84, [some (.inr (.inr (some 0))), some (.inl [(0, 5)])], [.inl [(1, 0)]], [(0, [(0, 1)], .inl [(1, 0)], [])], []) [] [] = true := by decide +kernel
set_option maxRecDepth 100000 in
theorem cx_5_f : (eWl [some (.inr (.inr (some 0))), some (.inl [(0, 5)])] && (([] : List eV).all eWv && eWd [(0, [(0, 1)], .inl [(1, 0)], [])])) = true := by decide +kernel
theorem cx_5 {hp : List vOb} {u : Nat} (hs : eSh [(0, 88, 19)] hp) (h0 : hC hp 0 1 (.inl u)) : ∃ hp', (∃ N, ∀ fuel, N ≤ fuel → vCalD vms vdf fuel 60 285 [(.inr (.inr (.inr (.inl (some 0))))), .inl 5] hp = some (some (.inl u), hp', 0, 0)) ∧ sFr [] hp hp' := by
  obtain ⟨kl0, g0, P0, l0, -, z0⟩ := e_go (vms := vms) (df := vdf) (d := 59) (ρ := rL [u]) (by decide) cx_5_k cx_5_f hs all_nil (kl := vEnt [(.inr (.inr (.inr (.inl (some 0))))), .inl 5] m_X11_count.2.2.1) ⟨rfl, congrArg some (eCv_i (eR_c _ 5)).symm, trivial⟩ (eDt_add (k := 0) (eR_c _ 1) (eCv_i (eR_s (j := 0) (u := u) rfl)) h0 eDt_nil)
  have z0 : sFr [] hp g0 := z0
  have e9 : List.map (eCv (rL [u])) [.inl [(1, 0)]] = [.inl u] := eSt_cons (eCv_i (eR_s (j := 0) (u := u) rfl)) eSt_nil
  rw [e9] at P0
  obtain ⟨rv, hp', u1, u2, u3⟩ := kEnd_cal (d := 59) (kav := [(.inr (.inr (.inr (.inl (some 0))))), .inl 5]) (hp := hp) (P := fun rv hp' => rv = some (.inl u) ∧ sFr [] hp hp') hM_xcnt (by decide) rfl rfl (kEnd.of P0 (k_iret2 (List.all_eq_true.mp (and2 cn_r).1 84 (by decide)) rfl ⟨rfl, z0⟩))
  subst u2
  exact ⟨hp', u1, u3⟩
set_option maxRecDepth 1000000 in
theorem cm_0_k : eQ (eRun [(220, 96, 60), (222, 1, 323)] (eCalI eNo vms [(220, 96, 60), (222, 1, 323)] 300 8) vt_X12_count [36] 16 [] (0, [some (.inr (.inr (some 220))), some (.inl [(0, 0)])], [], [(220, [(0, 6)], .inr (.inr (some 222)), []), (222, [(0, 0)], .inl [(1, 0)], [])], [])) (36, [some (.inr (.inr (some 220))), some (.inl [(0, 0)])], [.inl [(1, 0)]], [(220, [(0, 0)], .inl [(0, 0)], []), (220, [(0, 6)], .inr (.inr (some 222)), []), (222, [(0, 0)], .inl [(1, 0)], [])], [(220, [(0, 0)])]) [] [] = true := by decide +kernel
set_option maxRecDepth 100000 in
theorem cm_0_f : (eWl [some (.inr (.inr (some 220))), some (.inl [(0, 0)])] && (([] : List eV).all eWv && eWd [(220, [(0, 6)], .inr (.inr (some 222)), []), (222, [(0, 0)], .inl [(1, 0)], [])])) = true := by decide +kernel
theorem cm_0 {hp : List vOb} {u : Nat} (hs : eSh [(220, 96, 60), (222, 1, 323)] hp) (h0 : hC hp 220 6 (.inr (.inr (.inr (.inl (some 222)))))) (h1 : hC hp 222 0 (.inl u)) : ∃ hp', (∃ N, ∀ fuel, N ≤ fuel → vCalD vms vdf fuel 60 286 [(.inr (.inr (.inr (.inl (some 220))))), .inl 0] hp = some (some (.inl u), hp', 0, 0)) ∧ sFr [(220, 0, 0)] hp hp' := by
  obtain ⟨kl0, g0, P0, l0, -, z0⟩ := e_go (vms := vms) (df := vdf) (d := 59) (ρ := rL [u]) (by decide) cm_0_k cm_0_f hs all_nil (kl := vEnt [(.inr (.inr (.inr (.inl (some 220))))), .inl 0] m_X12_count.2.2.1) ⟨rfl, congrArg some (eCv_i (eR_c _ 0)).symm, trivial⟩ (eDt_add (k := 220) (eR_c _ 6) rfl h0 (eDt_add (k := 222) (eR_c _ 0) (eCv_i (eR_s (j := 0) (u := u) rfl)) h1 eDt_nil))
  have z0 : sFr [(220, 0, 0)] hp g0 := (z0.mono (eBox_ok (by decide)))
  have e9 : List.map (eCv (rL [u])) [.inl [(1, 0)]] = [.inl u] := eSt_cons (eCv_i (eR_s (j := 0) (u := u) rfl)) eSt_nil
  rw [e9] at P0
  obtain ⟨rv, hp', u1, u2, u3⟩ := kEnd_cal (d := 59) (kav := [(.inr (.inr (.inr (.inl (some 220))))), .inl 0]) (hp := hp) (P := fun rv hp' => rv = some (.inl u) ∧ sFr [(220, 0, 0)] hp hp') hM_mcnt (by decide) rfl rfl (kEnd.of P0 (k_iret2 (and2 cn_r).2 rfl ⟨rfl, z0⟩))
  subst u2
  exact ⟨hp', u1, u3⟩
set_option maxRecDepth 1000000 in
theorem cm_1_k : eQ (eRun [(220, 96, 60), (222, 1, 323)] (eCalI eNo vms [(220, 96, 60), (222, 1, 323)] 300 8) vt_X12_count [36] 16 [] (0, [some (.inr (.inr (some 220))), some (.inl [(0, 1)])], [], [(220, [(0, 6)], .inr (.inr (some 222)), []), (222, [(0, 1)], .inl [(1, 0)], [])], [])) (36, [some (.inr (.inr (some 220))), some (.inl [(0, 1)])], [.inl [(1, 0)]], [(220, [(0, 0)], .inl [(0, 0)], []), (220, [(0, 6)], .inr (.inr (some 222)), []), (222, [(0, 1)], .inl [(1, 0)], [])], [(220, [(0, 0)])]) [] [] = true := by decide +kernel
set_option maxRecDepth 100000 in
theorem cm_1_f : (eWl [some (.inr (.inr (some 220))), some (.inl [(0, 1)])] && (([] : List eV).all eWv && eWd [(220, [(0, 6)], .inr (.inr (some 222)), []), (222, [(0, 1)], .inl [(1, 0)], [])])) = true := by decide +kernel
theorem cm_1 {hp : List vOb} {u : Nat} (hs : eSh [(220, 96, 60), (222, 1, 323)] hp) (h0 : hC hp 220 6 (.inr (.inr (.inr (.inl (some 222)))))) (h1 : hC hp 222 1 (.inl u)) : ∃ hp', (∃ N, ∀ fuel, N ≤ fuel → vCalD vms vdf fuel 60 286 [(.inr (.inr (.inr (.inl (some 220))))), .inl 1] hp = some (some (.inl u), hp', 0, 0)) ∧ sFr [(220, 0, 0)] hp hp' := by
  obtain ⟨kl0, g0, P0, l0, -, z0⟩ := e_go (vms := vms) (df := vdf) (d := 59) (ρ := rL [u]) (by decide) cm_1_k cm_1_f hs all_nil (kl := vEnt [(.inr (.inr (.inr (.inl (some 220))))), .inl 1] m_X12_count.2.2.1) ⟨rfl, congrArg some (eCv_i (eR_c _ 1)).symm, trivial⟩ (eDt_add (k := 220) (eR_c _ 6) rfl h0 (eDt_add (k := 222) (eR_c _ 1) (eCv_i (eR_s (j := 0) (u := u) rfl)) h1 eDt_nil))
  have z0 : sFr [(220, 0, 0)] hp g0 := (z0.mono (eBox_ok (by decide)))
  have e9 : List.map (eCv (rL [u])) [.inl [(1, 0)]] = [.inl u] := eSt_cons (eCv_i (eR_s (j := 0) (u := u) rfl)) eSt_nil
  rw [e9] at P0
  obtain ⟨rv, hp', u1, u2, u3⟩ := kEnd_cal (d := 59) (kav := [(.inr (.inr (.inr (.inl (some 220))))), .inl 1]) (hp := hp) (P := fun rv hp' => rv = some (.inl u) ∧ sFr [(220, 0, 0)] hp hp') hM_mcnt (by decide) rfl rfl (kEnd.of P0 (k_iret2 (and2 cn_r).2 rfl ⟨rfl, z0⟩))
  subst u2
  exact ⟨hp', u1, u3⟩
set_option maxRecDepth 1000000 in
theorem cm_2_k : eQ (eRun [(220, 96, 60), (222, 1, 323)] (eCalI eNo vms [(220, 96, 60), (222, 1, 323)] 300 8) vt_X12_count [36] 16 [] (0, [some (.inr (.inr (some 220))), some (.inl [(0, 2)])], [], [(220, [(0, 6)], .inr (.inr (some 222)), []), (222, [(0, 2)], .inl [(1, 0)], [])], [])) (36, [some (.inr (.inr (some 220))), some (.inl [(0, 2)])], [.inl [(1, 0)]], [(220, [(0, 0)], .inl [(0, 0)], []), (220, [(0, 6)], .inr (.inr (some 222)), []), (222, [(0, 2)], .inl [(1, 0)], [])], [(220, [(0, 0)])]) [] [] = true := by decide +kernel
set_option maxRecDepth 100000 in
theorem cm_2_f : (eWl [some (.inr (.inr (some 220))), some (.inl [(0, 2)])] && (([] : List eV).all eWv && eWd [(220, [(0, 6)], .inr (.inr (some 222)), []), (222, [(0, 2)], .inl [(1, 0)], [])])) = true := by decide +kernel
theorem cm_2 {hp : List vOb} {u : Nat} (hs : eSh [(220, 96, 60), (222, 1, 323)] hp) (h0 : hC hp 220 6 (.inr (.inr (.inr (.inl (some 222)))))) (h1 : hC hp 222 2 (.inl u)) : ∃ hp', (∃ N, ∀ fuel, N ≤ fuel → vCalD vms vdf fuel 60 286 [(.inr (.inr (.inr (.inl (some 220))))), .inl 2] hp = some (some (.inl u), hp', 0, 0)) ∧ sFr [(220, 0, 0)] hp hp' := by
  obtain ⟨kl0, g0, P0, l0, -, z0⟩ := e_go (vms := vms) (df := vdf) (d := 59) (ρ := rL [u]) (by decide) cm_2_k cm_2_f hs all_nil (kl := vEnt [(.inr (.inr (.inr (.inl (some 220))))), .inl 2] m_X12_count.2.2.1) ⟨rfl, congrArg some (eCv_i (eR_c _ 2)).symm, trivial⟩ (eDt_add (k := 220) (eR_c _ 6) rfl h0 (eDt_add (k := 222) (eR_c _ 2) (eCv_i (eR_s (j := 0) (u := u) rfl)) h1 eDt_nil))
  have z0 : sFr [(220, 0, 0)] hp g0 := (z0.mono (eBox_ok (by decide)))
  have e9 : List.map (eCv (rL [u])) [.inl [(1, 0)]] = [.inl u] := eSt_cons (eCv_i (eR_s (j := 0) (u := u) rfl)) eSt_nil
  rw [e9] at P0
  obtain ⟨rv, hp', u1, u2, u3⟩ := kEnd_cal (d := 59) (kav := [(.inr (.inr (.inr (.inl (some 220))))), .inl 2]) (hp := hp) (P := fun rv hp' => rv = some (.inl u) ∧ sFr [(220, 0, 0)] hp hp') hM_mcnt (by decide) rfl rfl (kEnd.of P0 (k_iret2 (and2 cn_r).2 rfl ⟨rfl, z0⟩))
  subst u2
  exact ⟨hp', u1, u3⟩
set_option maxRecDepth 1000000 in
theorem cm_3_k : eQ (eRun [(220, 96, 60), (222, 1, 323)] (eCalI eNo vms [(220, 96, 60), (222, 1, 323)] 300 8) vt_X12_count [36] 16 [] (0, [some (.inr (.inr (some 220))), some (.inl [(0, 3)])], [], [(220, [(0, 6)], .inr (.inr (some 222)), []), (222, [(0, 3)], .inl [(1, 0)], [])], [])) (36, [some (.inr (.inr (some 220))), some (.inl [(0, 3)])], [.inl [(1, 0)]], [(220, [(0, 0)], .inl [(0, 0)], []), (220, [(0, 6)], .inr (.inr (some 222)), []), (222, [(0, 3)], .inl [(1, 0)], [])], [(220, [(0, 0)])]) [] [] = true := by decide +kernel
set_option maxRecDepth 100000 in
theorem cm_3_f : (eWl [some (.inr (.inr (some 220))), some (.inl [(0, 3)])] && (([] : List eV).all eWv && eWd [(220, [(0, 6)], .inr (.inr (some 222)), []), (222, [(0, 3)], .inl [(1, 0)], [])])) = true := by decide +kernel
theorem cm_3 {hp : List vOb} {u : Nat} (hs : eSh [(220, 96, 60), (222, 1, 323)] hp) (h0 : hC hp 220 6 (.inr (.inr (.inr (.inl (some 222)))))) (h1 : hC hp 222 3 (.inl u)) : ∃ hp', (∃ N, ∀ fuel, N ≤ fuel → vCalD vms vdf fuel 60 286 [(.inr (.inr (.inr (.inl (some 220))))), .inl 3] hp = some (some (.inl u), hp', 0, 0)) ∧ sFr [(220, 0, 0)] hp hp' := by
  obtain ⟨kl0, g0, P0, l0, -, z0⟩ := e_go (vms := vms) (df := vdf) (d := 59) (ρ := rL [u]) (by decide) cm_3_k cm_3_f hs all_nil (kl := vEnt [(.inr (.inr (.inr (.inl (some 220))))), .inl 3] m_X12_count.2.2.1) ⟨rfl, congrArg some (eCv_i (eR_c _ 3)).symm, trivial⟩ (eDt_add (k := 220) (eR_c _ 6) rfl h0 (eDt_add (k := 222) (eR_c _ 3) (eCv_i (eR_s (j := 0) (u := u) rfl)) h1 eDt_nil))
  have z0 : sFr [(220, 0, 0)] hp g0 := (z0.mono (eBox_ok (by decide)))
  have e9 : List.map (eCv (rL [u])) [.inl [(1, 0)]] = [.inl u] := eSt_cons (eCv_i (eR_s (j := 0) (u := u) rfl)) eSt_nil
  rw [e9] at P0
  obtain ⟨rv, hp', u1, u2, u3⟩ := kEnd_cal (d := 59) (kav := [(.inr (.inr (.inr (.inl (some 220))))), .inl 3]) (hp := hp) (P := fun rv hp' => rv = some (.inl u) ∧ sFr [(220, 0, 0)] hp hp') hM_mcnt (by decide) rfl rfl (kEnd.of P0 (k_iret2 (and2 cn_r).2 rfl ⟨rfl, z0⟩))
  subst u2
  exact ⟨hp', u1, u3⟩
set_option maxRecDepth 1000000 in
theorem cm_4_k : eQ (eRun [(220, 96, 60), (222, 1, 323)] (eCalI eNo vms [(220, 96, 60), (222, 1, 323)] 300 8) vt_X12_count [36] 16 [] (0, [some (.inr (.inr (some 220))), some (.inl [(0, 4)])], [], [(220, [(0, 6)], .inr (.inr (some 222)), []), (222, [(0, 4)], .inl [(1, 0)], [])], [])) (36, [some (.inr (.inr (some 220))), some (.inl [(0, 4)])], [.inl [(1, 0)]], [(220, [(0, 0)], .inl [(0, 0)], []), (220, [(0, 6)], .inr (.inr (some 222)), []), (222, [(0, 4)], .inl [(1, 0)], [])], [(220, [(0, 0)])]) [] [] = true := by decide +kernel
set_option maxRecDepth 100000 in
theorem cm_4_f : (eWl [some (.inr (.inr (some 220))), some (.inl [(0, 4)])] && (([] : List eV).all eWv && eWd [(220, [(0, 6)], .inr (.inr (some 222)), []), (222, [(0, 4)], .inl [(1, 0)], [])])) = true := by decide +kernel
theorem cm_4 {hp : List vOb} {u : Nat} (hs : eSh [(220, 96, 60), (222, 1, 323)] hp) (h0 : hC hp 220 6 (.inr (.inr (.inr (.inl (some 222)))))) (h1 : hC hp 222 4 (.inl u)) : ∃ hp', (∃ N, ∀ fuel, N ≤ fuel → vCalD vms vdf fuel 60 286 [(.inr (.inr (.inr (.inl (some 220))))), .inl 4] hp = some (some (.inl u), hp', 0, 0)) ∧ sFr [(220, 0, 0)] hp hp' := by
  obtain ⟨kl0, g0, P0, l0, -, z0⟩ := e_go (vms := vms) (df := vdf) (d := 59) (ρ := rL [u]) (by decide) cm_4_k cm_4_f hs all_nil (kl := vEnt [(.inr (.inr (.inr (.inl (some 220))))), .inl 4] m_X12_count.2.2.1) ⟨rfl, congrArg some (eCv_i (eR_c _ 4)).symm, trivial⟩ (eDt_add (k := 220) (eR_c _ 6) rfl h0 (eDt_add (k := 222) (eR_c _ 4) (eCv_i (eR_s (j := 0) (u := u) rfl)) h1 eDt_nil))
  have z0 : sFr [(220, 0, 0)] hp g0 := (z0.mono (eBox_ok (by decide)))
  have e9 : List.map (eCv (rL [u])) [.inl [(1, 0)]] = [.inl u] := eSt_cons (eCv_i (eR_s (j := 0) (u := u) rfl)) eSt_nil
  rw [e9] at P0
  obtain ⟨rv, hp', u1, u2, u3⟩ := kEnd_cal (d := 59) (kav := [(.inr (.inr (.inr (.inl (some 220))))), .inl 4]) (hp := hp) (P := fun rv hp' => rv = some (.inl u) ∧ sFr [(220, 0, 0)] hp hp') hM_mcnt (by decide) rfl rfl (kEnd.of P0 (k_iret2 (and2 cn_r).2 rfl ⟨rfl, z0⟩))
  subst u2
  exact ⟨hp', u1, u3⟩
set_option maxRecDepth 1000000 in
theorem cm_5_k : eQ (eRun [(220, 96, 60)] (eCalI eNo vms [(220, 96, 60)] 300 8) vt_X12_count [36] 9 [] (0, [some (.inr (.inr (some 220))), some (.inl [(0, 5)])], [], [(220, [(0, 2)], .inl [(1, 0)], [])], [])) (36, [some (.inr (.inr (some 220))), some (.inl [(0, 5)])], [.inl [(1, 0)]], [(220, [(0, 0)], .inl [(0, 0)], []), (220, [(0, 2)], .inl [(1, 0)], [])], [(220, [(0, 0)])]) [] [] = true := by decide +kernel
set_option maxRecDepth 100000 in
theorem cm_5_f : (eWl [some (.inr (.inr (some 220))), some (.inl [(0, 5)])] && (([] : List eV).all eWv && eWd [(220, [(0, 2)], .inl [(1, 0)], [])])) = true := by decide +kernel
theorem cm_5 {hp : List vOb} {u : Nat} (hs : eSh [(220, 96, 60)] hp) (h0 : hC hp 220 2 (.inl u)) : ∃ hp', (∃ N, ∀ fuel, N ≤ fuel → vCalD vms vdf fuel 60 286 [(.inr (.inr (.inr (.inl (some 220))))), .inl 5] hp = some (some (.inl u), hp', 0, 0)) ∧ sFr [(220, 0, 0)] hp hp' := by
  obtain ⟨kl0, g0, P0, l0, -, z0⟩ := e_go (vms := vms) (df := vdf) (d := 59) (ρ := rL [u]) (by decide) cm_5_k cm_5_f hs all_nil (kl := vEnt [(.inr (.inr (.inr (.inl (some 220))))), .inl 5] m_X12_count.2.2.1) ⟨rfl, congrArg some (eCv_i (eR_c _ 5)).symm, trivial⟩ (eDt_add (k := 220) (eR_c _ 2) (eCv_i (eR_s (j := 0) (u := u) rfl)) h0 eDt_nil)
  have z0 : sFr [(220, 0, 0)] hp g0 := (z0.mono (eBox_ok (by decide)))
  have e9 : List.map (eCv (rL [u])) [.inl [(1, 0)]] = [.inl u] := eSt_cons (eCv_i (eR_s (j := 0) (u := u) rfl)) eSt_nil
  rw [e9] at P0
  obtain ⟨rv, hp', u1, u2, u3⟩ := kEnd_cal (d := 59) (kav := [(.inr (.inr (.inr (.inl (some 220))))), .inl 5]) (hp := hp) (P := fun rv hp' => rv = some (.inl u) ∧ sFr [(220, 0, 0)] hp hp') hM_mcnt (by decide) rfl rfl (kEnd.of P0 (k_iret2 (and2 cn_r).2 rfl ⟨rfl, z0⟩))
  subst u2
  exact ⟨hp', u1, u3⟩
def cnX_e : sCtE := (285, [.inl (.inr (.inr (.inr (.inl (some 0))))), .inr [(0, 2147483647), (2147483654, 4294967295)]], [], some (.inr [(2147483647, 2147483647)]), [])
set_option maxRecDepth 1000000 in
theorem cnX_k : cChk vms hT (sCalI vms (sCt hT cnX_e.2.2.2.2 []) cnX_e.2.2.2.2 3000 6) 3000 cnX_e ([], [], []) [] [] = true := by decide +kernel
theorem cnX_ok (d : Nat) (hd : 7 ≤ d) : cOK vms vdf d hT cnX_e := by
  obtain ⟨d', rfl⟩ : ∃ d', d = d' + 1 := ⟨d - 1, by omega⟩
  exact cOK_of (fun hp0 => sCalI_ok (d0 := 0) (fun m hm => sCt_ok (T := hT) (cs_nil)) 6 d' (by omega)) cnX_k
def cnM_e : sCtE := (286, [.inl (.inr (.inr (.inr (.inl (some 220))))), .inr [(0, 2147483647), (2147483654, 4294967295)]], [220], some (.inr [(2147483647, 2147483647)]), [(220, 0, 0)])
set_option maxRecDepth 1000000 in
theorem cnM_k : cChk vms hT (sCalI vms (sCt hT cnM_e.2.2.2.2 []) cnM_e.2.2.2.2 3000 6) 3000 cnM_e ([], [], []) [] [] = true := by decide +kernel
theorem cnM_ok (d : Nat) (hd : 7 ≤ d) : cOK vms vdf d hT cnM_e := by
  obtain ⟨d', rfl⟩ : ∃ d', d = d' + 1 := ⟨d - 1, by omega⟩
  exact cOK_of (fun hp0 => sCalI_ok (d0 := 0) (fun m hm => sCt_ok (T := hT) (cs_nil)) 6 d' (by omega)) cnM_k
theorem rest6 {w : Nat} (hw : w < 4294967296) (h : ¬ w < 6) : sIn [(0, 2147483647), (2147483654, 4294967295)] (sBi w) := by
  by_cases hlt : sBi w ≤ 2147483647
  · exact ⟨(0, 2147483647), by decide, Nat.zero_le _, hlt⟩
  · refine ⟨(2147483654, 4294967295), by decide, ?_, ?_⟩
    · show 2147483654 ≤ sBi w
      unfold sBi at hlt ⊢
      omega
    · show sBi w ≤ 4294967295
      have := sBi_lt w
      omega
theorem zRtN {kr : Option vAV} (h : sRtC (some (.inr [(2147483647, 2147483647)])) kr) : kr = some (.inl 4294967295) := by
  cases kr with
  | none => exact h.elim
  | some v =>
    obtain ⟨u, u1, ⟨p, p1, p2, p3⟩, u3⟩ := h
    rw [List.mem_singleton] at p1
    subst p1
    dsimp only at p2 p3
    subst u3
    have : u = 4294967295 := by
      unfold sBi at p2 p3
      omega
    rw [this]
def cV (s q r p hm n w : Nat) : Nat := if w = 0 then s else if w = 1 then q else if w = 2 then r else if w = 3 then p else if w = 4 then hm else if w = 5 then n else 4294967295
theorem cntX4 {hp : List vOb} {s q p r hm fx n w : Nat} {TK BR ST : Nat → Nat} (hw : w < 4294967296) (hs : eSh [(0, 88, 19), (4, 72, 19)] hp) (h0 : hC hp 0 2 (.inr (.inr (.inr (.inl (some 4)))))) (h1 : hC hp 0 1 (.inl n)) (hC' : CT 4 hp s q p r hm fx TK BR ST) : ∃ hp', (∃ N, ∀ fuel, N ≤ fuel → vCalD vms vdf fuel 60 285 [(.inr (.inr (.inr (.inl (some 0))))), .inl w] hp = some (some (.inl (cV s q r p hm n w)), hp', 0, 0)) ∧ sFr [] hp hp' := by
  obtain ⟨a0, a1, a2, a3, a4, -⟩ := hC'
  by_cases h : w < 6
  · rcases (show w = 0 ∨ w = 1 ∨ w = 2 ∨ w = 3 ∨ w = 4 ∨ w = 5 by omega) with rfl | rfl | rfl | rfl | rfl | rfl
    · exact cx4_0 hs h0 a0
    · exact cx4_1 hs h0 a1
    · exact cx4_2 hs h0 a2
    · exact cx4_3 hs h0 a3
    · exact cx4_4 hs h0 a4
    · exact cx_5 (eSh_mem hs (by decide)) h1
  · obtain ⟨r', hp', g1, g2, g3, g4⟩ := cnX_ok 60 (by decide) [yV 0, .inl w] hp ⟨rfl, ⟨w, hw, rest6 hw h, rfl⟩, trivial⟩ (fun k hk => absurd hk List.not_mem_nil)
    have e := zRtN g2
    subst e
    have e : cV s q r p hm n w = 4294967295 := by
      unfold cV
      rw [if_neg (by omega), if_neg (by omega), if_neg (by omega), if_neg (by omega), if_neg (by omega), if_neg (by omega)]
    rw [e]
    exact ⟨hp', g1, g3⟩
theorem cntX17 {hp : List vOb} {s q p r hm fx n w : Nat} {TK BR ST : Nat → Nat} (hw : w < 4294967296) (hs : eSh [(0, 88, 19), (17, 72, 19)] hp) (h0 : hC hp 0 2 (.inr (.inr (.inr (.inl (some 17)))))) (h1 : hC hp 0 1 (.inl n)) (hC' : CT 17 hp s q p r hm fx TK BR ST) : ∃ hp', (∃ N, ∀ fuel, N ≤ fuel → vCalD vms vdf fuel 60 285 [(.inr (.inr (.inr (.inl (some 0))))), .inl w] hp = some (some (.inl (cV s q r p hm n w)), hp', 0, 0)) ∧ sFr [] hp hp' := by
  obtain ⟨a0, a1, a2, a3, a4, -⟩ := hC'
  by_cases h : w < 6
  · rcases (show w = 0 ∨ w = 1 ∨ w = 2 ∨ w = 3 ∨ w = 4 ∨ w = 5 by omega) with rfl | rfl | rfl | rfl | rfl | rfl
    · exact cx17_0 hs h0 a0
    · exact cx17_1 hs h0 a1
    · exact cx17_2 hs h0 a2
    · exact cx17_3 hs h0 a3
    · exact cx17_4 hs h0 a4
    · exact cx_5 (eSh_mem hs (by decide)) h1
  · obtain ⟨r', hp', g1, g2, g3, g4⟩ := cnX_ok 60 (by decide) [yV 0, .inl w] hp ⟨rfl, ⟨w, hw, rest6 hw h, rfl⟩, trivial⟩ (fun k hk => absurd hk List.not_mem_nil)
    have e := zRtN g2
    subst e
    have e : cV s q r p hm n w = 4294967295 := by
      unfold cV
      rw [if_neg (by omega), if_neg (by omega), if_neg (by omega), if_neg (by omega), if_neg (by omega), if_neg (by omega)]
    rw [e]
    exact ⟨hp', g1, g3⟩
theorem cntM {hp : List vOb} {s q p r hm fx n w : Nat} {TK BR ST : Nat → Nat} (hw : w < 4294967296) (hty : kTy hT [220] hp) (hs : eSh [(220, 96, 60), (222, 1, 323)] hp) (h0 : hC hp 220 6 (.inr (.inr (.inr (.inl (some 222)))))) (h1 : hC hp 220 2 (.inl n)) (hM : MT 0 222 hp s q p r hm fx TK BR ST) : ∃ hp', (∃ N, ∀ fuel, N ≤ fuel → vCalD vms vdf fuel 60 286 [(.inr (.inr (.inr (.inl (some 220))))), .inl w] hp = some (some (.inl (cV s q r p hm n w)), hp', 0, 0)) ∧ sFr [(220, 0, 0)] hp hp' := by
  obtain ⟨a0, a1, a2, a3, a4, -⟩ := hM
  by_cases h : w < 6
  · rcases (show w = 0 ∨ w = 1 ∨ w = 2 ∨ w = 3 ∨ w = 4 ∨ w = 5 by omega) with rfl | rfl | rfl | rfl | rfl | rfl
    · exact cm_0 hs h0 a0
    · exact cm_1 hs h0 a1
    · exact cm_2 hs h0 a2
    · exact cm_3 hs h0 a3
    · exact cm_4 hs h0 a4
    · exact cm_5 (eSh_mem hs (by decide)) h1
  · obtain ⟨r', hp', g1, g2, g3, g4⟩ := cnM_ok 60 (by decide) [yV 220, .inl w] hp ⟨rfl, ⟨w, hw, rest6 hw h, rfl⟩, trivial⟩ hty
    have e := zRtN g2
    subst e
    have e : cV s q r p hm n w = 4294967295 := by
      unfold cV
      rw [if_neg (by omega), if_neg (by omega), if_neg (by omega), if_neg (by omega), if_neg (by omega), if_neg (by omega)]
    rw [e]
    exact ⟨hp', g1, g3⟩
set_option maxRecDepth 100000 in
theorem cq_a0 : ([(0, 88, 19), (4, 72, 19)] : List (Nat × Nat × Nat)).all (fun e => sStop e.1 plC && (match sGo hTc0 e.1 with
  | some o => Nat.beq o.1 e.2.1 && Nat.beq (sLen o.2.1) e.2.2
  | none => false)) = true := by decide +kernel
set_option maxRecDepth 100000 in
theorem cq_a1 : ([(0, 88, 19), (17, 72, 19)] : List (Nat × Nat × Nat)).all (fun e => sStop e.1 plC && (match sGo hTc1 e.1 with
  | some o => Nat.beq o.1 e.2.1 && Nat.beq (sLen o.2.1) e.2.2
  | none => false)) = true := by decide +kernel
set_option maxRecDepth 100000 in
theorem cq_a2 : ([(0, 88, 19), (4, 72, 19)] : List (Nat × Nat × Nat)).all (fun e => sStop e.1 plC && (match sGo hTc2 e.1 with
  | some o => Nat.beq o.1 e.2.1 && Nat.beq (sLen o.2.1) e.2.2
  | none => false)) = true := by decide +kernel
set_option maxRecDepth 100000 in
theorem cq_a3 : ([(0, 88, 19), (17, 72, 19)] : List (Nat × Nat × Nat)).all (fun e => sStop e.1 plC && (match sGo hTc3 e.1 with
  | some o => Nat.beq o.1 e.2.1 && Nat.beq (sLen o.2.1) e.2.2
  | none => false)) = true := by decide +kernel
set_option maxRecDepth 100000 in
theorem cq_m0 : ([(220, 96, 60), (222, 1, 323)] : List (Nat × Nat × Nat)).all (fun e => sStop e.1 plM && (match sGo hTr0 e.1 with
  | some o => Nat.beq o.1 e.2.1 && Nat.beq (sLen o.2.1) e.2.2
  | none => false)) = true := by decide +kernel
set_option maxRecDepth 100000 in
theorem cq_m1 : ([(220, 96, 60), (222, 1, 323)] : List (Nat × Nat × Nat)).all (fun e => sStop e.1 plM && (match sGo hTr1 e.1 with
  | some o => Nat.beq o.1 e.2.1 && Nat.beq (sLen o.2.1) e.2.2
  | none => false)) = true := by decide +kernel
set_option maxRecDepth 100000 in
theorem cq_m2 : ([(220, 96, 60), (222, 1, 323)] : List (Nat × Nat × Nat)).all (fun e => sStop e.1 plM && (match sGo hTr2 e.1 with
  | some o => Nat.beq o.1 e.2.1 && Nat.beq (sLen o.2.1) e.2.2
  | none => false)) = true := by decide +kernel
set_option maxRecDepth 100000 in
theorem cq_m3 : ([(220, 96, 60), (222, 1, 323)] : List (Nat × Nat × Nat)).all (fun e => sStop e.1 plM && (match sGo hTr3 e.1 with
  | some o => Nat.beq o.1 e.2.1 && Nat.beq (sLen o.2.1) e.2.2
  | none => false)) = true := by decide +kernel
/-- the class's place of the TOWN, by its typing -/
def cqP (c : Nat) : Prop := ∀ hp, kTy (hTcN c) plC hp → ∃ t, ((t = 4) ∨ (t = 17)) ∧ hC hp 0 2 (yV t) ∧ eSh [(0, 88, 19), (t, 72, 19)] hp
theorem cqP_0 : cqP 0 := fun hp h => ⟨4, Or.inl rfl, ref_ty (T := hTc0) (plC_in (by decide)) rfl rfl h, eSh_ty cq_a0 h⟩
theorem cqP_1 : cqP 1 := fun hp h => ⟨17, Or.inr rfl, ref_ty (T := hTc1) (plC_in (by decide)) rfl rfl h, eSh_ty cq_a1 h⟩
theorem cqP_2 : cqP 2 := fun hp h => ⟨4, Or.inl rfl, ref_ty (T := hTc2) (plC_in (by decide)) rfl rfl h, eSh_ty cq_a2 h⟩
theorem cqP_3 : cqP 3 := fun hp h => ⟨17, Or.inr rfl, ref_ty (T := hTc3) (plC_in (by decide)) rfl rfl h, eSh_ty cq_a3 h⟩
def cqM (v : Nat) : Prop := ∀ hp, kTy (hTrN v) plM hp → hC hp 220 6 (yV 222) ∧ eSh [(220, 96, 60), (222, 1, 323)] hp
theorem cqM_0 : cqM 0 := fun hp h => ⟨ref_ty (T := hTr0) (by decide) rfl rfl h, eSh_ty cq_m0 h⟩
theorem cqM_1 : cqM 1 := fun hp h => ⟨ref_ty (T := hTr1) (by decide) rfl rfl h, eSh_ty cq_m1 h⟩
theorem cqM_2 : cqM 2 := fun hp h => ⟨ref_ty (T := hTr2) (by decide) rfl rfl h, eSh_ty cq_m2 h⟩
theorem cqM_3 : cqM 3 := fun hp h => ⟨ref_ty (T := hTr3) (by decide) rfl rfl h, eSh_ty cq_m3 h⟩
theorem eq_count : EqOK3 285 286 1 := by
  intro hp args hI3 hl hi
  match args, hl with
  | [a], _ =>
    obtain ⟨w, hw, e0⟩ := hi a List.mem_cons_self
    subst e0
    have hR := hI3.2
    obtain ⟨hI, ⟨n, τ, hn, hx, hm, hT⟩, hK0, ⟨t0, s, q, p, r, hm', fx, TK, BR, ST, ht0, h020, hB, hC0, hM0⟩, hIM⟩ := hI3
    obtain ⟨u, hp1, a1, a2, hI1⟩ := xCall (four xk_count_0 xk_count_1 xk_count_2 xk_count_3) hp [.inl w] hI rfl hi
    obtain ⟨v', hp2, d1, d2, hI2⟩ := mCall (four mk_count_0 mk_count_1 mk_count_2 mk_count_3) hp1 [.inl w] hI1 rfl hi
    obtain ⟨c, c1, c2⟩ := hI.1.1
    obtain ⟨t, ht, h02, hs⟩ := four (P := cqP) cqP_0 cqP_1 cqP_2 cqP_3 c c1 hp c2
    have et : t0 = t := Option.some.inj (Sum.inl.inj (Sum.inr.inj (Sum.inr.inj (Sum.inr.inj (hC_fun h020 h02)))))
    subst et
    obtain ⟨hpx, x1, x2⟩ : ∃ hp', (∃ N, ∀ fuel, N ≤ fuel → vCalD vms vdf fuel 60 285 [yV 0, .inl w] hp = some (some (.inl (cV s q r p hm' n w)), hp', 0, 0)) ∧ sFr [] hp hp' := by
      rcases ht with rfl | rfl
      · exact cntX4 hw hs h02 hx hC0
      · exact cntX17 hw hs h02 hx hC0
    have ex := cal_det3 x1 a1
    have e1 := ex.2
    subst e1
    have hu := Sum.inl.inj (Option.some.inj ex.1)
    have nn : ∀ k i, ¬ sMin [] k i := fun k i ⟨m, m1, _⟩ => by cases m1
    obtain ⟨v, v1, v2⟩ := hI1.2.1
    obtain ⟨y0, ys⟩ := four (P := cqM) cqM_0 cqM_1 cqM_2 cqM_3 v v1 hpx v2
    obtain ⟨hpy, y1, y2⟩ := cntM hw (kTy_sub (pl' := [220]) (by decide) (rW v1 v2)) ys y0 (hC_fr x2 (nn _ _) hm) (MT_fr hB.2.2.2.1 x2 (fun i _ _ => nn _ _) hM0)
    have ey := cal_det3 y1 d1
    have e2 := ey.2
    subst e2
    refine ⟨cV s q r p hm' n w, hpx, by rw [hu]; exact a2, x1, hI1, hpy, y1, hI2, RB_keep y2 (by decide) (RB_keep x2 rfl hR)⟩
