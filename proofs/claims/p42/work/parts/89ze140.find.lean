/-! ===== find(), isName(): their ways ===== -/
def sh4 : List (Nat × Nat × Nat) := [(4, 72, 19), (15, 4, 24), (16, 1, 24)]
def sh17 : List (Nat × Nat × Nat) := [(17, 72, 19), (28, 4, 24), (29, 1, 24)]
set_option maxRecDepth 1000000 in
theorem xf_0_4_k : eQ (eRun sh4 (eCalI eNo vms sh4 400 8) vt_X9_find [2] 2 [] (0, [some (.inr (.inr (some 4))), some (.inr (.inl [(1, 0)])), none, none], [], [], [])) (2, [some (.inr (.inr (some 4))), some (.inr (.inl [(1, 0)])), none, some (.inl [(0, 0)])], [], [], []) [] [] = true := by decide +kernel
theorem xf_0_4 {d : Nat} (hd : 8 ≤ d) {hp : List vOb} {kl : vLs} {w : Nat} (hs : eSh sh4 hp) (hl : cLm [some (.inr (.inr (.inr (.inl (some 4))))), some (.inr (.inr (.inl w))), none, none] kl)   : ∃ kl' hp', kRe vms vdf d vt_X9_find 0 0 (0, kl, [], hp) (2, kl', [], hp') ∧ cLm [some (.inr (.inr (.inr (.inl (some 4))))), some (.inr (.inr (.inl w))), none, some (.inl 0)] kl' ∧ sFr [] hp hp' := by
  obtain ⟨kl1, hp1, k1, k2, k3, k4⟩ := e_go (vms := vms) (df := vdf) (d := d) (ρ := (rL [w])) hd xf_0_4_k rfl hs all_nil (eLm_in (ρ := (rL [w])) (ls := [some (.inr (.inr (some 4))), some (.inr (.inl [(1, 0)])), none, none]) (vs := [some (.inr (.inr (.inr (.inl (some 4))))), some (.inr (.inr (.inl w))), none, none]) ⟨eCv_r, ⟨(eCv_l (eR_s (j := 0) (u := w) rfl)), trivial⟩⟩ hl) eDt_nil
  rw [eMd_nil] at k4
  exact ⟨kl1, hp1, k1, eLm_out (ρ := (rL [w])) (ls := [some (.inr (.inr (some 4))), some (.inr (.inl [(1, 0)])), none, some (.inl [(0, 0)])]) (vs := [some (.inr (.inr (.inr (.inl (some 4))))), some (.inr (.inr (.inl w))), none, some (.inl 0)]) ⟨eCv_r, ⟨(eCv_l (eR_s (j := 0) (u := w) rfl)), ⟨(eCv_i (eR_c _ 0)), trivial⟩⟩⟩ k2, k4⟩
set_option maxRecDepth 1000000 in
theorem xf_n_4_k : eQ (eRun sh4 (eCalI eNo vms sh4 400 8) vt_X9_find [2] 13 [false, true] (2, [some (.inr (.inr (some 4))), some (.inr (.inl [(1, 1)])), none, some (.inl [(1, 0)])], [], [(4, [(0, 18)], .inl [(1, 2)], []), (4, [(0, 16)], .inr (.inr (some 15)), []), (15, [(1, 0)], .inr (.inl [(1, 3)]), [])], [])) (2, [some (.inr (.inr (some 4))), some (.inr (.inl [(1, 1)])), none, some (.inl [(1, 0), (0, 1), (2, 0)])], [], [(4, [(0, 18)], .inl [(1, 2)], []), (4, [(0, 16)], .inr (.inr (some 15)), []), (15, [(1, 0)], .inr (.inl [(1, 3)]), [])], []) [(3, [(1, 0)], [(1, 2)], false), (1, [(1, 3), (1, 1), (2, 15)], [(0, 0)], true)] [] = true := by decide +kernel
theorem xf_n_4 {d : Nat} (hd : 8 ≤ d) {hp : List vOb} {kl : vLs} {i w c k : Nat} (hs : eSh sh4 hp) (hl : cLm [some (.inr (.inr (.inr (.inl (some 4))))), some (.inr (.inr (.inl w))), none, some (.inl i)] kl) (h0 : hC hp 4 18 (.inl c)) (h1 : hC hp 4 16 (.inr (.inr (.inr (.inl (some 15)))))) (h2 : hC hp 15 i (.inr (.inr (.inl k)))) (hi : i < 2147483648) (hc : c < 2147483648) (c1 : i < c) (c2 : eLc k w ≠ 0) : ∃ kl' hp', kRe vms vdf d vt_X9_find 0 0 (2, kl, [], hp) (2, kl', [], hp') ∧ cLm [some (.inr (.inr (.inr (.inl (some 4))))), some (.inr (.inr (.inl w))), none, some (.inl (eBn 0 i 1))] kl' ∧ sFr [] hp hp' := by
  have hlc := eLc_lt k w
  obtain ⟨kl1, hp1, k1, k2, k3, k4⟩ := e_go (vms := vms) (df := vdf) (d := d) (ρ := (rL [i, w, c, k])) hd xf_n_4_k rfl hs (all_cons (eCo_of (u := i) (w := c) (eR_val (eR_s (j := 0) (u := i) rfl)) (eR_val (eR_s (j := 2) (u := c) rfl)) (by decide) (kc3f (by unfold sBi; omega))) (all_cons (eCo_of (u := (eLc k w)) (w := 0) ((eR_val (eR_b 15 (eR_s (j := 3) (u := k) rfl) (eR_s (j := 1) (u := w) rfl))).trans rfl) (eR_val (eR_c _ 0)) (by decide) (kc1t (by unfold sBi; omega))) all_nil)) (eLm_in (ρ := (rL [i, w, c, k])) (ls := [some (.inr (.inr (some 4))), some (.inr (.inl [(1, 1)])), none, some (.inl [(1, 0)])]) (vs := [some (.inr (.inr (.inr (.inl (some 4))))), some (.inr (.inr (.inl w))), none, some (.inl i)]) ⟨eCv_r, ⟨(eCv_l (eR_s (j := 1) (u := w) rfl)), ⟨(eCv_i (eR_s (j := 0) (u := i) rfl)), trivial⟩⟩⟩ hl) (eDt_add (eR_c _ 18) (eCv_i (eR_s (j := 2) (u := c) rfl)) h0 (eDt_add (eR_c _ 16) eCv_r h1 (eDt_add (eR_s (j := 0) (u := i) rfl) (eCv_l (eR_s (j := 3) (u := k) rfl)) h2 eDt_nil)))
  rw [eMd_nil] at k4
  exact ⟨kl1, hp1, k1, eLm_out (ρ := (rL [i, w, c, k])) (ls := [some (.inr (.inr (some 4))), some (.inr (.inl [(1, 1)])), none, some (.inl [(1, 0), (0, 1), (2, 0)])]) (vs := [some (.inr (.inr (.inr (.inl (some 4))))), some (.inr (.inr (.inl w))), none, some (.inl (eBn 0 i 1))]) ⟨eCv_r, ⟨(eCv_l (eR_s (j := 1) (u := w) rfl)), ⟨(eCv_i (eR_b 0 (eR_s (j := 0) (u := i) rfl) (eR_c _ 1))), trivial⟩⟩⟩ k2, k4⟩
set_option maxRecDepth 1000000 in
theorem xf_e_4_k : eQ (eRun sh4 (eCalI eNo vms sh4 400 8) vt_X9_find [] 15 [false, false] (2, [some (.inr (.inr (some 4))), some (.inr (.inl [(1, 1)])), none, some (.inl [(1, 0)])], [], [(4, [(0, 18)], .inl [(1, 2)], []), (4, [(0, 16)], .inr (.inr (some 15)), []), (4, [(0, 17)], .inr (.inr (some 16)), []), (15, [(1, 0)], .inr (.inl [(1, 3)]), []), (16, [(1, 0)], .inl [(1, 4)], [])], [])) (27, [some (.inr (.inr (some 4))), some (.inr (.inl [(1, 1)])), none, some (.inl [(1, 0)])], [.inl [(1, 4)]], [(4, [(0, 18)], .inl [(1, 2)], []), (4, [(0, 16)], .inr (.inr (some 15)), []), (4, [(0, 17)], .inr (.inr (some 16)), []), (15, [(1, 0)], .inr (.inl [(1, 3)]), []), (16, [(1, 0)], .inl [(1, 4)], [])], []) [(3, [(1, 0)], [(1, 2)], false), (1, [(1, 3), (1, 1), (2, 15)], [(0, 0)], false)] [] = true := by decide +kernel
theorem xf_e_4 {d : Nat} (hd : 8 ≤ d) {hp : List vOb} {kl : vLs} {i w c k v : Nat} (hs : eSh sh4 hp) (hl : cLm [some (.inr (.inr (.inr (.inl (some 4))))), some (.inr (.inr (.inl w))), none, some (.inl i)] kl) (h0 : hC hp 4 18 (.inl c)) (h1 : hC hp 4 16 (.inr (.inr (.inr (.inl (some 15)))))) (h2 : hC hp 4 17 (.inr (.inr (.inr (.inl (some 16)))))) (h3 : hC hp 15 i (.inr (.inr (.inl k)))) (h4 : hC hp 16 i (.inl v)) (hi : i < 2147483648) (hc : c < 2147483648) (c1 : i < c) (c2 : k = w) : ∃ kl' hp', kRe vms vdf d vt_X9_find 0 0 (2, kl, [], hp) (27, kl', [.inl v], hp') ∧ cLm [some (.inr (.inr (.inr (.inl (some 4))))), some (.inr (.inr (.inl w))), none, some (.inl i)] kl' ∧ sFr [] hp hp' := by
  obtain ⟨kl1, hp1, k1, k2, k3, k4⟩ := e_go (vms := vms) (df := vdf) (d := d) (ρ := (rL [i, w, c, k, v])) hd xf_e_4_k rfl hs (all_cons (eCo_of (u := i) (w := c) (eR_val (eR_s (j := 0) (u := i) rfl)) (eR_val (eR_s (j := 2) (u := c) rfl)) (by decide) (kc3f (by unfold sBi; omega))) (all_cons (eCo_of (u := 0) (w := 0) ((eR_val (eR_b 15 (eR_s (j := 3) (u := k) rfl) (eR_s (j := 1) (u := w) rfl))).trans (show eLc k w = 0 from c2 ▸ eLc_rf k)) (eR_val (eR_c _ 0)) (by decide) (kc1f (by unfold sBi; omega))) all_nil)) (eLm_in (ρ := (rL [i, w, c, k, v])) (ls := [some (.inr (.inr (some 4))), some (.inr (.inl [(1, 1)])), none, some (.inl [(1, 0)])]) (vs := [some (.inr (.inr (.inr (.inl (some 4))))), some (.inr (.inr (.inl w))), none, some (.inl i)]) ⟨eCv_r, ⟨(eCv_l (eR_s (j := 1) (u := w) rfl)), ⟨(eCv_i (eR_s (j := 0) (u := i) rfl)), trivial⟩⟩⟩ hl) (eDt_add (eR_c _ 18) (eCv_i (eR_s (j := 2) (u := c) rfl)) h0 (eDt_add (eR_c _ 16) eCv_r h1 (eDt_add (eR_c _ 17) eCv_r h2 (eDt_add (eR_s (j := 0) (u := i) rfl) (eCv_l (eR_s (j := 3) (u := k) rfl)) h3 (eDt_add (eR_s (j := 0) (u := i) rfl) (eCv_i (eR_s (j := 4) (u := v) rfl)) h4 eDt_nil)))))
  rw [eSt_nil, (eSt_cons (eCv_i (eR_s (j := 4) (u := v) rfl)) eSt_nil)] at k1
  rw [eMd_nil] at k4
  exact ⟨kl1, hp1, k1, eLm_out (ρ := (rL [i, w, c, k, v])) (ls := [some (.inr (.inr (some 4))), some (.inr (.inl [(1, 1)])), none, some (.inl [(1, 0)])]) (vs := [some (.inr (.inr (.inr (.inl (some 4))))), some (.inr (.inr (.inl w))), none, some (.inl i)]) ⟨eCv_r, ⟨(eCv_l (eR_s (j := 1) (u := w) rfl)), ⟨(eCv_i (eR_s (j := 0) (u := i) rfl)), trivial⟩⟩⟩ k2, k4⟩
set_option maxRecDepth 1000000 in
theorem xf_x_4_k : eQ (eRun sh4 (eCalI eNo vms sh4 400 8) vt_X9_find [] 5 [true] (2, [some (.inr (.inr (some 4))), some (.inr (.inl [(1, 1)])), none, some (.inl [(1, 0)])], [], [(4, [(0, 18)], .inl [(1, 2)], [])], [])) (35, [some (.inr (.inr (some 4))), some (.inr (.inl [(1, 1)])), none, some (.inl [(1, 0)])], [.inl [(0, 4294967295)]], [(4, [(0, 18)], .inl [(1, 2)], [])], []) [(3, [(1, 0)], [(1, 2)], true)] [] = true := by decide +kernel
theorem xf_x_4 {d : Nat} (hd : 8 ≤ d) {hp : List vOb} {kl : vLs} {i w c : Nat} (hs : eSh sh4 hp) (hl : cLm [some (.inr (.inr (.inr (.inl (some 4))))), some (.inr (.inr (.inl w))), none, some (.inl i)] kl) (h0 : hC hp 4 18 (.inl c)) (hi : i < 2147483648) (hc : c < 2147483648) (c1 : c ≤ i) : ∃ kl' hp', kRe vms vdf d vt_X9_find 0 0 (2, kl, [], hp) (35, kl', [.inl 4294967295], hp') ∧ cLm [some (.inr (.inr (.inr (.inl (some 4))))), some (.inr (.inr (.inl w))), none, some (.inl i)] kl' ∧ sFr [] hp hp' := by
  obtain ⟨kl1, hp1, k1, k2, k3, k4⟩ := e_go (vms := vms) (df := vdf) (d := d) (ρ := (rL [i, w, c])) hd xf_x_4_k rfl hs (all_cons (eCo_of (u := i) (w := c) (eR_val (eR_s (j := 0) (u := i) rfl)) (eR_val (eR_s (j := 2) (u := c) rfl)) (by decide) (kc3t (by unfold sBi; omega))) all_nil) (eLm_in (ρ := (rL [i, w, c])) (ls := [some (.inr (.inr (some 4))), some (.inr (.inl [(1, 1)])), none, some (.inl [(1, 0)])]) (vs := [some (.inr (.inr (.inr (.inl (some 4))))), some (.inr (.inr (.inl w))), none, some (.inl i)]) ⟨eCv_r, ⟨(eCv_l (eR_s (j := 1) (u := w) rfl)), ⟨(eCv_i (eR_s (j := 0) (u := i) rfl)), trivial⟩⟩⟩ hl) (eDt_add (eR_c _ 18) (eCv_i (eR_s (j := 2) (u := c) rfl)) h0 eDt_nil)
  rw [eSt_nil, (eSt_cons (eCv_i (eR_c _ 4294967295)) eSt_nil)] at k1
  rw [eMd_nil] at k4
  exact ⟨kl1, hp1, k1, eLm_out (ρ := (rL [i, w, c])) (ls := [some (.inr (.inr (some 4))), some (.inr (.inl [(1, 1)])), none, some (.inl [(1, 0)])]) (vs := [some (.inr (.inr (.inr (.inl (some 4))))), some (.inr (.inr (.inl w))), none, some (.inl i)]) ⟨eCv_r, ⟨(eCv_l (eR_s (j := 1) (u := w) rfl)), ⟨(eCv_i (eR_s (j := 0) (u := i) rfl)), trivial⟩⟩⟩ k2, k4⟩
set_option maxRecDepth 1000000 in
theorem xf_0_17_k : eQ (eRun sh17 (eCalI eNo vms sh17 400 8) vt_X9_find [2] 2 [] (0, [some (.inr (.inr (some 17))), some (.inr (.inl [(1, 0)])), none, none], [], [], [])) (2, [some (.inr (.inr (some 17))), some (.inr (.inl [(1, 0)])), none, some (.inl [(0, 0)])], [], [], []) [] [] = true := by decide +kernel
theorem xf_0_17 {d : Nat} (hd : 8 ≤ d) {hp : List vOb} {kl : vLs} {w : Nat} (hs : eSh sh17 hp) (hl : cLm [some (.inr (.inr (.inr (.inl (some 17))))), some (.inr (.inr (.inl w))), none, none] kl)   : ∃ kl' hp', kRe vms vdf d vt_X9_find 0 0 (0, kl, [], hp) (2, kl', [], hp') ∧ cLm [some (.inr (.inr (.inr (.inl (some 17))))), some (.inr (.inr (.inl w))), none, some (.inl 0)] kl' ∧ sFr [] hp hp' := by
  obtain ⟨kl1, hp1, k1, k2, k3, k4⟩ := e_go (vms := vms) (df := vdf) (d := d) (ρ := (rL [w])) hd xf_0_17_k rfl hs all_nil (eLm_in (ρ := (rL [w])) (ls := [some (.inr (.inr (some 17))), some (.inr (.inl [(1, 0)])), none, none]) (vs := [some (.inr (.inr (.inr (.inl (some 17))))), some (.inr (.inr (.inl w))), none, none]) ⟨eCv_r, ⟨(eCv_l (eR_s (j := 0) (u := w) rfl)), trivial⟩⟩ hl) eDt_nil
  rw [eMd_nil] at k4
  exact ⟨kl1, hp1, k1, eLm_out (ρ := (rL [w])) (ls := [some (.inr (.inr (some 17))), some (.inr (.inl [(1, 0)])), none, some (.inl [(0, 0)])]) (vs := [some (.inr (.inr (.inr (.inl (some 17))))), some (.inr (.inr (.inl w))), none, some (.inl 0)]) ⟨eCv_r, ⟨(eCv_l (eR_s (j := 0) (u := w) rfl)), ⟨(eCv_i (eR_c _ 0)), trivial⟩⟩⟩ k2, k4⟩
set_option maxRecDepth 1000000 in
theorem xf_n_17_k : eQ (eRun sh17 (eCalI eNo vms sh17 400 8) vt_X9_find [2] 13 [false, true] (2, [some (.inr (.inr (some 17))), some (.inr (.inl [(1, 1)])), none, some (.inl [(1, 0)])], [], [(17, [(0, 18)], .inl [(1, 2)], []), (17, [(0, 16)], .inr (.inr (some 28)), []), (28, [(1, 0)], .inr (.inl [(1, 3)]), [])], [])) (2, [some (.inr (.inr (some 17))), some (.inr (.inl [(1, 1)])), none, some (.inl [(1, 0), (0, 1), (2, 0)])], [], [(17, [(0, 18)], .inl [(1, 2)], []), (17, [(0, 16)], .inr (.inr (some 28)), []), (28, [(1, 0)], .inr (.inl [(1, 3)]), [])], []) [(3, [(1, 0)], [(1, 2)], false), (1, [(1, 3), (1, 1), (2, 15)], [(0, 0)], true)] [] = true := by decide +kernel
theorem xf_n_17 {d : Nat} (hd : 8 ≤ d) {hp : List vOb} {kl : vLs} {i w c k : Nat} (hs : eSh sh17 hp) (hl : cLm [some (.inr (.inr (.inr (.inl (some 17))))), some (.inr (.inr (.inl w))), none, some (.inl i)] kl) (h0 : hC hp 17 18 (.inl c)) (h1 : hC hp 17 16 (.inr (.inr (.inr (.inl (some 28)))))) (h2 : hC hp 28 i (.inr (.inr (.inl k)))) (hi : i < 2147483648) (hc : c < 2147483648) (c1 : i < c) (c2 : eLc k w ≠ 0) : ∃ kl' hp', kRe vms vdf d vt_X9_find 0 0 (2, kl, [], hp) (2, kl', [], hp') ∧ cLm [some (.inr (.inr (.inr (.inl (some 17))))), some (.inr (.inr (.inl w))), none, some (.inl (eBn 0 i 1))] kl' ∧ sFr [] hp hp' := by
  have hlc := eLc_lt k w
  obtain ⟨kl1, hp1, k1, k2, k3, k4⟩ := e_go (vms := vms) (df := vdf) (d := d) (ρ := (rL [i, w, c, k])) hd xf_n_17_k rfl hs (all_cons (eCo_of (u := i) (w := c) (eR_val (eR_s (j := 0) (u := i) rfl)) (eR_val (eR_s (j := 2) (u := c) rfl)) (by decide) (kc3f (by unfold sBi; omega))) (all_cons (eCo_of (u := (eLc k w)) (w := 0) ((eR_val (eR_b 15 (eR_s (j := 3) (u := k) rfl) (eR_s (j := 1) (u := w) rfl))).trans rfl) (eR_val (eR_c _ 0)) (by decide) (kc1t (by unfold sBi; omega))) all_nil)) (eLm_in (ρ := (rL [i, w, c, k])) (ls := [some (.inr (.inr (some 17))), some (.inr (.inl [(1, 1)])), none, some (.inl [(1, 0)])]) (vs := [some (.inr (.inr (.inr (.inl (some 17))))), some (.inr (.inr (.inl w))), none, some (.inl i)]) ⟨eCv_r, ⟨(eCv_l (eR_s (j := 1) (u := w) rfl)), ⟨(eCv_i (eR_s (j := 0) (u := i) rfl)), trivial⟩⟩⟩ hl) (eDt_add (eR_c _ 18) (eCv_i (eR_s (j := 2) (u := c) rfl)) h0 (eDt_add (eR_c _ 16) eCv_r h1 (eDt_add (eR_s (j := 0) (u := i) rfl) (eCv_l (eR_s (j := 3) (u := k) rfl)) h2 eDt_nil)))
  rw [eMd_nil] at k4
  exact ⟨kl1, hp1, k1, eLm_out (ρ := (rL [i, w, c, k])) (ls := [some (.inr (.inr (some 17))), some (.inr (.inl [(1, 1)])), none, some (.inl [(1, 0), (0, 1), (2, 0)])]) (vs := [some (.inr (.inr (.inr (.inl (some 17))))), some (.inr (.inr (.inl w))), none, some (.inl (eBn 0 i 1))]) ⟨eCv_r, ⟨(eCv_l (eR_s (j := 1) (u := w) rfl)), ⟨(eCv_i (eR_b 0 (eR_s (j := 0) (u := i) rfl) (eR_c _ 1))), trivial⟩⟩⟩ k2, k4⟩
set_option maxRecDepth 1000000 in
theorem xf_e_17_k : eQ (eRun sh17 (eCalI eNo vms sh17 400 8) vt_X9_find [] 15 [false, false] (2, [some (.inr (.inr (some 17))), some (.inr (.inl [(1, 1)])), none, some (.inl [(1, 0)])], [], [(17, [(0, 18)], .inl [(1, 2)], []), (17, [(0, 16)], .inr (.inr (some 28)), []), (17, [(0, 17)], .inr (.inr (some 29)), []), (28, [(1, 0)], .inr (.inl [(1, 3)]), []), (29, [(1, 0)], .inl [(1, 4)], [])], [])) (27, [some (.inr (.inr (some 17))), some (.inr (.inl [(1, 1)])), none, some (.inl [(1, 0)])], [.inl [(1, 4)]], [(17, [(0, 18)], .inl [(1, 2)], []), (17, [(0, 16)], .inr (.inr (some 28)), []), (17, [(0, 17)], .inr (.inr (some 29)), []), (28, [(1, 0)], .inr (.inl [(1, 3)]), []), (29, [(1, 0)], .inl [(1, 4)], [])], []) [(3, [(1, 0)], [(1, 2)], false), (1, [(1, 3), (1, 1), (2, 15)], [(0, 0)], false)] [] = true := by decide +kernel
theorem xf_e_17 {d : Nat} (hd : 8 ≤ d) {hp : List vOb} {kl : vLs} {i w c k v : Nat} (hs : eSh sh17 hp) (hl : cLm [some (.inr (.inr (.inr (.inl (some 17))))), some (.inr (.inr (.inl w))), none, some (.inl i)] kl) (h0 : hC hp 17 18 (.inl c)) (h1 : hC hp 17 16 (.inr (.inr (.inr (.inl (some 28)))))) (h2 : hC hp 17 17 (.inr (.inr (.inr (.inl (some 29)))))) (h3 : hC hp 28 i (.inr (.inr (.inl k)))) (h4 : hC hp 29 i (.inl v)) (hi : i < 2147483648) (hc : c < 2147483648) (c1 : i < c) (c2 : k = w) : ∃ kl' hp', kRe vms vdf d vt_X9_find 0 0 (2, kl, [], hp) (27, kl', [.inl v], hp') ∧ cLm [some (.inr (.inr (.inr (.inl (some 17))))), some (.inr (.inr (.inl w))), none, some (.inl i)] kl' ∧ sFr [] hp hp' := by
  obtain ⟨kl1, hp1, k1, k2, k3, k4⟩ := e_go (vms := vms) (df := vdf) (d := d) (ρ := (rL [i, w, c, k, v])) hd xf_e_17_k rfl hs (all_cons (eCo_of (u := i) (w := c) (eR_val (eR_s (j := 0) (u := i) rfl)) (eR_val (eR_s (j := 2) (u := c) rfl)) (by decide) (kc3f (by unfold sBi; omega))) (all_cons (eCo_of (u := 0) (w := 0) ((eR_val (eR_b 15 (eR_s (j := 3) (u := k) rfl) (eR_s (j := 1) (u := w) rfl))).trans (show eLc k w = 0 from c2 ▸ eLc_rf k)) (eR_val (eR_c _ 0)) (by decide) (kc1f (by unfold sBi; omega))) all_nil)) (eLm_in (ρ := (rL [i, w, c, k, v])) (ls := [some (.inr (.inr (some 17))), some (.inr (.inl [(1, 1)])), none, some (.inl [(1, 0)])]) (vs := [some (.inr (.inr (.inr (.inl (some 17))))), some (.inr (.inr (.inl w))), none, some (.inl i)]) ⟨eCv_r, ⟨(eCv_l (eR_s (j := 1) (u := w) rfl)), ⟨(eCv_i (eR_s (j := 0) (u := i) rfl)), trivial⟩⟩⟩ hl) (eDt_add (eR_c _ 18) (eCv_i (eR_s (j := 2) (u := c) rfl)) h0 (eDt_add (eR_c _ 16) eCv_r h1 (eDt_add (eR_c _ 17) eCv_r h2 (eDt_add (eR_s (j := 0) (u := i) rfl) (eCv_l (eR_s (j := 3) (u := k) rfl)) h3 (eDt_add (eR_s (j := 0) (u := i) rfl) (eCv_i (eR_s (j := 4) (u := v) rfl)) h4 eDt_nil)))))
  rw [eSt_nil, (eSt_cons (eCv_i (eR_s (j := 4) (u := v) rfl)) eSt_nil)] at k1
  rw [eMd_nil] at k4
  exact ⟨kl1, hp1, k1, eLm_out (ρ := (rL [i, w, c, k, v])) (ls := [some (.inr (.inr (some 17))), some (.inr (.inl [(1, 1)])), none, some (.inl [(1, 0)])]) (vs := [some (.inr (.inr (.inr (.inl (some 17))))), some (.inr (.inr (.inl w))), none, some (.inl i)]) ⟨eCv_r, ⟨(eCv_l (eR_s (j := 1) (u := w) rfl)), ⟨(eCv_i (eR_s (j := 0) (u := i) rfl)), trivial⟩⟩⟩ k2, k4⟩
set_option maxRecDepth 1000000 in
theorem xf_x_17_k : eQ (eRun sh17 (eCalI eNo vms sh17 400 8) vt_X9_find [] 5 [true] (2, [some (.inr (.inr (some 17))), some (.inr (.inl [(1, 1)])), none, some (.inl [(1, 0)])], [], [(17, [(0, 18)], .inl [(1, 2)], [])], [])) (35, [some (.inr (.inr (some 17))), some (.inr (.inl [(1, 1)])), none, some (.inl [(1, 0)])], [.inl [(0, 4294967295)]], [(17, [(0, 18)], .inl [(1, 2)], [])], []) [(3, [(1, 0)], [(1, 2)], true)] [] = true := by decide +kernel
theorem xf_x_17 {d : Nat} (hd : 8 ≤ d) {hp : List vOb} {kl : vLs} {i w c : Nat} (hs : eSh sh17 hp) (hl : cLm [some (.inr (.inr (.inr (.inl (some 17))))), some (.inr (.inr (.inl w))), none, some (.inl i)] kl) (h0 : hC hp 17 18 (.inl c)) (hi : i < 2147483648) (hc : c < 2147483648) (c1 : c ≤ i) : ∃ kl' hp', kRe vms vdf d vt_X9_find 0 0 (2, kl, [], hp) (35, kl', [.inl 4294967295], hp') ∧ cLm [some (.inr (.inr (.inr (.inl (some 17))))), some (.inr (.inr (.inl w))), none, some (.inl i)] kl' ∧ sFr [] hp hp' := by
  obtain ⟨kl1, hp1, k1, k2, k3, k4⟩ := e_go (vms := vms) (df := vdf) (d := d) (ρ := (rL [i, w, c])) hd xf_x_17_k rfl hs (all_cons (eCo_of (u := i) (w := c) (eR_val (eR_s (j := 0) (u := i) rfl)) (eR_val (eR_s (j := 2) (u := c) rfl)) (by decide) (kc3t (by unfold sBi; omega))) all_nil) (eLm_in (ρ := (rL [i, w, c])) (ls := [some (.inr (.inr (some 17))), some (.inr (.inl [(1, 1)])), none, some (.inl [(1, 0)])]) (vs := [some (.inr (.inr (.inr (.inl (some 17))))), some (.inr (.inr (.inl w))), none, some (.inl i)]) ⟨eCv_r, ⟨(eCv_l (eR_s (j := 1) (u := w) rfl)), ⟨(eCv_i (eR_s (j := 0) (u := i) rfl)), trivial⟩⟩⟩ hl) (eDt_add (eR_c _ 18) (eCv_i (eR_s (j := 2) (u := c) rfl)) h0 eDt_nil)
  rw [eSt_nil, (eSt_cons (eCv_i (eR_c _ 4294967295)) eSt_nil)] at k1
  rw [eMd_nil] at k4
  exact ⟨kl1, hp1, k1, eLm_out (ρ := (rL [i, w, c])) (ls := [some (.inr (.inr (some 17))), some (.inr (.inl [(1, 1)])), none, some (.inl [(1, 0)])]) (vs := [some (.inr (.inr (.inr (.inl (some 17))))), some (.inr (.inr (.inl w))), none, some (.inl i)]) ⟨eCv_r, ⟨(eCv_l (eR_s (j := 1) (u := w) rfl)), ⟨(eCv_i (eR_s (j := 0) (u := i) rfl)), trivial⟩⟩⟩ k2, k4⟩
set_option maxRecDepth 1000000 in
theorem mf_0_k : eQ (eRun shM (eCalI eNo vms shM 400 8) vt_X12_find [2] 2 [] (0, [some (.inr (.inr (some 220))), some (.inl [(1, 0)]), some (.inl [(1, 1)]), none], [], [], [])) (2, [some (.inr (.inr (some 220))), some (.inl [(1, 0)]), some (.inl [(1, 1)]), some (.inl [(0, 0)])], [], [], []) [] [] = true := by decide +kernel
theorem mf_0 {d : Nat} (hd : 8 ≤ d) {hp : List vOb} {kl : vLs} {f c : Nat} (hs : eSh shM hp) (hl : cLm [some (.inr (.inr (.inr (.inl (some 220))))), some (.inl f), some (.inl c), none] kl)   : ∃ kl' hp', kRe vms vdf d vt_X12_find 0 0 (0, kl, [], hp) (2, kl', [], hp') ∧ cLm [some (.inr (.inr (.inr (.inl (some 220))))), some (.inl f), some (.inl c), some (.inl 0)] kl' ∧ sFr [] hp hp' := by
  obtain ⟨kl1, hp1, k1, k2, k3, k4⟩ := e_go (vms := vms) (df := vdf) (d := d) (ρ := (rL [f, c])) hd mf_0_k rfl hs all_nil (eLm_in (ρ := (rL [f, c])) (ls := [some (.inr (.inr (some 220))), some (.inl [(1, 0)]), some (.inl [(1, 1)]), none]) (vs := [some (.inr (.inr (.inr (.inl (some 220))))), some (.inl f), some (.inl c), none]) ⟨eCv_r, ⟨(eCv_i (eR_s (j := 0) (u := f) rfl)), ⟨(eCv_i (eR_s (j := 1) (u := c) rfl)), trivial⟩⟩⟩ hl) eDt_nil
  rw [eMd_nil] at k4
  exact ⟨kl1, hp1, k1, eLm_out (ρ := (rL [f, c])) (ls := [some (.inr (.inr (some 220))), some (.inl [(1, 0)]), some (.inl [(1, 1)]), some (.inl [(0, 0)])]) (vs := [some (.inr (.inr (.inr (.inl (some 220))))), some (.inl f), some (.inl c), some (.inl 0)]) ⟨eCv_r, ⟨(eCv_i (eR_s (j := 0) (u := f) rfl)), ⟨(eCv_i (eR_s (j := 1) (u := c) rfl)), ⟨(eCv_i (eR_c _ 0)), trivial⟩⟩⟩⟩ k2, k4⟩
set_option maxRecDepth 1000000 in
theorem mf_n_k : eQ (eRun shM (eCalI eNo vms shM 400 8) vt_X12_find [2] 15 [false, true] (2, [some (.inr (.inr (some 220))), some (.inl [(1, 1)]), some (.inl [(1, 2)]), some (.inl [(1, 0)])], [], [(220, [(0, 9)], .inr (.inr (some 225)), []), (225, [(1, 1), (1, 0), (2, 0)], .inr (.inl [(1, 3)]), []), (220, [(0, 17)], .inr (.inl [(1, 4)]), [])], [])) (2, [some (.inr (.inr (some 220))), some (.inl [(1, 1)]), some (.inl [(1, 2)]), some (.inl [(1, 0), (0, 1), (2, 0)])], [], [(220, [(0, 9)], .inr (.inr (some 225)), []), (225, [(1, 1), (1, 0), (2, 0)], .inr (.inl [(1, 3)]), []), (220, [(0, 17)], .inr (.inl [(1, 4)]), [])], []) [(3, [(1, 0)], [(1, 2)], false), (1, [(1, 3), (1, 4), (2, 15)], [(0, 0)], true)] [] = true := by decide +kernel
theorem mf_n {d : Nat} (hd : 8 ≤ d) {hp : List vOb} {kl : vLs} {i f c k w : Nat} (hs : eSh shM hp) (hl : cLm [some (.inr (.inr (.inr (.inl (some 220))))), some (.inl f), some (.inl c), some (.inl i)] kl) (h0 : hC hp 220 9 (.inr (.inr (.inr (.inl (some 225)))))) (h1 : hC hp 225 (eBn 0 f i) (.inr (.inr (.inl k)))) (h2 : hC hp 220 17 (.inr (.inr (.inl w)))) (hi : i < 2147483648) (hc : c < 2147483648) (c1 : i < c) (c2 : eLc k w ≠ 0) : ∃ kl' hp', kRe vms vdf d vt_X12_find 0 0 (2, kl, [], hp) (2, kl', [], hp') ∧ cLm [some (.inr (.inr (.inr (.inl (some 220))))), some (.inl f), some (.inl c), some (.inl (eBn 0 i 1))] kl' ∧ sFr [] hp hp' := by
  have hlc := eLc_lt k w
  obtain ⟨kl1, hp1, k1, k2, k3, k4⟩ := e_go (vms := vms) (df := vdf) (d := d) (ρ := (rL [i, f, c, k, w])) hd mf_n_k rfl hs (all_cons (eCo_of (u := i) (w := c) (eR_val (eR_s (j := 0) (u := i) rfl)) (eR_val (eR_s (j := 2) (u := c) rfl)) (by decide) (kc3f (by unfold sBi; omega))) (all_cons (eCo_of (u := (eLc k w)) (w := 0) ((eR_val (eR_b 15 (eR_s (j := 3) (u := k) rfl) (eR_s (j := 4) (u := w) rfl))).trans rfl) (eR_val (eR_c _ 0)) (by decide) (kc1t (by unfold sBi; omega))) all_nil)) (eLm_in (ρ := (rL [i, f, c, k, w])) (ls := [some (.inr (.inr (some 220))), some (.inl [(1, 1)]), some (.inl [(1, 2)]), some (.inl [(1, 0)])]) (vs := [some (.inr (.inr (.inr (.inl (some 220))))), some (.inl f), some (.inl c), some (.inl i)]) ⟨eCv_r, ⟨(eCv_i (eR_s (j := 1) (u := f) rfl)), ⟨(eCv_i (eR_s (j := 2) (u := c) rfl)), ⟨(eCv_i (eR_s (j := 0) (u := i) rfl)), trivial⟩⟩⟩⟩ hl) (eDt_add (eR_c _ 9) eCv_r h0 (eDt_add (eR_b 0 (eR_s (j := 1) (u := f) rfl) (eR_s (j := 0) (u := i) rfl)) (eCv_l (eR_s (j := 3) (u := k) rfl)) h1 (eDt_add (eR_c _ 17) (eCv_l (eR_s (j := 4) (u := w) rfl)) h2 eDt_nil)))
  rw [eMd_nil] at k4
  exact ⟨kl1, hp1, k1, eLm_out (ρ := (rL [i, f, c, k, w])) (ls := [some (.inr (.inr (some 220))), some (.inl [(1, 1)]), some (.inl [(1, 2)]), some (.inl [(1, 0), (0, 1), (2, 0)])]) (vs := [some (.inr (.inr (.inr (.inl (some 220))))), some (.inl f), some (.inl c), some (.inl (eBn 0 i 1))]) ⟨eCv_r, ⟨(eCv_i (eR_s (j := 1) (u := f) rfl)), ⟨(eCv_i (eR_s (j := 2) (u := c) rfl)), ⟨(eCv_i (eR_b 0 (eR_s (j := 0) (u := i) rfl) (eR_c _ 1))), trivial⟩⟩⟩⟩ k2, k4⟩
set_option maxRecDepth 1000000 in
theorem mf_e_k : eQ (eRun shM (eCalI eNo vms shM 400 8) vt_X12_find [] 14 [false, false] (2, [some (.inr (.inr (some 220))), some (.inl [(1, 1)]), some (.inl [(1, 2)]), some (.inl [(1, 0)])], [], [(220, [(0, 9)], .inr (.inr (some 225)), []), (225, [(1, 1), (1, 0), (2, 0)], .inr (.inl [(1, 3)]), []), (220, [(0, 17)], .inr (.inl [(1, 4)]), [])], [])) (24, [some (.inr (.inr (some 220))), some (.inl [(1, 1)]), some (.inl [(1, 2)]), some (.inl [(1, 0)])], [.inl [(1, 0)]], [(220, [(0, 9)], .inr (.inr (some 225)), []), (225, [(1, 1), (1, 0), (2, 0)], .inr (.inl [(1, 3)]), []), (220, [(0, 17)], .inr (.inl [(1, 4)]), [])], []) [(3, [(1, 0)], [(1, 2)], false), (1, [(1, 3), (1, 4), (2, 15)], [(0, 0)], false)] [] = true := by decide +kernel
theorem mf_e {d : Nat} (hd : 8 ≤ d) {hp : List vOb} {kl : vLs} {i f c k w : Nat} (hs : eSh shM hp) (hl : cLm [some (.inr (.inr (.inr (.inl (some 220))))), some (.inl f), some (.inl c), some (.inl i)] kl) (h0 : hC hp 220 9 (.inr (.inr (.inr (.inl (some 225)))))) (h1 : hC hp 225 (eBn 0 f i) (.inr (.inr (.inl k)))) (h2 : hC hp 220 17 (.inr (.inr (.inl w)))) (hi : i < 2147483648) (hc : c < 2147483648) (c1 : i < c) (c2 : k = w) : ∃ kl' hp', kRe vms vdf d vt_X12_find 0 0 (2, kl, [], hp) (24, kl', [.inl i], hp') ∧ cLm [some (.inr (.inr (.inr (.inl (some 220))))), some (.inl f), some (.inl c), some (.inl i)] kl' ∧ sFr [] hp hp' := by
  obtain ⟨kl1, hp1, k1, k2, k3, k4⟩ := e_go (vms := vms) (df := vdf) (d := d) (ρ := (rL [i, f, c, k, w])) hd mf_e_k rfl hs (all_cons (eCo_of (u := i) (w := c) (eR_val (eR_s (j := 0) (u := i) rfl)) (eR_val (eR_s (j := 2) (u := c) rfl)) (by decide) (kc3f (by unfold sBi; omega))) (all_cons (eCo_of (u := 0) (w := 0) ((eR_val (eR_b 15 (eR_s (j := 3) (u := k) rfl) (eR_s (j := 4) (u := w) rfl))).trans (show eLc k w = 0 from c2 ▸ eLc_rf k)) (eR_val (eR_c _ 0)) (by decide) (kc1f (by unfold sBi; omega))) all_nil)) (eLm_in (ρ := (rL [i, f, c, k, w])) (ls := [some (.inr (.inr (some 220))), some (.inl [(1, 1)]), some (.inl [(1, 2)]), some (.inl [(1, 0)])]) (vs := [some (.inr (.inr (.inr (.inl (some 220))))), some (.inl f), some (.inl c), some (.inl i)]) ⟨eCv_r, ⟨(eCv_i (eR_s (j := 1) (u := f) rfl)), ⟨(eCv_i (eR_s (j := 2) (u := c) rfl)), ⟨(eCv_i (eR_s (j := 0) (u := i) rfl)), trivial⟩⟩⟩⟩ hl) (eDt_add (eR_c _ 9) eCv_r h0 (eDt_add (eR_b 0 (eR_s (j := 1) (u := f) rfl) (eR_s (j := 0) (u := i) rfl)) (eCv_l (eR_s (j := 3) (u := k) rfl)) h1 (eDt_add (eR_c _ 17) (eCv_l (eR_s (j := 4) (u := w) rfl)) h2 eDt_nil)))
  rw [eSt_nil, (eSt_cons (eCv_i (eR_s (j := 0) (u := i) rfl)) eSt_nil)] at k1
  rw [eMd_nil] at k4
  exact ⟨kl1, hp1, k1, eLm_out (ρ := (rL [i, f, c, k, w])) (ls := [some (.inr (.inr (some 220))), some (.inl [(1, 1)]), some (.inl [(1, 2)]), some (.inl [(1, 0)])]) (vs := [some (.inr (.inr (.inr (.inl (some 220))))), some (.inl f), some (.inl c), some (.inl i)]) ⟨eCv_r, ⟨(eCv_i (eR_s (j := 1) (u := f) rfl)), ⟨(eCv_i (eR_s (j := 2) (u := c) rfl)), ⟨(eCv_i (eR_s (j := 0) (u := i) rfl)), trivial⟩⟩⟩⟩ k2, k4⟩
set_option maxRecDepth 1000000 in
theorem mf_x_k : eQ (eRun shM (eCalI eNo vms shM 400 8) vt_X12_find [] 4 [true] (2, [some (.inr (.inr (some 220))), none, some (.inl [(1, 1)]), some (.inl [(1, 0)])], [], [], [])) (32, [some (.inr (.inr (some 220))), none, some (.inl [(1, 1)]), some (.inl [(1, 0)])], [.inl [(0, 4294967295)]], [], []) [(3, [(1, 0)], [(1, 1)], true)] [] = true := by decide +kernel
theorem mf_x {d : Nat} (hd : 8 ≤ d) {hp : List vOb} {kl : vLs} {i c : Nat} (hs : eSh shM hp) (hl : cLm [some (.inr (.inr (.inr (.inl (some 220))))), none, some (.inl c), some (.inl i)] kl)  (hi : i < 2147483648) (hc : c < 2147483648) (c1 : c ≤ i) : ∃ kl' hp', kRe vms vdf d vt_X12_find 0 0 (2, kl, [], hp) (32, kl', [.inl 4294967295], hp') ∧ cLm [some (.inr (.inr (.inr (.inl (some 220))))), none, some (.inl c), some (.inl i)] kl' ∧ sFr [] hp hp' := by
  obtain ⟨kl1, hp1, k1, k2, k3, k4⟩ := e_go (vms := vms) (df := vdf) (d := d) (ρ := (rL [i, c])) hd mf_x_k rfl hs (all_cons (eCo_of (u := i) (w := c) (eR_val (eR_s (j := 0) (u := i) rfl)) (eR_val (eR_s (j := 1) (u := c) rfl)) (by decide) (kc3t (by unfold sBi; omega))) all_nil) (eLm_in (ρ := (rL [i, c])) (ls := [some (.inr (.inr (some 220))), none, some (.inl [(1, 1)]), some (.inl [(1, 0)])]) (vs := [some (.inr (.inr (.inr (.inl (some 220))))), none, some (.inl c), some (.inl i)]) ⟨eCv_r, ⟨(eCv_i (eR_s (j := 1) (u := c) rfl)), ⟨(eCv_i (eR_s (j := 0) (u := i) rfl)), trivial⟩⟩⟩ hl) eDt_nil
  rw [eSt_nil, (eSt_cons (eCv_i (eR_c _ 4294967295)) eSt_nil)] at k1
  rw [eMd_nil] at k4
  exact ⟨kl1, hp1, k1, eLm_out (ρ := (rL [i, c])) (ls := [some (.inr (.inr (some 220))), none, some (.inl [(1, 1)]), some (.inl [(1, 0)])]) (vs := [some (.inr (.inr (.inr (.inl (some 220))))), none, some (.inl c), some (.inl i)]) ⟨eCv_r, ⟨(eCv_i (eR_s (j := 1) (u := c) rfl)), ⟨(eCv_i (eR_s (j := 0) (u := i) rfl)), trivial⟩⟩⟩ k2, k4⟩
set_option maxRecDepth 1000000 in
theorem mn_0w_k : eQ (eRun shM (eCalI eNo vms shM 400 8) vt_X12_isName [16] 9 [false] (0, [some (.inr (.inr (some 220))), none, none], [], [(220, [(0, 11)], .inl [(1, 0)], [])], [])) (16, [some (.inr (.inr (some 220))), some (.inl [(0, 1)]), some (.inl [(0, 0)])], [], [(220, [(0, 11)], .inl [(1, 0)], [])], []) [(1, [(1, 0)], [(0, 1)], false)] [] = true := by decide +kernel
theorem mn_0w {d : Nat} (hd : 8 ≤ d) {hp : List vOb} {kl : vLs} {t : Nat} (hs : eSh shM hp) (hl : cLm [some (.inr (.inr (.inr (.inl (some 220))))), none, none] kl) (h0 : hC hp 220 11 (.inl t)) (ht : t < 4294967296) (c1 : t = 1) : ∃ kl' hp', kRe vms vdf d vt_X12_isName 0 0 (0, kl, [], hp) (16, kl', [], hp') ∧ cLm [some (.inr (.inr (.inr (.inl (some 220))))), some (.inl 1), some (.inl 0)] kl' ∧ sFr [] hp hp' := by
  obtain ⟨kl1, hp1, k1, k2, k3, k4⟩ := e_go (vms := vms) (df := vdf) (d := d) (ρ := (rL [t])) hd mn_0w_k rfl hs (all_cons (eCo_of (u := t) (w := 1) (eR_val (eR_s (j := 0) (u := t) rfl)) (eR_val (eR_c _ 1)) (by decide) (kc1f (by unfold sBi; omega))) all_nil) (eLm_in (ρ := (rL [t])) (ls := [some (.inr (.inr (some 220))), none, none]) (vs := [some (.inr (.inr (.inr (.inl (some 220))))), none, none]) ⟨eCv_r, trivial⟩ hl) (eDt_add (eR_c _ 11) (eCv_i (eR_s (j := 0) (u := t) rfl)) h0 eDt_nil)
  rw [eMd_nil] at k4
  exact ⟨kl1, hp1, k1, eLm_out (ρ := (rL [t])) (ls := [some (.inr (.inr (some 220))), some (.inl [(0, 1)]), some (.inl [(0, 0)])]) (vs := [some (.inr (.inr (.inr (.inl (some 220))))), some (.inl 1), some (.inl 0)]) ⟨eCv_r, ⟨(eCv_i (eR_c _ 1)), ⟨(eCv_i (eR_c _ 0)), trivial⟩⟩⟩ k2, k4⟩
set_option maxRecDepth 1000000 in
theorem mn_0n_k : eQ (eRun shM (eCalI eNo vms shM 400 8) vt_X12_isName [16] 8 [true] (0, [some (.inr (.inr (some 220))), none, none], [], [(220, [(0, 11)], .inl [(1, 0)], [])], [])) (16, [some (.inr (.inr (some 220))), some (.inl [(0, 0)]), some (.inl [(0, 0)])], [], [(220, [(0, 11)], .inl [(1, 0)], [])], []) [(1, [(1, 0)], [(0, 1)], true)] [] = true := by decide +kernel
theorem mn_0n {d : Nat} (hd : 8 ≤ d) {hp : List vOb} {kl : vLs} {t : Nat} (hs : eSh shM hp) (hl : cLm [some (.inr (.inr (.inr (.inl (some 220))))), none, none] kl) (h0 : hC hp 220 11 (.inl t)) (ht : t < 4294967296) (c1 : t ≠ 1) : ∃ kl' hp', kRe vms vdf d vt_X12_isName 0 0 (0, kl, [], hp) (16, kl', [], hp') ∧ cLm [some (.inr (.inr (.inr (.inl (some 220))))), some (.inl 0), some (.inl 0)] kl' ∧ sFr [] hp hp' := by
  obtain ⟨kl1, hp1, k1, k2, k3, k4⟩ := e_go (vms := vms) (df := vdf) (d := d) (ρ := (rL [t])) hd mn_0n_k rfl hs (all_cons (eCo_of (u := t) (w := 1) (eR_val (eR_s (j := 0) (u := t) rfl)) (eR_val (eR_c _ 1)) (by decide) (kc1t (by unfold sBi; omega))) all_nil) (eLm_in (ρ := (rL [t])) (ls := [some (.inr (.inr (some 220))), none, none]) (vs := [some (.inr (.inr (.inr (.inl (some 220))))), none, none]) ⟨eCv_r, trivial⟩ hl) (eDt_add (eR_c _ 11) (eCv_i (eR_s (j := 0) (u := t) rfl)) h0 eDt_nil)
  rw [eMd_nil] at k4
  exact ⟨kl1, hp1, k1, eLm_out (ρ := (rL [t])) (ls := [some (.inr (.inr (some 220))), some (.inl [(0, 0)]), some (.inl [(0, 0)])]) (vs := [some (.inr (.inr (.inr (.inl (some 220))))), some (.inl 0), some (.inl 0)]) ⟨eCv_r, ⟨(eCv_i (eR_c _ 0)), ⟨(eCv_i (eR_c _ 0)), trivial⟩⟩⟩ k2, k4⟩
set_option maxRecDepth 1000000 in
theorem mn_n_k : eQ (eRun shM (eCalI eNo vms shM 400 8) vt_X12_isName [16] 18 [false, false] (16, [some (.inr (.inr (some 220))), some (.inl [(0, 1)]), some (.inl [(1, 0)])], [], [(220, [(0, 10)], .inr (.inr (some 226)), []), (226, [(1, 0)], .inr (.inl [(1, 1)]), []), (220, [(0, 17)], .inr (.inl [(1, 2)]), [])], [])) (16, [some (.inr (.inr (some 220))), some (.inl [(0, 1)]), some (.inl [(1, 0), (0, 1), (2, 0)])], [], [(220, [(0, 10)], .inr (.inr (some 226)), []), (226, [(1, 0)], .inr (.inl [(1, 1)]), []), (220, [(0, 17)], .inr (.inl [(1, 2)]), [])], []) [(3, [(1, 0)], [(0, 25)], false), (0, [(1, 2), (1, 1), (2, 15)], [(0, 0)], false)] [] = true := by decide +kernel
theorem mn_n {d : Nat} (hd : 8 ≤ d) {hp : List vOb} {kl : vLs} {i r w : Nat} (hs : eSh shM hp) (hl : cLm [some (.inr (.inr (.inr (.inl (some 220))))), some (.inl 1), some (.inl i)] kl) (h0 : hC hp 220 10 (.inr (.inr (.inr (.inl (some 226)))))) (h1 : hC hp 226 i (.inr (.inr (.inl r)))) (h2 : hC hp 220 17 (.inr (.inr (.inl w)))) (c1 : i < 25) (c2 : eLc w r ≠ 0) : ∃ kl' hp', kRe vms vdf d vt_X12_isName 0 0 (16, kl, [], hp) (16, kl', [], hp') ∧ cLm [some (.inr (.inr (.inr (.inl (some 220))))), some (.inl 1), some (.inl (eBn 0 i 1))] kl' ∧ sFr [] hp hp' := by
  have hlc := eLc_lt w r
  obtain ⟨kl1, hp1, k1, k2, k3, k4⟩ := e_go (vms := vms) (df := vdf) (d := d) (ρ := (rL [i, r, w])) hd mn_n_k rfl hs (all_cons (eCo_of (u := i) (w := 25) (eR_val (eR_s (j := 0) (u := i) rfl)) (eR_val (eR_c _ 25)) (by decide) (kc3f (by unfold sBi; omega))) (all_cons (eCo_of (u := (eLc w r)) (w := 0) ((eR_val (eR_b 15 (eR_s (j := 2) (u := w) rfl) (eR_s (j := 1) (u := r) rfl))).trans rfl) (eR_val (eR_c _ 0)) (by decide) (kc0f (by unfold sBi; omega))) all_nil)) (eLm_in (ρ := (rL [i, r, w])) (ls := [some (.inr (.inr (some 220))), some (.inl [(0, 1)]), some (.inl [(1, 0)])]) (vs := [some (.inr (.inr (.inr (.inl (some 220))))), some (.inl 1), some (.inl i)]) ⟨eCv_r, ⟨(eCv_i (eR_c _ 1)), ⟨(eCv_i (eR_s (j := 0) (u := i) rfl)), trivial⟩⟩⟩ hl) (eDt_add (eR_c _ 10) eCv_r h0 (eDt_add (eR_s (j := 0) (u := i) rfl) (eCv_l (eR_s (j := 1) (u := r) rfl)) h1 (eDt_add (eR_c _ 17) (eCv_l (eR_s (j := 2) (u := w) rfl)) h2 eDt_nil)))
  rw [eMd_nil] at k4
  exact ⟨kl1, hp1, k1, eLm_out (ρ := (rL [i, r, w])) (ls := [some (.inr (.inr (some 220))), some (.inl [(0, 1)]), some (.inl [(1, 0), (0, 1), (2, 0)])]) (vs := [some (.inr (.inr (.inr (.inl (some 220))))), some (.inl 1), some (.inl (eBn 0 i 1))]) ⟨eCv_r, ⟨(eCv_i (eR_c _ 1)), ⟨(eCv_i (eR_b 0 (eR_s (j := 0) (u := i) rfl) (eR_c _ 1))), trivial⟩⟩⟩ k2, k4⟩
set_option maxRecDepth 1000000 in
theorem mn_e_k : eQ (eRun shM (eCalI eNo vms shM 400 8) vt_X12_isName [16] 17 [false, true] (16, [some (.inr (.inr (some 220))), some (.inl [(0, 1)]), some (.inl [(1, 0)])], [], [(220, [(0, 10)], .inr (.inr (some 226)), []), (226, [(1, 0)], .inr (.inl [(1, 1)]), []), (220, [(0, 17)], .inr (.inl [(1, 2)]), [])], [])) (16, [some (.inr (.inr (some 220))), some (.inl [(0, 0)]), some (.inl [(1, 0), (0, 1), (2, 0)])], [], [(220, [(0, 10)], .inr (.inr (some 226)), []), (226, [(1, 0)], .inr (.inl [(1, 1)]), []), (220, [(0, 17)], .inr (.inl [(1, 2)]), [])], []) [(3, [(1, 0)], [(0, 25)], false), (0, [(1, 2), (1, 1), (2, 15)], [(0, 0)], true)] [] = true := by decide +kernel
theorem mn_e {d : Nat} (hd : 8 ≤ d) {hp : List vOb} {kl : vLs} {i r w : Nat} (hs : eSh shM hp) (hl : cLm [some (.inr (.inr (.inr (.inl (some 220))))), some (.inl 1), some (.inl i)] kl) (h0 : hC hp 220 10 (.inr (.inr (.inr (.inl (some 226)))))) (h1 : hC hp 226 i (.inr (.inr (.inl r)))) (h2 : hC hp 220 17 (.inr (.inr (.inl w)))) (c1 : i < 25) (c2 : w = r) : ∃ kl' hp', kRe vms vdf d vt_X12_isName 0 0 (16, kl, [], hp) (16, kl', [], hp') ∧ cLm [some (.inr (.inr (.inr (.inl (some 220))))), some (.inl 0), some (.inl (eBn 0 i 1))] kl' ∧ sFr [] hp hp' := by
  obtain ⟨kl1, hp1, k1, k2, k3, k4⟩ := e_go (vms := vms) (df := vdf) (d := d) (ρ := (rL [i, r, w])) hd mn_e_k rfl hs (all_cons (eCo_of (u := i) (w := 25) (eR_val (eR_s (j := 0) (u := i) rfl)) (eR_val (eR_c _ 25)) (by decide) (kc3f (by unfold sBi; omega))) (all_cons (eCo_of (u := 0) (w := 0) ((eR_val (eR_b 15 (eR_s (j := 2) (u := w) rfl) (eR_s (j := 1) (u := r) rfl))).trans (show eLc w r = 0 from c2 ▸ eLc_rf w)) (eR_val (eR_c _ 0)) (by decide) (kc0t (by unfold sBi; omega))) all_nil)) (eLm_in (ρ := (rL [i, r, w])) (ls := [some (.inr (.inr (some 220))), some (.inl [(0, 1)]), some (.inl [(1, 0)])]) (vs := [some (.inr (.inr (.inr (.inl (some 220))))), some (.inl 1), some (.inl i)]) ⟨eCv_r, ⟨(eCv_i (eR_c _ 1)), ⟨(eCv_i (eR_s (j := 0) (u := i) rfl)), trivial⟩⟩⟩ hl) (eDt_add (eR_c _ 10) eCv_r h0 (eDt_add (eR_s (j := 0) (u := i) rfl) (eCv_l (eR_s (j := 1) (u := r) rfl)) h1 (eDt_add (eR_c _ 17) (eCv_l (eR_s (j := 2) (u := w) rfl)) h2 eDt_nil)))
  rw [eMd_nil] at k4
  exact ⟨kl1, hp1, k1, eLm_out (ρ := (rL [i, r, w])) (ls := [some (.inr (.inr (some 220))), some (.inl [(0, 0)]), some (.inl [(1, 0), (0, 1), (2, 0)])]) (vs := [some (.inr (.inr (.inr (.inl (some 220))))), some (.inl 0), some (.inl (eBn 0 i 1))]) ⟨eCv_r, ⟨(eCv_i (eR_c _ 0)), ⟨(eCv_i (eR_b 0 (eR_s (j := 0) (u := i) rfl) (eR_c _ 1))), trivial⟩⟩⟩ k2, k4⟩
set_option maxRecDepth 1000000 in
theorem mn_z_k : eQ (eRun shM (eCalI eNo vms shM 400 8) vt_X12_isName [16] 9 [false] (16, [some (.inr (.inr (some 220))), some (.inl [(0, 0)]), some (.inl [(1, 0)])], [], [], [])) (16, [some (.inr (.inr (some 220))), some (.inl [(0, 0)]), some (.inl [(1, 0), (0, 1), (2, 0)])], [], [], []) [(3, [(1, 0)], [(0, 25)], false)] [] = true := by decide +kernel
theorem mn_z {d : Nat} (hd : 8 ≤ d) {hp : List vOb} {kl : vLs} {i : Nat} (hs : eSh shM hp) (hl : cLm [some (.inr (.inr (.inr (.inl (some 220))))), some (.inl 0), some (.inl i)] kl)  (c1 : i < 25) : ∃ kl' hp', kRe vms vdf d vt_X12_isName 0 0 (16, kl, [], hp) (16, kl', [], hp') ∧ cLm [some (.inr (.inr (.inr (.inl (some 220))))), some (.inl 0), some (.inl (eBn 0 i 1))] kl' ∧ sFr [] hp hp' := by
  obtain ⟨kl1, hp1, k1, k2, k3, k4⟩ := e_go (vms := vms) (df := vdf) (d := d) (ρ := (rL [i])) hd mn_z_k rfl hs (all_cons (eCo_of (u := i) (w := 25) (eR_val (eR_s (j := 0) (u := i) rfl)) (eR_val (eR_c _ 25)) (by decide) (kc3f (by unfold sBi; omega))) all_nil) (eLm_in (ρ := (rL [i])) (ls := [some (.inr (.inr (some 220))), some (.inl [(0, 0)]), some (.inl [(1, 0)])]) (vs := [some (.inr (.inr (.inr (.inl (some 220))))), some (.inl 0), some (.inl i)]) ⟨eCv_r, ⟨(eCv_i (eR_c _ 0)), ⟨(eCv_i (eR_s (j := 0) (u := i) rfl)), trivial⟩⟩⟩ hl) eDt_nil
  rw [eMd_nil] at k4
  exact ⟨kl1, hp1, k1, eLm_out (ρ := (rL [i])) (ls := [some (.inr (.inr (some 220))), some (.inl [(0, 0)]), some (.inl [(1, 0), (0, 1), (2, 0)])]) (vs := [some (.inr (.inr (.inr (.inl (some 220))))), some (.inl 0), some (.inl (eBn 0 i 1))]) ⟨eCv_r, ⟨(eCv_i (eR_c _ 0)), ⟨(eCv_i (eR_b 0 (eR_s (j := 0) (u := i) rfl) (eR_c _ 1))), trivial⟩⟩⟩ k2, k4⟩
set_option maxRecDepth 1000000 in
theorem mn_x0_k : eQ (eRun shM (eCalI eNo vms shM 400 8) vt_X12_isName [] 4 [true] (16, [some (.inr (.inr (some 220))), some (.inl [(0, 0)]), some (.inl [(1, 0)])], [], [], [])) (53, [some (.inr (.inr (some 220))), some (.inl [(0, 0)]), some (.inl [(1, 0)])], [.inl [(0, 0)]], [], []) [(3, [(1, 0)], [(0, 25)], true)] [] = true := by decide +kernel
theorem mn_x0 {d : Nat} (hd : 8 ≤ d) {hp : List vOb} {kl : vLs} {i : Nat} (hs : eSh shM hp) (hl : cLm [some (.inr (.inr (.inr (.inl (some 220))))), some (.inl 0), some (.inl i)] kl)  (c1 : i = 25) : ∃ kl' hp', kRe vms vdf d vt_X12_isName 0 0 (16, kl, [], hp) (53, kl', [.inl 0], hp') ∧ cLm [some (.inr (.inr (.inr (.inl (some 220))))), some (.inl 0), some (.inl i)] kl' ∧ sFr [] hp hp' := by
  obtain ⟨kl1, hp1, k1, k2, k3, k4⟩ := e_go (vms := vms) (df := vdf) (d := d) (ρ := (rL [i])) hd mn_x0_k rfl hs (all_cons (eCo_of (u := i) (w := 25) (eR_val (eR_s (j := 0) (u := i) rfl)) (eR_val (eR_c _ 25)) (by decide) (kc3t (by unfold sBi; omega))) all_nil) (eLm_in (ρ := (rL [i])) (ls := [some (.inr (.inr (some 220))), some (.inl [(0, 0)]), some (.inl [(1, 0)])]) (vs := [some (.inr (.inr (.inr (.inl (some 220))))), some (.inl 0), some (.inl i)]) ⟨eCv_r, ⟨(eCv_i (eR_c _ 0)), ⟨(eCv_i (eR_s (j := 0) (u := i) rfl)), trivial⟩⟩⟩ hl) eDt_nil
  rw [eSt_nil, (eSt_cons (eCv_i (eR_c _ 0)) eSt_nil)] at k1
  rw [eMd_nil] at k4
  exact ⟨kl1, hp1, k1, eLm_out (ρ := (rL [i])) (ls := [some (.inr (.inr (some 220))), some (.inl [(0, 0)]), some (.inl [(1, 0)])]) (vs := [some (.inr (.inr (.inr (.inl (some 220))))), some (.inl 0), some (.inl i)]) ⟨eCv_r, ⟨(eCv_i (eR_c _ 0)), ⟨(eCv_i (eR_s (j := 0) (u := i) rfl)), trivial⟩⟩⟩ k2, k4⟩
set_option maxRecDepth 1000000 in
theorem mn_x1_k : eQ (eRun shM (eCalI eNo vms shM 400 8) vt_X12_isName [] 4 [true] (16, [some (.inr (.inr (some 220))), some (.inl [(0, 1)]), some (.inl [(1, 0)])], [], [], [])) (53, [some (.inr (.inr (some 220))), some (.inl [(0, 1)]), some (.inl [(1, 0)])], [.inl [(0, 1)]], [], []) [(3, [(1, 0)], [(0, 25)], true)] [] = true := by decide +kernel
theorem mn_x1 {d : Nat} (hd : 8 ≤ d) {hp : List vOb} {kl : vLs} {i : Nat} (hs : eSh shM hp) (hl : cLm [some (.inr (.inr (.inr (.inl (some 220))))), some (.inl 1), some (.inl i)] kl)  (c1 : i = 25) : ∃ kl' hp', kRe vms vdf d vt_X12_isName 0 0 (16, kl, [], hp) (53, kl', [.inl 1], hp') ∧ cLm [some (.inr (.inr (.inr (.inl (some 220))))), some (.inl 1), some (.inl i)] kl' ∧ sFr [] hp hp' := by
  obtain ⟨kl1, hp1, k1, k2, k3, k4⟩ := e_go (vms := vms) (df := vdf) (d := d) (ρ := (rL [i])) hd mn_x1_k rfl hs (all_cons (eCo_of (u := i) (w := 25) (eR_val (eR_s (j := 0) (u := i) rfl)) (eR_val (eR_c _ 25)) (by decide) (kc3t (by unfold sBi; omega))) all_nil) (eLm_in (ρ := (rL [i])) (ls := [some (.inr (.inr (some 220))), some (.inl [(0, 1)]), some (.inl [(1, 0)])]) (vs := [some (.inr (.inr (.inr (.inl (some 220))))), some (.inl 1), some (.inl i)]) ⟨eCv_r, ⟨(eCv_i (eR_c _ 1)), ⟨(eCv_i (eR_s (j := 0) (u := i) rfl)), trivial⟩⟩⟩ hl) eDt_nil
  rw [eSt_nil, (eSt_cons (eCv_i (eR_c _ 1)) eSt_nil)] at k1
  rw [eMd_nil] at k4
  exact ⟨kl1, hp1, k1, eLm_out (ρ := (rL [i])) (ls := [some (.inr (.inr (some 220))), some (.inl [(0, 1)]), some (.inl [(1, 0)])]) (vs := [some (.inr (.inr (.inr (.inl (some 220))))), some (.inl 1), some (.inl i)]) ⟨eCv_r, ⟨(eCv_i (eR_c _ 1)), ⟨(eCv_i (eR_s (j := 0) (u := i) rfl)), trivial⟩⟩⟩ k2, k4⟩
noncomputable def vRt1 (M : vMt) (pc : Nat) : Bool := match vGet M.2.2.2.2.1 pc with
  | some x => (match x.1 with
    | .ireturn => true
    | _ => false)
  | none => false
theorem k_ireturn {d : Nat} {M : vMt} {pc u : Nat} {kl : vLs} {hp : List vOb} {P : Option vAV → List vOb → Prop} (hg : vRt1 M pc = true) (hr : M.2.2.2.1 = some .int ∨ (M.2.2.2.1 = some .boolean ∧ u ≤ 1)) (h : P (some (.inl u)) hp) : kEnd vms vdf d M (pc, kl, [.inl u], hp) P := by
  unfold vRt1 at hg
  split at hg
  · next x hx =>
    obtain ⟨i, len, a, b, t⟩ := x
    dsimp only at hg
    split at hg
    · refine ⟨_, kRe.rf _, .ireturn, len, a, b, t, some (.inl u), hx, rfl, ?_, h⟩
      show vRet M.2.2.2.1 .ireturn [.inl u] = _
      rcases hr with hr | ⟨hr, hu⟩
      · rw [hr]
        rfl
      · rw [hr]
        show (bif Nat.ble u 1 then some (some (.inl u : vAV)) else none) = _
        rw [Nat.ble_eq_true_of_le hu, cond_true]
    · cases hg
  · cases hg
set_option maxRecDepth 1000000 in
theorem xf_rt : [27, 35].all (fun p => vRt1 m_X9_find p) = true := by decide +kernel
set_option maxRecDepth 1000000 in
theorem mf_rt : [24, 32].all (fun p => vRt1 m_X12_find p) = true := by decide +kernel
set_option maxRecDepth 1000000 in
theorem mn_rt : vRt1 m_X12_isName 53 = true := by decide +kernel
theorem hM_xf : vms[41]? = some m_X9_find := by rw [← vNth_eq]; rfl
theorem hM_mf : vms[69]? = some m_X12_find := by rw [← vNth_eq]; rfl
theorem hM_mn : vms[68]? = some m_X12_isName := by rw [← vNth_eq]; rfl
/-- the first place of a word -/
def xFi (N : Nat → Nat) (w : Nat) : Nat → Nat → Option Nat
  | 0, _ => none
  | k + 1, i => if N i = w then some i else xFi N w k (i + 1)
def xFc (D : Nat → Nat) : Option Nat → Nat
  | some i => D i
  | none => 4294967295
theorem xFi_some {N : Nat → Nat} {w : Nat} : ∀ {k i j : Nat}, xFi N w k i = some j → i ≤ j ∧ j < i + k ∧ N j = w ∧ ∀ l, i ≤ l → l < j → N l ≠ w
  | 0, _, _, h => by cases h
  | k + 1, i, j, h => by
    unfold xFi at h
    split at h
    · next c =>
      have h := Option.some.inj h
      subst h
      exact ⟨by omega, by omega, c, fun l h1 h2 => by omega⟩
    · next c =>
      obtain ⟨h1, h2, h3, h4⟩ := xFi_some h
      refine ⟨by omega, by omega, h3, fun l l1 l2 => ?_⟩
      by_cases e : l = i
      · rw [e]
        exact c
      · exact h4 l (by omega) l2
theorem xFi_none {N : Nat → Nat} {w : Nat} : ∀ {k i : Nat}, xFi N w k i = none → ∀ l, i ≤ l → l < i + k → N l ≠ w
  | 0, i, _, l, h1, h2 => by omega
  | k + 1, i, h, l, h1, h2 => by
    unfold xFi at h
    split at h
    · cases h
    · next c =>
      by_cases e : l = i
      · rw [e]
        exact c
      · exact xFi_none h l (by omega) (by omega)
/-- names of a town of the class -/
def cNm (t : Nat) (hp : List vOb) (N D : Nat → Nat) (c : Nat) : Prop := hC hp t 18 (.inl c) ∧ hC hp t 16 (.inr (.inr (.inr (.inl (some (t + 11)))))) ∧ hC hp t 17 (.inr (.inr (.inr (.inl (some (t + 12)))))) ∧ (∀ i, i < c → hC hp (t + 11) i (.inr (.inr (.inl (N i)))) ∧ N i < 18446744073709551616 ∧ hC hp (t + 12) i (.inl (D i)))
/-- names of the reference, from a place on -/
def mNm (hp : List vOb) (N : Nat → Nat) (f c : Nat) : Prop := ∀ i, i < c → hC hp 225 (f + i) (.inr (.inr (.inl (N (f + i))))) ∧ N (f + i) < 18446744073709551616
def fnP (hp0 : List vOb) (v : Nat) (kr : Option vAV) (hp' : List vOb) : Prop := kr = some (.inl v) ∧ sFr [] hp0 hp'
theorem cNm_f0 {t c : Nat} {hp hp' : List vOb} {N D : Nat → Nat} (hf : sFr [] hp hp') (h : cNm t hp N D c) : cNm t hp' N D c := ⟨eC_fr0 hf h.1, eC_fr0 hf h.2.1, eC_fr0 hf h.2.2.1, fun i hi => ⟨eC_fr0 hf (h.2.2.2 i hi).1, (h.2.2.2 i hi).2.1, eC_fr0 hf (h.2.2.2 i hi).2.2⟩⟩
def xfL_4 (w i : Nat) : List (Option vAV) := [some (.inr (.inr (.inr (.inl (some 4))))), some (.inr (.inr (.inl w))), none, some (.inl i)]
theorem xf_loop_4 {d : Nat} (hd : 8 ≤ d) {N D : Nat → Nat} {c w v : Nat} (hw : w < 18446744073709551616) (hc : c ≤ 24) {hp0 : List vOb} : ∀ (k i : Nat) {hp : List vOb} {kl : vLs}, k + i = c → eSh sh4 hp → cNm 4 hp N D c → sFr [] hp0 hp → cLm (xfL_4 w i) kl → xFc D (xFi N w k i) = v → kEnd vms vdf d m_X9_find (2, kl, [], hp) (fnP hp0 v)
  | 0, i, hp, kl, hk, hs, hN, hF, hl, hx => by
    obtain ⟨kl1, hp1, q1, q2, q3⟩ := xf_x_4 (i := i) (w := w) (c := c) hd hs hl hN.1 (by omega) (by omega) (by omega)
    refine kEnd.of q1 (k_ireturn (List.all_eq_true.mp xf_rt _ (by decide)) (Or.inl rfl) ⟨?_, hF.tr q3⟩)
    rw [← hx]
    rfl
  | k + 1, i, hp, kl, hk, hs, hN, hF, hl, hx => by
    obtain ⟨n1, n2, n3⟩ := hN.2.2.2 i (by omega)
    by_cases e : N i = w
    · obtain ⟨kl1, hp1, q1, q2, q3⟩ := xf_e_4 (i := i) (w := w) (c := c) (k := N i) (v := D i) hd hs hl hN.1 hN.2.1 hN.2.2.1 n1 n3 (by omega) (by omega) (by omega) e
      refine kEnd.of q1 (k_ireturn (List.all_eq_true.mp xf_rt _ (by decide)) (Or.inl rfl) ⟨?_, hF.tr q3⟩)
      rw [← hx]
      unfold xFi
      rw [if_pos e]
      rfl
    · obtain ⟨kl1, hp1, q1, q2, q3⟩ := xf_n_4 (i := i) (w := w) (c := c) (k := N i) hd hs hl hN.1 hN.2.1 n1 (by omega) (by omega) (by omega) (eLc_ne n2 hw e)
      rw [vAdd_s (show i + 1 < 4294967296 by omega)] at q2
      refine kEnd.of q1 (xf_loop_4 hd hw hc k (i + 1) (by omega) (eSh_fr q3 hs) (cNm_f0 q3 hN) (hF.tr q3) q2 ?_)
      rw [← hx]
      show _ = xFc D (if N i = w then some i else xFi N w k (i + 1))
      rw [if_neg e]
theorem xf_ok_4 {d : Nat} (hd : 8 ≤ d) {N D : Nat → Nat} {c w : Nat} (hw : w < 18446744073709551616) (hc : c ≤ 24) {hp : List vOb} (hs : eSh sh4 hp) (hN : cNm 4 hp N D c) : ∃ kr hp', (∃ N, ∀ fuel, N ≤ fuel → vCalD vms vdf fuel (d + 1) 41 [.inr (.inr (.inr (.inl (some 4)))), .inr (.inr (.inl w))] hp = some (kr, hp', 0, 0)) ∧ fnP hp (xFc D (xFi N w c 0)) kr hp' := by
  refine kEnd_cal hM_xf (Nat.le_of_ble_eq_true rfl) rfl rfl ?_
  obtain ⟨kl1, hp1, q1, q2, q3⟩ := xf_0_4 (w := w) (kl := vEnt [.inr (.inr (.inr (.inl (some 4)))), .inr (.inr (.inl w))] m_X9_find.2.2.1) hd hs ⟨rfl, rfl, trivial⟩
  exact kEnd.of q1 (xf_loop_4 hd hw hc c 0 rfl (eSh_fr q3 hs) (cNm_f0 q3 hN) q3 q2 rfl)
def xfL_17 (w i : Nat) : List (Option vAV) := [some (.inr (.inr (.inr (.inl (some 17))))), some (.inr (.inr (.inl w))), none, some (.inl i)]
theorem xf_loop_17 {d : Nat} (hd : 8 ≤ d) {N D : Nat → Nat} {c w v : Nat} (hw : w < 18446744073709551616) (hc : c ≤ 24) {hp0 : List vOb} : ∀ (k i : Nat) {hp : List vOb} {kl : vLs}, k + i = c → eSh sh17 hp → cNm 17 hp N D c → sFr [] hp0 hp → cLm (xfL_17 w i) kl → xFc D (xFi N w k i) = v → kEnd vms vdf d m_X9_find (2, kl, [], hp) (fnP hp0 v)
  | 0, i, hp, kl, hk, hs, hN, hF, hl, hx => by
    obtain ⟨kl1, hp1, q1, q2, q3⟩ := xf_x_17 (i := i) (w := w) (c := c) hd hs hl hN.1 (by omega) (by omega) (by omega)
    refine kEnd.of q1 (k_ireturn (List.all_eq_true.mp xf_rt _ (by decide)) (Or.inl rfl) ⟨?_, hF.tr q3⟩)
    rw [← hx]
    rfl
  | k + 1, i, hp, kl, hk, hs, hN, hF, hl, hx => by
    obtain ⟨n1, n2, n3⟩ := hN.2.2.2 i (by omega)
    by_cases e : N i = w
    · obtain ⟨kl1, hp1, q1, q2, q3⟩ := xf_e_17 (i := i) (w := w) (c := c) (k := N i) (v := D i) hd hs hl hN.1 hN.2.1 hN.2.2.1 n1 n3 (by omega) (by omega) (by omega) e
      refine kEnd.of q1 (k_ireturn (List.all_eq_true.mp xf_rt _ (by decide)) (Or.inl rfl) ⟨?_, hF.tr q3⟩)
      rw [← hx]
      unfold xFi
      rw [if_pos e]
      rfl
    · obtain ⟨kl1, hp1, q1, q2, q3⟩ := xf_n_17 (i := i) (w := w) (c := c) (k := N i) hd hs hl hN.1 hN.2.1 n1 (by omega) (by omega) (by omega) (eLc_ne n2 hw e)
      rw [vAdd_s (show i + 1 < 4294967296 by omega)] at q2
      refine kEnd.of q1 (xf_loop_17 hd hw hc k (i + 1) (by omega) (eSh_fr q3 hs) (cNm_f0 q3 hN) (hF.tr q3) q2 ?_)
      rw [← hx]
      show _ = xFc D (if N i = w then some i else xFi N w k (i + 1))
      rw [if_neg e]
theorem xf_ok_17 {d : Nat} (hd : 8 ≤ d) {N D : Nat → Nat} {c w : Nat} (hw : w < 18446744073709551616) (hc : c ≤ 24) {hp : List vOb} (hs : eSh sh17 hp) (hN : cNm 17 hp N D c) : ∃ kr hp', (∃ N, ∀ fuel, N ≤ fuel → vCalD vms vdf fuel (d + 1) 41 [.inr (.inr (.inr (.inl (some 17)))), .inr (.inr (.inl w))] hp = some (kr, hp', 0, 0)) ∧ fnP hp (xFc D (xFi N w c 0)) kr hp' := by
  refine kEnd_cal hM_xf (Nat.le_of_ble_eq_true rfl) rfl rfl ?_
  obtain ⟨kl1, hp1, q1, q2, q3⟩ := xf_0_17 (w := w) (kl := vEnt [.inr (.inr (.inr (.inl (some 17)))), .inr (.inr (.inl w))] m_X9_find.2.2.1) hd hs ⟨rfl, rfl, trivial⟩
  exact kEnd.of q1 (xf_loop_17 hd hw hc c 0 rfl (eSh_fr q3 hs) (cNm_f0 q3 hN) q3 q2 rfl)
def mfL (f c i : Nat) : List (Option vAV) := [some (.inr (.inr (.inr (.inl (some 220))))), some (.inl f), some (.inl c), some (.inl i)]
theorem mf_loop {d : Nat} (hd : 8 ≤ d) {N : Nat → Nat} {f c w v : Nat} (hw : w < 18446744073709551616) (hc : c ≤ 24) (hf : f ≤ 48) {hp0 : List vOb} : ∀ (k i : Nat) {hp : List vOb} {kl : vLs}, k + i = c → eSh shM hp → hC hp 220 9 (.inr (.inr (.inr (.inl (some 225))))) → hC hp 220 17 (.inr (.inr (.inl w))) → mNm hp N f c → sFr [] hp0 hp → cLm (mfL f c i) kl → xFc (fun i => i) (xFi (fun i => N (f + i)) w k i) = v → kEnd vms vdf d m_X12_find (2, kl, [], hp) (fnP hp0 v)
  | 0, i, hp, kl, hk, hs, h9, h17, hN, hF, hl, hx => by
    obtain ⟨kl1, hp1, q1, q2, q3⟩ := mf_x (i := i) (c := c) hd hs (cLm_w2 hl ⟨rfl, rfl, rfl, trivial⟩) (by omega) (by omega) (by omega)
    refine kEnd.of q1 (k_ireturn (List.all_eq_true.mp mf_rt _ (by decide)) (Or.inl rfl) ⟨?_, hF.tr q3⟩)
    rw [← hx]
    rfl
  | k + 1, i, hp, kl, hk, hs, h9, h17, hN, hF, hl, hx => by
    obtain ⟨n1, n2⟩ := hN i (by omega)
    have ei : eBn 0 f i = f + i := vAdd_s (by omega)
    by_cases e : N (f + i) = w
    · obtain ⟨kl1, hp1, q1, q2, q3⟩ := mf_e (i := i) (f := f) (c := c) (k := N (f + i)) (w := w) hd hs hl h9 (by rw [ei]; exact n1) h17 (by omega) (by omega) (by omega) e
      refine kEnd.of q1 (k_ireturn (List.all_eq_true.mp mf_rt _ (by decide)) (Or.inl rfl) ⟨?_, hF.tr q3⟩)
      rw [← hx]
      unfold xFi
      rw [if_pos e]
      rfl
    · obtain ⟨kl1, hp1, q1, q2, q3⟩ := mf_n (i := i) (f := f) (c := c) (k := N (f + i)) (w := w) hd hs hl h9 (by rw [ei]; exact n1) h17 (by omega) (by omega) (by omega) (eLc_ne n2 hw e)
      rw [vAdd_s (show i + 1 < 4294967296 by omega)] at q2
      refine kEnd.of q1 (mf_loop hd hw hc hf k (i + 1) (by omega) (eSh_fr q3 hs) (eC_fr0 q3 h9) (eC_fr0 q3 h17) (fun j hj => ⟨eC_fr0 q3 (hN j hj).1, (hN j hj).2⟩) (hF.tr q3) q2 ?_)
      rw [← hx]
      show _ = xFc (fun i => i) (if N (f + i) = w then some i else xFi (fun i => N (f + i)) w k (i + 1))
      rw [if_neg e]
theorem mf_ok {d : Nat} (hd : 8 ≤ d) {N : Nat → Nat} {f c w : Nat} (hw : w < 18446744073709551616) (hc : c ≤ 24) (hf : f ≤ 48) {hp : List vOb} (hs : eSh shM hp) (h9 : hC hp 220 9 (.inr (.inr (.inr (.inl (some 225)))))) (h17 : hC hp 220 17 (.inr (.inr (.inl w)))) (hN : mNm hp N f c) : ∃ kr hp', (∃ N, ∀ fuel, N ≤ fuel → vCalD vms vdf fuel (d + 1) 69 [.inr (.inr (.inr (.inl (some 220)))), .inl f, .inl c] hp = some (kr, hp', 0, 0)) ∧ fnP hp (xFc (fun i => i) (xFi (fun i => N (f + i)) w c 0)) kr hp' := by
  refine kEnd_cal hM_mf (Nat.le_of_ble_eq_true rfl) rfl rfl ?_
  obtain ⟨kl1, hp1, q1, q2, q3⟩ := mf_0 (f := f) (c := c) (kl := vEnt [.inr (.inr (.inr (.inl (some 220)))), .inl f, .inl c] m_X12_find.2.2.1) hd hs ⟨rfl, rfl, rfl, trivial⟩
  exact kEnd.of q1 (mf_loop hd hw hc hf c 0 rfl (eSh_fr q3 hs) (eC_fr0 q3 h9) (eC_fr0 q3 h17) (fun j hj => ⟨eC_fr0 q3 (hN j hj).1, (hN j hj).2⟩) q3 q2 rfl)
/-! isName() of the reference -/
def mRs (hp : List vOb) (R : Nat → Nat) : Prop := hC hp 220 10 (.inr (.inr (.inr (.inl (some 226))))) ∧ ∀ i, i < 25 → hC hp 226 i (.inr (.inr (.inl (R i)))) ∧ R i < 18446744073709551616
theorem mRs_f0 {hp hp' : List vOb} {R : Nat → Nat} (hf : sFr [] hp hp') (h : mRs hp R) : mRs hp' R := ⟨eC_fr0 hf h.1, fun i hi => ⟨eC_fr0 hf (h.2 i hi).1, (h.2 i hi).2⟩⟩
def xNr (R : Nat → Nat) (w : Nat) : Nat → Nat → Nat
  | 0, _ => 1
  | k + 1, i => if w = R i then 0 else xNr R w k (i + 1)
def mnL (b i : Nat) : List (Option vAV) := [some (.inr (.inr (.inr (.inl (some 220))))), some (.inl b), some (.inl i)]
theorem mn_loop0 {d : Nat} (hd : 8 ≤ d) {hp0 : List vOb} : ∀ (k i : Nat) {hp : List vOb} {kl : vLs}, k + i = 25 → eSh shM hp → sFr [] hp0 hp → cLm (mnL 0 i) kl → kEnd vms vdf d m_X12_isName (16, kl, [], hp) (fnP hp0 0)
  | 0, i, hp, kl, hk, hs, hF, hl => by
    obtain ⟨kl1, hp1, q1, q2, q3⟩ := mn_x0 (i := i) hd hs hl (by omega)
    exact kEnd.of q1 (k_ireturn mn_rt (Or.inr ⟨rfl, by omega⟩) ⟨rfl, hF.tr q3⟩)
  | k + 1, i, hp, kl, hk, hs, hF, hl => by
    obtain ⟨kl1, hp1, q1, q2, q3⟩ := mn_z (i := i) hd hs hl (by omega)
    rw [vAdd_s (show i + 1 < 4294967296 by omega)] at q2
    exact kEnd.of q1 (mn_loop0 hd k (i + 1) (by omega) (eSh_fr q3 hs) (hF.tr q3) q2)
theorem mn_loop1 {d : Nat} (hd : 8 ≤ d) {R : Nat → Nat} {w : Nat} (hw : w < 18446744073709551616) {hp0 : List vOb} {v : Nat} : ∀ (k i : Nat) {hp : List vOb} {kl : vLs}, k + i = 25 → eSh shM hp → mRs hp R → hC hp 220 17 (.inr (.inr (.inl w))) → sFr [] hp0 hp → cLm (mnL 1 i) kl → xNr R w k i = v → kEnd vms vdf d m_X12_isName (16, kl, [], hp) (fnP hp0 v)
  | 0, i, hp, kl, hk, hs, hR, h17, hF, hl, hx => by
    obtain ⟨kl1, hp1, q1, q2, q3⟩ := mn_x1 (i := i) hd hs hl (by omega)
    refine kEnd.of q1 (k_ireturn mn_rt (Or.inr ⟨rfl, by omega⟩) ⟨?_, hF.tr q3⟩)
    rw [← hx]
    rfl
  | k + 1, i, hp, kl, hk, hs, hR, h17, hF, hl, hx => by
    obtain ⟨n1, n2⟩ := hR.2 i (by omega)
    unfold xNr at hx
    by_cases e : w = R i
    · obtain ⟨kl1, hp1, q1, q2, q3⟩ := mn_e (i := i) (r := R i) (w := w) hd hs hl hR.1 n1 h17 (by omega) e
      rw [vAdd_s (show i + 1 < 4294967296 by omega)] at q2
      rw [if_pos e] at hx
      subst hx
      exact kEnd.of q1 (mn_loop0 hd k (i + 1) (by omega) (eSh_fr q3 hs) (hF.tr q3) q2)
    · obtain ⟨kl1, hp1, q1, q2, q3⟩ := mn_n (i := i) (r := R i) (w := w) hd hs hl hR.1 n1 h17 (by omega) (eLc_ne hw n2 e)
      rw [vAdd_s (show i + 1 < 4294967296 by omega)] at q2
      rw [if_neg e] at hx
      exact kEnd.of q1 (mn_loop1 hd hw k (i + 1) (by omega) (eSh_fr q3 hs) (mRs_f0 q3 hR) (eC_fr0 q3 h17) (hF.tr q3) q2 hx)
theorem mn_ok {d : Nat} (hd : 8 ≤ d) {R : Nat → Nat} {t w : Nat} (ht : t < 4294967296) {hp : List vOb} (hs : eSh shM hp) (hR : mRs hp R) (h11 : hC hp 220 11 (.inl t)) (h17 : t = 1 → hC hp 220 17 (.inr (.inr (.inl w))) ∧ w < 18446744073709551616) : ∃ kr hp', (∃ N, ∀ fuel, N ≤ fuel → vCalD vms vdf fuel (d + 1) 68 [.inr (.inr (.inr (.inl (some 220))))] hp = some (kr, hp', 0, 0)) ∧ fnP hp (if t = 1 then xNr R w 25 0 else 0) kr hp' := by
  refine kEnd_cal hM_mn (by decide) rfl rfl ?_
  by_cases e : t = 1
  · obtain ⟨h1, h2⟩ := h17 e
    obtain ⟨kl1, hp1, q1, q2, q3⟩ := mn_0w (t := t) (kl := vEnt [.inr (.inr (.inr (.inl (some 220))))] m_X12_isName.2.2.1) hd hs ⟨rfl, trivial⟩ h11 ht e
    rw [if_pos e]
    exact kEnd.of q1 (mn_loop1 hd h2 25 0 rfl (eSh_fr q3 hs) (mRs_f0 q3 hR) (eC_fr0 q3 h1) q3 q2 rfl)
  · obtain ⟨kl1, hp1, q1, q2, q3⟩ := mn_0n (t := t) (kl := vEnt [.inr (.inr (.inr (.inl (some 220))))] m_X12_isName.2.2.1) hd hs ⟨rfl, trivial⟩ h11 ht e
    rw [if_neg e]
    exact kEnd.of q1 (mn_loop0 hd 25 0 rfl (eSh_fr q3 hs) q3 q2)
