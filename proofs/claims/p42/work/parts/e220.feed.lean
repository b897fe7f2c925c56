/-! ===== feed(): the same bytes ===== -/
theorem kI2b_shr {u s k : Nat} (hk : ((nI s &&& 31).toBitVec.smod 32).toNat = k) (h24 : k ≤ 24) (hu : u < 4294967296) : kI2b (kShr u s) = kI2b (u / 2 ^ k) := by
  have hu2 : u / 2 ^ k < 4294967296 := Nat.lt_of_le_of_lt (Nat.div_le_self _ _) hu
  have e : (nI (kShr u s)).toInt8 = (nI (u / 2 ^ k)).toInt8 := by
    apply Int8.toBitVec_inj.mp
    show (nI (kShr u s)).toBitVec.signExtend 8 = (nI (u / 2 ^ k)).toBitVec.signExtend 8
    have e1 : (nI (kShr u s)).toBitVec = (nI u).toBitVec.sshiftRight k := by
      unfold kShr
      rw [kn_nIb]
      show (nI u).toBitVec.sshiftRight ((nI s &&& 31).toBitVec.smod 32).toNat = _
      rw [hk]
    have e2 : (nI (u / 2 ^ k)).toBitVec = (nI u).toBitVec >>> k := by
      apply BitVec.eq_of_toNat_eq
      rw [BitVec.toNat_ushiftRight, kn_nI hu, kn_nI hu2, Nat.shiftRight_eq_div_pow]
    rw [e1, e2]
    apply BitVec.eq_of_getLsbD_eq
    intro i hi
    rw [BitVec.getLsbD_signExtend, BitVec.getLsbD_signExtend, BitVec.getLsbD_sshiftRight, BitVec.getLsbD_ushiftRight]
    have h1 : k + i < 32 := by omega
    have h2 : i < 32 := by omega
    have h3 : ¬ 32 ≤ i := by omega
    simp [h1, h2, h3]
  unfold kI2b
  rw [e]
/-- the byte j of a number, the highest first -/
def bW (v j : Nat) : Nat := eUn 3 (eUn 2 (v / 2 ^ (24 - 8 * j)))
def fB (l : List Nat) (j : Nat) : Nat := bW (l.getD (j / 4) 0) (j % 4)
theorem bW_x (v : Nat) : eUn 3 (eUn 2 (eBn 7 v 24)) = bW v 0 ∧ eUn 3 (eUn 2 (eBn 7 v 16)) = bW v 1 ∧ eUn 3 (eUn 2 (eBn 7 v 8)) = bW v 2 ∧ eUn 3 (eUn 2 (eBn 7 v 0)) = bW v 3 := ⟨rfl, rfl, rfl, rfl⟩
theorem bW_m {v : Nat} (hv : v < 4294967296) : eUn 3 (eUn 2 (eBn 8 v 24)) = bW v 0 ∧ eUn 3 (eUn 2 (eBn 8 v 16)) = bW v 1 ∧ eUn 3 (eUn 2 (eBn 8 v 8)) = bW v 2 ∧ eUn 3 (eUn 2 (eBn 8 v 0)) = bW v 3 := by
  refine ⟨?_, ?_, ?_, ?_⟩
  · show eUn 3 (kI2b (kShr v 24)) = eUn 3 (kI2b (v / 2 ^ 24))
    rw [kI2b_shr (s := 24) (k := 24) (by decide) (by decide) hv]
  · show eUn 3 (kI2b (kShr v 16)) = eUn 3 (kI2b (v / 2 ^ 16))
    rw [kI2b_shr (s := 16) (k := 16) (by decide) (by decide) hv]
  · show eUn 3 (kI2b (kShr v 8)) = eUn 3 (kI2b (v / 2 ^ 8))
    rw [kI2b_shr (s := 8) (k := 8) (by decide) (by decide) hv]
  · show eUn 3 (kI2b (kShr v 0)) = eUn 3 (kI2b (v / 2 ^ 0))
    rw [kI2b_shr (s := 0) (k := 0) (by decide) (by decide) hv]
/-- bytes of a number in a row -/
def bR (hp : List vOb) (k n v : Nat) : Prop := hC hp k n (.inl (bW v 0)) ∧ hC hp k (n + 1) (.inl (bW v 1)) ∧ hC hp k (n + 2) (.inl (bW v 2)) ∧ hC hp k (n + 3) (.inl (bW v 3))
theorem bR_fr {md : sMd} {hp hp' : List vOb} {k n v : Nat} (hf : sFr md hp hp') (hm : ∀ i, n ≤ i → i ≤ n + 3 → ¬ sMin md k i) (h : bR hp k n v) : bR hp' k n v := ⟨hC_fr hf (hm _ (by omega) (by omega)) h.1, hC_fr hf (hm _ (by omega) (by omega)) h.2.1, hC_fr hf (hm _ (by omega) (by omega)) h.2.2.1, hC_fr hf (hm _ (by omega) (by omega)) h.2.2.2⟩
theorem bR_all {hp : List vOb} {k n a b c d e : Nat} (h0 : bR hp k n a) (h1 : bR hp k (n + 4) b) (h2 : bR hp k (n + 8) c) (h3 : bR hp k (n + 12) d) (h4 : bR hp k (n + 16) e) : ∀ j, j < 20 → hC hp k (n + j) (.inl (fB [a, b, c, d, e] j)) := fun j hj => by
  match j, hj with
  | 0, _ => exact h0.1
  | 1, _ => exact h0.2.1
  | 2, _ => exact h0.2.2.1
  | 3, _ => exact h0.2.2.2
  | 4, _ => exact h1.1
  | 5, _ => exact h1.2.1
  | 6, _ => exact h1.2.2.1
  | 7, _ => exact h1.2.2.2
  | 8, _ => exact h2.1
  | 9, _ => exact h2.2.1
  | 10, _ => exact h2.2.2.1
  | 11, _ => exact h2.2.2.2
  | 12, _ => exact h3.1
  | 13, _ => exact h3.2.1
  | 14, _ => exact h3.2.2.1
  | 15, _ => exact h3.2.2.2
  | 16, _ => exact h4.1
  | 17, _ => exact h4.2.1
  | 18, _ => exact h4.2.2.1
  | 19, _ => exact h4.2.2.2
  | j + 20, hj => omega
set_option maxRecDepth 1000000 in
theorem pnx_k : eQ (eRun [(0, 88, 19), (1, 48, 13), (2, 2, 940)] (eCalI eNo vms [(0, 88, 19), (1, 48, 13), (2, 2, 940)] 400 8) vt_X11_putNumber [] 100 [false, false, false, false] (0, [some (.inr (.inr (some 0))), some (.inl [(1, 1)]), none], [], [(0, [(0, 0)], .inr (.inr (some 1)), []), (1, [(0, 0)], .inr (.inr (some 2)), []), (0, [(0, 1)], .inl [(1, 0)], [])], [])) (49, [some (.inr (.inr (some 0))), some (.inl [(1, 1)]), some (.inl [(0, 4294967288)])], [], [(0, [(0, 1)], .inl [(1, 0), (0, 1), (2, 0), (0, 1), (2, 0), (0, 1), (2, 0), (0, 1), (2, 0)], []), (2, [(1, 0), (0, 1), (2, 0), (0, 1), (2, 0), (0, 1), (2, 0)], .inl [(1, 1), (0, 0), (2, 7), (3, 2), (3, 3)], []), (2, [(1, 0), (0, 1), (2, 0), (0, 1), (2, 0)], .inl [(1, 1), (0, 8), (2, 7), (3, 2), (3, 3)], []), (2, [(1, 0), (0, 1), (2, 0)], .inl [(1, 1), (0, 16), (2, 7), (3, 2), (3, 3)], []), (2, [(1, 0)], .inl [(1, 1), (0, 24), (2, 7), (3, 2), (3, 3)], []), (0, [(0, 0)], .inr (.inr (some 1)), []), (1, [(0, 0)], .inr (.inr (some 2)), [])], [(0, [(0, 1)]), (2, [(1, 0), (0, 1), (2, 0), (0, 1), (2, 0), (0, 1), (2, 0)]), (0, [(0, 1)]), (2, [(1, 0), (0, 1), (2, 0), (0, 1), (2, 0)]), (0, [(0, 1)]), (2, [(1, 0), (0, 1), (2, 0)]), (0, [(0, 1)]), (2, [(1, 0)])]) [(3, [(1, 0)], [(0, 940)], false), (100, [(1, 0)], [(0, 940)], true), (3, [(1, 0), (0, 1), (2, 0)], [(0, 940)], false), (100, [(1, 0), (0, 1), (2, 0)], [(0, 940)], true), (1, [(1, 0)], [(1, 0), (0, 1), (2, 0)], true), (3, [(1, 0), (0, 1), (2, 0), (0, 1), (2, 0)], [(0, 940)], false), (100, [(1, 0), (0, 1), (2, 0), (0, 1), (2, 0)], [(0, 940)], true), (1, [(1, 0), (0, 1), (2, 0)], [(1, 0), (0, 1), (2, 0), (0, 1), (2, 0)], true), (1, [(1, 0)], [(1, 0), (0, 1), (2, 0), (0, 1), (2, 0)], true), (3, [(1, 0), (0, 1), (2, 0), (0, 1), (2, 0), (0, 1), (2, 0)], [(0, 940)], false), (100, [(1, 0), (0, 1), (2, 0), (0, 1), (2, 0), (0, 1), (2, 0)], [(0, 940)], true), (1, [(1, 0), (0, 1), (2, 0), (0, 1), (2, 0)], [(1, 0), (0, 1), (2, 0), (0, 1), (2, 0), (0, 1), (2, 0)], true), (1, [(1, 0), (0, 1), (2, 0)], [(1, 0), (0, 1), (2, 0), (0, 1), (2, 0), (0, 1), (2, 0)], true), (1, [(1, 0)], [(1, 0), (0, 1), (2, 0), (0, 1), (2, 0), (0, 1), (2, 0)], true)] [] = true := by decide +kernel
def pnx_i : eD := [(0, [(0, 0)], .inr (.inr (some 1)), []), (1, [(0, 0)], .inr (.inr (some 2)), []), (0, [(0, 1)], .inl [(1, 0)], [])]
def pnx_d : eD := [(0, [(0, 1)], .inl [(1, 0), (0, 1), (2, 0), (0, 1), (2, 0), (0, 1), (2, 0), (0, 1), (2, 0)], []), (2, [(1, 0), (0, 1), (2, 0), (0, 1), (2, 0), (0, 1), (2, 0)], .inl [(1, 1), (0, 0), (2, 7), (3, 2), (3, 3)], []), (2, [(1, 0), (0, 1), (2, 0), (0, 1), (2, 0)], .inl [(1, 1), (0, 8), (2, 7), (3, 2), (3, 3)], []), (2, [(1, 0), (0, 1), (2, 0)], .inl [(1, 1), (0, 16), (2, 7), (3, 2), (3, 3)], []), (2, [(1, 0)], .inl [(1, 1), (0, 24), (2, 7), (3, 2), (3, 3)], []), (0, [(0, 0)], .inr (.inr (some 1)), []), (1, [(0, 0)], .inr (.inr (some 2)), [])]
def pnx_w : List (Nat × eX) := [(0, [(0, 1)]), (2, [(1, 0), (0, 1), (2, 0), (0, 1), (2, 0), (0, 1), (2, 0)]), (0, [(0, 1)]), (2, [(1, 0), (0, 1), (2, 0), (0, 1), (2, 0)]), (0, [(0, 1)]), (2, [(1, 0), (0, 1), (2, 0)]), (0, [(0, 1)]), (2, [(1, 0)])]
set_option maxRecDepth 100000 in
theorem pnx_f : (eWl [some (.inr (.inr (some 0))), some (.inl [(1, 1)]), none] && (([] : List eV).all eWv && eWd pnx_i)) = true := by decide +kernel
set_option maxRecDepth 1000000 in
theorem pnx_r : vRt0 m_X11_putNumber 49 = true := by decide +kernel
theorem hM_pnx : vms[25]? = some m_X11_putNumber := by rw [← vNth_eq]; rfl
theorem pnx {d : Nat} (hd : 8 ≤ d) {hp : List vOb} {n v : Nat} (hn9 : n ≤ 936) (hv : v < 4294967296) (hs : eSh [(0, 88, 19), (1, 48, 13), (2, 2, 940)] hp) (r0 : hC hp 0 0 (.inr (.inr (.inr (.inl (some 1)))))) (r1 : hC hp 1 0 (.inr (.inr (.inr (.inl (some 2)))))) (hn : hC hp 0 1 (.inl n)) : ∃ hp', (∃ N, ∀ fuel, N ≤ fuel → vCalD vms vdf fuel (d + 1) 25 [(.inr (.inr (.inr (.inl (some 0))))), .inl v] hp = some (none, hp', 0, 0)) ∧ hC hp' 0 1 (.inl (n + 4)) ∧ bR hp' 2 n v ∧ sFr [(0, 1, 1), (2, n, n + 3)] hp hp' := by
  have s0 : eR (rL [n, v]) [(1, 0)] n := eR_s (j := 0) (u := n) rfl
  have v1 : eR (rL [n, v]) [(1, 1)] v := eR_s (j := 1) (u := v) rfl
  have s1 : eR (rL [n, v]) [(1, 0), (0, 1), (2, 0)] (n + 1) := eR_to (eR_b 0 s0 (eR_c _ 1)) (vAdd_s (by omega))
  have s2 : eR (rL [n, v]) [(1, 0), (0, 1), (2, 0), (0, 1), (2, 0)] (n + 2) := eR_to (eR_b 0 s1 (eR_c _ 1)) (vAdd_s (by omega))
  have s3 : eR (rL [n, v]) [(1, 0), (0, 1), (2, 0), (0, 1), (2, 0), (0, 1), (2, 0)] (n + 3) := eR_to (eR_b 0 s2 (eR_c _ 1)) (vAdd_s (by omega))
  have s4 : eR (rL [n, v]) [(1, 0), (0, 1), (2, 0), (0, 1), (2, 0), (0, 1), (2, 0), (0, 1), (2, 0)] (n + 4) := eR_to (eR_b 0 s3 (eR_c _ 1)) (vAdd_s (by omega))
  have bb := bW_x v
  have key : kEnd vms vdf d m_X11_putNumber (0, vEnt [(.inr (.inr (.inr (.inl (some 0))))), .inl v] m_X11_putNumber.2.2.1, [], hp) (fun r hp' => r = none ∧ hC hp' 0 1 (.inl (n + 4)) ∧ bR hp' 2 n v ∧ sFr [(0, 1, 1), (2, n, n + 3)] hp hp') := by
    obtain ⟨kl1, hp1, k1, k2, k3, k4⟩ := e_go (vms := vms) (df := vdf) (d := d) (ρ := rL [n, v]) hd pnx_k pnx_f hs (all_cons (eCo_of (eR_val s0) (eR_val (eR_c _ 940)) (by decide) (kc3f (by unfold sBi; omega))) (all_cons (eCo_ix (eR_val s0) (eR_val (eR_c _ 940)) (by omega)) (all_cons (eCo_of (eR_val s1) (eR_val (eR_c _ 940)) (by decide) (kc3f (by unfold sBi; omega))) (all_cons (eCo_ix (eR_val s1) (eR_val (eR_c _ 940)) (by omega)) (all_cons (eCo_of (eR_val s0) (eR_val s1) (by decide) (kc1t (by unfold sBi; omega))) (all_cons (eCo_of (eR_val s2) (eR_val (eR_c _ 940)) (by decide) (kc3f (by unfold sBi; omega))) (all_cons (eCo_ix (eR_val s2) (eR_val (eR_c _ 940)) (by omega)) (all_cons (eCo_of (eR_val s1) (eR_val s2) (by decide) (kc1t (by unfold sBi; omega))) (all_cons (eCo_of (eR_val s0) (eR_val s2) (by decide) (kc1t (by unfold sBi; omega))) (all_cons (eCo_of (eR_val s3) (eR_val (eR_c _ 940)) (by decide) (kc3f (by unfold sBi; omega))) (all_cons (eCo_ix (eR_val s3) (eR_val (eR_c _ 940)) (by omega)) (all_cons (eCo_of (eR_val s2) (eR_val s3) (by decide) (kc1t (by unfold sBi; omega))) (all_cons (eCo_of (eR_val s1) (eR_val s3) (by decide) (kc1t (by unfold sBi; omega))) (all_cons (eCo_of (eR_val s0) (eR_val s3) (by decide) (kc1t (by unfold sBi; omega))) all_nil)))))))))))))) (kl := vEnt [(.inr (.inr (.inr (.inl (some 0))))), .inl v] m_X11_putNumber.2.2.1) ⟨rfl, congrArg some (eCv_i v1).symm, trivial⟩ (eDt_add (k := 0) (eR_c _ 0) rfl r0 (eDt_add (k := 1) (eR_c _ 0) rfl r1 (eDt_add (k := 0) (eR_c _ 1) (eCv_i s0) hn eDt_nil)))
    refine kEnd.of k1 (k_return pnx_r rfl ⟨rfl, eDt_at (x := [(0, 1)]) (y := .inl [(1, 0), (0, 1), (2, 0), (0, 1), (2, 0), (0, 1), (2, 0), (0, 1), (2, 0)]) (g := []) k3 (by decide) (fun q hq => by cases hq) (eR_val (eR_c _ 1)) (eCv_i s4), ⟨eDt_at (x := [(1, 0)]) (y := .inl [(1, 1), (0, 24), (2, 7), (3, 2), (3, 3)]) (g := []) k3 (by decide) (fun q hq => by cases hq) (eR_val s0) (eCv_i (eR_to (eR_u 3 (eR_u 2 (eR_b 7 v1 (eR_c _ 24)))) (bb.1))), eDt_at (x := [(1, 0), (0, 1), (2, 0)]) (y := .inl [(1, 1), (0, 16), (2, 7), (3, 2), (3, 3)]) (g := []) k3 (by decide) (fun q hq => by cases hq) (eR_val s1) (eCv_i (eR_to (eR_u 3 (eR_u 2 (eR_b 7 v1 (eR_c _ 16)))) (bb.2.1))), eDt_at (x := [(1, 0), (0, 1), (2, 0), (0, 1), (2, 0)]) (y := .inl [(1, 1), (0, 8), (2, 7), (3, 2), (3, 3)]) (g := []) k3 (by decide) (fun q hq => by cases hq) (eR_val s2) (eCv_i (eR_to (eR_u 3 (eR_u 2 (eR_b 7 v1 (eR_c _ 8)))) (bb.2.2.1))), eDt_at (x := [(1, 0), (0, 1), (2, 0), (0, 1), (2, 0), (0, 1), (2, 0)]) (y := .inl [(1, 1), (0, 0), (2, 7), (3, 2), (3, 3)]) (g := []) k3 (by decide) (fun q hq => by cases hq) (eR_val s3) (eCv_i (eR_to (eR_u 3 (eR_u 2 (eR_b 7 v1 (eR_c _ 0)))) (bb.2.2.2)))⟩, k4.mono (fun k i hm => ?_)⟩)
    obtain ⟨e, e1, e2, e3⟩ := eMd_min hm
    simp only [pnx_w, List.mem_cons, List.not_mem_nil, or_false] at e1
    rcases e1 with rfl | rfl | rfl | rfl | rfl | rfl | rfl | rfl
    · rw [eR_val (eR_c _ 1)] at e3; exact ⟨_, List.mem_cons_self, e2, by dsimp only; omega, by dsimp only; omega⟩
    · rw [eR_val s3] at e3; exact ⟨_, List.mem_cons_of_mem _ List.mem_cons_self, e2, by dsimp only; omega, by dsimp only; omega⟩
    · rw [eR_val (eR_c _ 1)] at e3; exact ⟨_, List.mem_cons_self, e2, by dsimp only; omega, by dsimp only; omega⟩
    · rw [eR_val s2] at e3; exact ⟨_, List.mem_cons_of_mem _ List.mem_cons_self, e2, by dsimp only; omega, by dsimp only; omega⟩
    · rw [eR_val (eR_c _ 1)] at e3; exact ⟨_, List.mem_cons_self, e2, by dsimp only; omega, by dsimp only; omega⟩
    · rw [eR_val s1] at e3; exact ⟨_, List.mem_cons_of_mem _ List.mem_cons_self, e2, by dsimp only; omega, by dsimp only; omega⟩
    · rw [eR_val (eR_c _ 1)] at e3; exact ⟨_, List.mem_cons_self, e2, by dsimp only; omega, by dsimp only; omega⟩
    · rw [eR_val s0] at e3; exact ⟨_, List.mem_cons_of_mem _ List.mem_cons_self, e2, by dsimp only; omega, by dsimp only; omega⟩
  obtain ⟨r, hp', h1, h2, h3⟩ := kEnd_cal (kav := [(.inr (.inr (.inr (.inl (some 0))))), .inl v]) hM_pnx (show 2 ≤ 3 by decide) rfl rfl key
  subst h2
  exact ⟨hp', h1, h3⟩
set_option maxRecDepth 1000000 in
theorem fdx_a : eQ (eRun [(0, 88, 19), (1, 48, 13), (2, 2, 940)] (eCalI eNo vms [(0, 88, 19), (1, 48, 13), (2, 2, 940)] 100 8) vt_X11_feed [15] 6 [true] (0, [some (.inr (.inr (some 0))), some (.inl [(1, 1)]), some (.inl [(1, 2)]), some (.inl [(1, 3)]), some (.inl [(1, 4)]), some (.inl [(1, 5)])], [], [(0, [(0, 1)], .inl [(1, 0)], [])], [])) (15, [some (.inr (.inr (some 0))), some (.inl [(1, 1)]), some (.inl [(1, 2)]), some (.inl [(1, 3)]), some (.inl [(1, 4)]), some (.inl [(1, 5)])], [], [(0, [(0, 1)], .inl [(1, 0)], [])], []) [(5, [(1, 0), (0, 20), (2, 0)], [(0, 940)], true)] [] = true := by decide +kernel
set_option maxRecDepth 100000 in
theorem fdx_f : (eWl [some (.inr (.inr (some 0))), some (.inl [(1, 1)]), some (.inl [(1, 2)]), some (.inl [(1, 3)]), some (.inl [(1, 4)]), some (.inl [(1, 5)])] && (([] : List eV).all eWv && eWd [(0, [(0, 1)], .inl [(1, 0)], [])])) = true := by decide +kernel
set_option maxRecDepth 100000 in
theorem fdx_f0 : (eWl [some (.inr (.inr (some 0))), some (.inl [(1, 1)]), some (.inl [(1, 2)]), some (.inl [(1, 3)]), some (.inl [(1, 4)]), some (.inl [(1, 5)])] && (([] : List eV).all eWv && eWd [])) = true := by decide +kernel
set_option maxRecDepth 1000000 in
theorem fdx_s0 : eQ (eRun [(0, 88, 19), (1, 48, 13), (2, 2, 940)] (eCalI eNo vms [(0, 88, 19), (1, 48, 13), (2, 2, 940)] 100 8) vt_X11_feed [17] 2 [] (15, [some (.inr (.inr (some 0))), some (.inl [(1, 1)]), some (.inl [(1, 2)]), some (.inl [(1, 3)]), some (.inl [(1, 4)]), some (.inl [(1, 5)])], [], [], [])) (17, [some (.inr (.inr (some 0))), some (.inl [(1, 1)]), some (.inl [(1, 2)]), some (.inl [(1, 3)]), some (.inl [(1, 4)]), some (.inl [(1, 5)])], [.inl [(1, 1)], .inr (.inr (some 0))], [], []) [] [] = true := by decide +kernel
set_option maxRecDepth 1000000 in
theorem fdx_v0 : eIsV vt_X11_feed 17 25 1 11 = true := by decide +kernel
set_option maxRecDepth 1000000 in
theorem fdx_s1 : eQ (eRun [(0, 88, 19), (1, 48, 13), (2, 2, 940)] (eCalI eNo vms [(0, 88, 19), (1, 48, 13), (2, 2, 940)] 100 8) vt_X11_feed [22] 2 [] (20, [some (.inr (.inr (some 0))), some (.inl [(1, 1)]), some (.inl [(1, 2)]), some (.inl [(1, 3)]), some (.inl [(1, 4)]), some (.inl [(1, 5)])], [], [], [])) (22, [some (.inr (.inr (some 0))), some (.inl [(1, 1)]), some (.inl [(1, 2)]), some (.inl [(1, 3)]), some (.inl [(1, 4)]), some (.inl [(1, 5)])], [.inl [(1, 2)], .inr (.inr (some 0))], [], []) [] [] = true := by decide +kernel
set_option maxRecDepth 1000000 in
theorem fdx_v1 : eIsV vt_X11_feed 22 25 1 11 = true := by decide +kernel
set_option maxRecDepth 1000000 in
theorem fdx_s2 : eQ (eRun [(0, 88, 19), (1, 48, 13), (2, 2, 940)] (eCalI eNo vms [(0, 88, 19), (1, 48, 13), (2, 2, 940)] 100 8) vt_X11_feed [27] 2 [] (25, [some (.inr (.inr (some 0))), some (.inl [(1, 1)]), some (.inl [(1, 2)]), some (.inl [(1, 3)]), some (.inl [(1, 4)]), some (.inl [(1, 5)])], [], [], [])) (27, [some (.inr (.inr (some 0))), some (.inl [(1, 1)]), some (.inl [(1, 2)]), some (.inl [(1, 3)]), some (.inl [(1, 4)]), some (.inl [(1, 5)])], [.inl [(1, 3)], .inr (.inr (some 0))], [], []) [] [] = true := by decide +kernel
set_option maxRecDepth 1000000 in
theorem fdx_v2 : eIsV vt_X11_feed 27 25 1 11 = true := by decide +kernel
set_option maxRecDepth 1000000 in
theorem fdx_s3 : eQ (eRun [(0, 88, 19), (1, 48, 13), (2, 2, 940)] (eCalI eNo vms [(0, 88, 19), (1, 48, 13), (2, 2, 940)] 100 8) vt_X11_feed [33] 2 [] (30, [some (.inr (.inr (some 0))), some (.inl [(1, 1)]), some (.inl [(1, 2)]), some (.inl [(1, 3)]), some (.inl [(1, 4)]), some (.inl [(1, 5)])], [], [], [])) (33, [some (.inr (.inr (some 0))), some (.inl [(1, 1)]), some (.inl [(1, 2)]), some (.inl [(1, 3)]), some (.inl [(1, 4)]), some (.inl [(1, 5)])], [.inl [(1, 4)], .inr (.inr (some 0))], [], []) [] [] = true := by decide +kernel
set_option maxRecDepth 1000000 in
theorem fdx_v3 : eIsV vt_X11_feed 33 25 1 11 = true := by decide +kernel
set_option maxRecDepth 1000000 in
theorem fdx_s4 : eQ (eRun [(0, 88, 19), (1, 48, 13), (2, 2, 940)] (eCalI eNo vms [(0, 88, 19), (1, 48, 13), (2, 2, 940)] 100 8) vt_X11_feed [39] 2 [] (36, [some (.inr (.inr (some 0))), some (.inl [(1, 1)]), some (.inl [(1, 2)]), some (.inl [(1, 3)]), some (.inl [(1, 4)]), some (.inl [(1, 5)])], [], [], [])) (39, [some (.inr (.inr (some 0))), some (.inl [(1, 1)]), some (.inl [(1, 2)]), some (.inl [(1, 3)]), some (.inl [(1, 4)]), some (.inl [(1, 5)])], [.inl [(1, 5)], .inr (.inr (some 0))], [], []) [] [] = true := by decide +kernel
set_option maxRecDepth 1000000 in
theorem fdx_v4 : eIsV vt_X11_feed 39 25 1 11 = true := by decide +kernel
set_option maxRecDepth 1000000 in
theorem fdx_e : eQ (eRun [(0, 88, 19), (1, 48, 13), (2, 2, 940)] (eCalI eNo vms [(0, 88, 19), (1, 48, 13), (2, 2, 940)] 100 8) vt_X11_feed [46] 2 [] (42, [some (.inr (.inr (some 0))), some (.inl [(1, 1)]), some (.inl [(1, 2)]), some (.inl [(1, 3)]), some (.inl [(1, 4)]), some (.inl [(1, 5)])], [], [(0, [(0, 1)], .inl [(1, 0)], [])], [])) (46, [some (.inr (.inr (some 0))), some (.inl [(1, 1)]), some (.inl [(1, 2)]), some (.inl [(1, 3)]), some (.inl [(1, 4)]), some (.inl [(1, 5)])], [.inl [(1, 0)]], [(0, [(0, 1)], .inl [(1, 0)], [])], []) [] [] = true := by decide +kernel
set_option maxRecDepth 1000000 in
theorem fdx_r : vRt1 m_X11_feed 46 = true := by decide +kernel
theorem hM_fdx : vms[26]? = some m_X11_feed := by rw [← vNth_eq]; rfl
theorem fdx {hp : List vOb} {n a b c e f : Nat} (h20 : n ≤ 920) (ha : a < 4294967296) (hb : b < 4294967296) (hc : c < 4294967296) (he : e < 4294967296) (hf : f < 4294967296) (hs : eSh [(0, 88, 19), (1, 48, 13), (2, 2, 940)] hp) (r0 : hC hp 0 0 (.inr (.inr (.inr (.inl (some 1)))))) (r1 : hC hp 1 0 (.inr (.inr (.inr (.inl (some 2)))))) (hn : hC hp 0 1 (.inl n)) : ∃ r hp', (∃ N, ∀ fuel, N ≤ fuel → vCalD vms vdf fuel 60 26 [(.inr (.inr (.inr (.inl (some 0))))), .inl a, .inl b, .inl c, .inl e, .inl f] hp = some (r, hp', 0, 0)) ∧ (∀ j, j < 20 → hC hp' 2 (n + j) (.inl (fB [a, b, c, e, f] j))) ∧ sFr [(0, 1, 1), (2, n, n + 19)] hp hp' := by
  have s0 : eR (rL [n, a, b, c, e, f]) [(1, 0)] n := eR_s (j := 0) (u := n) rfl
  have g1 : eCo (rL [n, a, b, c, e, f]) (5, [(1, 0), (0, 20), (2, 0)], [(0, 940)], true) := eCo_of (eR_val (eR_to (eR_b 0 s0 (eR_c _ 20)) (vAdd_s (by omega)))) (eR_val (eR_c _ 940)) (by decide) (kc5t (by unfold sBi; omega))
  have hl0 : eLm (rL [n, a, b, c, e, f]) [some (.inr (.inr (some 0))), some (.inl [(1, 1)]), some (.inl [(1, 2)]), some (.inl [(1, 3)]), some (.inl [(1, 4)]), some (.inl [(1, 5)])] (vEnt [(.inr (.inr (.inr (.inl (some 0))))), .inl a, .inl b, .inl c, .inl e, .inl f] m_X11_feed.2.2.1) := ⟨rfl, congrArg some (eCv_i (eR_s (j := 1) (u := a) rfl)).symm, congrArg some (eCv_i (eR_s (j := 2) (u := b) rfl)).symm, congrArg some (eCv_i (eR_s (j := 3) (u := c) rfl)).symm, congrArg some (eCv_i (eR_s (j := 4) (u := e) rfl)).symm, congrArg some (eCv_i (eR_s (j := 5) (u := f) rfl)).symm, trivial⟩
  obtain ⟨kl0, h0, k0, l0, -, f0⟩ := e_go (vms := vms) (df := vdf) (d := 59) (ρ := rL [n, a, b, c, e, f]) (by decide) fdx_a fdx_f hs (all_cons g1 all_nil) hl0 (eDt_add (k := 0) (eR_c _ 1) (eCv_i s0) hn eDt_nil)
  have F0 : sFr [] hp h0 := f0.mono (eBox_ok (by decide))
  have S0 := eSh_fr F0 hs
  have R0_0 := hC_fr F0 (sMnot_ok rfl) r0
  have R1_0 := hC_fr F0 (sMnot_ok rfl) r1
  have N0 := hC_fr F0 (sMnot_ok rfl) hn
  obtain ⟨kl1, g0, q0, l1, -, z0⟩ := e_go (vms := vms) (df := vdf) (d := 59) (ρ := rL [n, a, b, c, e, f]) (by decide) fdx_s0 fdx_f0 S0 all_nil l0 eDt_nil
  have z0 : sFr [] h0 g0 := z0
  have e0 : List.map (eCv (rL [n, a, b, c, e, f])) [.inl [(1, 1)], .inr (.inr (some 0))] = [.inl a, (.inr (.inr (.inr (.inl (some 0)))))] := by
    rw [List.map_cons, eCv_i (eR_s (j := 1) (u := a) rfl)]
    rfl
  rw [e0] at q0
  obtain ⟨h1, c0, N1, B0, F1⟩ := pnx (d := 58) (by decide) (show n ≤ 936 by omega) ha (eSh_fr z0 S0) (hC_fr z0 (sMnot_ok rfl) R0_0) (hC_fr z0 (sMnot_ok rfl) R1_0) (hC_fr z0 (sMnot_ok rfl) N0)
  have K0 : kRe vms vdf 59 vt_X11_feed 0 0 (17, kl1, [.inl a, (.inr (.inr (.inr (.inl (some 0)))))], g0) (20, kl1, [], h1) := e_callv (kas := [.inl a]) (rest := []) (r := none) fdx_v0 rfl rfl (vRc_sh (n := 19) (t := 11) (eSh_fr z0 S0) (by decide) rfl) c0
  have S1 := eSh_fr F1 (eSh_fr z0 S0)
  have R0_1 := hC_fr F1 (fun ⟨m, m1, m2, m3, m4⟩ => by
    simp only [List.mem_cons, List.not_mem_nil, or_false] at m1
    rcases m1 with rfl | rfl <;> dsimp only at m2 m3 m4 <;> omega) (hC_fr z0 (sMnot_ok rfl) R0_0)
  have R1_1 := hC_fr F1 (fun ⟨m, m1, m2, m3, m4⟩ => by
    simp only [List.mem_cons, List.not_mem_nil, or_false] at m1
    rcases m1 with rfl | rfl <;> dsimp only at m2 m3 m4 <;> omega) (hC_fr z0 (sMnot_ok rfl) R1_0)
  obtain ⟨kl2, g1, q1, l2, -, z1⟩ := e_go (vms := vms) (df := vdf) (d := 59) (ρ := rL [n, a, b, c, e, f]) (by decide) fdx_s1 fdx_f0 S1 all_nil l1 eDt_nil
  have z1 : sFr [] h1 g1 := z1
  have e1 : List.map (eCv (rL [n, a, b, c, e, f])) [.inl [(1, 2)], .inr (.inr (some 0))] = [.inl b, (.inr (.inr (.inr (.inl (some 0)))))] := by
    rw [List.map_cons, eCv_i (eR_s (j := 2) (u := b) rfl)]
    rfl
  rw [e1] at q1
  obtain ⟨h2, c1, N2, B1, F2⟩ := pnx (d := 58) (by decide) (show (n + 4) ≤ 936 by omega) hb (eSh_fr z1 S1) (hC_fr z1 (sMnot_ok rfl) R0_1) (hC_fr z1 (sMnot_ok rfl) R1_1) (hC_fr z1 (sMnot_ok rfl) N1)
  have K1 : kRe vms vdf 59 vt_X11_feed 0 0 (22, kl2, [.inl b, (.inr (.inr (.inr (.inl (some 0)))))], g1) (25, kl2, [], h2) := e_callv (kas := [.inl b]) (rest := []) (r := none) fdx_v1 rfl rfl (vRc_sh (n := 19) (t := 11) (eSh_fr z1 S1) (by decide) rfl) c1
  have S2 := eSh_fr F2 (eSh_fr z1 S1)
  have R0_2 := hC_fr F2 (fun ⟨m, m1, m2, m3, m4⟩ => by
    simp only [List.mem_cons, List.not_mem_nil, or_false] at m1
    rcases m1 with rfl | rfl <;> dsimp only at m2 m3 m4 <;> omega) (hC_fr z1 (sMnot_ok rfl) R0_1)
  have R1_2 := hC_fr F2 (fun ⟨m, m1, m2, m3, m4⟩ => by
    simp only [List.mem_cons, List.not_mem_nil, or_false] at m1
    rcases m1 with rfl | rfl <;> dsimp only at m2 m3 m4 <;> omega) (hC_fr z1 (sMnot_ok rfl) R1_1)
  obtain ⟨kl3, g2, q2, l3, -, z2⟩ := e_go (vms := vms) (df := vdf) (d := 59) (ρ := rL [n, a, b, c, e, f]) (by decide) fdx_s2 fdx_f0 S2 all_nil l2 eDt_nil
  have z2 : sFr [] h2 g2 := z2
  have e2 : List.map (eCv (rL [n, a, b, c, e, f])) [.inl [(1, 3)], .inr (.inr (some 0))] = [.inl c, (.inr (.inr (.inr (.inl (some 0)))))] := by
    rw [List.map_cons, eCv_i (eR_s (j := 3) (u := c) rfl)]
    rfl
  rw [e2] at q2
  obtain ⟨h3, c2, N3, B2, F3⟩ := pnx (d := 58) (by decide) (show (n + 8) ≤ 936 by omega) hc (eSh_fr z2 S2) (hC_fr z2 (sMnot_ok rfl) R0_2) (hC_fr z2 (sMnot_ok rfl) R1_2) (hC_fr z2 (sMnot_ok rfl) N2)
  have K2 : kRe vms vdf 59 vt_X11_feed 0 0 (27, kl3, [.inl c, (.inr (.inr (.inr (.inl (some 0)))))], g2) (30, kl3, [], h3) := e_callv (kas := [.inl c]) (rest := []) (r := none) fdx_v2 rfl rfl (vRc_sh (n := 19) (t := 11) (eSh_fr z2 S2) (by decide) rfl) c2
  have S3 := eSh_fr F3 (eSh_fr z2 S2)
  have R0_3 := hC_fr F3 (fun ⟨m, m1, m2, m3, m4⟩ => by
    simp only [List.mem_cons, List.not_mem_nil, or_false] at m1
    rcases m1 with rfl | rfl <;> dsimp only at m2 m3 m4 <;> omega) (hC_fr z2 (sMnot_ok rfl) R0_2)
  have R1_3 := hC_fr F3 (fun ⟨m, m1, m2, m3, m4⟩ => by
    simp only [List.mem_cons, List.not_mem_nil, or_false] at m1
    rcases m1 with rfl | rfl <;> dsimp only at m2 m3 m4 <;> omega) (hC_fr z2 (sMnot_ok rfl) R1_2)
  obtain ⟨kl4, g3, q3, l4, -, z3⟩ := e_go (vms := vms) (df := vdf) (d := 59) (ρ := rL [n, a, b, c, e, f]) (by decide) fdx_s3 fdx_f0 S3 all_nil l3 eDt_nil
  have z3 : sFr [] h3 g3 := z3
  have e3 : List.map (eCv (rL [n, a, b, c, e, f])) [.inl [(1, 4)], .inr (.inr (some 0))] = [.inl e, (.inr (.inr (.inr (.inl (some 0)))))] := by
    rw [List.map_cons, eCv_i (eR_s (j := 4) (u := e) rfl)]
    rfl
  rw [e3] at q3
  obtain ⟨h4, c3, N4, B3, F4⟩ := pnx (d := 58) (by decide) (show (n + 12) ≤ 936 by omega) he (eSh_fr z3 S3) (hC_fr z3 (sMnot_ok rfl) R0_3) (hC_fr z3 (sMnot_ok rfl) R1_3) (hC_fr z3 (sMnot_ok rfl) N3)
  have K3 : kRe vms vdf 59 vt_X11_feed 0 0 (33, kl4, [.inl e, (.inr (.inr (.inr (.inl (some 0)))))], g3) (36, kl4, [], h4) := e_callv (kas := [.inl e]) (rest := []) (r := none) fdx_v3 rfl rfl (vRc_sh (n := 19) (t := 11) (eSh_fr z3 S3) (by decide) rfl) c3
  have S4 := eSh_fr F4 (eSh_fr z3 S3)
  have R0_4 := hC_fr F4 (fun ⟨m, m1, m2, m3, m4⟩ => by
    simp only [List.mem_cons, List.not_mem_nil, or_false] at m1
    rcases m1 with rfl | rfl <;> dsimp only at m2 m3 m4 <;> omega) (hC_fr z3 (sMnot_ok rfl) R0_3)
  have R1_4 := hC_fr F4 (fun ⟨m, m1, m2, m3, m4⟩ => by
    simp only [List.mem_cons, List.not_mem_nil, or_false] at m1
    rcases m1 with rfl | rfl <;> dsimp only at m2 m3 m4 <;> omega) (hC_fr z3 (sMnot_ok rfl) R1_3)
  obtain ⟨kl5, g4, q4, l5, -, z4⟩ := e_go (vms := vms) (df := vdf) (d := 59) (ρ := rL [n, a, b, c, e, f]) (by decide) fdx_s4 fdx_f0 S4 all_nil l4 eDt_nil
  have z4 : sFr [] h4 g4 := z4
  have e4 : List.map (eCv (rL [n, a, b, c, e, f])) [.inl [(1, 5)], .inr (.inr (some 0))] = [.inl f, (.inr (.inr (.inr (.inl (some 0)))))] := by
    rw [List.map_cons, eCv_i (eR_s (j := 5) (u := f) rfl)]
    rfl
  rw [e4] at q4
  obtain ⟨h5, c4, N5, B4, F5⟩ := pnx (d := 58) (by decide) (show (n + 16) ≤ 936 by omega) hf (eSh_fr z4 S4) (hC_fr z4 (sMnot_ok rfl) R0_4) (hC_fr z4 (sMnot_ok rfl) R1_4) (hC_fr z4 (sMnot_ok rfl) N4)
  have K4 : kRe vms vdf 59 vt_X11_feed 0 0 (39, kl5, [.inl f, (.inr (.inr (.inr (.inl (some 0)))))], g4) (42, kl5, [], h5) := e_callv (kas := [.inl f]) (rest := []) (r := none) fdx_v4 rfl rfl (vRc_sh (n := 19) (t := 11) (eSh_fr z4 S4) (by decide) rfl) c4
  have S5 := eSh_fr F5 (eSh_fr z4 S4)
  have R0_5 := hC_fr F5 (fun ⟨m, m1, m2, m3, m4⟩ => by
    simp only [List.mem_cons, List.not_mem_nil, or_false] at m1
    rcases m1 with rfl | rfl <;> dsimp only at m2 m3 m4 <;> omega) (hC_fr z4 (sMnot_ok rfl) R0_4)
  have R1_5 := hC_fr F5 (fun ⟨m, m1, m2, m3, m4⟩ => by
    simp only [List.mem_cons, List.not_mem_nil, or_false] at m1
    rcases m1 with rfl | rfl <;> dsimp only at m2 m3 m4 <;> omega) (hC_fr z4 (sMnot_ok rfl) R1_4)
  obtain ⟨kl6, h6, k6, l6, -, f6⟩ := e_go (vms := vms) (df := vdf) (d := 59) (ρ := rL [n + 20, a, b, c, e, f]) (by decide) fdx_e fdx_f S5 all_nil (eLm_in (vs := [some (.inr (.inr (.inr (.inl (some 0))))), some (.inl a), some (.inl b), some (.inl c), some (.inl e), some (.inl f)]) ⟨rfl, eCv_i (eR_s (j := 1) (u := a) rfl), eCv_i (eR_s (j := 2) (u := b) rfl), eCv_i (eR_s (j := 3) (u := c) rfl), eCv_i (eR_s (j := 4) (u := e) rfl), eCv_i (eR_s (j := 5) (u := f) rfl), trivial⟩ (eLm_out (ρ := rL [n, a, b, c, e, f]) (ls := [some (.inr (.inr (some 0))), some (.inl [(1, 1)]), some (.inl [(1, 2)]), some (.inl [(1, 3)]), some (.inl [(1, 4)]), some (.inl [(1, 5)])]) ⟨rfl, eCv_i (eR_s (j := 1) (u := a) rfl), eCv_i (eR_s (j := 2) (u := b) rfl), eCv_i (eR_s (j := 3) (u := c) rfl), eCv_i (eR_s (j := 4) (u := e) rfl), eCv_i (eR_s (j := 5) (u := f) rfl), trivial⟩ l5)) (eDt_add (k := 0) (eR_c _ 1) (eCv_i (eR_s (j := 0) (u := n + 20) rfl)) N5 eDt_nil)
  have f6 : sFr [] h5 h6 := f6
  have e6 : List.map (eCv (rL [n + 20, a, b, c, e, f])) [.inl [(1, 0)]] = [.inl (n + 20)] := by
    rw [List.map_cons, eCv_i (eR_s (j := 0) (u := n + 20) rfl)]
    rfl
  rw [e6] at k6
  have G : ∀ {x y u : List vOb} {q : Nat}, q ≤ 16 → sFr [] x y → sFr [(0, 1, 1), (2, n + q, n + q + 3)] y u → sFr [(0, 1, 1), (2, n, n + 19)] x u := fun hq h1 h2 => (h1.mono (fun k i ⟨m, m1, _⟩ => by cases m1)).tr (h2.mono (fun k i ⟨m, m1, m2, m3, m4⟩ => by
    simp only [List.mem_cons, List.not_mem_nil, or_false] at m1
    rcases m1 with rfl | rfl
    · exact ⟨_, List.mem_cons_self, m2, by dsimp only at m3 ⊢; omega, by dsimp only at m4 ⊢; omega⟩
    · exact ⟨_, List.mem_cons_of_mem _ List.mem_cons_self, m2, by dsimp only at m3 ⊢; omega, by dsimp only at m4 ⊢; omega⟩))
  have T0 : sFr [(0, 1, 1), (2, n, n + 19)] hp h0 := F0.mono (fun k i ⟨m, m1, _⟩ => by cases m1)
  have T : sFr [(0, 1, 1), (2, n, n + 19)] hp h6 := (((((T0.tr (G (q := 0) (by omega) z0 F1)).tr (G (q := 4) (by omega) z1 F2)).tr (G (q := 8) (by omega) z2 F3)).tr (G (q := 12) (by omega) z3 F4)).tr (G (q := 16) (by omega) z4 F5)).tr (f6.mono (fun k i ⟨m, m1, _⟩ => by cases m1))
  obtain ⟨r, hp', u1, u2, u3, u4⟩ := kEnd_cal (d := 59) (kav := [(.inr (.inr (.inr (.inl (some 0))))), .inl a, .inl b, .inl c, .inl e, .inl f]) (hp := hp) (P := fun r hp' => r = some (.inl (n + 20)) ∧ (∀ j, j < 20 → hC hp' 2 (n + j) (.inl (fB [a, b, c, e, f] j))) ∧ sFr [(0, 1, 1), (2, n, n + 19)] hp hp') hM_fdx (show 6 ≤ 6 by decide) rfl rfl (kEnd.of (((((((((((k0.tr q0).tr K0).tr q1).tr K1).tr q2).tr K2).tr q3).tr K3).tr q4).tr K4).tr k6) (k_ireturn fdx_r (Or.inl rfl) ⟨rfl, bR_all (bR_fr f6 (fun i _ _ ⟨m, m1, _⟩ => by cases m1) (bR_fr F5 (fun i h1 h2 ⟨m, m1, m2, m3, m4⟩ => by
    simp only [List.mem_cons, List.not_mem_nil, or_false] at m1
    rcases m1 with rfl | rfl <;> dsimp only at m2 m3 m4 <;> omega) (bR_fr z4 (fun i _ _ ⟨m, m1, _⟩ => by cases m1) (bR_fr F4 (fun i h1 h2 ⟨m, m1, m2, m3, m4⟩ => by
    simp only [List.mem_cons, List.not_mem_nil, or_false] at m1
    rcases m1 with rfl | rfl <;> dsimp only at m2 m3 m4 <;> omega) (bR_fr z3 (fun i _ _ ⟨m, m1, _⟩ => by cases m1) (bR_fr F3 (fun i h1 h2 ⟨m, m1, m2, m3, m4⟩ => by
    simp only [List.mem_cons, List.not_mem_nil, or_false] at m1
    rcases m1 with rfl | rfl <;> dsimp only at m2 m3 m4 <;> omega) (bR_fr z2 (fun i _ _ ⟨m, m1, _⟩ => by cases m1) (bR_fr F2 (fun i h1 h2 ⟨m, m1, m2, m3, m4⟩ => by
    simp only [List.mem_cons, List.not_mem_nil, or_false] at m1
    rcases m1 with rfl | rfl <;> dsimp only at m2 m3 m4 <;> omega) (bR_fr z1 (fun i _ _ ⟨m, m1, _⟩ => by cases m1) B0))))))))) (bR_fr f6 (fun i _ _ ⟨m, m1, _⟩ => by cases m1) (bR_fr F5 (fun i h1 h2 ⟨m, m1, m2, m3, m4⟩ => by
    simp only [List.mem_cons, List.not_mem_nil, or_false] at m1
    rcases m1 with rfl | rfl <;> dsimp only at m2 m3 m4 <;> omega) (bR_fr z4 (fun i _ _ ⟨m, m1, _⟩ => by cases m1) (bR_fr F4 (fun i h1 h2 ⟨m, m1, m2, m3, m4⟩ => by
    simp only [List.mem_cons, List.not_mem_nil, or_false] at m1
    rcases m1 with rfl | rfl <;> dsimp only at m2 m3 m4 <;> omega) (bR_fr z3 (fun i _ _ ⟨m, m1, _⟩ => by cases m1) (bR_fr F3 (fun i h1 h2 ⟨m, m1, m2, m3, m4⟩ => by
    simp only [List.mem_cons, List.not_mem_nil, or_false] at m1
    rcases m1 with rfl | rfl <;> dsimp only at m2 m3 m4 <;> omega) (bR_fr z2 (fun i _ _ ⟨m, m1, _⟩ => by cases m1) B1))))))) (bR_fr f6 (fun i _ _ ⟨m, m1, _⟩ => by cases m1) (bR_fr F5 (fun i h1 h2 ⟨m, m1, m2, m3, m4⟩ => by
    simp only [List.mem_cons, List.not_mem_nil, or_false] at m1
    rcases m1 with rfl | rfl <;> dsimp only at m2 m3 m4 <;> omega) (bR_fr z4 (fun i _ _ ⟨m, m1, _⟩ => by cases m1) (bR_fr F4 (fun i h1 h2 ⟨m, m1, m2, m3, m4⟩ => by
    simp only [List.mem_cons, List.not_mem_nil, or_false] at m1
    rcases m1 with rfl | rfl <;> dsimp only at m2 m3 m4 <;> omega) (bR_fr z3 (fun i _ _ ⟨m, m1, _⟩ => by cases m1) B2))))) (bR_fr f6 (fun i _ _ ⟨m, m1, _⟩ => by cases m1) (bR_fr F5 (fun i h1 h2 ⟨m, m1, m2, m3, m4⟩ => by
    simp only [List.mem_cons, List.not_mem_nil, or_false] at m1
    rcases m1 with rfl | rfl <;> dsimp only at m2 m3 m4 <;> omega) (bR_fr z4 (fun i _ _ ⟨m, m1, _⟩ => by cases m1) B3))) (bR_fr f6 (fun i _ _ ⟨m, m1, _⟩ => by cases m1) B4), T⟩))
  exact ⟨r, hp', u1, u3, u4⟩
set_option maxRecDepth 1000000 in
theorem fdx_n : eQ (eRun [(0, 88, 19), (1, 48, 13), (2, 2, 940)] (eCalI eNo vms [(0, 88, 19), (1, 48, 13), (2, 2, 940)] 100 8) vt_X11_feed [14] 7 [false] (0, [some (.inr (.inr (some 0))), some (.inl [(1, 1)]), some (.inl [(1, 2)]), some (.inl [(1, 3)]), some (.inl [(1, 4)]), some (.inl [(1, 5)])], [], [(0, [(0, 1)], .inl [(1, 0)], [])], [])) (14, [some (.inr (.inr (some 0))), some (.inl [(1, 1)]), some (.inl [(1, 2)]), some (.inl [(1, 3)]), some (.inl [(1, 4)]), some (.inl [(1, 5)])], [.inl [(0, 4294967295)]], [(0, [(0, 1)], .inl [(1, 0)], [])], []) [(5, [(1, 0), (0, 20), (2, 0)], [(0, 940)], false)] [] = true := by decide +kernel
set_option maxRecDepth 1000000 in
theorem fdx_rn : vRt1 m_X11_feed 14 = true := by decide +kernel
theorem fdxN {hp : List vOb} {n a b c e f : Nat} (h20 : 920 < n) (hn9 : n ≤ 940) (hs : eSh [(0, 88, 19), (1, 48, 13), (2, 2, 940)] hp) (hn : hC hp 0 1 (.inl n)) : ∃ r hp', (∃ N, ∀ fuel, N ≤ fuel → vCalD vms vdf fuel 60 26 [(.inr (.inr (.inr (.inl (some 0))))), .inl a, .inl b, .inl c, .inl e, .inl f] hp = some (r, hp', 0, 0)) ∧ sFr [] hp hp' := by
  have s0 : eR (rL [n, a, b, c, e, f]) [(1, 0)] n := eR_s (j := 0) (u := n) rfl
  have g1 : eCo (rL [n, a, b, c, e, f]) (5, [(1, 0), (0, 20), (2, 0)], [(0, 940)], false) := eCo_of (eR_val (eR_to (eR_b 0 s0 (eR_c _ 20)) (vAdd_s (by omega)))) (eR_val (eR_c _ 940)) (by decide) (kc5f (by unfold sBi; omega))
  have hl0 : eLm (rL [n, a, b, c, e, f]) [some (.inr (.inr (some 0))), some (.inl [(1, 1)]), some (.inl [(1, 2)]), some (.inl [(1, 3)]), some (.inl [(1, 4)]), some (.inl [(1, 5)])] (vEnt [(.inr (.inr (.inr (.inl (some 0))))), .inl a, .inl b, .inl c, .inl e, .inl f] m_X11_feed.2.2.1) := ⟨rfl, congrArg some (eCv_i (eR_s (j := 1) (u := a) rfl)).symm, congrArg some (eCv_i (eR_s (j := 2) (u := b) rfl)).symm, congrArg some (eCv_i (eR_s (j := 3) (u := c) rfl)).symm, congrArg some (eCv_i (eR_s (j := 4) (u := e) rfl)).symm, congrArg some (eCv_i (eR_s (j := 5) (u := f) rfl)).symm, trivial⟩
  obtain ⟨kl0, h0, k0, l0, -, f0⟩ := e_go (vms := vms) (df := vdf) (d := 59) (ρ := rL [n, a, b, c, e, f]) (by decide) fdx_n fdx_f hs (all_cons g1 all_nil) hl0 (eDt_add (k := 0) (eR_c _ 1) (eCv_i s0) hn eDt_nil)
  have F0 : sFr [] hp h0 := f0.mono (eBox_ok (by decide))
  have e6 : List.map (eCv (rL [n, a, b, c, e, f])) [.inl [(0, 4294967295)]] = [.inl 4294967295] := by
    rw [List.map_cons, eCv_i (eR_c _ 4294967295)]
    rfl
  rw [e6] at k0
  obtain ⟨r, hp', u1, u2⟩ := kEnd_cal (d := 59) (kav := [(.inr (.inr (.inr (.inl (some 0))))), .inl a, .inl b, .inl c, .inl e, .inl f]) (hp := hp) (P := fun r hp' => sFr [] hp hp') hM_fdx (show 6 ≤ 6 by decide) rfl rfl (kEnd.of k0 (k_ireturn fdx_rn (Or.inl rfl) F0))
  exact ⟨r, hp', u1, u2⟩
set_option maxRecDepth 1000000 in
theorem pnm_k : eQ (eRun [(220, 96, 60), (221, 2, 940)] (eCalI eNo vms [(220, 96, 60), (221, 2, 940)] 400 8) vt_X12_four [] 80 [] (0, [some (.inr (.inr (some 220))), some (.inl [(1, 1)]), none], [], [(220, [(0, 1)], .inr (.inr (some 221)), []), (220, [(0, 2)], .inl [(1, 0)], [])], [])) (36, [some (.inr (.inr (some 220))), some (.inl [(1, 1)]), some (.inl [(0, 4294967288)])], [], [(220, [(0, 2)], .inl [(1, 0), (0, 1), (2, 0), (0, 1), (2, 0), (0, 1), (2, 0), (0, 1), (2, 0)], []), (221, [(1, 0), (0, 1), (2, 0), (0, 1), (2, 0), (0, 1), (2, 0)], .inl [(1, 1), (0, 0), (2, 8), (3, 2), (3, 3)], []), (221, [(1, 0), (0, 1), (2, 0), (0, 1), (2, 0)], .inl [(1, 1), (0, 8), (2, 8), (3, 2), (3, 3)], []), (221, [(1, 0), (0, 1), (2, 0)], .inl [(1, 1), (0, 16), (2, 8), (3, 2), (3, 3)], []), (221, [(1, 0)], .inl [(1, 1), (0, 24), (2, 8), (3, 2), (3, 3)], []), (220, [(0, 1)], .inr (.inr (some 221)), [])], [(220, [(0, 2)]), (221, [(1, 0), (0, 1), (2, 0), (0, 1), (2, 0), (0, 1), (2, 0)]), (220, [(0, 2)]), (221, [(1, 0), (0, 1), (2, 0), (0, 1), (2, 0)]), (220, [(0, 2)]), (221, [(1, 0), (0, 1), (2, 0)]), (220, [(0, 2)]), (221, [(1, 0)])]) [(100, [(1, 0)], [(0, 940)], true), (100, [(1, 0), (0, 1), (2, 0)], [(0, 940)], true), (1, [(1, 0)], [(1, 0), (0, 1), (2, 0)], true), (100, [(1, 0), (0, 1), (2, 0), (0, 1), (2, 0)], [(0, 940)], true), (1, [(1, 0), (0, 1), (2, 0)], [(1, 0), (0, 1), (2, 0), (0, 1), (2, 0)], true), (1, [(1, 0)], [(1, 0), (0, 1), (2, 0), (0, 1), (2, 0)], true), (100, [(1, 0), (0, 1), (2, 0), (0, 1), (2, 0), (0, 1), (2, 0)], [(0, 940)], true), (1, [(1, 0), (0, 1), (2, 0), (0, 1), (2, 0)], [(1, 0), (0, 1), (2, 0), (0, 1), (2, 0), (0, 1), (2, 0)], true), (1, [(1, 0), (0, 1), (2, 0)], [(1, 0), (0, 1), (2, 0), (0, 1), (2, 0), (0, 1), (2, 0)], true), (1, [(1, 0)], [(1, 0), (0, 1), (2, 0), (0, 1), (2, 0), (0, 1), (2, 0)], true)] [] = true := by decide +kernel
def pnm_i : eD := [(220, [(0, 1)], .inr (.inr (some 221)), []), (220, [(0, 2)], .inl [(1, 0)], [])]
def pnm_d : eD := [(220, [(0, 2)], .inl [(1, 0), (0, 1), (2, 0), (0, 1), (2, 0), (0, 1), (2, 0), (0, 1), (2, 0)], []), (221, [(1, 0), (0, 1), (2, 0), (0, 1), (2, 0), (0, 1), (2, 0)], .inl [(1, 1), (0, 0), (2, 8), (3, 2), (3, 3)], []), (221, [(1, 0), (0, 1), (2, 0), (0, 1), (2, 0)], .inl [(1, 1), (0, 8), (2, 8), (3, 2), (3, 3)], []), (221, [(1, 0), (0, 1), (2, 0)], .inl [(1, 1), (0, 16), (2, 8), (3, 2), (3, 3)], []), (221, [(1, 0)], .inl [(1, 1), (0, 24), (2, 8), (3, 2), (3, 3)], []), (220, [(0, 1)], .inr (.inr (some 221)), [])]
def pnm_w : List (Nat × eX) := [(220, [(0, 2)]), (221, [(1, 0), (0, 1), (2, 0), (0, 1), (2, 0), (0, 1), (2, 0)]), (220, [(0, 2)]), (221, [(1, 0), (0, 1), (2, 0), (0, 1), (2, 0)]), (220, [(0, 2)]), (221, [(1, 0), (0, 1), (2, 0)]), (220, [(0, 2)]), (221, [(1, 0)])]
set_option maxRecDepth 100000 in
theorem pnm_f : (eWl [some (.inr (.inr (some 220))), some (.inl [(1, 1)]), none] && (([] : List eV).all eWv && eWd pnm_i)) = true := by decide +kernel
set_option maxRecDepth 1000000 in
theorem pnm_r : vRt0 m_X12_four 36 = true := by decide +kernel
theorem hM_pnm : vms[27]? = some m_X12_four := by rw [← vNth_eq]; rfl
theorem pnm {d : Nat} (hd : 8 ≤ d) {hp : List vOb} {n v : Nat} (hn9 : n ≤ 936) (hv : v < 4294967296) (hs : eSh [(220, 96, 60), (221, 2, 940)] hp) (r0 : hC hp 220 1 (.inr (.inr (.inr (.inl (some 221)))))) (hn : hC hp 220 2 (.inl n)) : ∃ hp', (∃ N, ∀ fuel, N ≤ fuel → vCalD vms vdf fuel (d + 1) 27 [(.inr (.inr (.inr (.inl (some 220))))), .inl v] hp = some (none, hp', 0, 0)) ∧ hC hp' 220 2 (.inl (n + 4)) ∧ bR hp' 221 n v ∧ sFr [(220, 2, 2), (221, n, n + 3)] hp hp' := by
  have s0 : eR (rL [n, v]) [(1, 0)] n := eR_s (j := 0) (u := n) rfl
  have v1 : eR (rL [n, v]) [(1, 1)] v := eR_s (j := 1) (u := v) rfl
  have s1 : eR (rL [n, v]) [(1, 0), (0, 1), (2, 0)] (n + 1) := eR_to (eR_b 0 s0 (eR_c _ 1)) (vAdd_s (by omega))
  have s2 : eR (rL [n, v]) [(1, 0), (0, 1), (2, 0), (0, 1), (2, 0)] (n + 2) := eR_to (eR_b 0 s1 (eR_c _ 1)) (vAdd_s (by omega))
  have s3 : eR (rL [n, v]) [(1, 0), (0, 1), (2, 0), (0, 1), (2, 0), (0, 1), (2, 0)] (n + 3) := eR_to (eR_b 0 s2 (eR_c _ 1)) (vAdd_s (by omega))
  have s4 : eR (rL [n, v]) [(1, 0), (0, 1), (2, 0), (0, 1), (2, 0), (0, 1), (2, 0), (0, 1), (2, 0)] (n + 4) := eR_to (eR_b 0 s3 (eR_c _ 1)) (vAdd_s (by omega))
  have bb := bW_m hv
  have key : kEnd vms vdf d m_X12_four (0, vEnt [(.inr (.inr (.inr (.inl (some 220))))), .inl v] m_X12_four.2.2.1, [], hp) (fun r hp' => r = none ∧ hC hp' 220 2 (.inl (n + 4)) ∧ bR hp' 221 n v ∧ sFr [(220, 2, 2), (221, n, n + 3)] hp hp') := by
    obtain ⟨kl1, hp1, k1, k2, k3, k4⟩ := e_go (vms := vms) (df := vdf) (d := d) (ρ := rL [n, v]) hd pnm_k pnm_f hs (all_cons (eCo_ix (eR_val s0) (eR_val (eR_c _ 940)) (by omega)) (all_cons (eCo_ix (eR_val s1) (eR_val (eR_c _ 940)) (by omega)) (all_cons (eCo_of (eR_val s0) (eR_val s1) (by decide) (kc1t (by unfold sBi; omega))) (all_cons (eCo_ix (eR_val s2) (eR_val (eR_c _ 940)) (by omega)) (all_cons (eCo_of (eR_val s1) (eR_val s2) (by decide) (kc1t (by unfold sBi; omega))) (all_cons (eCo_of (eR_val s0) (eR_val s2) (by decide) (kc1t (by unfold sBi; omega))) (all_cons (eCo_ix (eR_val s3) (eR_val (eR_c _ 940)) (by omega)) (all_cons (eCo_of (eR_val s2) (eR_val s3) (by decide) (kc1t (by unfold sBi; omega))) (all_cons (eCo_of (eR_val s1) (eR_val s3) (by decide) (kc1t (by unfold sBi; omega))) (all_cons (eCo_of (eR_val s0) (eR_val s3) (by decide) (kc1t (by unfold sBi; omega))) all_nil)))))))))) (kl := vEnt [(.inr (.inr (.inr (.inl (some 220))))), .inl v] m_X12_four.2.2.1) ⟨rfl, congrArg some (eCv_i v1).symm, trivial⟩ (eDt_add (k := 220) (eR_c _ 1) rfl r0 (eDt_add (k := 220) (eR_c _ 2) (eCv_i s0) hn eDt_nil))
    refine kEnd.of k1 (k_return pnm_r rfl ⟨rfl, eDt_at (x := [(0, 2)]) (y := .inl [(1, 0), (0, 1), (2, 0), (0, 1), (2, 0), (0, 1), (2, 0), (0, 1), (2, 0)]) (g := []) k3 (by decide) (fun q hq => by cases hq) (eR_val (eR_c _ 2)) (eCv_i s4), ⟨eDt_at (x := [(1, 0)]) (y := .inl [(1, 1), (0, 24), (2, 8), (3, 2), (3, 3)]) (g := []) k3 (by decide) (fun q hq => by cases hq) (eR_val s0) (eCv_i (eR_to (eR_u 3 (eR_u 2 (eR_b 8 v1 (eR_c _ 24)))) (bb.1))), eDt_at (x := [(1, 0), (0, 1), (2, 0)]) (y := .inl [(1, 1), (0, 16), (2, 8), (3, 2), (3, 3)]) (g := []) k3 (by decide) (fun q hq => by cases hq) (eR_val s1) (eCv_i (eR_to (eR_u 3 (eR_u 2 (eR_b 8 v1 (eR_c _ 16)))) (bb.2.1))), eDt_at (x := [(1, 0), (0, 1), (2, 0), (0, 1), (2, 0)]) (y := .inl [(1, 1), (0, 8), (2, 8), (3, 2), (3, 3)]) (g := []) k3 (by decide) (fun q hq => by cases hq) (eR_val s2) (eCv_i (eR_to (eR_u 3 (eR_u 2 (eR_b 8 v1 (eR_c _ 8)))) (bb.2.2.1))), eDt_at (x := [(1, 0), (0, 1), (2, 0), (0, 1), (2, 0), (0, 1), (2, 0)]) (y := .inl [(1, 1), (0, 0), (2, 8), (3, 2), (3, 3)]) (g := []) k3 (by decide) (fun q hq => by cases hq) (eR_val s3) (eCv_i (eR_to (eR_u 3 (eR_u 2 (eR_b 8 v1 (eR_c _ 0)))) (bb.2.2.2)))⟩, k4.mono (fun k i hm => ?_)⟩)
    obtain ⟨e, e1, e2, e3⟩ := eMd_min hm
    simp only [pnm_w, List.mem_cons, List.not_mem_nil, or_false] at e1
    rcases e1 with rfl | rfl | rfl | rfl | rfl | rfl | rfl | rfl
    · rw [eR_val (eR_c _ 2)] at e3; exact ⟨_, List.mem_cons_self, e2, by dsimp only; omega, by dsimp only; omega⟩
    · rw [eR_val s3] at e3; exact ⟨_, List.mem_cons_of_mem _ List.mem_cons_self, e2, by dsimp only; omega, by dsimp only; omega⟩
    · rw [eR_val (eR_c _ 2)] at e3; exact ⟨_, List.mem_cons_self, e2, by dsimp only; omega, by dsimp only; omega⟩
    · rw [eR_val s2] at e3; exact ⟨_, List.mem_cons_of_mem _ List.mem_cons_self, e2, by dsimp only; omega, by dsimp only; omega⟩
    · rw [eR_val (eR_c _ 2)] at e3; exact ⟨_, List.mem_cons_self, e2, by dsimp only; omega, by dsimp only; omega⟩
    · rw [eR_val s1] at e3; exact ⟨_, List.mem_cons_of_mem _ List.mem_cons_self, e2, by dsimp only; omega, by dsimp only; omega⟩
    · rw [eR_val (eR_c _ 2)] at e3; exact ⟨_, List.mem_cons_self, e2, by dsimp only; omega, by dsimp only; omega⟩
    · rw [eR_val s0] at e3; exact ⟨_, List.mem_cons_of_mem _ List.mem_cons_self, e2, by dsimp only; omega, by dsimp only; omega⟩
  obtain ⟨r, hp', h1, h2, h3⟩ := kEnd_cal (kav := [(.inr (.inr (.inr (.inl (some 220))))), .inl v]) hM_pnm (show 2 ≤ 3 by decide) rfl rfl key
  subst h2
  exact ⟨hp', h1, h3⟩
set_option maxRecDepth 1000000 in
theorem fdm_a : eQ (eRun [(220, 96, 60), (221, 2, 940)] (eCalI eNo vms [(220, 96, 60), (221, 2, 940)] 100 8) vt_X12_feed [20] 9 [true] (0, [some (.inr (.inr (some 220))), some (.inl [(1, 1)]), some (.inl [(1, 2)]), some (.inl [(1, 3)]), some (.inl [(1, 4)]), some (.inl [(1, 5)])], [], [(220, [(0, 2)], .inl [(1, 0)], [])], [])) (20, [some (.inr (.inr (some 220))), some (.inl [(1, 1)]), some (.inl [(1, 2)]), some (.inl [(1, 3)]), some (.inl [(1, 4)]), some (.inl [(1, 5)])], [], [(220, [(0, 0)], .inl [(0, 0)], []), (220, [(0, 2)], .inl [(1, 0)], [])], [(220, [(0, 0)])]) [(5, [(1, 0), (0, 20), (2, 0)], [(0, 940)], true)] [] = true := by decide +kernel
set_option maxRecDepth 100000 in
theorem fdm_f : (eWl [some (.inr (.inr (some 220))), some (.inl [(1, 1)]), some (.inl [(1, 2)]), some (.inl [(1, 3)]), some (.inl [(1, 4)]), some (.inl [(1, 5)])] && (([] : List eV).all eWv && eWd [(220, [(0, 2)], .inl [(1, 0)], [])])) = true := by decide +kernel
set_option maxRecDepth 100000 in
theorem fdm_f0 : (eWl [some (.inr (.inr (some 220))), some (.inl [(1, 1)]), some (.inl [(1, 2)]), some (.inl [(1, 3)]), some (.inl [(1, 4)]), some (.inl [(1, 5)])] && (([] : List eV).all eWv && eWd [])) = true := by decide +kernel
set_option maxRecDepth 1000000 in
theorem fdm_s0 : eQ (eRun [(220, 96, 60), (221, 2, 940)] (eCalI eNo vms [(220, 96, 60), (221, 2, 940)] 100 8) vt_X12_feed [22] 2 [] (20, [some (.inr (.inr (some 220))), some (.inl [(1, 1)]), some (.inl [(1, 2)]), some (.inl [(1, 3)]), some (.inl [(1, 4)]), some (.inl [(1, 5)])], [], [], [])) (22, [some (.inr (.inr (some 220))), some (.inl [(1, 1)]), some (.inl [(1, 2)]), some (.inl [(1, 3)]), some (.inl [(1, 4)]), some (.inl [(1, 5)])], [.inl [(1, 1)], .inr (.inr (some 220))], [], []) [] [] = true := by decide +kernel
set_option maxRecDepth 1000000 in
theorem fdm_v0 : eIsV vt_X12_feed 22 27 1 12 = true := by decide +kernel
set_option maxRecDepth 1000000 in
theorem fdm_s1 : eQ (eRun [(220, 96, 60), (221, 2, 940)] (eCalI eNo vms [(220, 96, 60), (221, 2, 940)] 100 8) vt_X12_feed [27] 2 [] (25, [some (.inr (.inr (some 220))), some (.inl [(1, 1)]), some (.inl [(1, 2)]), some (.inl [(1, 3)]), some (.inl [(1, 4)]), some (.inl [(1, 5)])], [], [], [])) (27, [some (.inr (.inr (some 220))), some (.inl [(1, 1)]), some (.inl [(1, 2)]), some (.inl [(1, 3)]), some (.inl [(1, 4)]), some (.inl [(1, 5)])], [.inl [(1, 2)], .inr (.inr (some 220))], [], []) [] [] = true := by decide +kernel
set_option maxRecDepth 1000000 in
theorem fdm_v1 : eIsV vt_X12_feed 27 27 1 12 = true := by decide +kernel
set_option maxRecDepth 1000000 in
theorem fdm_s2 : eQ (eRun [(220, 96, 60), (221, 2, 940)] (eCalI eNo vms [(220, 96, 60), (221, 2, 940)] 100 8) vt_X12_feed [32] 2 [] (30, [some (.inr (.inr (some 220))), some (.inl [(1, 1)]), some (.inl [(1, 2)]), some (.inl [(1, 3)]), some (.inl [(1, 4)]), some (.inl [(1, 5)])], [], [], [])) (32, [some (.inr (.inr (some 220))), some (.inl [(1, 1)]), some (.inl [(1, 2)]), some (.inl [(1, 3)]), some (.inl [(1, 4)]), some (.inl [(1, 5)])], [.inl [(1, 3)], .inr (.inr (some 220))], [], []) [] [] = true := by decide +kernel
set_option maxRecDepth 1000000 in
theorem fdm_v2 : eIsV vt_X12_feed 32 27 1 12 = true := by decide +kernel
set_option maxRecDepth 1000000 in
theorem fdm_s3 : eQ (eRun [(220, 96, 60), (221, 2, 940)] (eCalI eNo vms [(220, 96, 60), (221, 2, 940)] 100 8) vt_X12_feed [38] 2 [] (35, [some (.inr (.inr (some 220))), some (.inl [(1, 1)]), some (.inl [(1, 2)]), some (.inl [(1, 3)]), some (.inl [(1, 4)]), some (.inl [(1, 5)])], [], [], [])) (38, [some (.inr (.inr (some 220))), some (.inl [(1, 1)]), some (.inl [(1, 2)]), some (.inl [(1, 3)]), some (.inl [(1, 4)]), some (.inl [(1, 5)])], [.inl [(1, 4)], .inr (.inr (some 220))], [], []) [] [] = true := by decide +kernel
set_option maxRecDepth 1000000 in
theorem fdm_v3 : eIsV vt_X12_feed 38 27 1 12 = true := by decide +kernel
set_option maxRecDepth 1000000 in
theorem fdm_s4 : eQ (eRun [(220, 96, 60), (221, 2, 940)] (eCalI eNo vms [(220, 96, 60), (221, 2, 940)] 100 8) vt_X12_feed [44] 2 [] (41, [some (.inr (.inr (some 220))), some (.inl [(1, 1)]), some (.inl [(1, 2)]), some (.inl [(1, 3)]), some (.inl [(1, 4)]), some (.inl [(1, 5)])], [], [], [])) (44, [some (.inr (.inr (some 220))), some (.inl [(1, 1)]), some (.inl [(1, 2)]), some (.inl [(1, 3)]), some (.inl [(1, 4)]), some (.inl [(1, 5)])], [.inl [(1, 5)], .inr (.inr (some 220))], [], []) [] [] = true := by decide +kernel
set_option maxRecDepth 1000000 in
theorem fdm_v4 : eIsV vt_X12_feed 44 27 1 12 = true := by decide +kernel
set_option maxRecDepth 1000000 in
theorem fdm_e : eQ (eRun [(220, 96, 60), (221, 2, 940)] (eCalI eNo vms [(220, 96, 60), (221, 2, 940)] 100 8) vt_X12_feed [51] 2 [] (47, [some (.inr (.inr (some 220))), some (.inl [(1, 1)]), some (.inl [(1, 2)]), some (.inl [(1, 3)]), some (.inl [(1, 4)]), some (.inl [(1, 5)])], [], [(220, [(0, 2)], .inl [(1, 0)], [])], [])) (51, [some (.inr (.inr (some 220))), some (.inl [(1, 1)]), some (.inl [(1, 2)]), some (.inl [(1, 3)]), some (.inl [(1, 4)]), some (.inl [(1, 5)])], [.inl [(1, 0)]], [(220, [(0, 2)], .inl [(1, 0)], [])], []) [] [] = true := by decide +kernel
set_option maxRecDepth 1000000 in
theorem fdm_r : vRt1 m_X12_feed 51 = true := by decide +kernel
theorem hM_fdm : vms[28]? = some m_X12_feed := by rw [← vNth_eq]; rfl
theorem fdm {hp : List vOb} {n a b c e f : Nat} (h20 : n ≤ 920) (ha : a < 4294967296) (hb : b < 4294967296) (hc : c < 4294967296) (he : e < 4294967296) (hf : f < 4294967296) (hs : eSh [(220, 96, 60), (221, 2, 940)] hp) (r0 : hC hp 220 1 (.inr (.inr (.inr (.inl (some 221)))))) (hn : hC hp 220 2 (.inl n)) : ∃ r hp', (∃ N, ∀ fuel, N ≤ fuel → vCalD vms vdf fuel 60 28 [(.inr (.inr (.inr (.inl (some 220))))), .inl a, .inl b, .inl c, .inl e, .inl f] hp = some (r, hp', 0, 0)) ∧ (∀ j, j < 20 → hC hp' 221 (n + j) (.inl (fB [a, b, c, e, f] j))) ∧ sFr [(220, 0, 2), (221, n, n + 19)] hp hp' := by
  have s0 : eR (rL [n, a, b, c, e, f]) [(1, 0)] n := eR_s (j := 0) (u := n) rfl
  have g1 : eCo (rL [n, a, b, c, e, f]) (5, [(1, 0), (0, 20), (2, 0)], [(0, 940)], true) := eCo_of (eR_val (eR_to (eR_b 0 s0 (eR_c _ 20)) (vAdd_s (by omega)))) (eR_val (eR_c _ 940)) (by decide) (kc5t (by unfold sBi; omega))
  have hl0 : eLm (rL [n, a, b, c, e, f]) [some (.inr (.inr (some 220))), some (.inl [(1, 1)]), some (.inl [(1, 2)]), some (.inl [(1, 3)]), some (.inl [(1, 4)]), some (.inl [(1, 5)])] (vEnt [(.inr (.inr (.inr (.inl (some 220))))), .inl a, .inl b, .inl c, .inl e, .inl f] m_X12_feed.2.2.1) := ⟨rfl, congrArg some (eCv_i (eR_s (j := 1) (u := a) rfl)).symm, congrArg some (eCv_i (eR_s (j := 2) (u := b) rfl)).symm, congrArg some (eCv_i (eR_s (j := 3) (u := c) rfl)).symm, congrArg some (eCv_i (eR_s (j := 4) (u := e) rfl)).symm, congrArg some (eCv_i (eR_s (j := 5) (u := f) rfl)).symm, trivial⟩
  obtain ⟨kl0, h0, k0, l0, -, f0⟩ := e_go (vms := vms) (df := vdf) (d := 59) (ρ := rL [n, a, b, c, e, f]) (by decide) fdm_a fdm_f hs (all_cons g1 all_nil) hl0 (eDt_add (k := 220) (eR_c _ 2) (eCv_i s0) hn eDt_nil)
  have F0 : sFr [(220, 0, 0)] hp h0 := f0.mono (eBox_ok (by decide))
  have S0 := eSh_fr F0 hs
  have R0_0 := hC_fr F0 (sMnot_ok rfl) r0
  have N0 := hC_fr F0 (sMnot_ok rfl) hn
  obtain ⟨kl1, g0, q0, l1, -, z0⟩ := e_go (vms := vms) (df := vdf) (d := 59) (ρ := rL [n, a, b, c, e, f]) (by decide) fdm_s0 fdm_f0 S0 all_nil l0 eDt_nil
  have z0 : sFr [] h0 g0 := z0
  have e0 : List.map (eCv (rL [n, a, b, c, e, f])) [.inl [(1, 1)], .inr (.inr (some 220))] = [.inl a, (.inr (.inr (.inr (.inl (some 220)))))] := by
    rw [List.map_cons, eCv_i (eR_s (j := 1) (u := a) rfl)]
    rfl
  rw [e0] at q0
  obtain ⟨h1, c0, N1, B0, F1⟩ := pnm (d := 58) (by decide) (show n ≤ 936 by omega) ha (eSh_fr z0 S0) (hC_fr z0 (sMnot_ok rfl) R0_0) (hC_fr z0 (sMnot_ok rfl) N0)
  have K0 : kRe vms vdf 59 vt_X12_feed 0 0 (22, kl1, [.inl a, (.inr (.inr (.inr (.inl (some 220)))))], g0) (25, kl1, [], h1) := e_callv (kas := [.inl a]) (rest := []) (r := none) fdm_v0 rfl rfl (vRc_sh (n := 60) (t := 12) (eSh_fr z0 S0) (by decide) rfl) c0
  have S1 := eSh_fr F1 (eSh_fr z0 S0)
  have R0_1 := hC_fr F1 (fun ⟨m, m1, m2, m3, m4⟩ => by
    simp only [List.mem_cons, List.not_mem_nil, or_false] at m1
    rcases m1 with rfl | rfl <;> dsimp only at m2 m3 m4 <;> omega) (hC_fr z0 (sMnot_ok rfl) R0_0)
  obtain ⟨kl2, g1, q1, l2, -, z1⟩ := e_go (vms := vms) (df := vdf) (d := 59) (ρ := rL [n, a, b, c, e, f]) (by decide) fdm_s1 fdm_f0 S1 all_nil l1 eDt_nil
  have z1 : sFr [] h1 g1 := z1
  have e1 : List.map (eCv (rL [n, a, b, c, e, f])) [.inl [(1, 2)], .inr (.inr (some 220))] = [.inl b, (.inr (.inr (.inr (.inl (some 220)))))] := by
    rw [List.map_cons, eCv_i (eR_s (j := 2) (u := b) rfl)]
    rfl
  rw [e1] at q1
  obtain ⟨h2, c1, N2, B1, F2⟩ := pnm (d := 58) (by decide) (show (n + 4) ≤ 936 by omega) hb (eSh_fr z1 S1) (hC_fr z1 (sMnot_ok rfl) R0_1) (hC_fr z1 (sMnot_ok rfl) N1)
  have K1 : kRe vms vdf 59 vt_X12_feed 0 0 (27, kl2, [.inl b, (.inr (.inr (.inr (.inl (some 220)))))], g1) (30, kl2, [], h2) := e_callv (kas := [.inl b]) (rest := []) (r := none) fdm_v1 rfl rfl (vRc_sh (n := 60) (t := 12) (eSh_fr z1 S1) (by decide) rfl) c1
  have S2 := eSh_fr F2 (eSh_fr z1 S1)
  have R0_2 := hC_fr F2 (fun ⟨m, m1, m2, m3, m4⟩ => by
    simp only [List.mem_cons, List.not_mem_nil, or_false] at m1
    rcases m1 with rfl | rfl <;> dsimp only at m2 m3 m4 <;> omega) (hC_fr z1 (sMnot_ok rfl) R0_1)
  obtain ⟨kl3, g2, q2, l3, -, z2⟩ := e_go (vms := vms) (df := vdf) (d := 59) (ρ := rL [n, a, b, c, e, f]) (by decide) fdm_s2 fdm_f0 S2 all_nil l2 eDt_nil
  have z2 : sFr [] h2 g2 := z2
  have e2 : List.map (eCv (rL [n, a, b, c, e, f])) [.inl [(1, 3)], .inr (.inr (some 220))] = [.inl c, (.inr (.inr (.inr (.inl (some 220)))))] := by
    rw [List.map_cons, eCv_i (eR_s (j := 3) (u := c) rfl)]
    rfl
  rw [e2] at q2
  obtain ⟨h3, c2, N3, B2, F3⟩ := pnm (d := 58) (by decide) (show (n + 8) ≤ 936 by omega) hc (eSh_fr z2 S2) (hC_fr z2 (sMnot_ok rfl) R0_2) (hC_fr z2 (sMnot_ok rfl) N2)
  have K2 : kRe vms vdf 59 vt_X12_feed 0 0 (32, kl3, [.inl c, (.inr (.inr (.inr (.inl (some 220)))))], g2) (35, kl3, [], h3) := e_callv (kas := [.inl c]) (rest := []) (r := none) fdm_v2 rfl rfl (vRc_sh (n := 60) (t := 12) (eSh_fr z2 S2) (by decide) rfl) c2
  have S3 := eSh_fr F3 (eSh_fr z2 S2)
  have R0_3 := hC_fr F3 (fun ⟨m, m1, m2, m3, m4⟩ => by
    simp only [List.mem_cons, List.not_mem_nil, or_false] at m1
    rcases m1 with rfl | rfl <;> dsimp only at m2 m3 m4 <;> omega) (hC_fr z2 (sMnot_ok rfl) R0_2)
  obtain ⟨kl4, g3, q3, l4, -, z3⟩ := e_go (vms := vms) (df := vdf) (d := 59) (ρ := rL [n, a, b, c, e, f]) (by decide) fdm_s3 fdm_f0 S3 all_nil l3 eDt_nil
  have z3 : sFr [] h3 g3 := z3
  have e3 : List.map (eCv (rL [n, a, b, c, e, f])) [.inl [(1, 4)], .inr (.inr (some 220))] = [.inl e, (.inr (.inr (.inr (.inl (some 220)))))] := by
    rw [List.map_cons, eCv_i (eR_s (j := 4) (u := e) rfl)]
    rfl
  rw [e3] at q3
  obtain ⟨h4, c3, N4, B3, F4⟩ := pnm (d := 58) (by decide) (show (n + 12) ≤ 936 by omega) he (eSh_fr z3 S3) (hC_fr z3 (sMnot_ok rfl) R0_3) (hC_fr z3 (sMnot_ok rfl) N3)
  have K3 : kRe vms vdf 59 vt_X12_feed 0 0 (38, kl4, [.inl e, (.inr (.inr (.inr (.inl (some 220)))))], g3) (41, kl4, [], h4) := e_callv (kas := [.inl e]) (rest := []) (r := none) fdm_v3 rfl rfl (vRc_sh (n := 60) (t := 12) (eSh_fr z3 S3) (by decide) rfl) c3
  have S4 := eSh_fr F4 (eSh_fr z3 S3)
  have R0_4 := hC_fr F4 (fun ⟨m, m1, m2, m3, m4⟩ => by
    simp only [List.mem_cons, List.not_mem_nil, or_false] at m1
    rcases m1 with rfl | rfl <;> dsimp only at m2 m3 m4 <;> omega) (hC_fr z3 (sMnot_ok rfl) R0_3)
  obtain ⟨kl5, g4, q4, l5, -, z4⟩ := e_go (vms := vms) (df := vdf) (d := 59) (ρ := rL [n, a, b, c, e, f]) (by decide) fdm_s4 fdm_f0 S4 all_nil l4 eDt_nil
  have z4 : sFr [] h4 g4 := z4
  have e4 : List.map (eCv (rL [n, a, b, c, e, f])) [.inl [(1, 5)], .inr (.inr (some 220))] = [.inl f, (.inr (.inr (.inr (.inl (some 220)))))] := by
    rw [List.map_cons, eCv_i (eR_s (j := 5) (u := f) rfl)]
    rfl
  rw [e4] at q4
  obtain ⟨h5, c4, N5, B4, F5⟩ := pnm (d := 58) (by decide) (show (n + 16) ≤ 936 by omega) hf (eSh_fr z4 S4) (hC_fr z4 (sMnot_ok rfl) R0_4) (hC_fr z4 (sMnot_ok rfl) N4)
  have K4 : kRe vms vdf 59 vt_X12_feed 0 0 (44, kl5, [.inl f, (.inr (.inr (.inr (.inl (some 220)))))], g4) (47, kl5, [], h5) := e_callv (kas := [.inl f]) (rest := []) (r := none) fdm_v4 rfl rfl (vRc_sh (n := 60) (t := 12) (eSh_fr z4 S4) (by decide) rfl) c4
  have S5 := eSh_fr F5 (eSh_fr z4 S4)
  have R0_5 := hC_fr F5 (fun ⟨m, m1, m2, m3, m4⟩ => by
    simp only [List.mem_cons, List.not_mem_nil, or_false] at m1
    rcases m1 with rfl | rfl <;> dsimp only at m2 m3 m4 <;> omega) (hC_fr z4 (sMnot_ok rfl) R0_4)
  obtain ⟨kl6, h6, k6, l6, -, f6⟩ := e_go (vms := vms) (df := vdf) (d := 59) (ρ := rL [n + 20, a, b, c, e, f]) (by decide) fdm_e fdm_f S5 all_nil (eLm_in (vs := [some (.inr (.inr (.inr (.inl (some 220))))), some (.inl a), some (.inl b), some (.inl c), some (.inl e), some (.inl f)]) ⟨rfl, eCv_i (eR_s (j := 1) (u := a) rfl), eCv_i (eR_s (j := 2) (u := b) rfl), eCv_i (eR_s (j := 3) (u := c) rfl), eCv_i (eR_s (j := 4) (u := e) rfl), eCv_i (eR_s (j := 5) (u := f) rfl), trivial⟩ (eLm_out (ρ := rL [n, a, b, c, e, f]) (ls := [some (.inr (.inr (some 220))), some (.inl [(1, 1)]), some (.inl [(1, 2)]), some (.inl [(1, 3)]), some (.inl [(1, 4)]), some (.inl [(1, 5)])]) ⟨rfl, eCv_i (eR_s (j := 1) (u := a) rfl), eCv_i (eR_s (j := 2) (u := b) rfl), eCv_i (eR_s (j := 3) (u := c) rfl), eCv_i (eR_s (j := 4) (u := e) rfl), eCv_i (eR_s (j := 5) (u := f) rfl), trivial⟩ l5)) (eDt_add (k := 220) (eR_c _ 2) (eCv_i (eR_s (j := 0) (u := n + 20) rfl)) N5 eDt_nil)
  have f6 : sFr [] h5 h6 := f6
  have e6 : List.map (eCv (rL [n + 20, a, b, c, e, f])) [.inl [(1, 0)]] = [.inl (n + 20)] := by
    rw [List.map_cons, eCv_i (eR_s (j := 0) (u := n + 20) rfl)]
    rfl
  rw [e6] at k6
  have G : ∀ {x y u : List vOb} {q : Nat}, q ≤ 16 → sFr [] x y → sFr [(220, 2, 2), (221, n + q, n + q + 3)] y u → sFr [(220, 0, 2), (221, n, n + 19)] x u := fun hq h1 h2 => (h1.mono (fun k i ⟨m, m1, _⟩ => by cases m1)).tr (h2.mono (fun k i ⟨m, m1, m2, m3, m4⟩ => by
    simp only [List.mem_cons, List.not_mem_nil, or_false] at m1
    rcases m1 with rfl | rfl
    · exact ⟨_, List.mem_cons_self, m2, by dsimp only at m3 ⊢; omega, by dsimp only at m4 ⊢; omega⟩
    · exact ⟨_, List.mem_cons_of_mem _ List.mem_cons_self, m2, by dsimp only at m3 ⊢; omega, by dsimp only at m4 ⊢; omega⟩))
  have T0 : sFr [(220, 0, 2), (221, n, n + 19)] hp h0 := F0.mono (fun k i ⟨m, m1, m2, m3, m4⟩ => by
    rw [List.mem_singleton.mp m1] at m2 m3 m4
    exact ⟨_, List.mem_cons_self, m2, by dsimp only at m3 ⊢; omega, by dsimp only at m4 ⊢; omega⟩)
  have T : sFr [(220, 0, 2), (221, n, n + 19)] hp h6 := (((((T0.tr (G (q := 0) (by omega) z0 F1)).tr (G (q := 4) (by omega) z1 F2)).tr (G (q := 8) (by omega) z2 F3)).tr (G (q := 12) (by omega) z3 F4)).tr (G (q := 16) (by omega) z4 F5)).tr (f6.mono (fun k i ⟨m, m1, _⟩ => by cases m1))
  obtain ⟨r, hp', u1, u2, u3, u4⟩ := kEnd_cal (d := 59) (kav := [(.inr (.inr (.inr (.inl (some 220))))), .inl a, .inl b, .inl c, .inl e, .inl f]) (hp := hp) (P := fun r hp' => r = some (.inl (n + 20)) ∧ (∀ j, j < 20 → hC hp' 221 (n + j) (.inl (fB [a, b, c, e, f] j))) ∧ sFr [(220, 0, 2), (221, n, n + 19)] hp hp') hM_fdm (show 6 ≤ 6 by decide) rfl rfl (kEnd.of (((((((((((k0.tr q0).tr K0).tr q1).tr K1).tr q2).tr K2).tr q3).tr K3).tr q4).tr K4).tr k6) (k_ireturn fdm_r (Or.inl rfl) ⟨rfl, bR_all (bR_fr f6 (fun i _ _ ⟨m, m1, _⟩ => by cases m1) (bR_fr F5 (fun i h1 h2 ⟨m, m1, m2, m3, m4⟩ => by
    simp only [List.mem_cons, List.not_mem_nil, or_false] at m1
    rcases m1 with rfl | rfl <;> dsimp only at m2 m3 m4 <;> omega) (bR_fr z4 (fun i _ _ ⟨m, m1, _⟩ => by cases m1) (bR_fr F4 (fun i h1 h2 ⟨m, m1, m2, m3, m4⟩ => by
    simp only [List.mem_cons, List.not_mem_nil, or_false] at m1
    rcases m1 with rfl | rfl <;> dsimp only at m2 m3 m4 <;> omega) (bR_fr z3 (fun i _ _ ⟨m, m1, _⟩ => by cases m1) (bR_fr F3 (fun i h1 h2 ⟨m, m1, m2, m3, m4⟩ => by
    simp only [List.mem_cons, List.not_mem_nil, or_false] at m1
    rcases m1 with rfl | rfl <;> dsimp only at m2 m3 m4 <;> omega) (bR_fr z2 (fun i _ _ ⟨m, m1, _⟩ => by cases m1) (bR_fr F2 (fun i h1 h2 ⟨m, m1, m2, m3, m4⟩ => by
    simp only [List.mem_cons, List.not_mem_nil, or_false] at m1
    rcases m1 with rfl | rfl <;> dsimp only at m2 m3 m4 <;> omega) (bR_fr z1 (fun i _ _ ⟨m, m1, _⟩ => by cases m1) B0))))))))) (bR_fr f6 (fun i _ _ ⟨m, m1, _⟩ => by cases m1) (bR_fr F5 (fun i h1 h2 ⟨m, m1, m2, m3, m4⟩ => by
    simp only [List.mem_cons, List.not_mem_nil, or_false] at m1
    rcases m1 with rfl | rfl <;> dsimp only at m2 m3 m4 <;> omega) (bR_fr z4 (fun i _ _ ⟨m, m1, _⟩ => by cases m1) (bR_fr F4 (fun i h1 h2 ⟨m, m1, m2, m3, m4⟩ => by
    simp only [List.mem_cons, List.not_mem_nil, or_false] at m1
    rcases m1 with rfl | rfl <;> dsimp only at m2 m3 m4 <;> omega) (bR_fr z3 (fun i _ _ ⟨m, m1, _⟩ => by cases m1) (bR_fr F3 (fun i h1 h2 ⟨m, m1, m2, m3, m4⟩ => by
    simp only [List.mem_cons, List.not_mem_nil, or_false] at m1
    rcases m1 with rfl | rfl <;> dsimp only at m2 m3 m4 <;> omega) (bR_fr z2 (fun i _ _ ⟨m, m1, _⟩ => by cases m1) B1))))))) (bR_fr f6 (fun i _ _ ⟨m, m1, _⟩ => by cases m1) (bR_fr F5 (fun i h1 h2 ⟨m, m1, m2, m3, m4⟩ => by
    simp only [List.mem_cons, List.not_mem_nil, or_false] at m1
    rcases m1 with rfl | rfl <;> dsimp only at m2 m3 m4 <;> omega) (bR_fr z4 (fun i _ _ ⟨m, m1, _⟩ => by cases m1) (bR_fr F4 (fun i h1 h2 ⟨m, m1, m2, m3, m4⟩ => by
    simp only [List.mem_cons, List.not_mem_nil, or_false] at m1
    rcases m1 with rfl | rfl <;> dsimp only at m2 m3 m4 <;> omega) (bR_fr z3 (fun i _ _ ⟨m, m1, _⟩ => by cases m1) B2))))) (bR_fr f6 (fun i _ _ ⟨m, m1, _⟩ => by cases m1) (bR_fr F5 (fun i h1 h2 ⟨m, m1, m2, m3, m4⟩ => by
    simp only [List.mem_cons, List.not_mem_nil, or_false] at m1
    rcases m1 with rfl | rfl <;> dsimp only at m2 m3 m4 <;> omega) (bR_fr z4 (fun i _ _ ⟨m, m1, _⟩ => by cases m1) B3))) (bR_fr f6 (fun i _ _ ⟨m, m1, _⟩ => by cases m1) B4), T⟩))
  exact ⟨r, hp', u1, u3, u4⟩
set_option maxRecDepth 1000000 in
theorem fdm_n : eQ (eRun [(220, 96, 60), (221, 2, 940)] (eCalI eNo vms [(220, 96, 60), (221, 2, 940)] 100 8) vt_X12_feed [19] 10 [false] (0, [some (.inr (.inr (some 220))), some (.inl [(1, 1)]), some (.inl [(1, 2)]), some (.inl [(1, 3)]), some (.inl [(1, 4)]), some (.inl [(1, 5)])], [], [(220, [(0, 2)], .inl [(1, 0)], [])], [])) (19, [some (.inr (.inr (some 220))), some (.inl [(1, 1)]), some (.inl [(1, 2)]), some (.inl [(1, 3)]), some (.inl [(1, 4)]), some (.inl [(1, 5)])], [.inl [(0, 4294967295)]], [(220, [(0, 0)], .inl [(0, 0)], []), (220, [(0, 2)], .inl [(1, 0)], [])], [(220, [(0, 0)])]) [(5, [(1, 0), (0, 20), (2, 0)], [(0, 940)], false)] [] = true := by decide +kernel
set_option maxRecDepth 1000000 in
theorem fdm_rn : vRt1 m_X12_feed 19 = true := by decide +kernel
theorem fdmN {hp : List vOb} {n a b c e f : Nat} (h20 : 920 < n) (hn9 : n ≤ 940) (hs : eSh [(220, 96, 60), (221, 2, 940)] hp) (hn : hC hp 220 2 (.inl n)) : ∃ r hp', (∃ N, ∀ fuel, N ≤ fuel → vCalD vms vdf fuel 60 28 [(.inr (.inr (.inr (.inl (some 220))))), .inl a, .inl b, .inl c, .inl e, .inl f] hp = some (r, hp', 0, 0)) ∧ sFr [(220, 0, 0)] hp hp' := by
  have s0 : eR (rL [n, a, b, c, e, f]) [(1, 0)] n := eR_s (j := 0) (u := n) rfl
  have g1 : eCo (rL [n, a, b, c, e, f]) (5, [(1, 0), (0, 20), (2, 0)], [(0, 940)], false) := eCo_of (eR_val (eR_to (eR_b 0 s0 (eR_c _ 20)) (vAdd_s (by omega)))) (eR_val (eR_c _ 940)) (by decide) (kc5f (by unfold sBi; omega))
  have hl0 : eLm (rL [n, a, b, c, e, f]) [some (.inr (.inr (some 220))), some (.inl [(1, 1)]), some (.inl [(1, 2)]), some (.inl [(1, 3)]), some (.inl [(1, 4)]), some (.inl [(1, 5)])] (vEnt [(.inr (.inr (.inr (.inl (some 220))))), .inl a, .inl b, .inl c, .inl e, .inl f] m_X12_feed.2.2.1) := ⟨rfl, congrArg some (eCv_i (eR_s (j := 1) (u := a) rfl)).symm, congrArg some (eCv_i (eR_s (j := 2) (u := b) rfl)).symm, congrArg some (eCv_i (eR_s (j := 3) (u := c) rfl)).symm, congrArg some (eCv_i (eR_s (j := 4) (u := e) rfl)).symm, congrArg some (eCv_i (eR_s (j := 5) (u := f) rfl)).symm, trivial⟩
  obtain ⟨kl0, h0, k0, l0, -, f0⟩ := e_go (vms := vms) (df := vdf) (d := 59) (ρ := rL [n, a, b, c, e, f]) (by decide) fdm_n fdm_f hs (all_cons g1 all_nil) hl0 (eDt_add (k := 220) (eR_c _ 2) (eCv_i s0) hn eDt_nil)
  have F0 : sFr [(220, 0, 0)] hp h0 := f0.mono (eBox_ok (by decide))
  have e6 : List.map (eCv (rL [n, a, b, c, e, f])) [.inl [(0, 4294967295)]] = [.inl 4294967295] := by
    rw [List.map_cons, eCv_i (eR_c _ 4294967295)]
    rfl
  rw [e6] at k0
  obtain ⟨r, hp', u1, u2⟩ := kEnd_cal (d := 59) (kav := [(.inr (.inr (.inr (.inl (some 220))))), .inl a, .inl b, .inl c, .inl e, .inl f]) (hp := hp) (P := fun r hp' => sFr [(220, 0, 0)] hp hp') hM_fdm (show 6 ≤ 6 by decide) rfl rfl (kEnd.of k0 (k_ireturn fdm_rn (Or.inl rfl) F0))
  exact ⟨r, hp', u1, u2⟩
