/-! ===== readRun() and advance() of the class ===== -/
def rrL (a b : Nat) : List (Option vAV) := [some (.inr (.inr (.inr (.inl (some 1))))), some (.inl a), some (.inl b), none]
/-- what a run leaves: letters, digits, word, number -/
def rcA : Nat → List Nat → Nat
  | a, [] => a
  | a, c :: cs => rcA (if xSm c = true then a + 1 else a) cs
def rcB : Nat → List Nat → Nat
  | b, [] => b
  | b, c :: cs => rcB (if xSm c = true then b else b + 1) cs
noncomputable def rcW : Nat → List Nat → Nat
  | w, [] => w
  | w, c :: cs => rcW (if xSm c = true then eBn 11 (eBn 12 w 32) (eUn 0 (eBn 0 (eBn 1 c 97) 1)) else w) cs
noncomputable def rcV : Nat → List Nat → Nat
  | v, [] => v
  | v, c :: cs => rcV (if xSm c = true then v else eBn 1 (eBn 0 (eBn 2 v 10) c) 48) cs
theorem cLm_w2 {ls ls' : List (Option vAV)} {kl : vLs} (h : cLm ls kl) (hw : cLwk ls ls') : cLm ls' kl := cLm_wk hw h
theorem rr_run {d : Nat} (hd : 8 ≤ d) {τ K : Nat → Nat} {z m : Nat} : ∀ (k n a b w v : Nat) {hp : List vOb} {kl : vLs}, z - n = k → n ≤ 940 → a ≤ n → b ≤ n → cRdy hp τ K z m → hC hp 1 4 (.inl n) → hC hp 1 9 (.inr (.inr (.inl w))) → hC hp 1 7 (.inl v) → cLm (rrL a b) kl → ∃ kl' hp', kRe vms vdf d vt_X6_readRun 0 0 (14, kl, [], hp) (109, kl', [], hp') ∧ cLm (rrL (rcA a (xRn (fun i => τ i % 256) k n)) (rcB b (xRn (fun i => τ i % 256) k n))) kl' ∧ hC hp' 1 4 (.inl (n + (xRn (fun i => τ i % 256) k n).length)) ∧ hC hp' 1 9 (.inr (.inr (.inl (rcW w (xRn (fun i => τ i % 256) k n))))) ∧ hC hp' 1 7 (.inl (rcV v (xRn (fun i => τ i % 256) k n))) ∧ sFr [(1, 4, 4), (1, 7, 7), (1, 9, 9)] hp hp'
  | 0, n, a, b, w, v, hp, kl, hk, hn, han, hbn, hR, h4, h9, h7, hl => by
    obtain ⟨g1, g2, g3, g5, g6, g7, g8, g9, g10⟩ := hR
    obtain ⟨kl1, hp1, q1, q2, q3⟩ := rr_x (n := n) (z := z) (u := 0) (a := a) (b := b) hd g1 hl h4 g2 (by omega) (by omega) (by omega)
    exact ⟨kl1, hp1, q1, q2, eC_fr0 q3 h4, eC_fr0 q3 h9, eC_fr0 q3 h7, eFr_nil q3⟩
  | k + 1, n, a, b, w, v, hp, kl, hk, hn, han, hbn, hR, h4, h9, h7, hl => by
    have hR' := hR
    obtain ⟨g1, g2, g3, g5, g6, g7, g8, g9, g10⟩ := hR
    obtain ⟨hu, hby⟩ := g7 n (by omega)
    unfold xRn
    cases hs : xSm (τ n % 256) with
    | true =>
      rw [Bool.true_or, cond_true]
      obtain ⟨c3, c4⟩ := xSm_i hs
      have hby' := hby
      unfold byR at hby'
      have eu : τ n = τ n % 256 := by omega
      obtain ⟨kl1, hp1, q1, q2, r4, r9, qf⟩ := rr_w (n := n) (z := z) (u := τ n) (a := a) (b := b) (w := w) (v := v) hd g1 hl h4 g2 g5 hu h9 h7 (by omega) (by omega) (by omega) (by omega) hby (by omega) c3 c4
      rw [vAdd_s (show a + 1 < 4294967296 by omega)] at q2
      obtain ⟨kl2, hp2, w1, w2, w3, w4, w5, w6⟩ := rr_run hd k (n + 1) (a + 1) b _ _ (by omega) (by omega) (by omega) (by omega) (cRdy_fr qf rfl hR') r4 r9 (hC_fr qf (sMnot_ok rfl) h7) (cLm_w2 q2 ⟨rfl, rfl, rfl, trivial⟩)
      refine ⟨kl2, hp2, q1.tr w1, ?_, ?_, ?_, ?_, (qf.mono (sMsub_ok (by decide))).tr w6⟩
      · unfold rcA rcB
        rw [hs, if_pos rfl, if_pos rfl]
        exact w2
      · rw [List.length_cons]
        have e : n + ((xRn (fun i => τ i % 256) k (n + 1)).length + 1) = n + 1 + (xRn (fun i => τ i % 256) k (n + 1)).length := by omega
        rw [e]
        exact w3
      · unfold rcW
        rw [hs, if_pos rfl, ← eu]
        exact w4
      · unfold rcV
        rw [hs, if_pos rfl]
        exact w5
    | false =>
      rw [Bool.false_or]
      have n1 : ¬ (97 ≤ τ n % 256 ∧ τ n % 256 ≤ 122) := fun h => by
        rw [xSm_t h.1 h.2] at hs
        cases hs
      cases hg : xDg (τ n % 256) with
      | true =>
        rw [cond_true]
        obtain ⟨c3, c4⟩ := xDg_i hg
        have hby' := hby
        unfold byR at hby'
        have eu : τ n = τ n % 256 := by omega
        obtain ⟨kl1, hp1, q1, q2, r4, r7, qf⟩ := rr_d (n := n) (z := z) (u := τ n) (a := a) (b := b) (w := w) (v := v) hd g1 hl h4 g2 g5 hu h9 h7 (by omega) (by omega) (by omega) (by omega) hby (by omega) c3 c4
        rw [vAdd_s (show b + 1 < 4294967296 by omega)] at q2
        obtain ⟨kl2, hp2, w1, w2, w3, w4, w5, w6⟩ := rr_run hd k (n + 1) a (b + 1) _ _ (by omega) (by omega) (by omega) (by omega) (cRdy_fr qf rfl hR') r4 (hC_fr qf (sMnot_ok rfl) h9) r7 (cLm_w2 q2 ⟨rfl, rfl, rfl, trivial⟩)
        refine ⟨kl2, hp2, q1.tr w1, ?_, ?_, ?_, ?_, (qf.mono (sMsub_ok (by decide))).tr w6⟩
        · unfold rcA rcB
          rw [hs, if_neg (by decide), if_neg (by decide)]
          exact w2
        · rw [List.length_cons]
          have e : n + ((xRn (fun i => τ i % 256) k (n + 1)).length + 1) = n + 1 + (xRn (fun i => τ i % 256) k (n + 1)).length := by omega
          rw [e]
          exact w3
        · unfold rcW
          rw [hs, if_neg (by decide)]
          exact w4
        · unfold rcV
          rw [hs, if_neg (by decide), ← eu]
          exact w5
      | false =>
        rw [cond_false]
        have n2 : ¬ (48 ≤ τ n % 256 ∧ τ n % 256 ≤ 57) := fun h => by
          unfold xDg at hg
          rw [Nat.ble_eq_true_of_le h.1, Nat.ble_eq_true_of_le h.2] at hg
          cases hg
        have fin : ∀ (kl1 : vLs) (hp1 : List vOb), kRe vms vdf d vt_X6_readRun 0 0 (14, kl, [], hp) (109, kl1, [], hp1) → cLm (rrL a b) kl1 → sFr [] hp hp1 → ∃ kl' hp', kRe vms vdf d vt_X6_readRun 0 0 (14, kl, [], hp) (109, kl', [], hp') ∧ cLm (rrL (rcA a []) (rcB b [])) kl' ∧ hC hp' 1 4 (.inl (n + ([] : List Nat).length)) ∧ hC hp' 1 9 (.inr (.inr (.inl (rcW w [])))) ∧ hC hp' 1 7 (.inl (rcV v [])) ∧ sFr [(1, 4, 4), (1, 7, 7), (1, 9, 9)] hp hp' := fun kl1 hp1 q1 q2 q3 => ⟨kl1, hp1, q1, q2, eC_fr0 q3 h4, eC_fr0 q3 h9, eC_fr0 q3 h7, eFr_nil q3⟩
        by_cases c1 : τ n % 256 < 48 ∨ 128 ≤ τ n % 256
        · obtain ⟨kl1, hp1, q1, q2, q3⟩ := rr_lo (n := n) (z := z) (u := τ n) (a := a) (b := b) hd g1 hl h4 g2 g5 hu (by omega) (by omega) hby (by omega) c1
          exact fin kl1 hp1 q1 (cLm_w2 q2 ⟨rfl, rfl, rfl, trivial⟩) q3
        · by_cases c2 : 122 < τ n % 256
          · obtain ⟨kl1, hp1, q1, q2, q3⟩ := rr_hi (n := n) (z := z) (u := τ n) (a := a) (b := b) hd g1 hl h4 g2 g5 hu (by omega) (by omega) hby (by omega) c2 (by omega)
            exact fin kl1 hp1 q1 (cLm_w2 q2 ⟨rfl, rfl, rfl, trivial⟩) q3
          · obtain ⟨kl1, hp1, q1, q2, q3⟩ := rr_mi (n := n) (z := z) (u := τ n) (a := a) (b := b) hd g1 hl h4 g2 g5 hu (by omega) (by omega) hby (by omega) (by omega) (by omega)
            exact fin kl1 hp1 q1 (cLm_w2 q2 ⟨rfl, rfl, rfl, trivial⟩) q3
theorem rc_ab : ∀ (cs : List Nat) (a b : Nat), rcA a cs + rcB b cs = a + b + cs.length
  | [], a, b => rfl
  | c :: cs, a, b => by
    unfold rcA rcB
    rw [rc_ab cs, List.length_cons]
    split <;> omega
theorem rcA_le : ∀ (cs : List Nat) (a : Nat), a ≤ rcA a cs
  | [], a => Nat.le_refl _
  | c :: cs, a => by
    have := rcA_le cs (if xSm c = true then a + 1 else a)
    unfold rcA
    split at this <;> rename_i h
    · rw [if_pos h]
      omega
    · rw [if_neg h]
      exact this
theorem rcB_le : ∀ (cs : List Nat) (b : Nat), b ≤ rcB b cs
  | [], b => Nat.le_refl _
  | c :: cs, b => by
    have := rcB_le cs (if xSm c = true then b else b + 1)
    unfold rcB
    split at this <;> rename_i h
    · rw [if_pos h]
      exact this
    · rw [if_neg h]
      omega
theorem rcB_sm : ∀ (cs : List Nat), cs.all xSm = true ↔ rcB 0 cs = 0
  | [] => ⟨fun _ => rfl, fun _ => rfl⟩
  | c :: cs => by
    unfold rcB
    rw [List.all_cons]
    cases hs : xSm c with
    | true =>
      rw [Bool.true_and, if_pos rfl]
      exact rcB_sm cs
    | false =>
      rw [Bool.false_and, if_neg (by decide)]
      have := rcB_le cs (0 + 1)
      constructor
      · intro h; cases h
      · intro h; omega
theorem xSm_nd {c : Nat} (h : xSm c = true) : xDg c = false := by
  obtain ⟨h1, h2⟩ := xSm_i h
  exact xDg_f (by omega)
theorem rcA_dg : ∀ (cs : List Nat), cs.all (fun c => xSm c || xDg c) = true → (cs.all xDg = true ↔ rcA 0 cs = 0)
  | [], _ => ⟨fun _ => rfl, fun _ => rfl⟩
  | c :: cs, h => by
    unfold rcA
    rw [List.all_cons, Bool.and_eq_true] at h
    rw [List.all_cons]
    cases hs : xSm c with
    | true =>
      rw [xSm_nd hs, Bool.false_and, if_pos rfl]
      have := rcA_le cs (0 + 1)
      constructor
      · intro h; cases h
      · intro h; omega
    | false =>
      have h1 := h.1
      rw [hs, Bool.false_or] at h1
      rw [h1, Bool.true_and, if_neg (by decide)]
      exact rcA_dg cs h.2
theorem eBn_11 (u w : Nat) : eBn 11 u w = (u + w) % 18446744073709551616 := rfl
theorem eBn_12 (u w : Nat) : eBn 12 u w = (u * w) % 18446744073709551616 := rfl
theorem eUn_0 {u : Nat} (h : u < 2147483648) : eUn 0 u = u := by
  show (bif Nat.blt u 2147483648 then u else u + 18446744069414584320) = u
  rw [Nat.blt_eq.mpr h, cond_true]
theorem w32_c {c : Nat} (h1 : 97 ≤ c) (h2 : c ≤ 122) : eUn 0 (eBn 0 (eBn 1 c 97) 1) = c - 96 := by
  have e1 : eBn 1 c 97 = c - 97 := by
    rw [eBn_1]
    unfold vSub
    omega
  have e2 : c - 97 + 1 = c - 96 := by omega
  rw [e1, vAdd_s (show c - 97 + 1 < 4294967296 by omega), e2, eUn_0 (by omega)]
/-- letters by 32 -/
def xE32 (cs : List Nat) : Nat := cs.foldl (fun w c => w * 32 + (c - 96)) 0
theorem rcW_eq : ∀ (cs : List Nat) (w k : Nat), cs.all xSm = true → w < 32 ^ k → k + cs.length ≤ 12 → rcW w cs = cs.foldl (fun w c => w * 32 + (c - 96)) w ∧ rcW w cs < 32 ^ (k + cs.length)
  | [], w, k, _, hw, _ => ⟨rfl, hw⟩
  | c :: cs, w, k, h, hw, hk => by
    rw [List.all_cons, Bool.and_eq_true] at h
    obtain ⟨c3, c4⟩ := xSm_i h.1
    rw [List.length_cons] at hk
    have hp : 32 ^ (k + 1) ≤ 32 ^ 12 := Nat.pow_le_pow_right (by decide) (by omega)
    have hp1 : 32 ^ (k + 1) = 32 ^ k * 32 := Nat.pow_succ 32 k
    have e0 : (32 : Nat) ^ 12 = 1152921504606846976 := by decide
    have ew : eBn 11 (eBn 12 w 32) (eUn 0 (eBn 0 (eBn 1 c 97) 1)) = w * 32 + (c - 96) := by
      rw [w32_c c3 c4, eBn_11, eBn_12, Nat.mod_eq_of_lt (show w * 32 < 18446744073709551616 by omega), Nat.mod_eq_of_lt (by omega)]
    unfold rcW
    rw [h.1, if_pos rfl, ew]
    have hw' : w * 32 + (c - 96) < 32 ^ (k + 1) := by omega
    obtain ⟨i1, i2⟩ := rcW_eq cs (w * 32 + (c - 96)) (k + 1) h.2 hw' (by omega)
    refine ⟨i1, ?_⟩
    rw [List.length_cons]
    have e : k + (cs.length + 1) = k + 1 + cs.length := by omega
    rw [e]
    exact i2
theorem rcV_eq : ∀ (cs : List Nat) (v k : Nat), cs.all xDg = true → v < 10 ^ k → k + cs.length ≤ 3 → rcV v cs = cs.foldl (fun a c => 10 * a + (c - 48)) v
  | [], v, k, _, hv, _ => rfl
  | c :: cs, v, k, h, hv, hk => by
    rw [List.all_cons, Bool.and_eq_true] at h
    obtain ⟨c3, c4⟩ := xDg_i h.1
    rw [List.length_cons] at hk
    have hp : 10 ^ (k + 1) ≤ 10 ^ 3 := Nat.pow_le_pow_right (by decide) (by omega)
    have hp1 : 10 ^ (k + 1) = 10 ^ k * 10 := Nat.pow_succ 10 k
    have e0 : (10 : Nat) ^ 3 = 1000 := by decide
    have ev : eBn 1 (eBn 0 (eBn 2 v 10) c) 48 = 10 * v + (c - 48) := by
      rw [eBn_2, eBn_0, eBn_1]
      unfold vSub vAdd vMul
      omega
    unfold rcV
    rw [xSm_f (by omega), if_neg (by decide), ev]
    exact rcV_eq cs _ (k + 1) h.2 (by omega) (by omega)
theorem blt_le {a b : Nat} (h : a < b) : Nat.ble b a = false := by
  cases hb : Nat.ble b a with
  | false => rfl
  | true =>
    have := Nat.le_of_ble_eq_true hb
    omega
/-- the class holds this token -/
def cTk (hp : List vOb) (K : Nat → Nat) (t : Nat × List Nat) : Prop := (t.1 = 0 ∧ hC hp 1 5 (.inl 0) ∧ hC hp 1 10 (.inl 4294967295)) ∨ (t.1 = 1 ∧ hC hp 1 5 (.inl 1) ∧ hC hp 1 10 (.inl 4294967295)) ∨ (t.1 = 2 ∧ hC hp 1 5 (.inl 2) ∧ hC hp 1 9 (.inr (.inr (.inl (xE32 t.2)))) ∧ hC hp 1 10 (.inl (xKw K (xE32 t.2) 25 0))) ∨ (∃ v, t = (3, [v]) ∧ hC hp 1 5 (.inl 3) ∧ hC hp 1 7 (.inl v) ∧ hC hp 1 10 (.inl 4294967295)) ∨ (∃ c, t = (4, [c]) ∧ hC hp 1 5 (.inl c) ∧ hC hp 1 10 (.inl 4294967295))
def rrF : sMd := [(1, 4, 5), (1, 7, 7), (1, 9, 10)]
def rrP (hp0 : List vOb) (K : Nat → Nat) (t : Nat × List Nat) (p : Nat) (kr : Option vAV) (hp' : List vOb) : Prop := kr = none ∧ sFr rrF hp0 hp' ∧ cTk hp' K t ∧ hC hp' 1 4 (.inl p)
theorem rr_ok {d : Nat} (hd : 8 ≤ d) {τ K : Nat → Nat} {z m q : Nat} {hp : List vOb} (hR : cRdy hp τ K z m) (hq : q < z) (hc : (xSm (τ q % 256) || xDg (τ q % 256)) = true) (h4 : hC hp 1 4 (.inl q)) (h10 : hC hp 1 10 (.inl 4294967295)) : ∃ kr hp', (∃ N, ∀ fuel, N ≤ fuel → vCalD vms vdf fuel (d + 1 + 1) 36 [.inr (.inr (.inr (.inl (some 1))))] hp = some (kr, hp', 0, 0)) ∧ rrP hp K (xTk (xRn (fun i => τ i % 256) (z - q) q)) (q + (xRn (fun i => τ i % 256) (z - q) q).length) kr hp' := by
  have hz : z ≤ 940 := hR.2.2.2.2.2.2.2.1
  refine kEnd_cal hM_rr (by decide) rfl rfl ?_
  obtain ⟨kl1, hp1, q1, q2, r7, r9, qf⟩ := rr_0 (d := d + 1) (kl := vEnt [.inr (.inr (.inr (.inl (some 1))))] m_X6_readRun.2.2.1) (by omega) hR.1 ⟨rfl, trivial⟩
  have hR1 := cRdy_fr qf rfl hR
  obtain ⟨kl2, hp2, w1, w2, w4, w9, w7, wf⟩ := rr_run (d := d + 1) (by omega) (z - q) q 0 0 0 0 rfl (by omega) (by omega) (by omega) hR1 (hC_fr qf (sMnot_ok rfl) h4) r9 r7 q2
  have hR2 := cRdy_fr wf rfl hR1
  have h10b : hC hp2 1 10 (.inl 4294967295) := hC_fr wf (sMnot_ok rfl) (hC_fr qf (sMnot_ok rfl) h10)
  have hF2 : sFr rrF hp hp2 := (qf.mono (sMsub_ok (by decide))).tr (wf.mono (sMsub_ok (by decide)))
  obtain ⟨cs, hcs⟩ : ∃ cs, xRn (fun i => τ i % 256) (z - q) q = cs := ⟨_, rfl⟩
  have hal := xRn_al (τ := fun i => τ i % 256) (z - q) q
  have hlen := xRn_len (τ := fun i => τ i % 256) (z - q) q
  have hne : 0 < cs.length := by
    obtain ⟨k, hk⟩ : ∃ k, z - q = k + 1 := ⟨z - q - 1, by omega⟩
    rw [← hcs, hk]
    unfold xRn
    rw [hc, cond_true, List.length_cons]
    omega
  rw [hcs] at hal hlen w2 w4 w9 w7 ⊢
  have hab := rc_ab cs 0 0
  have hA := rcA_dg cs hal
  have hB := rcB_sm cs
  refine kEnd.of (q1.tr w1) ?_
  have fin : ∀ (t : Nat × List Nat) (kl3 : vLs) (hp3 : List vOb), kRe vms vdf (d + 1) vt_X6_readRun 0 0 (109, kl2, [], hp2) (149, kl3, [], hp3) → sFr rrF hp2 hp3 → xTk cs = t → cTk hp3 K t → hC hp3 1 4 (.inl (q + cs.length)) → kEnd vms vdf (d + 1) m_X6_readRun (109, kl2, [], hp2) (rrP hp K (xTk cs) (q + cs.length)) := fun t kl3 hp3 a1 a2 a3 a4 a5 => kEnd.of a1 (k_return rr_rt rfl ⟨rfl, hF2.tr a2, by rw [a3]; exact a4, a5⟩)
  by_cases hb : rcB 0 cs = 0
  · have hsm := hB.mpr hb
    by_cases h7 : rcA 0 cs ≤ 7
    · have ex : xTk cs = (2, cs) := by
        unfold xTk
        rw [hsm, Nat.ble_eq_true_of_le (show cs.length ≤ 7 by omega)]
        rfl
      obtain ⟨kl3, hp3, a1, a2, a5, af⟩ := re_w (d := d + 1) (by omega) hR2.1 w2 (by omega) (by omega) hb h7
      obtain ⟨e32, -⟩ := rcW_eq cs 0 0 hsm (by decide) (by omega)
      have ew := e32
      have hlt : xE32 cs < 18446744073709551616 := by
        have h1 := (rcW_eq cs 0 0 hsm (by decide) (by omega)).2
        rw [e32] at h1
        have h2 : 32 ^ (0 + cs.length) ≤ 32 ^ 12 := Nat.pow_le_pow_right (by decide) (by omega)
        have h3 : (32 : Nat) ^ 12 = 1152921504606846976 := by decide
        have h4 : xE32 cs < 32 ^ (0 + cs.length) := h1
        omega
      have w9' : hC hp2 1 9 (.inr (.inr (.inl (xE32 cs)))) := by
        rw [ew] at w9
        exact w9
      obtain ⟨kr, hp4, b1, b2, b3, b4⟩ := fk_ok (d := d) hd hlt (cRdy_fr af rfl hR2) (hC_fr af (sMnot_ok rfl) w9') (hC_fr af (sMnot_ok rfl) h10b)
      subst b2
      have hcall : kRe vms vdf (d + 1) vt_X6_readRun 0 0 (125, kl3, [.inr (.inr (.inr (.inl (some 1))))], hp3) (128, kl3, [], hp4) := e_callv (kas := []) (rest := []) (r := none) rr_iv rfl rfl (vRc_sh (n := 13) (t := 6) (eSh_fr af hR2.1) (by decide) rfl) b1
      obtain ⟨kl5, hp5, c1, c2, c3⟩ := re_ra (d := d + 1) (by omega) (eSh_fr b3 (eSh_fr af hR2.1)) (cLm_w2 a2 ⟨rfl, trivial⟩)
      refine fin (2, cs) kl5 hp5 ((a1.tr hcall).tr c1) (((af.mono (sMsub_ok (by decide))).tr (b3.mono (sMsub_ok (by decide)))).tr (eFr_nil c3)) ex ?_ ?_
      · exact Or.inr (Or.inr (Or.inl ⟨rfl, eC_fr0 c3 (hC_fr b3 (sMnot_ok rfl) a5), eC_fr0 c3 (hC_fr b3 (sMnot_ok rfl) (hC_fr af (sMnot_ok rfl) w9')), eC_fr0 c3 b4⟩))
      · exact eC_fr0 c3 (hC_fr b3 (sMnot_ok rfl) (hC_fr af (sMnot_ok rfl) w4))
    · have ex : xTk cs = (1, []) := by
        have hnd : ¬ cs.all xDg = true := fun h => by
          have := hA.mp h
          omega
        unfold xTk
        rw [blt_le (show 7 < cs.length by omega), Bool.and_false, cond_false, Bool.eq_false_iff.mpr hnd, Bool.false_and, cond_false]
      obtain ⟨kl3, hp3, a1, a2, a5, af⟩ := re_x3 (d := d + 1) (by omega) hR2.1 w2 (by omega) (by omega) hb (by omega)
      exact fin (1, []) kl3 hp3 a1 (af.mono (sMsub_ok (by decide))) ex (Or.inr (Or.inl ⟨rfl, a5, hC_fr af (sMnot_ok rfl) h10b⟩)) (hC_fr af (sMnot_ok rfl) w4)
  · have hns : cs.all xSm = false := Bool.eq_false_iff.mpr (fun h => hb (hB.mp h))
    by_cases ha : rcA 0 cs = 0
    · have hdg := hA.mpr ha
      by_cases h3 : rcB 0 cs ≤ 3
      · have ex : xTk cs = (3, [cs.foldl (fun a c => 10 * a + (c - 48)) 0]) := by
          unfold xTk
          rw [hns, Bool.false_and, cond_false, hdg, Nat.ble_eq_true_of_le (show cs.length ≤ 3 by omega)]
          rfl
        obtain ⟨kl3, hp3, a1, a2, a5, af⟩ := re_n (d := d + 1) (by omega) hR2.1 w2 (by omega) (by omega) hb ha h3
        have ev := rcV_eq cs 0 0 hdg (by decide) (by omega)
        rw [ev] at w7
        exact fin _ kl3 hp3 a1 (af.mono (sMsub_ok (by decide))) ex (Or.inr (Or.inr (Or.inr (Or.inl ⟨_, rfl, a5, hC_fr af (sMnot_ok rfl) w7, hC_fr af (sMnot_ok rfl) h10b⟩)))) (hC_fr af (sMnot_ok rfl) w4)
      · have ex : xTk cs = (1, []) := by
          unfold xTk
          rw [hns, Bool.false_and, cond_false, hdg, blt_le (show 3 < cs.length by omega)]
          rfl
        obtain ⟨kl3, hp3, a1, a2, a5, af⟩ := re_x1 (d := d + 1) (by omega) hR2.1 w2 (by omega) (by omega) hb ha (by omega)
        exact fin (1, []) kl3 hp3 a1 (af.mono (sMsub_ok (by decide))) ex (Or.inr (Or.inl ⟨rfl, a5, hC_fr af (sMnot_ok rfl) h10b⟩)) (hC_fr af (sMnot_ok rfl) w4)
    · have hnd : cs.all xDg = false := Bool.eq_false_iff.mpr (fun h => ha (hA.mp h))
      have ex : xTk cs = (1, []) := by
        unfold xTk
        rw [hns, Bool.false_and, cond_false, hnd, Bool.false_and, cond_false]
      obtain ⟨kl3, hp3, a1, a2, a5, af⟩ := re_x2 (d := d + 1) (by omega) hR2.1 w2 (by omega) (by omega) hb ha
      exact fin (1, []) kl3 hp3 a1 (af.mono (sMsub_ok (by decide))) ex (Or.inr (Or.inl ⟨rfl, a5, hC_fr af (sMnot_ok rfl) h10b⟩)) (hC_fr af (sMnot_ok rfl) w4)
