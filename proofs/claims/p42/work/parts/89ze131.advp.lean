/-! ===== advance() of the class: told by the pure tokens ===== -/
/-- a call at a place of a table -/
noncomputable def eIsV (tbl : vTbl) (pc a b t : Nat) : Bool := match vGet tbl pc with
  | some x => (match x.1 with
    | .invokevirtual _ => Nat.beq x.2.2.1 a && (Nat.beq x.2.2.2.1 b && Nat.beq x.2.2.2.2 t)
    | _ => false)
  | none => false
theorem e_callv {vms : List vMt} {df : List (List vAV)} {d : Nat} {tbl : vTbl} {pc a b t : Nat} {kl : vLs} {ks kas rest : List vAV} {rv : vAV} {hp hp' : List vOb} {r : Option vAV} (hg : eIsV tbl pc a b t = true) (htk : vTk b [] ks = some (kas, rv :: rest)) (h8 : Nat.ble (vCs rest) 8 = true) (hrc : vRc t rv hp = true) (hc : ∃ N, ∀ fuel, N ≤ fuel → vCalD vms df fuel d a (rv :: kas) hp = some (r, hp', 0, 0)) : kRe vms df d tbl 0 0 (pc, kl, ks, hp) (pc + 3, kl, r.toList ++ rest, hp') := by
  unfold eIsV at hg
  split at hg
  · next x hx =>
    obtain ⟨i, len, a', b', t'⟩ := x
    dsimp only at hg
    split at hg
    · next y =>
      rw [Bool.and_eq_true, Bool.and_eq_true] at hg
      have e1 := Nat.eq_of_beq_eq_true hg.1
      have e2 := Nat.eq_of_beq_eq_true hg.2.1
      have e3 := Nat.eq_of_beq_eq_true hg.2.2
      subst e1 e2 e3
      exact e_call hx ⟨y, rfl⟩ htk h8 hrc hc
    · cases hg
  · cases hg
theorem vRc_sh {sh : List (Nat × Nat × Nat)} {hp : List vOb} {k t n : Nat} (h : eSh sh hp) (hm : (k, 8 * t, n) ∈ sh) (ht : Nat.blt t 99 = true) : vRc t (.inr (.inr (.inr (.inl (some k))))) hp = true := by
  obtain ⟨ob, o1, o2, -⟩ := h _ hm
  unfold vRc
  dsimp only
  rw [vNth_eq, o1]
  dsimp only
  rw [o2, Nat.beq_refl, ht]
  rfl
/-- a byte as a row of bytes holds it -/
def byR (u : Nat) : Prop := u < 128 ∨ (4294967168 ≤ u ∧ u < 4294967296)
def cRdy (hp : List vOb) (τ K : Nat → Nat) (z m : Nat) : Prop := eSh shC hp ∧ hC hp 1 2 (.inl z) ∧ hC hp 1 3 (.inl m) ∧ hC hp 1 0 (.inr (.inr (.inr (.inl (some 2))))) ∧ hC hp 1 1 (.inr (.inr (.inr (.inl (some 3))))) ∧ (∀ i, i < z → hC hp 2 i (.inl (τ i)) ∧ byR (τ i)) ∧ (∀ i, i < 25 → hC hp 3 i (.inr (.inr (.inl (K i)))) ∧ K i < 18446744073709551616) ∧ z ≤ 940 ∧ m ≤ 940
def cxB (md : sMd) : Bool := md.all (fun m => Nat.beq m.1 1 && Nat.ble 4 m.2.1)
theorem cxB_ok {md : sMd} (h : cxB md = true) {k i : Nat} (hm : sMin md k i) : k = 1 ∧ 4 ≤ i := by
  obtain ⟨m, m1, m2, m3, m4⟩ := hm
  have h1 := List.all_eq_true.mp h m m1
  rw [Bool.and_eq_true] at h1
  have := Nat.le_of_ble_eq_true h1.2
  exact ⟨m2.symm.trans (Nat.eq_of_beq_eq_true h1.1), by omega⟩
theorem cRdy_fr {md : sMd} {hp hp' : List vOb} {τ K : Nat → Nat} {z m : Nat} (hf : sFr md hp hp') (hm : cxB md = true) (h : cRdy hp τ K z m) : cRdy hp' τ K z m := by
  obtain ⟨h1, h2, h3, h4, h5, h6, h7, h8⟩ := h
  refine ⟨eSh_fr hf h1, hC_fr hf (fun hi => ?_) h2, hC_fr hf (fun hi => ?_) h3, hC_fr hf (fun hi => ?_) h4, hC_fr hf (fun hi => ?_) h5, fun i hi => ⟨hC_fr hf (fun hi2 => ?_) (h6 i hi).1, (h6 i hi).2⟩, fun i hi => ⟨hC_fr hf (fun hi2 => ?_) (h7 i hi).1, (h7 i hi).2⟩, h8⟩
  · have := cxB_ok hm hi
    omega
  · have := cxB_ok hm hi
    omega
  · have := cxB_ok hm hi
    omega
  · have := cxB_ok hm hi
    omega
  · have := cxB_ok hm hi2
    omega
  · have := cxB_ok hm hi2
    omega
def adL (lim : Nat) : List (Option vAV) := [some (.inr (.inr (.inr (.inl (some 1))))), some (.inl lim), none, none]
theorem ad_skip {d : Nat} (hd : 8 ≤ d) {τ K : Nat → Nat} {z m lim : Nat} (hlz : lim ≤ z) : ∀ (k n : Nat) {hp : List vOb} {kl : vLs}, lim - n = k → n ≤ 940 → cRdy hp τ K z m → hC hp 1 4 (.inl n) → cLm (adL lim) kl → ∃ kl' hp', kRe vms vdf d vt_X6_advance 0 0 (12, kl, [], hp) (61, kl', [], hp') ∧ cLm (adL lim) kl' ∧ hC hp' 1 4 (.inl (xSk (fun i => τ i % 256) k n)) ∧ sFr [(1, 4, 4)] hp hp'
  | 0, n, hp, kl, hk, hn, hR, h4, hl => by
    obtain ⟨h1, h2, h3, h5, h6, h7, h8, h9, h10⟩ := hR
    obtain ⟨kl1, hp1, q1, q2, q3⟩ := ad_x1 (n := n) (z := lim) hd h1 hl h4 (by omega) (by omega) (by omega)
    exact ⟨kl1, hp1, q1, q2, eC_fr0 q3 h4, eFr_nil q3⟩
  | k + 1, n, hp, kl, hk, hn, hR, h4, hl => by
    have hR' := hR
    obtain ⟨h1, h2, h3, h5, h6, h7, h8, h9, h10⟩ := hR
    obtain ⟨hu, hb⟩ := h7 n (by omega)
    by_cases c1 : τ n % 256 = 32
    · obtain ⟨kl1, hp1, q1, q2, q3, q4⟩ := ad_b1 (n := n) (z := lim) hd h1 hl h4 h5 hu (by omega) (by omega) hb (by omega) c1
      obtain ⟨kl2, hp2, w1, w2, w3, w4⟩ := ad_skip hd hlz k (n + 1) (by omega) (by omega) (cRdy_fr q4 rfl hR') q3 q2
      refine ⟨kl2, hp2, q1.tr w1, w2, ?_, q4.tr w4⟩
      unfold xSk
      rw [xBl_t (Or.inl c1), cond_true]
      exact w3
    · by_cases c2 : τ n % 256 = 10
      · obtain ⟨kl1, hp1, q1, q2, q3, q4⟩ := ad_b2 (n := n) (z := lim) hd h1 hl h4 h5 hu (by omega) (by omega) hb (by omega) c2
        obtain ⟨kl2, hp2, w1, w2, w3, w4⟩ := ad_skip hd hlz k (n + 1) (by omega) (by omega) (cRdy_fr q4 rfl hR') q3 q2
        refine ⟨kl2, hp2, q1.tr w1, w2, ?_, q4.tr w4⟩
        unfold xSk
        rw [xBl_t (Or.inr c2), cond_true]
        exact w3
      · obtain ⟨kl1, hp1, q1, q2, q3⟩ := ad_x2 (n := n) (z := lim) hd h1 hl h4 h5 hu (by omega) (by omega) hb (by omega) c1 c2
        refine ⟨kl1, hp1, q1, q2, ?_, eFr_nil q3⟩
        unfold xSk
        rw [xBl_f c1 c2, cond_false]
        exact eC_fr0 q3 h4
/-! which of the keywords -/
def xKw (K : Nat → Nat) (w : Nat) : Nat → Nat → Nat
  | 0, _ => 4294967295
  | k + 1, i => if K i = w then i else xKw K w k (i + 1)
theorem hM_fk : vms[35]? = some m_X6_findKeyword := by rw [← vNth_eq]; rfl
theorem hM_rr : vms[36]? = some m_X6_readRun := by rw [← vNth_eq]; rfl
theorem hM_ad : vms[37]? = some m_X6_advance := by rw [← vNth_eq]; rfl
set_option maxRecDepth 1000000 in
theorem fk_rt : [27, 34].all (fun p => vRt0 m_X6_findKeyword p) = true := by decide +kernel
set_option maxRecDepth 1000000 in
theorem rr_rt : vRt0 m_X6_readRun 149 = true := by decide +kernel
set_option maxRecDepth 1000000 in
theorem ad_rt : [99, 146, 212].all (fun p => vRt0 m_X6_advance p) = true := by decide +kernel
set_option maxRecDepth 1000000 in
theorem rr_iv : eIsV vt_X6_readRun 125 35 0 6 = true := by decide +kernel
set_option maxRecDepth 1000000 in
theorem ad_iv : eIsV vt_X6_advance 143 36 0 6 = true := by decide +kernel
def fkP (hp0 : List vOb) (K : Nat → Nat) (w : Nat) (kr : Option vAV) (hp' : List vOb) : Prop := kr = none ∧ sFr [(1, 10, 10)] hp0 hp' ∧ hC hp' 1 10 (.inl (xKw K w 25 0))
def fkL (i : Nat) : List (Option vAV) := [some (.inr (.inr (.inr (.inl (some 1))))), some (.inl i)]
theorem fk_loop {d : Nat} (hd : 8 ≤ d) {τ K : Nat → Nat} {z m w : Nat} (hw : w < 18446744073709551616) {hp0 : List vOb} : ∀ (k i : Nat) {hp : List vOb} {kl : vLs}, k + i = 25 → cRdy hp τ K z m → sFr [] hp0 hp → hC hp 1 9 (.inr (.inr (.inl w))) → hC hp 1 10 (.inl 4294967295) → cLm (fkL i) kl → xKw K w 25 0 = xKw K w k i → kEnd vms vdf d m_X6_findKeyword (2, kl, [], hp) (fkP hp0 K w)
  | 0, i, hp, kl, hk, hR, hF, h9, h10, hl, hx => by
    obtain ⟨kl1, hp1, q1, q2, q3⟩ := fk_x (i := i) hd hR.1 hl (by omega)
    refine kEnd.of q1 (k_return (List.all_eq_true.mp fk_rt _ (by decide)) rfl ⟨rfl, eFr_nil (hF.tr q3), ?_⟩)
    rw [hx]
    exact eC_fr0 q3 h10
  | k + 1, i, hp, kl, hk, hR, hF, h9, h10, hl, hx => by
    have hR' := hR
    obtain ⟨g1, g2, g3, g5, g6, g7, g8, g9, g10⟩ := hR
    obtain ⟨hK, hKb⟩ := g8 i (by omega)
    by_cases c : K i = w
    · obtain ⟨kl1, hp1, q1, q2, q3, q4⟩ := fk_e (i := i) (k := K i) (w := w) hd g1 hl g6 hK h9 (by omega) c
      refine kEnd.of q1 (k_return (List.all_eq_true.mp fk_rt _ (by decide)) rfl ⟨rfl, (eFr_nil hF).tr q4, ?_⟩)
      rw [hx]
      unfold xKw
      rw [if_pos c]
      exact q3
    · obtain ⟨kl1, hp1, q1, q2, q3⟩ := fk_n (i := i) (k := K i) (w := w) hd g1 hl g6 hK h9 (by omega) (eLc_ne hKb hw c)
      have e : eBn 0 i 1 = i + 1 := vAdd_s (by omega)
      refine kEnd.of q1 (fk_loop hd hw k (i + 1) (by omega) (cRdy_fr q3 rfl hR') (hF.tr q3) (eC_fr0 q3 h9) (eC_fr0 q3 h10) ?_ ?_)
      · rw [e] at q2
        exact q2
      · rw [hx]
        show (if K i = w then i else xKw K w k (i + 1)) = _
        rw [if_neg c]
theorem fk_ok {d : Nat} (hd : 8 ≤ d) {τ K : Nat → Nat} {z m w : Nat} (hw : w < 18446744073709551616) {hp : List vOb} (hR : cRdy hp τ K z m) (h9 : hC hp 1 9 (.inr (.inr (.inl w)))) (h10 : hC hp 1 10 (.inl 4294967295)) : ∃ kr hp', (∃ N, ∀ fuel, N ≤ fuel → vCalD vms vdf fuel (d + 1) 35 [.inr (.inr (.inr (.inl (some 1))))] hp = some (kr, hp', 0, 0)) ∧ fkP hp K w kr hp' := by
  refine kEnd_cal hM_fk (by decide) rfl rfl ?_
  obtain ⟨kl1, hp1, q1, q2, q3⟩ := fk_0 (kl := vEnt [.inr (.inr (.inr (.inl (some 1))))] m_X6_findKeyword.2.2.1) hd hR.1 ⟨rfl, trivial⟩
  exact kEnd.of q1 (fk_loop hd hw 25 0 rfl (cRdy_fr q3 rfl hR) q3 (eC_fr0 q3 h9) (eC_fr0 q3 h10) q2 rfl)
