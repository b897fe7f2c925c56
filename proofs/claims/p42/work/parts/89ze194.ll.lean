/-! ===== a LINE of a TOWN, class and reference side by side ===== -/
def LSR : List (Option eV) := [some (.inr (.inr (some 220))), none]
def LSC (t : Nat) : List (Option eV) := [some (.inr (.inr (some 30))), some (.inr (.inr (some 1))), some (.inr (.inr (some t))), some (.inl [(1, 9)])]
/-- both fail alike, or both come to the next LINE -/
def LL (t : Nat) (cH : eD) (sh : List (Nat × Nat × Nat)) (d d2 : Nat) (hpC : List vOb) (klC : vLs) (hpR : List vOb) (klR : vLs) (τ K R : Nat → Nat) (z m : Nat) (ρ : Nat → Nat → Nat) : Prop := (∃ k a, (∃ kl' hp' W, kRe vms vdf d vt_X10_read 0 0 (45, klC, [], hpC) (55, kl', [.inl 4294967295], hp') ∧ hC hp' 1 11 (.inl k) ∧ hC hp' 1 12 (.inl a) ∧ sFr (eMd ρ W) hpC hp' ∧ clW t W = true) ∧ (∃ kl' hp' W, kRe vms vdf d2 vt_X12_town 0 0 (69, klR, [], hpR) (98, kl', [.inl (eBn 1 4294967295 a)], hp') ∧ hC hp' 220 15 (.inl k) ∧ hC hp' 220 16 (.inl a) ∧ sFr (eMd ρ W) hpR hp' ∧ rlW W = true)) ∨
  (∃ ρ' ht' N' DC' NM' TK' BR' ST', PV ρ' τ K R z m N' DC' NM' TK' BR' ST' ∧ TX ρ' τ K R z m ∧ ρ 0 0 < ρ' 0 0 ∧ (∃ kl' hp' W, kRe vms vdf d vt_X10_read 0 0 (45, klC, [], hpC) (21, kl', [], hp') ∧ eLm ρ' (LSC t) kl' ∧ CM t cH sh hp' τ K z m ρ' ht' N' DC' TK' BR' ST' ∧ hC hp' 1 4 (.inl (ρ' 0 0)) ∧ sFr (eMd ρ W) hpC hp' ∧ clW t W = true) ∧ (∃ kl' hp' W, kRe vms vdf d2 vt_X12_town 0 0 (69, klR, [], hpR) (69, kl', [], hp') ∧ eLm ρ' LSR kl' ∧ RS hp' τ R z m ρ' ht' NM' TK' BR' ST' ∧ sFr (eMd ρ W) hpR hp' ∧ rlW W = true))
/-- locals behind a LINE: one more -/
theorem eLm_ln {t : Nat} {ρ ρ' : Nat → Nat → Nat} {kl : vLs} (h9 : ρ' 0 9 = ρ 0 9 + 1) (hb : ρ 0 9 ≤ 900) (h : eLm ρ [some (.inr (.inr (some 30))), some (.inr (.inr (some 1))), some (.inr (.inr (some t))), some (.inl [(1, 9), (0, 1), (2, 0)])] kl) : eLm ρ' (LSC t) kl := by
  refine eLm_in (vs := [some (.inr (.inr (.inr (.inl (some 30))))), some (.inr (.inr (.inr (.inl (some 1))))), some (.inr (.inr (.inr (.inl (some t))))), some (.inl (ρ 0 9 + 1))]) ⟨rfl, rfl, rfl, eCv_i (eR_s h9), trivial⟩ (eLm_out (ρ := ρ) (ls := [some (.inr (.inr (some 30))), some (.inr (.inr (some 1))), some (.inr (.inr (some t))), some (.inl [(1, 9), (0, 1), (2, 0)])]) ⟨rfl, rfl, rfl, eCv_i (eR_to (eR_b 0 (eR_s (j := 9) rfl) (eR_c ρ 1)) (vAdd_s (by omega))), trivial⟩ h)
theorem eLm_r {ρ ρ' : Nat → Nat → Nat} {kl : vLs} (h : eLm ρ LSR kl) : eLm ρ' LSR kl := by
  refine eLm_in (vs := [some (.inr (.inr (.inr (.inl (some 220))))), none]) ⟨rfl, trivial⟩ (eLm_out (ρ := ρ) (ls := LSR) ⟨rfl, trivial⟩ h)
theorem or_lt64 {a b : Nat} (ha : a < 64) (hb : b < 6) : eBn 4 a (eBn 6 1 b) < 64 := by
  have e : eBn 6 1 b = 2 ^ b := by
    show vShl 1 b = _
    unfold vShl
    rw [Nat.mod_eq_of_lt (show b < 32 by omega), Nat.one_mul]
    exact Nat.mod_eq_of_lt (Nat.lt_of_lt_of_le (Nat.pow_lt_pow_right (by decide) (show b < 6 by omega)) (by decide))
  rw [e]
  have h1 : 2 ^ b < 2 ^ 6 := Nat.pow_lt_pow_right (by decide) hb
  exact Nat.or_lt_two_pow (n := 6) ha h1
theorem eCo_100 {ρ : Nat → Nat → Nat} {x : eX} {u n : Nat} {p : Bool} (hx : eR ρ x u) (h : eCo ρ (100, x, [(0, n)], p)) : u < n := by
  unfold eCo at h
  rw [if_pos rfl] at h
  dsimp only at h
  rw [eR_val hx, eR_val (eR_c ρ n)] at h
  exact h
theorem tab_12 {ρ : Nat → Nat → Nat} {τ K R N DC NM : Nat → Nat} {z m b cs cm cr cp c u : Nat} (h : tabA ρ τ K R N DC NM z m b cs cm cr cp c) (hu : u ≤ z) : ρ 12 u < 40 ∨ ρ 12 u = 4294967295 := by
  obtain ⟨-, -, -, ⟨n1, n2, n3, n4, n5, n6, -⟩, -, hG, -⟩ := h
  rw [hG u hu]
  cases hx : xFi N (ρ 5 u) c 0 with
  | none => exact Or.inr rfl
  | some i =>
    have := xFi_some hx
    obtain ⟨k, j, k1, k2, k3, -⟩ := n6 i (by omega)
    have := nrC_le (k := k) n2 n3 n4 n5
    left
    show DC i < 40
    omega
theorem eB10M : eBn 10 4294967295 8 = 4294967295 := by decide +kernel
theorem ex_c {k n g j : Nat} {A : Nat → Nat} {ρ : Nat → Nat → Nat} {hp : List vOb} {x : eX} (hx : eR ρ x (eBn 10 g 8)) (hg : g < 40 ∨ g = 4294967295) (hn : n ≤ 8) (ha : ∀ i, i < n → hC hp k i (.inl (A i))) (hs : ρ 0 j = A (g % 8)) (h : ∀ q ∈ [((100, x, [(0, n)], true) : Nat × eX × eX × Bool)], eCo ρ q) : hC hp k (eVal ρ x) (eCv ρ (.inl [(1, j)])) := by
  have h1 := eCo_100 hx (h _ List.mem_cons_self)
  rcases hg with hg | hg
  · rw [eB10 g (by omega)] at hx h1
    rw [eR_val hx, eCv_i (eR_s (j := j) (u := A (g % 8)) hs)]
    exact ha _ h1
  · rw [hg, eB10M] at h1
    omega
theorem ex_r {n g j f off kd : Nat} {A : Nat → Nat} {ρ : Nat → Nat → Nat} {hp : List vOb} {a y : eX} (hx : eR ρ a f) (hy : eR ρ y kd) (hkd : kd < 4294967296) (hn : n ≤ 8) (ho : off ≤ 64) (hgf : kd = 2 → f < n → g % 8 = f) (ha : ∀ i, i < n → hC hp 223 (off + i) (.inl (A i))) (hs : ρ 0 j = A (g % 8)) (h : ∀ q ∈ [((100, a, [(0, n)], true) : Nat × eX × eX × Bool), (0, y, [(0, 2)], true)], eCo ρ q) : hC hp 223 (eVal ρ ([(0, off)] ++ (a ++ [(2, 0)]))) (eCv ρ (.inl [(1, j)])) := by
  have h1 := eCo_100 hx (h _ List.mem_cons_self)
  have h2 := eCo_eq hy hkd (by decide) (h _ (List.mem_cons_of_mem _ List.mem_cons_self))
  have h3 := hgf h2 h1
  rw [eR_val (eR_b 0 (eR_c ρ off) hx), show eBn 0 off f = off + f from vAdd_s (by omega), eCv_i (eR_s (j := j) (u := A f) (by rw [hs, h3]))]
  exact ha f h1
