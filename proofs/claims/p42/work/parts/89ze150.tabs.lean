/-! ===== what tables say of tokens ===== -/
theorem eR_t {ρ : Nat → Nat → Nat} {x : eX} {u : Nat} (k : Nat) (hx : eR ρ x u) : eR ρ (x ++ [(4, k)]) (ρ k u) := fun st => by
  rw [eEv_app, hx]
  rfl
theorem eR_last {ρ : Nat → Nat → Nat} {y : eX} {k u : Nat} (h : eR ρ (y ++ [(4, k)]) u) : ∃ v, u = ρ k v := by
  have h1 := h []
  rw [eEv_app] at h1
  match hs : eEv ρ y [] with
  | [] =>
    rw [hs] at h1
    cases h1
  | v :: st =>
    rw [hs] at h1
    have h2 : ρ k v :: st = u :: [] := h1
    exact ⟨v, (List.cons.inj h2).1.symm⟩
theorem eCo_eq {ρ : Nat → Nat → Nat} {y : eX} {v c : Nat} (hy : eR ρ y v) (hv : v < 4294967296) (hc : c < 4294967296) (h : eCo ρ (0, y, [(0, c)], true)) : v = c := by
  unfold eCo at h
  dsimp only at h
  rw [if_neg (by decide)] at h
  rw [eR_val hy, eR_val (eR_c ρ c)] at h
  exact sBi_inj hv hc (Nat.eq_of_beq_eq_true h)
theorem eCo_neq {ρ : Nat → Nat → Nat} {y : eX} {v c : Nat} (hy : eR ρ y v) (h : eCo ρ (1, y, [(0, c)], true)) : v ≠ c := fun e => by
  unfold eCo at h
  dsimp only at h
  rw [if_neg (by decide)] at h
  rw [eR_val hy, eR_val (eR_c ρ c), e] at h
  have h2 : (!Nat.beq (sBi c) (sBi c)) = true := h
  rw [Nat.beq_refl] at h2
  cases h2
/-- the tokens' words and numbers -/
def xKd (t : Nat × List Nat) : Nat := if t.1 ≤ 3 then t.1 else t.2.headD 0
def xKy (K : Nat → Nat) (t : Nat × List Nat) : Nat := if t.1 = 2 then xKw K (xE32 t.2) 25 0 else 4294967295
def xNm (t : Nat × List Nat) : Nat := t.2.headD 0
def xTmk (t : Nat × List Nat) : Nat := if t.1 = 0 then 0 else if t.1 = 1 then 4 else t.1 - 1
def xHn (t : Nat × List Nat) : Nat := if 3 ≤ t.1 then 1 else 0
/-- a token that may be: its kinds and what goes with them -/
def xTo (t : Nat × List Nat) : Prop := (t.1 = 0 ∧ t.2 = []) ∨ (t.1 = 1 ∧ t.2 = []) ∨ (t.1 = 2 ∧ t.2.all xSm = true ∧ 0 < t.2.length ∧ t.2.length ≤ 7) ∨ (∃ v, t = (3, [v]) ∧ v ≤ 999) ∨ (∃ c, t = (4, [c]) ∧ (c = 59 ∨ c = 40 ∨ c = 41 ∨ (60 ≤ c ∧ c ≤ 62)))
theorem xSg_i {c : Nat} (h : xSg c = true) : c = 59 ∨ c = 40 ∨ c = 41 ∨ (60 ≤ c ∧ c ≤ 62) := by
  unfold xSg at h
  rw [Bool.or_eq_true, Bool.or_eq_true, Bool.or_eq_true, Bool.and_eq_true] at h
  rcases h with h | h | h | ⟨h1, h2⟩
  · exact Or.inl (Nat.eq_of_beq_eq_true h)
  · exact Or.inr (Or.inl (Nat.eq_of_beq_eq_true h))
  · exact Or.inr (Or.inr (Or.inl (Nat.eq_of_beq_eq_true h)))
  · exact Or.inr (Or.inr (Or.inr ⟨Nat.le_of_ble_eq_true h1, Nat.le_of_ble_eq_true h2⟩))
theorem xNum_le : ∀ (cs : List Nat) (v k : Nat), cs.all xDg = true → v < 10 ^ k → cs.foldl (fun a c => 10 * a + (c - 48)) v < 10 ^ (k + cs.length)
  | [], v, k, _, hv => hv
  | c :: cs, v, k, h, hv => by
    rw [List.all_cons, Bool.and_eq_true] at h
    obtain ⟨c3, c4⟩ := xDg_i h.1
    have hp1 : 10 ^ (k + 1) = 10 ^ k * 10 := Nat.pow_succ 10 k
    have := xNum_le cs (10 * v + (c - 48)) (k + 1) h.2 (by omega)
    rw [List.length_cons]
    have e : k + (cs.length + 1) = k + 1 + cs.length := by omega
    rw [e]
    exact this
theorem xTk_to {cs : List Nat} (h0 : 0 < cs.length) : xTo (xTk cs) := by
  unfold xTk
  cases h1 : (cs.all xSm && Nat.ble cs.length 7) with
  | true =>
    rw [cond_true]
    rw [Bool.and_eq_true] at h1
    exact Or.inr (Or.inr (Or.inl ⟨rfl, h1.1, h0, Nat.le_of_ble_eq_true h1.2⟩))
  | false =>
    rw [cond_false]
    cases h2 : (cs.all xDg && Nat.ble cs.length 3) with
    | true =>
      rw [cond_true]
      rw [Bool.and_eq_true] at h2
      refine Or.inr (Or.inr (Or.inr (Or.inl ⟨_, rfl, ?_⟩)))
      have h3 := xNum_le cs 0 0 h2.1 (by decide)
      have h4 : 10 ^ (0 + cs.length) ≤ 10 ^ 3 := Nat.pow_le_pow_right (by decide) (by have := Nat.le_of_ble_eq_true h2.2; omega)
      have h5 : (10 : Nat) ^ 3 = 1000 := by decide
      omega
    | false =>
      rw [cond_false]
      exact Or.inr (Or.inl ⟨rfl, rfl⟩)
theorem xLex_to {τ : Nat → Nat} {z m n : Nat} (hn : n ≤ z) : xTo (xLex τ z m n).1 ∧ (xLex τ z m n).2.2 ≤ z ∧ (xLex τ z m n).2.1 ≤ z := by
  obtain ⟨q, hq⟩ : ∃ q, xSk τ (min z m - n) n = q := ⟨_, rfl⟩
  have hle := (xSk_le (τ := τ) (min z m - n) n)
  rw [hq] at hle
  rw [xLex_q hq]
  by_cases c : min z m ≤ q
  · rw [if_pos c]
    refine ⟨?_, by dsimp only; omega, by dsimp only; omega⟩
    by_cases h : m < z
    · rw [if_pos h]
      exact Or.inr (Or.inl ⟨rfl, rfl⟩)
    · rw [if_neg h]
      exact Or.inl ⟨rfl, rfl⟩
  · rw [if_neg c]
    unfold xAt
    have hlen := xRn_len (τ := τ) (z - q) q
    by_cases h : (xSm (τ q) || xDg (τ q)) = true
    · rw [if_pos h]
      refine ⟨xTk_to ?_, by dsimp only; omega, by dsimp only; omega⟩
      obtain ⟨k, hk⟩ : ∃ k, z - q = k + 1 := ⟨z - q - 1, by omega⟩
      rw [hk]
      unfold xRn
      rw [h, cond_true, List.length_cons]
      omega
    · rw [if_neg h]
      refine ⟨?_, by dsimp only; omega, by dsimp only; omega⟩
      by_cases hs : xSg (τ q) = true
      · rw [if_pos hs]
        exact Or.inr (Or.inr (Or.inr (Or.inr ⟨_, rfl, xSg_i hs⟩)))
      · rw [if_neg hs]
        exact Or.inr (Or.inl ⟨rfl, rfl⟩)
theorem xE32_lt {t : Nat × List Nat} (h : xTo t) : xE32 t.2 < 18446744073709551616 := by
  rcases h with ⟨-, h⟩ | ⟨-, h⟩ | ⟨-, h, -, h7⟩ | ⟨v, rfl, hv⟩ | ⟨c, rfl, hc⟩
  · rw [h]
    decide
  · rw [h]
    decide
  · obtain ⟨h1, h2⟩ := rcW_eq t.2 0 0 h (by decide) (by omega)
    rw [h1] at h2
    have h3 : 32 ^ (0 + t.2.length) ≤ 32 ^ 12 := Nat.pow_le_pow_right (by decide) (by omega)
    have h4 : (32 : Nat) ^ 12 = 1152921504606846976 := by decide
    have h5 : xE32 t.2 < 32 ^ (0 + t.2.length) := h2
    omega
  · show 0 * 32 + (v - 96) < _
    omega
  · show 0 * 32 + (c - 96) < _
    omega
/-- the tables of the class's and of the reference's tokens: 1 next, 2 place; 3 kind, 4 keyword, 5 word, 6 number; 7 token, 8 word, 6 number, 10 has a number -/
def tabC (ρ : Nat → Nat → Nat) (τ K : Nat → Nat) (z m : Nat) : Prop := (∀ u, ρ 1 u ≤ z) ∧ ∀ u, u ≤ z → ρ 1 u = (xLex (fun i => τ i % 256) z m u).2.2 ∧ ρ 2 u = (xLex (fun i => τ i % 256) z m u).2.1 ∧ ρ 3 u = xKd (xLex (fun i => τ i % 256) z m u).1 ∧ ρ 4 u = xKy K (xLex (fun i => τ i % 256) z m u).1 ∧ ρ 5 u = xE32 (xLex (fun i => τ i % 256) z m u).1.2 ∧ ρ 6 u = xNm (xLex (fun i => τ i % 256) z m u).1
def tabM (ρ : Nat → Nat → Nat) (τ : Nat → Nat) (z m : Nat) : Prop := (∀ u, ρ 1 u ≤ z) ∧ ∀ u, u ≤ z → ρ 1 u = (xLex (fun i => τ i % 256) z m u).2.2 ∧ ρ 2 u = (xLex (fun i => τ i % 256) z m u).2.1 ∧ ρ 7 u = xTmk (xLex (fun i => τ i % 256) z m u).1 ∧ ρ 8 u = xE256 (xLex (fun i => τ i % 256) z m u).1.2 ∧ ρ 6 u = xNm (xLex (fun i => τ i % 256) z m u).1 ∧ ρ 10 u = xHn (xLex (fun i => τ i % 256) z m u).1
theorem xKd_lt {t : Nat × List Nat} (h : xTo t) : xKd t < 100 := by
  unfold xKd
  rcases h with ⟨h, -⟩ | ⟨h, -⟩ | ⟨h, -⟩ | ⟨v, rfl, hv⟩ | ⟨c, rfl, hc⟩
  · rw [h, if_pos (by decide)]; decide
  · rw [h, if_pos (by decide)]; decide
  · rw [h, if_pos (by decide)]; decide
  · dsimp only; rw [if_pos (by decide)]; decide
  · show c < 100
    omega
theorem xKd_i {t : Nat × List Nat} (h : xTo t) : (xKd t = 0 ↔ t.1 = 0) ∧ (xKd t = 1 ↔ t.1 = 1) ∧ (xKd t = 2 ↔ t.1 = 2) ∧ (xKd t = 3 ↔ t.1 = 3) := by
  unfold xKd
  rcases h with ⟨h, -⟩ | ⟨h, -⟩ | ⟨h, -⟩ | ⟨v, rfl, hv⟩ | ⟨c, rfl, hc⟩
  · rw [h, if_pos (by decide)]; decide
  · rw [h, if_pos (by decide)]; decide
  · rw [h, if_pos (by decide)]; decide
  · dsimp only; rw [if_pos (by decide)]; decide
  · show (c = 0 ↔ 4 = 0) ∧ (c = 1 ↔ 4 = 1) ∧ (c = 2 ↔ 4 = 2) ∧ (c = 3 ↔ 4 = 3)
    omega
theorem xTm_i {t : Nat × List Nat} (h : xTo t) : xTmk t < 5 ∧ (xTmk t = 0 ↔ t.1 = 0) ∧ (xTmk t = 4 ↔ t.1 = 1) ∧ (xTmk t = 1 ↔ t.1 = 2) ∧ (xTmk t = 2 ↔ t.1 = 3) ∧ (xTmk t = 3 ↔ t.1 = 4) ∧ (xHn t = 1 ↔ 3 ≤ t.1) ∧ xHn t < 2 := by
  have e : t.1 = 0 ∨ t.1 = 1 ∨ t.1 = 2 ∨ t.1 = 3 ∨ t.1 = 4 := by
    rcases h with ⟨h, -⟩ | ⟨h, -⟩ | ⟨h, -⟩ | ⟨v, rfl, hv⟩ | ⟨c, rfl, hc⟩
    · exact Or.inl h
    · exact Or.inr (Or.inl h)
    · exact Or.inr (Or.inr (Or.inl h))
    · exact Or.inr (Or.inr (Or.inr (Or.inl rfl)))
    · exact Or.inr (Or.inr (Or.inr (Or.inr rfl)))
  unfold xTmk xHn
  rcases e with h | h | h | h | h
  · rw [h]; decide
  · rw [h]; decide
  · rw [h]; decide
  · rw [h]; decide
  · rw [h]; decide
/-! frames -/
theorem eMd_min {ρ : Nat → Nat → Nat} {W : List (Nat × eX)} {k i : Nat} (h : sMin (eMd ρ W) k i) : ∃ e ∈ W, e.1 = k ∧ i = eVal ρ e.2 := by
  obtain ⟨m, m1, m2, m3, m4⟩ := h
  obtain ⟨e, e1, e2⟩ := List.mem_map.mp m1
  subst e2
  exact ⟨e, e1, m2, Nat.le_antisymm m4 m3⟩
theorem eMd_of {ρ : Nat → Nat → Nat} {W : List (Nat × eX)} {k : Nat} {x : eX} (h : (k, x) ∈ W) : sMin (eMd ρ W) k (eVal ρ x) := ⟨(k, eVal ρ x, eVal ρ x), List.mem_map.mpr ⟨(k, x), h, rfl⟩, rfl, Nat.le_refl _, Nat.le_refl _⟩
theorem eMd_ofc {ρ : Nat → Nat → Nat} {W : List (Nat × eX)} {k c : Nat} (h : (k, [(0, c)]) ∈ W) : sMin (eMd ρ W) k c := by
  have h1 := eMd_of (ρ := ρ) h
  rw [eR_val (eR_c ρ c)] at h1
  exact h1
theorem cRdy_g {md : sMd} {hp hp' : List vOb} {τ K : Nat → Nat} {z m : Nat} (hf : sFr md hp hp') (hm : ∀ k i, sMin md k i → k ≠ 2 ∧ k ≠ 3 ∧ (k = 1 → 4 ≤ i)) (h : cRdy hp τ K z m) : cRdy hp' τ K z m := by
  obtain ⟨h1, h2, h3, h4, h5, h6, h7, h8⟩ := h
  refine ⟨eSh_fr hf h1, hC_fr hf (fun hi => ?_) h2, hC_fr hf (fun hi => ?_) h3, hC_fr hf (fun hi => ?_) h4, hC_fr hf (fun hi => ?_) h5, fun i hi => ⟨hC_fr hf (fun hi2 => ?_) (h6 i hi).1, (h6 i hi).2⟩, fun i hi => ⟨hC_fr hf (fun hi2 => ?_) (h7 i hi).1, (h7 i hi).2⟩, h8⟩
  · have := (hm _ _ hi).2.2 rfl
    omega
  · have := (hm _ _ hi).2.2 rfl
    omega
  · have := (hm _ _ hi).2.2 rfl
    omega
  · have := (hm _ _ hi).2.2 rfl
    omega
  · exact (hm _ _ hi2).1 rfl
  · exact (hm _ _ hi2).2.1 rfl
theorem nRdy_g {md : sMd} {hp hp' : List vOb} {τ : Nat → Nat} {z m : Nat} (hf : sFr md hp hp') (hm : ∀ k i, sMin md k i → k ≠ 221 ∧ (k = 220 → i = 4 ∨ 11 ≤ i)) (h : nRdy hp τ z m) : nRdy hp' τ z m := by
  obtain ⟨h1, h2, h3, h4, h5, h6⟩ := h
  refine ⟨eSh_fr hf h1, hC_fr hf (fun hi => ?_) h2, hC_fr hf (fun hi => ?_) h3, hC_fr hf (fun hi => ?_) h4, fun i hi => hC_fr hf (fun hi2 => ?_) (h5 i hi), h6⟩
  · have := (hm _ _ hi).2 rfl
    omega
  · have := (hm _ _ hi).2 rfl
    omega
  · have := (hm _ _ hi).2 rfl
    omega
  · exact (hm _ _ hi2).1 rfl
/-- cells that a call leaves -/
def oKeep (md : sMd) (e : Nat × eX × eV × eCs) : Bool := md.all (fun m => !Nat.beq m.1 e.1 || (match eCn e.2.1 with
  | some c => Nat.blt c m.2.1 || Nat.blt m.2.2 c
  | none => false))
theorem eDr_keep {ρ : Nat → Nat → Nat} {md : sMd} {D : eD} {hp hp' : List vOb} (hf : sFr md hp hp') (hd : eDr ρ D hp) : eDr ρ (D.filter (oKeep md)) hp' := fun e he hg => by
  obtain ⟨h1, h2⟩ := List.mem_filter.mp he
  obtain ⟨i, v, i1, i2, i3⟩ := hd e h1 hg
  refine ⟨i, v, i1, hC_fr hf (fun ⟨m, m1, m2, m3, m4⟩ => ?_) i2, i3⟩
  have h3 := List.all_eq_true.mp h2 m m1
  rw [m2, Nat.beq_refl, Bool.not_true, Bool.false_or] at h3
  split at h3
  · next c hc =>
    have e1 := eCn_val hc i1
    subst e1
    rw [Bool.or_eq_true, Nat.blt_eq, Nat.blt_eq] at h3
    omega
  · cases h3
theorem eDr_app {ρ : Nat → Nat → Nat} {D D' : eD} {hp : List vOb} (h1 : eDr ρ D hp) (h2 : eDr ρ D' hp) : eDr ρ (D ++ D') hp := fun e he => by
  rcases List.mem_append.mp he with h | h
  · exact h1 e h
  · exact h2 e h
theorem eDr_nil {ρ : Nat → Nat → Nat} {hp : List vOb} : eDr ρ [] hp := fun e he => by cases he
theorem eDr_cons {ρ : Nat → Nat → Nat} {D : eD} {hp : List vOb} {k i : Nat} {x : eX} {y : eV} {g : eCs} {v : vAV} (hx : eR ρ x i) (h : (∀ q ∈ g, eCo ρ q) → hC hp k i v ∧ eRv ρ y v) (hs : eDr ρ D hp) : eDr ρ ((k, x, y, g) :: D) hp := fun e he hg => by
  rcases List.mem_cons.mp he with h1 | h1
  · subst h1
    exact ⟨i, v, hx, (h hg).1, (h hg).2⟩
  · exact hs e h1 hg
/-- a place in the text: the symbol 0, or behind a token -/
def oPos (x : eX) : Bool := eEq x [(1, 0)] || (match x.getLast? with
  | some q => Nat.beq q.1 4 && Nat.beq q.2 1
  | none => false)
theorem oPos_ok {ρ : Nat → Nat → Nat} {z u : Nat} {x : eX} (h0 : ρ 0 0 ≤ z) (h1 : ∀ u, ρ 1 u ≤ z) (h : oPos x = true) (hx : eR ρ x u) : u ≤ z := by
  unfold oPos at h
  rw [Bool.or_eq_true] at h
  rcases h with h | h
  · have e := eEq_ok h
    subst e
    have e := eR_fun hx (eR_s (j := 0) rfl)
    rw [e]
    exact h0
  · split at h
    · next q hq =>
      rw [Bool.and_eq_true] at h
      obtain ⟨ys, e⟩ := List.getLast?_eq_some_iff.mp hq
      have e1 : q = (4, 1) := Prod.ext (Nat.eq_of_beq_eq_true h.1) (Nat.eq_of_beq_eq_true h.2)
      rw [e, e1] at hx
      obtain ⟨v, hv⟩ := eR_last hx
      rw [hv]
      exact h1 v
    · cases h
