/-! ===== facts of tokens, for class and reference ===== -/
/-- the words that no name may be -/
def kwL : List (List Nat) := [[115, 111, 114, 116], [102, 105, 120, 101, 100], [116, 97, 108, 107, 115], [112, 101, 114, 115, 111, 110], [112, 111, 114, 116, 101, 114], [98, 97, 114, 115], [112, 97, 105, 110], [104, 97, 114, 109], [102, 101, 116, 99, 104, 101, 115], [100, 114, 111, 112, 115], [104, 97, 110, 100, 115], [104, 111, 109, 101], [104, 111, 117, 114], [111, 114], [97, 110, 100], [110, 111, 116], [99, 97, 114, 114, 105, 101, 100], [108, 111, 115, 116], [111, 118, 101, 114], [111, 102], [119, 105, 116, 104], [105, 115], [119, 101, 105, 103, 104, 116], [108, 101, 102, 116], [110, 117, 109, 98, 101, 114]]
def kwc (i : Nat) : List Nat := kwL.getD i []
theorem kwc_all : (List.range 25).all (fun i => (kwc i).all xSm && (Nat.ble 1 (kwc i).length && Nat.ble (kwc i).length 7)) = true := by decide
theorem kwc_wd {i : Nat} (hi : i < 25) : xWd (kwc i) := by
  have h := List.all_eq_true.mp kwc_all i (List.mem_range.mpr hi)
  rw [Bool.and_eq_true, Bool.and_eq_true] at h
  exact ⟨h.1, Nat.le_of_ble_eq_true h.2.1, Nat.le_of_ble_eq_true h.2.2⟩
theorem kwc_dist : (List.range 25).all (fun i => (List.range 25).all (fun j => Nat.beq i j || !Nat.beq (xE256 (kwc i)) (xE256 (kwc j)))) = true := by decide +kernel
theorem kwc_inj {i j : Nat} (hi : i < 25) (hj : j < 25) (h : kwc i = kwc j) : i = j := by
  have h1 := List.all_eq_true.mp (List.all_eq_true.mp kwc_dist i (List.mem_range.mpr hi)) j (List.mem_range.mpr hj)
  rw [h, Nat.beq_refl, Bool.not_true, Bool.or_false] at h1
  exact Nat.eq_of_beq_eq_true h1
/-- the keywords of the class and the reserved words of the reference -/
def kwOK (K R : Nat → Nat) : Prop := ∀ i, i < 25 → K i = xE32 (kwc i) ∧ R i = xE256 (kwc i)
theorem xKw_i {K : Nat → Nat} {w : Nat} : ∀ (k i : Nat), (xKw K w k i = 4294967295 ∧ ∀ j, i ≤ j → j < i + k → K j ≠ w) ∨ (i ≤ xKw K w k i ∧ xKw K w k i < i + k ∧ K (xKw K w k i) = w)
  | 0, i => Or.inl ⟨rfl, fun j h1 h2 => by omega⟩
  | k + 1, i => by
    unfold xKw
    by_cases e : K i = w
    · rw [if_pos e]
      exact Or.inr ⟨Nat.le_refl _, by omega, e⟩
    · rw [if_neg e]
      rcases xKw_i k (i + 1) with ⟨h1, h2⟩ | ⟨h1, h2, h3⟩
      · refine Or.inl ⟨h1, fun j j1 j2 => ?_⟩
        by_cases ej : j = i
        · rw [ej]
          exact e
        · exact h2 j (by omega) (by omega)
      · exact Or.inr ⟨by omega, by omega, h3⟩
theorem xNr_i {R : Nat → Nat} {w : Nat} : ∀ (k i : Nat), xNr R w k i = 1 ↔ ∀ j, i ≤ j → j < i + k → w ≠ R j
  | 0, i => ⟨fun _ j h1 h2 => by omega, fun _ => rfl⟩
  | k + 1, i => by
    unfold xNr
    by_cases e : w = R i
    · rw [if_pos e]
      exact ⟨fun h => by omega, fun h => absurd e (h i (Nat.le_refl _) (by omega))⟩
    · rw [if_neg e, xNr_i k (i + 1)]
      refine ⟨fun h j j1 j2 => ?_, fun h j j1 j2 => h j (by omega) (by omega)⟩
      by_cases ej : j = i
      · rw [ej]
        exact e
      · exact h j (by omega) (by omega)
/-- names of class and reference: sorts, persons, porters, pains; where each kind begins in the reference; how many there are -/
def nrB (b k : Nat) : Nat := b + (if k = 0 then 0 else if k = 1 then 6 else if k = 2 then 11 else 16)
def nrC (s m r p k : Nat) : Nat := if k = 0 then s else if k = 1 then m else if k = 2 then r else p
def NR (b s m r p c : Nat) (N DC NM : Nat → Nat) : Prop := c = s + m + r + p ∧ s ≤ 6 ∧ m ≤ 5 ∧ r ≤ 5 ∧ p ≤ 8 ∧ (∀ i, i < c → ∃ k j, k < 4 ∧ j < nrC s m r p k ∧ DC i = 8 * k + j ∧ WR (N i) (NM (nrB b k + j))) ∧ (∀ k j, k < 4 → j < nrC s m r p k → ∃ i, i < c ∧ DC i = 8 * k + j) ∧ (∀ i j, i < c → j < c → N i = N j → i = j)
theorem nrC_le {s m r p k : Nat} (h1 : s ≤ 6) (h2 : m ≤ 5) (h3 : r ≤ 5) (h4 : p ≤ 8) : nrC s m r p k ≤ 8 := by
  unfold nrC
  split
  · omega
  · split
    · omega
    · split <;> omega
/-- what find() says in the class, what it says in the reference -/
theorem NR_find {b s m r p c : Nat} {N DC NM : Nat → Nat} (h : NR b s m r p c N DC NM) {u w : Nat} (hw : WR u w) : (xFc DC (xFi N u c 0) = 4294967295 ∧ ∀ k, k < 4 → xFc (fun i => i) (xFi (fun i => NM (nrB b k + i)) w (nrC s m r p k) 0) = 4294967295) ∨ ∃ k j, k < 4 ∧ j < nrC s m r p k ∧ xFc DC (xFi N u c 0) = 8 * k + j ∧ xFc (fun i => i) (xFi (fun i => NM (nrB b k + i)) w (nrC s m r p k) 0) = j ∧ ∀ k', k' < 4 → k' ≠ k → xFc (fun i => i) (xFi (fun i => NM (nrB b k' + i)) w (nrC s m r p k') 0) = 4294967295 := by
  obtain ⟨h1, h2, h3, h4, h5, h6, h7, h8⟩ := h
  have key : ∀ k j, k < 4 → j < nrC s m r p k → NM (nrB b k + j) = w → ∃ i, i < c ∧ DC i = 8 * k + j ∧ N i = u := fun k j hk hj e => by
    obtain ⟨i, i1, i2⟩ := h7 k j hk hj
    obtain ⟨k', j', a1, a2, a3, a4⟩ := h6 i i1
    have l1 := nrC_le (k := k) h2 h3 h4 h5
    have l2 := nrC_le (k := k') h2 h3 h4 h5
    have ek : k' = k ∧ j' = j := by omega
    rw [ek.1, ek.2] at a4
    exact ⟨i, i1, i2, (WR_iff a4 hw).mpr e⟩
  cases hf : xFi N u c 0 with
  | none =>
    refine Or.inl ⟨rfl, fun k hk => ?_⟩
    cases hg : xFi (fun i => NM (nrB b k + i)) w (nrC s m r p k) 0 with
    | none => rfl
    | some j =>
      obtain ⟨-, g2, g3, -⟩ := xFi_some hg
      obtain ⟨i, i1, i2, i3⟩ := key k j hk (by omega) g3
      exact absurd i3 (xFi_none hf i (by omega) (by omega))
  | some i =>
    obtain ⟨-, f2, f3, f4⟩ := xFi_some hf
    obtain ⟨k, j, a1, a2, a3, a4⟩ := h6 i (by omega)
    have ej : NM (nrB b k + j) = w := (WR_iff a4 hw).mp f3
    have l1 := nrC_le (k := k) h2 h3 h4 h5
    refine Or.inr ⟨k, j, a1, a2, a3, ?_, fun k' hk' hne => ?_⟩
    · cases hg : xFi (fun i => NM (nrB b k + i)) w (nrC s m r p k) 0 with
      | none => exact absurd ej (xFi_none hg j (by omega) (by omega))
      | some j' =>
        obtain ⟨-, g2, g3, -⟩ := xFi_some hg
        obtain ⟨i', i1, i2, i3⟩ := key k j' a1 (by omega) g3
        have := h8 i' i i1 (by omega) (i3.trans f3.symm)
        subst this
        show j' = j
        omega
    · cases hg : xFi (fun i => NM (nrB b k' + i)) w (nrC s m r p k') 0 with
      | none => rfl
      | some j' =>
        obtain ⟨-, g2, g3, -⟩ := xFi_some hg
        obtain ⟨i', i1, i2, i3⟩ := key k' j' hk' (by omega) g3
        have := h8 i' i i1 (by omega) (i3.trans f3.symm)
        subst this
        have l2 := nrC_le (k := k') h2 h3 h4 h5
        omega
/-- all tables of a text, with the names ahead of a line -/
def tabA (ρ : Nat → Nat → Nat) (τ K R N DC NM : Nat → Nat) (z m b cs cm cr cp c : Nat) : Prop := tabC ρ τ K z m ∧ tabM ρ τ z m ∧ kwOK K R ∧ NR b cs cm cr cp c N DC NM ∧ (∀ u, u ≤ z → ρ 11 u = if ρ 7 u = 1 then xNr R (ρ 8 u) 25 0 else 0) ∧ (∀ u, u ≤ z → ρ 12 u = xFc DC (xFi N (ρ 5 u) c 0)) ∧ (∀ k, k < 4 → ∀ u, u ≤ z → ρ (13 + k) u = xFc (fun i => i) (xFi (fun i => NM (nrB b k + i)) (ρ 8 u) (nrC cs cm cr cp k) 0))
theorem tab_k {ρ : Nat → Nat → Nat} {τ K R N DC NM : Nat → Nat} {z m b cs cm cr cp c u : Nat} (h : tabA ρ τ K R N DC NM z m b cs cm cr cp c) (hu : u ≤ z) : ρ 1 u ≤ z ∧ ρ 2 u ≤ z ∧ ((ρ 3 u = 0 ∧ ρ 7 u = 0 ∧ ρ 10 u = 0) ∨ (ρ 3 u = 1 ∧ ρ 7 u = 4 ∧ ρ 10 u = 0) ∨ (ρ 3 u = 2 ∧ ρ 7 u = 1 ∧ ρ 10 u = 0) ∨ (ρ 3 u = 3 ∧ ρ 7 u = 2 ∧ ρ 10 u = 1 ∧ ρ 6 u ≤ 999) ∨ (ρ 7 u = 3 ∧ ρ 10 u = 1 ∧ ρ 3 u = ρ 6 u ∧ (ρ 6 u = 59 ∨ ρ 6 u = 40 ∨ ρ 6 u = 41 ∨ (60 ≤ ρ 6 u ∧ ρ 6 u ≤ 62)))) := by
  obtain ⟨⟨-, hC⟩, ⟨-, hM⟩, -⟩ := h
  obtain ⟨c1, c2, c3, c4, c5, c6⟩ := hC u hu
  obtain ⟨-, -, m7, m8, m6, m10⟩ := hM u hu
  obtain ⟨hto, hl1, hl2⟩ := xLex_to (τ := fun i => τ i % 256) (m := m) hu
  refine ⟨by rw [c1]; exact hl1, by rw [c2]; exact hl2, ?_⟩
  rw [c3, m7, m10, c6]
  rcases hto with ⟨a, -⟩ | ⟨a, -⟩ | ⟨a, -⟩ | ⟨v, e, hv⟩ | ⟨d, e, hd⟩
  · exact Or.inl ⟨by unfold xKd; rw [if_pos (by omega), a], by unfold xTmk; rw [if_pos a], by unfold xHn; rw [if_neg (by omega)]⟩
  · exact Or.inr (Or.inl ⟨by unfold xKd; rw [if_pos (by omega), a], by unfold xTmk; rw [if_neg (by omega), if_pos a], by unfold xHn; rw [if_neg (by omega)]⟩)
  · exact Or.inr (Or.inr (Or.inl ⟨by unfold xKd; rw [if_pos (by omega), a], by unfold xTmk; rw [if_neg (by omega), if_neg (by omega), a], by unfold xHn; rw [if_neg (by omega)]⟩))
  · rw [e]
    exact Or.inr (Or.inr (Or.inr (Or.inl ⟨rfl, rfl, rfl, hv⟩)))
  · rw [e]
    exact Or.inr (Or.inr (Or.inr (Or.inr ⟨rfl, rfl, rfl, hd⟩)))
theorem tab_wr {ρ : Nat → Nat → Nat} {τ K R N DC NM : Nat → Nat} {z m b cs cm cr cp c u : Nat} (h : tabA ρ τ K R N DC NM z m b cs cm cr cp c) (hu : u ≤ z) (h2 : ρ 3 u = 2) : ∃ ws, xWd ws ∧ ρ 5 u = xE32 ws ∧ ρ 8 u = xE256 ws ∧ ρ 4 u = xKw K (xE32 ws) 25 0 := by
  obtain ⟨⟨-, hC⟩, ⟨-, hM⟩, -⟩ := h
  obtain ⟨c1, c2, c3, c4, c5, c6⟩ := hC u hu
  obtain ⟨-, -, m7, m8, m6, m10⟩ := hM u hu
  obtain ⟨hto, hl1, hl2⟩ := xLex_to (τ := fun i => τ i % 256) (m := m) hu
  rw [c3] at h2
  have e := (xKd_i hto).2.2.1.mp h2
  rw [c5, m8, c4]
  unfold xKy
  rw [if_pos e]
  rcases hto with ⟨a, -⟩ | ⟨a, -⟩ | ⟨a, a1, a2, a3⟩ | ⟨v, e2, hv⟩ | ⟨d, e2, hd⟩
  · omega
  · omega
  · exact ⟨_, ⟨a1, a2, a3⟩, rfl, rfl, rfl⟩
  · rw [e2] at e; cases e
  · rw [e2] at e; cases e
theorem tab_w {ρ : Nat → Nat → Nat} {τ K R N DC NM : Nat → Nat} {z m b cs cm cr cp c u : Nat} (h : tabA ρ τ K R N DC NM z m b cs cm cr cp c) (hu : u ≤ z) : ρ 11 u < 2 ∧ (ρ 11 u = 1 ↔ (ρ 3 u = 2 ∧ ρ 4 u = 4294967295)) ∧ (ρ 3 u ≠ 2 → ρ 4 u = 4294967295) ∧ (ρ 4 u = 4294967295 ∨ ρ 4 u < 25) := by
  have hk := (tab_k h hu).2.2
  by_cases h2 : ρ 3 u = 2
  · obtain ⟨ws, w1, w2, w3, w4⟩ := tab_wr h hu h2
    obtain ⟨-, -, hkw, -, h11, -⟩ := h
    have e7 : ρ 7 u = 1 := by omega
    have e11 := h11 u hu
    rw [if_pos e7] at e11
    rcases xKw_i (K := K) (w := xE32 ws) 25 0 with ⟨x1, x2⟩ | ⟨x1, x2, x3⟩
    · have x4 : xNr R (ρ 8 u) 25 0 = 1 := (xNr_i 25 0).mpr (fun j j1 j2 e => by
        obtain ⟨y1, y2⟩ := hkw j (by omega)
        rw [w3, y2, xE256_eq w1 (kwc_wd (by omega))] at e
        exact x2 j j1 j2 (by rw [y1, e]))
      rw [e11, x4, w4, x1]
      omega
    · have x4 : xNr R (ρ 8 u) 25 0 ≠ 1 := fun e => by
        have := (xNr_i 25 0).mp e _ x1 x2
        obtain ⟨y1, y2⟩ := hkw (xKw K (xE32 ws) 25 0) (by omega)
        rw [y1, xE32_eq (kwc_wd (by omega)) w1] at x3
        rw [w3, y2, x3] at this
        exact this rfl
      have := xNr_le R (ρ 8 u) 25 0
      rw [e11, w4]
      omega
  · obtain ⟨⟨-, hC⟩, -, -, -, h11, -⟩ := h
    obtain ⟨c1, c2, c3, c4, c5, c6⟩ := hC u hu
    have e11 := h11 u hu
    rw [if_neg (by omega)] at e11
    have e4 : ρ 4 u = 4294967295 := by
      rw [c4]
      unfold xKy
      have hto := (xLex_to (τ := fun i => τ i % 256) (m := m) hu).1
      rw [if_neg (fun e => h2 (by rw [c3]; exact (xKd_i hto).2.2.1.mpr e))]
    omega
theorem tab_l {ρ : Nat → Nat → Nat} {τ K R N DC NM : Nat → Nat} {z m b cs cm cr cp c u : Nat} (h : tabA ρ τ K R N DC NM z m b cs cm cr cp c) (hu : u ≤ z) (i : Nat) (hi : i < 25) {W : Nat} (hW : W = xE256 (kwc i)) : eLc (ρ 8 u) W < 4294967296 ∧ (ρ 3 u = 2 → (eLc (ρ 8 u) W = 0 ↔ ρ 4 u = i)) := by
  refine ⟨eLc_lt _ _, fun h2 => ?_⟩
  obtain ⟨ws, w1, w2, w3, w4⟩ := tab_wr h hu h2
  obtain ⟨-, -, hkw, -⟩ := h
  have hwi := kwc_wd hi
  rw [hW, eLc_0 (by rw [w3]; exact xE256_lt w1.1 w1.2.2) (xE256_lt hwi.1 hwi.2.2), w3, xE256_eq w1 hwi, w4]
  rcases xKw_i (K := K) (w := xE32 ws) 25 0 with ⟨x1, x2⟩ | ⟨x1, x2, x3⟩
  · rw [x1]
    refine ⟨fun e => absurd (by rw [(hkw i hi).1, e]) (x2 i (by omega) (by omega)), fun e => by omega⟩
  · rw [(hkw _ (by omega)).1, xE32_eq (kwc_wd (by omega)) w1] at x3
    refine ⟨fun e => ?_, fun e => by rw [← e]; exact x3.symm⟩
    rw [← x3] at e
    exact kwc_inj (by omega) hi e
theorem tab_f {ρ : Nat → Nat → Nat} {τ K R N DC NM : Nat → Nat} {z m b cs cm cr cp c u : Nat} (h : tabA ρ τ K R N DC NM z m b cs cm cr cp c) (hu : u ≤ z) (h2 : ρ 3 u = 2) : (ρ 12 u = 4294967295 ∧ ρ 13 u = 4294967295 ∧ ρ 14 u = 4294967295 ∧ ρ 15 u = 4294967295 ∧ ρ 16 u = 4294967295) ∨ (ρ 12 u < cs ∧ ρ 13 u = ρ 12 u ∧ ρ 14 u = 4294967295 ∧ ρ 15 u = 4294967295 ∧ ρ 16 u = 4294967295) ∨ (8 ≤ ρ 12 u ∧ ρ 12 u < 8 + cm ∧ ρ 13 u = 4294967295 ∧ ρ 14 u = ρ 12 u - 8 ∧ ρ 15 u = 4294967295 ∧ ρ 16 u = 4294967295) ∨ (16 ≤ ρ 12 u ∧ ρ 12 u < 16 + cr ∧ ρ 13 u = 4294967295 ∧ ρ 14 u = 4294967295 ∧ ρ 15 u = ρ 12 u - 16 ∧ ρ 16 u = 4294967295) ∨ (24 ≤ ρ 12 u ∧ ρ 12 u < 24 + cp ∧ ρ 13 u = 4294967295 ∧ ρ 14 u = 4294967295 ∧ ρ 15 u = 4294967295 ∧ ρ 16 u = ρ 12 u - 24) := by
  obtain ⟨ws, w1, w2, w3, w4⟩ := tab_wr h hu h2
  obtain ⟨-, -, -, hNR, -, hG, hF⟩ := h
  have e12 := hG u hu
  have e13 : ρ 13 u = _ := hF 0 (by decide) u hu
  have e14 : ρ 14 u = _ := hF 1 (by decide) u hu
  have e15 : ρ 15 u = _ := hF 2 (by decide) u hu
  have e16 : ρ 16 u = _ := hF 3 (by decide) u hu
  rcases NR_find hNR (u := ρ 5 u) (w := ρ 8 u) ⟨ws, w1, w2, w3⟩ with ⟨f1, f2⟩ | ⟨k, j, k1, k2, f1, f2, f3⟩
  · have g0 := f2 0 (by decide)
    have g1 := f2 1 (by decide)
    have g2 := f2 2 (by decide)
    have g3 := f2 3 (by decide)
    exact Or.inl ⟨e12.trans f1, e13.trans g0, e14.trans g1, e15.trans g2, e16.trans g3⟩
  · rcases (show k = 0 ∨ k = 1 ∨ k = 2 ∨ k = 3 by omega) with rfl | rfl | rfl | rfl
    · have g1 := f3 1 (by decide) (by decide)
      have g2 := f3 2 (by decide) (by decide)
      have g3 := f3 3 (by decide) (by decide)
      have k2 : j < cs := k2
      refine Or.inr (Or.inl ⟨by omega, ?_, e14.trans g1, e15.trans g2, e16.trans g3⟩)
      have := e13.trans f2
      omega
    · have g0 := f3 0 (by decide) (by decide)
      have g2 := f3 2 (by decide) (by decide)
      have g3 := f3 3 (by decide) (by decide)
      have k2 : j < cm := k2
      refine Or.inr (Or.inr (Or.inl ⟨by omega, by omega, e13.trans g0, ?_, e15.trans g2, e16.trans g3⟩))
      have := e14.trans f2
      omega
    · have g0 := f3 0 (by decide) (by decide)
      have g1 := f3 1 (by decide) (by decide)
      have g3 := f3 3 (by decide) (by decide)
      have k2 : j < cr := k2
      refine Or.inr (Or.inr (Or.inr (Or.inl ⟨by omega, by omega, e13.trans g0, e14.trans g1, ?_, e16.trans g3⟩)))
      have := e15.trans f2
      omega
    · have g0 := f3 0 (by decide) (by decide)
      have g1 := f3 1 (by decide) (by decide)
      have g2 := f3 2 (by decide) (by decide)
      have k2 : j < cp := k2
      refine Or.inr (Or.inr (Or.inr (Or.inr ⟨by omega, by omega, e13.trans g0, e14.trans g1, e15.trans g2, ?_⟩)))
      have := e16.trans f2
      omega
/-- the same word, the same answer of find() -/
theorem tab_e {ρ : Nat → Nat → Nat} {τ K R N DC NM : Nat → Nat} {z m b cs cm cr cp c u v : Nat} (h : tabA ρ τ K R N DC NM z m b cs cm cr cp c) (hu : u ≤ z) (hv : v ≤ z) (e : eLc (ρ 5 u) (ρ 5 v) = 0) : ρ 12 u = ρ 12 v := by
  obtain ⟨⟨-, hC⟩, -, -, -, -, hG, -⟩ := h
  obtain ⟨-, -, -, -, c5, -⟩ := hC u hu
  obtain ⟨-, -, -, -, d5, -⟩ := hC v hv
  have l1 := xE32_lt (xLex_to (τ := fun i => τ i % 256) (m := m) hu).1
  have l2 := xE32_lt (xLex_to (τ := fun i => τ i % 256) (m := m) hv).1
  rw [eLc_0 (by rw [c5]; exact l1) (by rw [d5]; exact l2)] at e
  rw [hG u hu, hG v hv, e]
