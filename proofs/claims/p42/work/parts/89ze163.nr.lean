/-! ===== names: one more ===== -/
def nrP (cn : Nat → Nat) (k : Nat) : Nat → Nat := fun k' => if k' = k then cn k + 1 else cn k'
def snoc (f : Nat → Nat) (i x : Nat) : Nat → Nat := fun j => if j = i then x else f j
theorem snoc_at (f : Nat → Nat) (i x : Nat) : snoc f i x i = x := if_pos rfl
theorem snoc_ne {f : Nat → Nat} {i j x : Nat} (h : j ≠ i) : snoc f i x j = f j := if_neg h
/-- where a kind's places begin: they lie behind one another -/
theorem nrB_sep {b k k' i j : Nat} (hk : k < 4) (hk' : k' < 4) (hi : i < (if k = 0 then 6 else if k = 1 then 5 else if k = 2 then 5 else 8)) (hj : j < (if k' = 0 then 6 else if k' = 1 then 5 else if k' = 2 then 5 else 8)) (h : nrB b k + i = nrB b k' + j) : k = k' ∧ i = j := by
  unfold nrB at h
  rcases (show k = 0 ∨ k = 1 ∨ k = 2 ∨ k = 3 by omega) with rfl | rfl | rfl | rfl <;> rcases (show k' = 0 ∨ k' = 1 ∨ k' = 2 ∨ k' = 3 by omega) with rfl | rfl | rfl | rfl <;> simp at h hi hj ⊢ <;> omega
theorem nrC_max {s m r p k : Nat} (h1 : s ≤ 6) (h2 : m ≤ 5) (h3 : r ≤ 5) (h4 : p ≤ 8) : nrC s m r p k ≤ (if k = 0 then 6 else if k = 1 then 5 else if k = 2 then 5 else 8) := by
  unfold nrC
  split
  · exact h1
  · split
    · exact h2
    · split
      · exact h3
      · exact h4
/-- a new name of kind k -/
theorem NR_add {b s m r p c s' m' r' p' : Nat} {N DC NM : Nat → Nat} (h : NR b s m r p c N DC NM) {k : Nat} (hk : k < 4) (hc : ∀ k', k' < 4 → nrC s' m' r' p' k' = if k' = k then nrC s m r p k + 1 else nrC s m r p k') (hs : s' ≤ 6) (hm : m' ≤ 5) (hr : r' ≤ 5) (hp : p' ≤ 8) (hsum : s' + m' + r' + p' = c + 1) {u w : Nat} (hw : WR u w) (hf : ∀ i, i < c → N i ≠ u) : NR b s' m' r' p' (c + 1) (snoc N c u) (snoc DC c (8 * k + nrC s m r p k)) (snoc NM (nrB b k + nrC s m r p k) w) := by
  obtain ⟨h1, h2, h3, h4, h5, h6, h7, h8⟩ := h
  have lt : ∀ k', k' < 4 → ∀ j, j < nrC s' m' r' p' k' → j < (if k' = 0 then 6 else if k' = 1 then 5 else if k' = 2 then 5 else 8) := fun k' hk' j hj => Nat.lt_of_lt_of_le hj (nrC_max hs hm hr hp)
  have ltk : nrC s m r p k < (if k = 0 then 6 else if k = 1 then 5 else if k = 2 then 5 else 8) := lt k hk _ (by rw [hc k hk, if_pos rfl]; omega)
  have old : ∀ k', k' < 4 → ∀ j, j < nrC s m r p k' → j < nrC s' m' r' p' k' := fun k' hk' j hj => by
    rw [hc k' hk']
    split
    · next e => rw [e] at hj; omega
    · exact hj
  refine ⟨hsum.symm, hs, hm, hr, hp, fun i hi => ?_, fun k' j hk' hj => ?_, fun i j hi hj e => ?_⟩
  · by_cases ei : i = c
    · rw [ei]
      refine ⟨k, nrC s m r p k, hk, ?_, snoc_at _ _ _, ?_⟩
      · rw [hc k hk, if_pos rfl]
        omega
      · rw [snoc_at, snoc_at]
        exact hw
    · obtain ⟨k', j, a1, a2, a3, a4⟩ := h6 i (by omega)
      refine ⟨k', j, a1, old k' a1 j a2, by rw [snoc_ne ei]; exact a3, ?_⟩
      rw [snoc_ne ei, snoc_ne]
      · exact a4
      · intro e
        obtain ⟨e1, e2⟩ := nrB_sep a1 hk (lt k' a1 j (old k' a1 j a2)) ltk e
        rw [e1] at a2
        omega
  · rw [hc k' hk'] at hj
    by_cases ek : k' = k
    · rw [if_pos ek] at hj
      by_cases ej : j = nrC s m r p k
      · exact ⟨c, by omega, by rw [snoc_at, ek, ej]⟩
      · obtain ⟨i, i1, i2⟩ := h7 k' j hk' (by rw [ek]; omega)
        exact ⟨i, by omega, by rw [snoc_ne (show i ≠ c by omega)]; exact i2⟩
    · rw [if_neg ek] at hj
      obtain ⟨i, i1, i2⟩ := h7 k' j hk' hj
      exact ⟨i, by omega, by rw [snoc_ne (show i ≠ c by omega)]; exact i2⟩
  · by_cases ei : i = c
    · by_cases ej : j = c
      · rw [ei, ej]
      · rw [ei, snoc_at, snoc_ne ej] at e
        exact absurd e.symm (hf j (by omega))
    · by_cases ej : j = c
      · rw [ej, snoc_at, snoc_ne ei] at e
        exact absurd e (hf i (by omega))
      · rw [snoc_ne ei, snoc_ne ej] at e
        exact h8 i j (by omega) (by omega) e
theorem NR_0 {b : Nat} {N DC NM : Nat → Nat} : NR b 0 0 0 0 0 N DC NM := ⟨rfl, by omega, by omega, by omega, by omega, fun i hi => by omega, fun k j hk hj => by
  have e : nrC 0 0 0 0 k = 0 := by
    unfold nrC
    split
    · rfl
    · split
      · rfl
      · split <;> rfl
  rw [e] at hj
  omega, fun i j hi => by omega⟩
/-- a token that is something leads on -/
theorem xLex_go {τ : Nat → Nat} {z m n : Nat} (hn : n ≤ z) (h : 2 ≤ (xLex τ z m n).1.1) : n < (xLex τ z m n).2.2 := by
  obtain ⟨q, hq⟩ : ∃ q, xSk τ (min z m - n) n = q := ⟨_, rfl⟩
  have hle := (xSk_le (τ := τ) (min z m - n) n)
  rw [hq] at hle
  rw [xLex_q hq] at h ⊢
  by_cases c : min z m ≤ q
  · rw [if_pos c] at h
    exfalso
    by_cases h2 : m < z
    · rw [if_pos h2] at h
      exact absurd (show 2 ≤ 1 from h) (by decide)
    · rw [if_neg h2] at h
      exact absurd (show 2 ≤ 0 from h) (by decide)
  · rw [if_neg c] at h ⊢
    unfold xAt at h ⊢
    by_cases h2 : (xSm (τ q) || xDg (τ q)) = true
    · rw [if_pos h2]
      dsimp only
      obtain ⟨k, hk⟩ : ∃ k, z - q = k + 1 := ⟨z - q - 1, by omega⟩
      rw [hk]
      unfold xRn
      rw [h2, cond_true, List.length_cons]
      omega
    · rw [if_neg h2]
      dsimp only
      omega
theorem tab_p {ρ : Nat → Nat → Nat} {τ K R N DC NM : Nat → Nat} {z m b cs cm cr cp c u : Nat} (h : tabA ρ τ K R N DC NM z m b cs cm cr cp c) (hu : u ≤ z) (h2 : 2 ≤ ρ 3 u) : u < ρ 1 u := by
  obtain ⟨⟨-, hC⟩, -⟩ := h
  obtain ⟨c1, -, c3, -⟩ := hC u hu
  have hto := (xLex_to (τ := fun i => τ i % 256) (m := m) hu).1
  rw [c1]
  refine xLex_go hu ?_
  rw [c3] at h2
  obtain ⟨k0, k1, -⟩ := xKd_i hto
  rcases hto with ⟨a, -⟩ | ⟨a, -⟩ | ⟨a, -⟩ | ⟨v, e, hv⟩ | ⟨d, e, hd⟩
  · have := k0.mpr a
    omega
  · have := k1.mpr a
    omega
  · omega
  · rw [e]
    show 2 ≤ 3
    decide
  · rw [e]
    show 2 ≤ 4
    decide
/-- symbols and tables in one -/
def jT (τ K R N DC NM : Nat → Nat) (z m b cs cm cr cp c : Nat) : Nat → Nat → Nat
  | 1, u => (xLex (fun i => τ i % 256) z m (min u z)).2.2
  | 2, u => (xLex (fun i => τ i % 256) z m (min u z)).2.1
  | 3, u => xKd (xLex (fun i => τ i % 256) z m (min u z)).1
  | 4, u => xKy K (xLex (fun i => τ i % 256) z m (min u z)).1
  | 5, u => xE32 (xLex (fun i => τ i % 256) z m (min u z)).1.2
  | 6, u => xNm (xLex (fun i => τ i % 256) z m (min u z)).1
  | 7, u => xTmk (xLex (fun i => τ i % 256) z m (min u z)).1
  | 8, u => xE256 (xLex (fun i => τ i % 256) z m (min u z)).1.2
  | 10, u => xHn (xLex (fun i => τ i % 256) z m (min u z)).1
  | 11, u => if xTmk (xLex (fun i => τ i % 256) z m (min u z)).1 = 1 then xNr R (xE256 (xLex (fun i => τ i % 256) z m (min u z)).1.2) 25 0 else 0
  | 12, u => xFc DC (xFi N (xE32 (xLex (fun i => τ i % 256) z m (min u z)).1.2) c 0)
  | 13, u => xFc (fun i => i) (xFi (fun i => NM (nrB b 0 + i)) (xE256 (xLex (fun i => τ i % 256) z m (min u z)).1.2) cs 0)
  | 14, u => xFc (fun i => i) (xFi (fun i => NM (nrB b 1 + i)) (xE256 (xLex (fun i => τ i % 256) z m (min u z)).1.2) cm 0)
  | 15, u => xFc (fun i => i) (xFi (fun i => NM (nrB b 2 + i)) (xE256 (xLex (fun i => τ i % 256) z m (min u z)).1.2) cr 0)
  | 16, u => xFc (fun i => i) (xFi (fun i => NM (nrB b 3 + i)) (xE256 (xLex (fun i => τ i % 256) z m (min u z)).1.2) cp 0)
  | _, _ => 0
def jR (l : List Nat) (T : Nat → Nat → Nat) : Nat → Nat → Nat
  | 0, j => l.getD j 0
  | k + 1, u => T (k + 1) u
theorem jR_tab {l : List Nat} {τ K R N DC NM : Nat → Nat} {z m b cs cm cr cp c : Nat} (hk : kwOK K R) (hN : NR b cs cm cr cp c N DC NM) : tabA (jR l (jT τ K R N DC NM z m b cs cm cr cp c)) τ K R N DC NM z m b cs cm cr cp c := by
  have h1 : ∀ u, jR l (jT τ K R N DC NM z m b cs cm cr cp c) 1 u ≤ z := fun u => (xLex_to (τ := fun i => τ i % 256) (m := m) (Nat.min_le_right u z)).2.1
  refine ⟨⟨h1, fun u hu => ?_⟩, ⟨h1, fun u hu => ?_⟩, hk, hN, fun u hu => rfl, fun u hu => rfl, fun k hk u hu => ?_⟩
  · have e : min u z = u := Nat.min_eq_left hu
    show (xLex (fun i => τ i % 256) z m (min u z)).2.2 = _ ∧ (xLex (fun i => τ i % 256) z m (min u z)).2.1 = _ ∧ xKd (xLex (fun i => τ i % 256) z m (min u z)).1 = _ ∧ xKy K (xLex (fun i => τ i % 256) z m (min u z)).1 = _ ∧ xE32 (xLex (fun i => τ i % 256) z m (min u z)).1.2 = _ ∧ xNm (xLex (fun i => τ i % 256) z m (min u z)).1 = _
    rw [e]
    exact ⟨rfl, rfl, rfl, rfl, rfl, rfl⟩
  · have e : min u z = u := Nat.min_eq_left hu
    show (xLex (fun i => τ i % 256) z m (min u z)).2.2 = _ ∧ (xLex (fun i => τ i % 256) z m (min u z)).2.1 = _ ∧ xTmk (xLex (fun i => τ i % 256) z m (min u z)).1 = _ ∧ xE256 (xLex (fun i => τ i % 256) z m (min u z)).1.2 = _ ∧ xNm (xLex (fun i => τ i % 256) z m (min u z)).1 = _ ∧ xHn (xLex (fun i => τ i % 256) z m (min u z)).1 = _
    rw [e]
    exact ⟨rfl, rfl, rfl, rfl, rfl, rfl⟩
  · rcases (show k = 0 ∨ k = 1 ∨ k = 2 ∨ k = 3 by omega) with rfl | rfl | rfl | rfl
    · rfl
    · rfl
    · rfl
    · rfl
