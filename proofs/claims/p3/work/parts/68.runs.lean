/-! ===== runs of cells ===== -/
theorem sRd_lt : ∀ {rs : List (Nat × sC)} {i : Nat} {c : sC}, sRd rs i = some c → i < sLen rs
  | [], _, _, h => by cases h
  | q :: rs, i, c, h => by
    unfold sRd at h
    unfold sLen
    cases hb : Nat.blt i q.1 with
    | true => have := Nat.blt_eq.mp hb; omega
    | false =>
      rw [hb, cond_false] at h
      have h1 := sRd_lt h
      have h2 : ¬ i < q.1 := fun h3 => by rw [Nat.blt_eq.mpr h3] at hb; cases hb
      omega
theorem sRd_ex : ∀ {rs : List (Nat × sC)} {i : Nat}, i < sLen rs → ∃ c, sRd rs i = some c
  | [], i, h => by unfold sLen at h; omega
  | q :: rs, i, h => by
    unfold sLen at h
    unfold sRd
    cases hb : Nat.blt i q.1 with
    | true => exact ⟨_, rfl⟩
    | false =>
      rw [cond_false]
      have h2 : ¬ i < q.1 := fun h3 => by rw [Nat.blt_eq.mpr h3] at hb; cases hb
      exact sRd_ex (by omega)
def sWr : List (Nat × sC) → Nat → sC → List (Nat × sC)
  | [], _, _ => []
  | q :: rs, i, c => bif Nat.blt i q.1 then (bif Nat.beq q.1 1 then (1, c) :: rs else (i, q.2) :: (1, c) :: (q.1 - (i + 1), q.2) :: rs) else q :: sWr rs (i - q.1) c
theorem sLen_wr : ∀ (rs : List (Nat × sC)) (i : Nat) (c : sC), sLen (sWr rs i c) = sLen rs
  | [], _, _ => rfl
  | q :: rs, i, c => by
    unfold sWr
    cases hb : Nat.blt i q.1 with
    | true =>
      have hi := Nat.blt_eq.mp hb
      rw [cond_true]
      cases h1 : Nat.beq q.1 1 with
      | true =>
        have e := Nat.eq_of_beq_eq_true h1
        rw [cond_true]
        show 1 + sLen rs = q.1 + sLen rs
        omega
      | false =>
        rw [cond_false]
        show i + (1 + (q.1 - (i + 1) + sLen rs)) = q.1 + sLen rs
        omega
    | false =>
      rw [cond_false]
      show q.1 + sLen (sWr rs (i - q.1) c) = q.1 + sLen rs
      rw [sLen_wr rs]
theorem sRd_cons (q : Nat × sC) (rs : List (Nat × sC)) (j : Nat) : sRd (q :: rs) j = if j < q.1 then some q.2 else sRd rs (j - q.1) := by
  show (bif Nat.blt j q.1 then some q.2 else sRd rs (j - q.1)) = _
  by_cases h : j < q.1
  · rw [Nat.blt_eq.mpr h, if_pos h, cond_true]
  · have e : Nat.blt j q.1 = false := by
      cases hb : Nat.blt j q.1 with
      | false => rfl
      | true => exact absurd (Nat.blt_eq.mp hb) h
    rw [e, if_neg h, cond_false]
theorem sRd_wr : ∀ (rs : List (Nat × sC)) (i j : Nat) (c : sC), i < sLen rs → sRd (sWr rs i c) j = if j = i then some c else sRd rs j
  | [], i, _, _, h => by unfold sLen at h; omega
  | q :: rs, i, j, c, h => by
    have hl : i < q.1 + sLen rs := h
    unfold sWr
    cases hb : Nat.blt i q.1 with
    | true =>
      have hi := Nat.blt_eq.mp hb
      rw [cond_true]
      cases h1 : Nat.beq q.1 1 with
      | true =>
        have e := Nat.eq_of_beq_eq_true h1
        rw [cond_true, sRd_cons, sRd_cons]
        by_cases hj : j = i
        · rw [if_pos hj, if_pos (show j < ((1, c) : Nat × sC).1 by show j < 1; omega)]
        · rw [if_neg hj, if_neg (show ¬ j < ((1, c) : Nat × sC).1 by show ¬ j < 1; omega), if_neg (by omega)]
          show sRd rs (j - 1) = sRd rs (j - q.1)
          rw [e]
      | false =>
        rw [cond_false, sRd_cons, sRd_cons, sRd_cons, sRd_cons]
        dsimp only
        by_cases hj : j = i
        · rw [if_pos hj, if_neg (by omega), if_pos (by omega)]
        · rw [if_neg hj]
          by_cases h2 : j < i
          · rw [if_pos h2, if_pos (by omega)]
          · rw [if_neg h2, if_neg (by omega)]
            by_cases h3 : j < q.1
            · rw [if_pos (by omega), if_pos h3]
            · rw [if_neg (by omega), if_neg h3]
              congr 1
              omega
    | false =>
      have hi : ¬ i < q.1 := fun h3 => by rw [Nat.blt_eq.mpr h3] at hb; cases hb
      rw [cond_false, sRd_cons, sRd_cons, sRd_wr rs (i - q.1) (j - q.1) c (by omega)]
      by_cases h2 : j < q.1
      · rw [if_pos h2, if_pos h2, if_neg (by omega)]
      · rw [if_neg h2, if_neg h2]
        by_cases hj : j = i
        · rw [if_pos (by omega), if_pos hj]
        · rw [if_neg (by omega), if_neg hj]
theorem sRr_get {ρ : List Nat} {rs : List (Nat × sC)} {cs : List vAV} (h : sRr ρ rs cs) {i : Nat} {c : sC} (hc : sRd rs i = some c) : ∃ v, cs[i]? = some v ∧ sCr ρ c v := by
  have hl : i < cs.length := by rw [h.1]; exact sRd_lt hc
  exact ⟨cs[i], List.getElem?_eq_getElem hl, h.2 i c _ hc (List.getElem?_eq_getElem hl)⟩
/-- another cell there -/
theorem sRr_set {ρ : List Nat} {rs : List (Nat × sC)} {cs : List vAV} (h : sRr ρ rs cs) {i : Nat} {c : sC} {v : vAV} (hi : i < sLen rs) (hc : sCr ρ c v) : sRr ρ (sWr rs i c) (cs.set i v) := by
  refine ⟨by rw [List.length_set, sLen_wr]; exact h.1, fun j c' v' h1 h2 => ?_⟩
  rw [sRd_wr rs i j c hi] at h1
  by_cases hj : j = i
  · subst hj
    rw [if_pos rfl] at h1
    cases h1
    rw [List.getElem?_set_self (by rw [h.1]; exact hi)] at h2
    cases h2
    exact hc
  · rw [if_neg hj] at h1
    rw [List.getElem?_set_ne (fun e => hj e.symm)] at h2
    exact h.2 j c' v' h1 h2
/-- the same cell, told otherwise -/
theorem sRr_tell {ρ : List Nat} {rs : List (Nat × sC)} {cs : List vAV} (h : sRr ρ rs cs) {i : Nat} {c : sC} {v : vAV} (hi : i < sLen rs) (hv : cs[i]? = some v) (hc : sCr ρ c v) : sRr ρ (sWr rs i c) cs := by
  refine ⟨by rw [sLen_wr]; exact h.1, fun j c' v' h1 h2 => ?_⟩
  rw [sRd_wr rs i j c hi] at h1
  by_cases hj : j = i
  · subst hj
    rw [if_pos rfl] at h1
    cases h1
    rw [hv] at h2
    cases h2
    exact hc
  · rw [if_neg hj] at h1
    exact h.2 j c' v' h1 h2
/-- the cells of the runs that meet a range -/
def sRg : List (Nat × sC) → Nat → Nat → List sC
  | [], _, _ => []
  | q :: rs, lo, hi => (bif Nat.blt lo q.1 then [q.2] else []) ++ (bif Nat.ble q.1 hi then sRg rs (lo - q.1) (hi - q.1) else [])
theorem sRg_mem : ∀ {rs : List (Nat × sC)} {lo hi i : Nat} {c : sC}, lo ≤ i → i ≤ hi → sRd rs i = some c → c ∈ sRg rs lo hi
  | [], _, _, _, _, _, _, h => by cases h
  | q :: rs, lo, hi, i, c, h1, h2, h => by
    rw [sRd_cons] at h
    unfold sRg
    by_cases hq : i < q.1
    · rw [if_pos hq] at h
      cases h
      rw [Nat.blt_eq.mpr (show lo < q.1 by omega)]
      exact List.mem_append_left _ List.mem_cons_self
    · rw [if_neg hq] at h
      rw [Nat.ble_eq_true_of_le (show q.1 ≤ hi by omega)]
      exact List.mem_append_right _ (sRg_mem (by omega) (by omega) h)
