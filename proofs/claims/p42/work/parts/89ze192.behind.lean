/-! ===== the loop over the LINEs: behind a LINE ===== -/
/-- cells of a row in which only these places are written -/
theorem eW_in {ρ : Nat → Nat → Nat} {W : List (Nat × eX)} {hp hp' : List vOb} {k i : Nat} {L : List eX} {v : vAV} (hf : sFr (eMd ρ W) hp hp') (h : W.all (fun e => !Nat.beq e.1 k || L.any (fun x => eEq e.2 x)) = true) (hL : ∀ x ∈ L, eVal ρ x ≠ i) (hc : hC hp k i v) : hC hp' k i v := hC_fr hf (fun hm => by
  obtain ⟨e, e1, e2, e3⟩ := eMd_min hm
  have h1 := List.all_eq_true.mp h e e1
  rw [e2, Nat.beq_refl, Bool.not_true, Bool.false_or] at h1
  obtain ⟨x, x1, x2⟩ := List.any_eq_true.mp h1
  rw [eEq_ok x2] at e3
  exact hL x x1 e3.symm) hc
/-- the tables that speak of the text alone -/
def TX (ρ : Nat → Nat → Nat) (τ K R : Nat → Nat) (z m : Nat) : Prop := ∀ k, k ≤ 11 → k ≠ 0 → ∀ u, ρ k u = jT τ K R (fun _ => 0) (fun _ => 0) (fun _ => 0) z m 0 0 0 0 0 0 k u
theorem TX_j {l : List Nat} {τ K R N DC NM : Nat → Nat} {z m b cs cm cr cp c : Nat} : TX (jR l (jT τ K R N DC NM z m b cs cm cr cp c)) τ K R z m := fun k hk h0 u => by
  match k with
  | 0 => exact absurd rfl h0
  | 1 => rfl
  | 2 => rfl
  | 3 => rfl
  | 4 => rfl
  | 5 => rfl
  | 6 => rfl
  | 7 => rfl
  | 8 => rfl
  | 9 => rfl
  | 10 => rfl
  | 11 => rfl
  | k + 12 => omega
theorem TX_eq {ρ ρ' : Nat → Nat → Nat} {τ K R : Nat → Nat} {z m : Nat} (h : TX ρ τ K R z m) (h' : TX ρ' τ K R z m) : ∀ k, k ≤ 11 → k ≠ 0 → ∀ u, ρ' k u = ρ k u := fun k hk h0 u => (h' k hk h0 u).trans (h k hk h0 u).symm
/-- symbols and tables for a new LINE -/
theorem PV_mk {τ K R N DC NM TK BR ST : Nat → Nat} {z m n s p q r hm fx tt bt ln nc : Nat} (hN : NR 24 s q r p nc N DC NM) (hk : kwOK K R) (hn : n ≤ z) (hz : z ≤ 940) (h5 : hm ≤ 12) (h6 : fx < 64) (h7 : tt ≤ 8) (h8 : bt ≤ 8) (h9 : 2 * ln ≤ n) (hT : ∀ i, TK i < 64) (hB : ∀ i, BR i < 64) (hS : SB r ST) : ∃ ρ, PV ρ τ K R z m N DC NM TK BR ST ∧ TX ρ τ K R z m ∧ ρ 0 0 = n ∧ ρ 0 1 = s ∧ ρ 0 2 = q ∧ ρ 0 3 = p ∧ ρ 0 4 = r ∧ ρ 0 5 = hm ∧ ρ 0 6 = fx ∧ ρ 0 7 = tt ∧ ρ 0 8 = bt ∧ ρ 0 9 = ln ∧ ρ 0 10 = nc := by
  refine ⟨jR [n, s, q, p, r, hm, fx, tt, bt, ln, nc, TK (jT τ K R N DC NM z m 24 s q r p nc 12 (jT τ K R N DC NM z m 24 s q r p nc 1 n) % 8), TK (jT τ K R N DC NM z m 24 s q r p nc 12 (jT τ K R N DC NM z m 24 s q r p nc 1 (jT τ K R N DC NM z m 24 s q r p nc 1 n)) % 8), BR (jT τ K R N DC NM z m 24 s q r p nc 12 (jT τ K R N DC NM z m 24 s q r p nc 1 n) % 8)] (jT τ K R N DC NM z m 24 s q r p nc), ⟨jR_tab hk hN, hn, hz, ⟨h5, h6, h7, h8, h9⟩, hT, hB, hS, rfl, rfl, rfl⟩, TX_j, rfl, rfl, rfl, rfl, rfl, rfl, rfl, rfl, rfl, rfl, rfl⟩
theorem hy_11 {ρ ρ' : Nat → Nat → Nat} {ys : List eX} (h0 : eR ρ (ys.getD 0 []) (ρ' 0 0)) (h1 : eR ρ (ys.getD 1 []) (ρ' 0 1)) (h2 : eR ρ (ys.getD 2 []) (ρ' 0 2)) (h3 : eR ρ (ys.getD 3 []) (ρ' 0 3)) (h4 : eR ρ (ys.getD 4 []) (ρ' 0 4)) (h5 : eR ρ (ys.getD 5 []) (ρ' 0 5)) (h6 : eR ρ (ys.getD 6 []) (ρ' 0 6)) (h7 : eR ρ (ys.getD 7 []) (ρ' 0 7)) (h8 : eR ρ (ys.getD 8 []) (ρ' 0 8)) (h9 : eR ρ (ys.getD 9 []) (ρ' 0 9)) (h10 : eR ρ (ys.getD 10 []) (ρ' 0 10)) : ∀ j, j < 11 → eR ρ (ys.getD j []) (ρ' 0 j) := fun j hj => by
  match j with
  | 0 => exact h0
  | 1 => exact h1
  | 2 => exact h2
  | 3 => exact h3
  | 4 => exact h4
  | 5 => exact h5
  | 6 => exact h6
  | 7 => exact h7
  | 8 => exact h8
  | 9 => exact h9
  | 10 => exact h10
  | j + 11 => omega
theorem eR_to {ρ : Nat → Nat → Nat} {x : eX} {u w : Nat} (h : eR ρ x u) (e : u = w) : eR ρ x w := e ▸ h
/-- the class behind a LINE, but for its arrays -/
theorem CM_next {t : Nat} {cH cd : eD} {sh : List (Nat × Nat × Nat)} {hp hp' : List vOb} {τ K : Nat → Nat} {z m : Nat} {ρ ρ' : Nat → Nat → Nat} {ht : Nat} {N DC TK BR ST : Nat → Nat} {W : List (Nat × eX)} {ys : List eX} (h : CM t cH sh hp τ K z m ρ ht N DC TK BR ST) (hf : sFr (eMd ρ W) hp hp') (hd : eDt ρ cd hp') (hW : oWc W = true) (hy : ∀ j, j < 11 → eR ρ (ys.getD j []) (ρ' 0 j)) (hx : ∀ k, k ≤ 11 → k ≠ 0 → ∀ u, ρ' k u = ρ k u) (hc : cH.all (eNx cd ys [] 11) = true) : eSh sh hp' ∧ cRdy hp' τ K z m ∧ eDt ρ' cH hp' := ⟨eSh_fr hf h.1, cRdy_g hf (oWc_ok hW) h.2.1, eDt_next hy hx (fun q hq => by cases hq) hc hd⟩
/-- the reference behind a LINE, but for its arrays -/
theorem RS_next {hp hp' : List vOb} {τ R : Nat → Nat} {z m : Nat} {ρ ρ' : Nat → Nat → Nat} {ht : Nat} {NM TK BR ST : Nat → Nat} {W : List (Nat × eX)} {rd : eD} {ys : List eX} (h : RS hp τ R z m ρ ht NM TK BR ST) (hf : sFr (eMd ρ W) hp hp') (hd : eDt ρ rd hp') (hW : oWm W = true) (hy : ∀ j, j < 11 → eR ρ (ys.getD j []) (ρ' 0 j)) (hx : ∀ k, k ≤ 11 → k ≠ 0 → ∀ u, ρ' k u = ρ k u) (hc : rH.all (eNx rd ys [] 11) = true) : eSh shM hp' ∧ nRdy hp' τ z m ∧ mRs hp' R ∧ hC hp' 220 9 (.inr (.inr (.inr (.inl (some 225))))) ∧ eDt ρ' rH hp' := by
  have hw := oWm_ok (ρ := ρ) hW
  refine ⟨eSh_fr hf h.1, nRdy_g hf (fun k i hm => ⟨(hw k i hm).1, (hw k i hm).2.2⟩) h.2.1, ⟨hC_fr hf (fun hm => ?_) h.2.2.1.1, fun i hi => ⟨hC_fr hf (fun hm => (hw _ _ hm).2.1 rfl) (h.2.2.1.2 i hi).1, (h.2.2.1.2 i hi).2⟩⟩, hC_fr hf (fun hm => ?_) h.2.2.2.1, eDt_next hy hx (fun q hq => by cases hq) hc hd⟩
  · have := (hw _ _ hm).2.2 rfl
    omega
  · have := (hw _ _ hm).2.2 rfl
    omega
/-- a named cell that is not written -/
theorem eW_c {ρ : Nat → Nat → Nat} {W : List (Nat × eX)} {hp hp' : List vOb} {k c : Nat} {v : vAV} (hf : sFr (eMd ρ W) hp hp') (h : W.all (fun e => !Nat.beq e.1 k || (match eCn e.2 with
  | some c' => !Nat.beq c' c
  | none => false)) = true) (hc : hC hp k c v) : hC hp' k c v := hC_fr hf (fun hm => by
  obtain ⟨e, e1, e2, e3⟩ := eMd_min hm
  have h1 := List.all_eq_true.mp h e e1
  rw [e2, Nat.beq_refl, Bool.not_true, Bool.false_or] at h1
  split at h1
  · next c' hc' =>
    rw [eR_val (eCn_ok hc')] at e3
    rw [← e3, Nat.beq_refl] at h1
    cases h1
  · cases h1) hc
/-- the names of the class, one more -/
theorem cN_add {t c u D : Nat} {ρ : Nat → Nat → Nat} {N DC : Nat → Nat} {W : List (Nat × eX)} {hp hp' : List vOb} {x : eX} (hf : sFr (eMd ρ W) hp hp') (hx : eVal ρ x = c) (h1 : W.all (fun e => !Nat.beq e.1 (t + 11) || [x].any (fun x => eEq e.2 x)) = true) (h2 : W.all (fun e => !Nat.beq e.1 (t + 12) || [x].any (fun x => eEq e.2 x)) = true) (hu : u < 18446744073709551616) (g1 : hC hp' (t + 11) c (.inr (.inr (.inl u)))) (g2 : hC hp' (t + 12) c (.inl D)) (h : ∀ i, i < c → hC hp (t + 11) i (.inr (.inr (.inl (N i)))) ∧ N i < 18446744073709551616 ∧ hC hp (t + 12) i (.inl (DC i))) : ∀ i, i < c + 1 → hC hp' (t + 11) i (.inr (.inr (.inl (snoc N c u i)))) ∧ snoc N c u i < 18446744073709551616 ∧ hC hp' (t + 12) i (.inl (snoc DC c D i)) := fun i hi => by
  by_cases e : i = c
  · rw [e, snoc_at, snoc_at]
    exact ⟨g1, hu, g2⟩
  · rw [snoc_ne e, snoc_ne e]
    obtain ⟨a1, a2, a3⟩ := h i (by omega)
    have hL : ∀ y ∈ [x], eVal ρ y ≠ i := fun y hy => by
      rw [List.mem_singleton.mp hy, hx]
      exact fun e2 => e e2.symm
    exact ⟨eW_in hf h1 hL a1, a2, eW_in hf h2 hL a3⟩
/-- the names of the reference, one more -/
theorem mN_add {b k w : Nat} {s q r p s' q' r' p' : Nat} {ρ : Nat → Nat → Nat} {NM : Nat → Nat} {W : List (Nat × eX)} {hp hp' : List vOb} {x : eX} (hk : k < 4) (hf : sFr (eMd ρ W) hp hp') (hx : eVal ρ x = nrB b k + nrC s q r p k) (h1 : W.all (fun e => !Nat.beq e.1 225 || [x].any (fun x => eEq e.2 x)) = true) (hw : w < 18446744073709551616) (g1 : hC hp' 225 (nrB b k + nrC s q r p k) (.inr (.inr (.inl w)))) (hs : s' ≤ 6) (hm : q' ≤ 5) (hr : r' ≤ 5) (hp8 : p' ≤ 8) (hc : ∀ k', k' < 4 → nrC s' q' r' p' k' = if k' = k then nrC s q r p k + 1 else nrC s q r p k') (h : ∀ k', k' < 4 → mNm hp NM (nrB b k') (nrC s q r p k')) : ∀ k', k' < 4 → mNm hp' (snoc NM (nrB b k + nrC s q r p k) w) (nrB b k') (nrC s' q' r' p' k') := fun k' hk' i hi => by
  have lt : ∀ k', k' < 4 → ∀ j, j < nrC s' q' r' p' k' → j < (if k' = 0 then 6 else if k' = 1 then 5 else if k' = 2 then 5 else 8) := fun k' hk' j hj => Nat.lt_of_lt_of_le hj (nrC_max hs hm hr hp8)
  have ltk : nrC s q r p k < (if k = 0 then 6 else if k = 1 then 5 else if k = 2 then 5 else 8) := lt k hk _ (by rw [hc k hk, if_pos rfl]; omega)
  by_cases e : nrB b k' + i = nrB b k + nrC s q r p k
  · rw [e, snoc_at]
    exact ⟨g1, hw⟩
  · rw [snoc_ne e]
    have hi' : i < nrC s q r p k' := by
      rw [hc k' hk'] at hi
      split at hi
      · next ek =>
        subst ek
        omega
      · exact hi
    obtain ⟨a1, a2⟩ := h k' hk' i hi'
    exact ⟨eW_in hf h1 (fun y hy => by rw [List.mem_singleton.mp hy, hx]; exact fun e2 => e e2.symm) a1, a2⟩
theorem cR_w {ρ : Nat → Nat → Nat} {W : List (Nat × eX)} {hp hp' : List vOb} {k len b : Nat} (hf : sFr (eMd ρ W) hp hp') (h : W.all (fun e => !Nat.beq e.1 k) = true) (hr : cR hp k len b) : cR hp' k len b := cR_r (fun hv => eW_row hf h hv) hr
theorem cR_x {ρ : Nat → Nat → Nat} {W : List (Nat × eX)} {hp hp' : List vOb} {k len b u w : Nat} {x : eX} (hf : sFr (eMd ρ W) hp hp') (h : W.all (fun e => !Nat.beq e.1 k || [x].any (fun x => eEq e.2 x)) = true) (hx : eVal ρ x = u) (hw : w ≤ b) (g : hC hp' k u (.inl w)) (hr : cR hp k len b) : cR hp' k len b := fun i hi => by
  by_cases e : i = u
  · rw [e]
    exact ⟨w, hw, g⟩
  · obtain ⟨v, v1, v2⟩ := hr i hi
    exact ⟨v, v1, eW_in hf h (fun y hy => by rw [List.mem_singleton.mp hy, hx]; exact fun e2 => e e2.symm) v2⟩
theorem mN_same {b : Nat} {s q r p : Nat} {ρ : Nat → Nat → Nat} {NM : Nat → Nat} {W : List (Nat × eX)} {hp hp' : List vOb} (hf : sFr (eMd ρ W) hp hp') (h1 : W.all (fun e => !Nat.beq e.1 225) = true) (h : ∀ k', k' < 4 → mNm hp NM (nrB b k') (nrC s q r p k')) : ∀ k', k' < 4 → mNm hp' NM (nrB b k') (nrC s q r p k') := fun k' hk' i hi => ⟨eW_row hf h1 (h k' hk' i hi).1, (h k' hk' i hi).2⟩
/-- what a run wrote in these rows is told -/
def riB (W : List (Nat × eX)) (D : eD) : Bool := W.all (fun e => (!Nat.beq e.1 223 || (match eGet 223 e.2 D with
  | some (.inl _, []) => true
  | _ => false)) && (!Nat.beq e.1 225 || (match eGet 225 e.2 D with
  | some (.inr (.inl _), []) => true
  | _ => false)))
theorem RI_w {ρ : Nat → Nat → Nat} {W : List (Nat × eX)} {D : eD} {hp hp' : List vOb} (hf : sFr (eMd ρ W) hp hp') (hd : eDt ρ D hp') (hb : riB W D = true) (h : RI hp) : RI hp' := by
  refine ⟨fun i hi => ?_, fun i hi => ?_⟩
  · by_cases hm : ∃ e ∈ W, e.1 = 223 ∧ eVal ρ e.2 = i
    · obtain ⟨e, e1, e2, e3⟩ := hm
      have h1 := List.all_eq_true.mp hb e e1
      rw [Bool.and_eq_true, e2, Nat.beq_refl, Bool.not_true, Bool.false_or] at h1
      have h1 := h1.1
      split at h1
      · next y hy =>
        have h2 := hd _ (eGet_ok hy) (fun q hq => by cases hq)
        dsimp only at h2
        rw [e3] at h2
        exact ⟨_, h2⟩
      · cases h1
    · obtain ⟨v, hv⟩ := h.1 i hi
      exact ⟨v, hC_fr hf (fun hmn => by
        obtain ⟨e, e1, e2, e3⟩ := eMd_min hmn
        exact hm ⟨e, e1, e2, e3.symm⟩) hv⟩
  · by_cases hm : ∃ e ∈ W, e.1 = 225 ∧ eVal ρ e.2 = i
    · obtain ⟨e, e1, e2, e3⟩ := hm
      have h1 := List.all_eq_true.mp hb e e1
      rw [Bool.and_eq_true, e2, Nat.beq_refl, Bool.not_true, Bool.false_or] at h1
      have h1 := h1.2
      split at h1
      · next y hy =>
        have h2 := hd _ (eGet_ok hy) (fun q hq => by cases hq)
        dsimp only at h2
        rw [e3] at h2
        exact ⟨_, h2⟩
      · cases h1
    · obtain ⟨v, hv⟩ := h.2 i hi
      exact ⟨v, hC_fr hf (fun hmn => by
        obtain ⟨e, e1, e2, e3⟩ := eMd_min hmn
        exact hm ⟨e, e1, e2, e3.symm⟩) hv⟩
