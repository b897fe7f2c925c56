/-! ===== next() of the reference: the call ===== -/
theorem xLex_end {τ : Nat → Nat} {z m n q : Nat} (hn : n ≤ z) (hq : xSk τ (z - n) n = q) (h : min z m ≤ q) : (xLex τ z m n).1 = (if m < z then 1 else 0, []) ∧ (xLex τ z m n).2.1 = min z m ∧ (¬ m < z → (xLex τ z m n).2.2 = q) := by
  have hl := (xSk_le (τ := τ) (z - n) n)
  have key := xSk_min (τ := τ) (min z m - n) (z - n) n (by omega)
  rw [hq] at hl key
  have e : min z m ≤ xSk τ (min z m - n) n := by
    rw [key]
    omega
  unfold xLex
  rw [if_pos e]
  refine ⟨rfl, rfl, fun h1 => ?_⟩
  show xSk τ (min z m - n) n = q
  rw [key]
  omega
theorem xLex_at {τ : Nat → Nat} {z m n q : Nat} (hn : n ≤ z) (hq : xSk τ (z - n) n = q) (h : q < min z m) : xLex τ z m n = ((xAt τ z q).1, q, (xAt τ z q).2) := by
  have hl := (xSk_le (τ := τ) (z - n) n)
  have key := xSk_min (τ := τ) (min z m - n) (z - n) n (by omega)
  rw [hq] at hl key
  have e : xSk τ (min z m - n) n = q := by
    rw [key]
    omega
  unfold xLex xAt
  rw [e, if_neg (by omega)]
  split
  · rfl
  · rfl
theorem next_ok {d : Nat} (hd : 8 ≤ d) {τ : Nat → Nat} {z m n : Nat} {hp : List vOb} (hR : nRdy hp τ z m) (hn : n ≤ z) (h4 : hC hp 220 4 (.inl n)) : ∃ kr hp', (∃ N, ∀ fuel, N ≤ fuel → vCalD vms vdf fuel (d + 1) 65 [.inr (.inr (.inr (.inl (some 220))))] hp = some (kr, hp', 0, 0)) ∧ nxP hp (xLex (fun i => τ i % 256) z m n).1 (xLex (fun i => τ i % 256) z m n).2.1 (xLex (fun i => τ i % 256) z m n).2.2 kr hp' := by
  have hz : z ≤ 940 := hR.2.2.2.2.2.1
  have hm9 : m ≤ 940 := hR.2.2.2.2.2.2
  refine kEnd_cal hM_next (by decide) rfl rfl ?_
  obtain ⟨kl1, hp1, q1, q2, q3, q4⟩ := nx_skip hd (z - n) n (kl := vEnt [.inr (.inr (.inr (.inl (some 220))))] m_X12_next.2.2.1) rfl (by omega) hR h4 ⟨rfl, trivial⟩
  obtain ⟨q, hq⟩ : ∃ q, xSk (fun i => τ i % 256) (z - n) n = q := ⟨_, rfl⟩
  have hl := (xSk_le (τ := fun i => τ i % 256) (z - n) n)
  rw [hq] at hl q3
  have hF : sFr nxF hp hp1 := q4.mono (sMsub_ok (by decide))
  have hR1 := nRdy_fr q4 rfl hR
  refine kEnd.of q1 ?_
  by_cases c : min z m ≤ q
  · obtain ⟨x1, x2, x3⟩ := xLex_end hn hq c
    rw [x1, x2]
    obtain ⟨g1, g2, g3, g5, g6, g7, g8⟩ := hR1
    by_cases h : m < z
    · obtain ⟨kl2, hp2, w1, w2, w3, w4, w5, w6⟩ := nx_l hd g1 (eLm_k rfl q2) q3 g2 g3 g5 (by omega) (by omega) (by omega) h (by omega)
      rw [if_pos h]
      have e : min z m = m := by omega
      rw [e]
      exact nx_sg (by decide) hF w1 (w6.mono (sMsub_ok (by decide))) ⟨w4, Or.inr (Or.inl ⟨rfl, w3⟩)⟩ (fun h => absurd rfl h)
    · obtain ⟨kl2, hp2, w1, w2, w3, w4, w5, w6⟩ := nx_e hd g1 (eLm_k rfl q2) q3 g2 g3 g5 (by omega) (by omega) (by omega) (by omega) (by omega)
      rw [if_neg h]
      have e : min z m = q := by omega
      rw [e, x3 h]
      exact nx_sg (by decide) hF w1 (w6.mono (sMsub_ok (by decide))) ⟨w5, Or.inl ⟨rfl, w3⟩⟩ (fun _ => hC_fr w6 (sMnot_ok rfl) q3)
  · rw [xLex_at hn hq (by omega)]
    exact nx_at hd hR1 (by omega) (by omega) hF q3 q2
