/-! ===== advance() of the class: the call ===== -/
theorem xLex_q {τ : Nat → Nat} {z m n q : Nat} (hq : xSk τ (min z m - n) n = q) : xLex τ z m n = if min z m ≤ q then ((if m < z then 1 else 0, []), min z m, q) else ((xAt τ z q).1, q, (xAt τ z q).2) := by
  unfold xLex xAt
  rw [hq]
  by_cases h : min z m ≤ q
  · rw [if_pos h, if_pos h]
  · rw [if_neg h, if_neg h]
    split
    · rfl
    · rfl
def adF : sMd := [(1, 4, 7), (1, 9, 10)]
def adP (hp0 : List vOb) (K : Nat → Nat) (t : Nat × List Nat) (a p : Nat) (kr : Option vAV) (hp' : List vOb) : Prop := kr = none ∧ sFr adF hp0 hp' ∧ cTk hp' K t ∧ hC hp' 1 6 (.inl a) ∧ (t.1 ≠ 1 → hC hp' 1 4 (.inl p))
theorem ad_run {d : Nat} (hd : 8 ≤ d) {τ K : Nat → Nat} {z m q : Nat} {hp0 hp hp1 : List vOb} {kl kl1 : vLs} (hR : cRdy hp1 τ K z m) (hq : q < z) (hc : (xSm (τ q % 256) || xDg (τ q % 256)) = true) (hF : sFr adF hp0 hp1) (h4 : hC hp1 1 4 (.inl q)) (h6 : hC hp1 1 6 (.inl q)) (h10 : hC hp1 1 10 (.inl 4294967295)) (q1 : kRe vms vdf (d + 1 + 1) vt_X6_advance 0 0 (61, kl, [], hp) (143, kl1, [.inr (.inr (.inr (.inl (some 1))))], hp1)) : kEnd vms vdf (d + 1 + 1) m_X6_advance (61, kl, [], hp) (adP hp0 K (xAt (fun i => τ i % 256) z q).1 q (xAt (fun i => τ i % 256) z q).2) := by
  obtain ⟨kr, hp4, b1, b2, b3, b4, b5⟩ := rr_ok (d := d) hd hR hq hc h4 h10
  subst b2
  have hcall : kRe vms vdf (d + 1 + 1) vt_X6_advance 0 0 (143, kl1, [.inr (.inr (.inr (.inl (some 1))))], hp1) (146, kl1, [], hp4) := e_callv (kas := []) (rest := []) (r := none) ad_iv rfl rfl (vRc_sh (n := 13) (t := 6) hR.1 (by decide) rfl) b1
  have e : xAt (fun i => τ i % 256) z q = (xTk (xRn (fun i => τ i % 256) (z - q) q), q + (xRn (fun i => τ i % 256) (z - q) q).length) := by
    unfold xAt
    rw [if_pos hc]
  rw [e]
  exact kEnd.of (q1.tr hcall) (k_return (List.all_eq_true.mp ad_rt _ (by decide)) rfl ⟨rfl, hF.tr (b3.mono (sMsub_ok (by decide))), b4, hC_fr b3 (sMnot_ok rfl) h6, fun _ => b5⟩)
theorem ad_at {d : Nat} (hd : 8 ≤ d) {τ K : Nat → Nat} {z m q lim : Nat} {hp0 hp : List vOb} {kl : vLs} (hR : cRdy hp τ K z m) (hlz : lim ≤ z) (hq : q < lim) (hF : sFr adF hp0 hp) (h4 : hC hp 1 4 (.inl q)) (hl : cLm (adL lim) kl) : kEnd vms vdf (d + 1 + 1) m_X6_advance (61, kl, [], hp) (adP hp0 K (xAt (fun i => τ i % 256) z q).1 q (xAt (fun i => τ i % 256) z q).2) := by
  have hR' := hR
  obtain ⟨g1, g2, g3, g5, g6, g7, g8, g9, g10⟩ := hR
  obtain ⟨hu, hb⟩ := g7 q (by omega)
  cases hs : xSm (τ q % 256) with
  | true =>
    obtain ⟨c3, c4⟩ := xSm_i hs
    obtain ⟨kl1, hp1, q1, q2, r6, r10, qf⟩ := ad_w (d := d + 1 + 1) (n := q) (z := lim) (u := τ q) (by omega) g1 hl h4 g5 hu (by omega) (by omega) hb hq c3 c4
    exact ad_run hd (cRdy_fr qf rfl hR') (by omega) (by rw [hs]; rfl) (hF.tr (qf.mono (sMsub_ok (by decide)))) (hC_fr qf (sMnot_ok rfl) h4) r6 r10 q1
  | false =>
    have n1 : ¬ (97 ≤ τ q % 256 ∧ τ q % 256 ≤ 122) := fun h => by
      rw [xSm_t h.1 h.2] at hs
      cases hs
    cases hg : xDg (τ q % 256) with
    | true =>
      obtain ⟨c3, c4⟩ := xDg_i hg
      obtain ⟨kl1, hp1, q1, q2, r6, r10, qf⟩ := ad_d (d := d + 1 + 1) (n := q) (z := lim) (u := τ q) (by omega) g1 hl h4 g5 hu (by omega) (by omega) hb hq c3 c4
      exact ad_run hd (cRdy_fr qf rfl hR') (by omega) (by rw [hs, hg]; rfl) (hF.tr (qf.mono (sMsub_ok (by decide)))) (hC_fr qf (sMnot_ok rfl) h4) r6 r10 q1
    | false =>
      have n2 : ¬ (48 ≤ τ q % 256 ∧ τ q % 256 ≤ 57) := fun h => by
        unfold xDg at hg
        rw [Nat.ble_eq_true_of_le h.1, Nat.ble_eq_true_of_le h.2] at hg
        cases hg
      have e0 : xAt (fun i => τ i % 256) z q = ((if xSg (τ q % 256) = true then (4, [τ q % 256]) else (1, [])), q + 1) := by
        unfold xAt
        rw [if_neg (by rw [hs, hg]; decide)]
      have sgn : ∀ (kl1 : vLs) (hp1 : List vOb), xSg (τ q % 256) = true → kRe vms vdf (d + 1 + 1) vt_X6_advance 0 0 (61, kl, [], hp) (212, kl1, [], hp1) → sFr adF hp hp1 → hC hp1 1 4 (.inl (q + 1)) → hC hp1 1 5 (.inl (τ q % 256)) → hC hp1 1 6 (.inl q) → hC hp1 1 10 (.inl 4294967295) → kEnd vms vdf (d + 1 + 1) m_X6_advance (61, kl, [], hp) (adP hp0 K (xAt (fun i => τ i % 256) z q).1 q (xAt (fun i => τ i % 256) z q).2) := fun kl1 hp1 e a1 a2 a4 a5 a6 a10 => by
        rw [e0, if_pos e]
        exact kEnd.of a1 (k_return (List.all_eq_true.mp ad_rt _ (by decide)) rfl ⟨rfl, hF.tr a2, Or.inr (Or.inr (Or.inr (Or.inr ⟨_, rfl, a5, a10⟩))), a6, fun _ => a4⟩)
      have bad : ∀ (kl1 : vLs) (hp1 : List vOb), xSg (τ q % 256) = false → kRe vms vdf (d + 1 + 1) vt_X6_advance 0 0 (61, kl, [], hp) (212, kl1, [], hp1) → sFr adF hp hp1 → hC hp1 1 4 (.inl (q + 1)) → hC hp1 1 5 (.inl 1) → hC hp1 1 6 (.inl q) → hC hp1 1 10 (.inl 4294967295) → kEnd vms vdf (d + 1 + 1) m_X6_advance (61, kl, [], hp) (adP hp0 K (xAt (fun i => τ i % 256) z q).1 q (xAt (fun i => τ i % 256) z q).2) := fun kl1 hp1 e a1 a2 a4 a5 a6 a10 => by
        rw [e0, e, if_neg (by decide)]
        exact kEnd.of a1 (k_return (List.all_eq_true.mp ad_rt _ (by decide)) rfl ⟨rfl, hF.tr a2, Or.inr (Or.inl ⟨rfl, a5, a10⟩), a6, fun _ => a4⟩)
      by_cases e1 : τ q % 256 = 59
      · obtain ⟨kl1, hp1, q1, q2, r4, r5, r6, r10, qf⟩ := ad_s59 (d := d + 1 + 1) (n := q) (z := lim) (u := τ q) (by omega) g1 hl h4 g5 hu (by omega) (by omega) hb hq e1
        exact sgn kl1 hp1 (xSg_t (by omega)) q1 (qf.mono (sMsub_ok (by decide))) r4 r5 r6 r10
      by_cases e2 : τ q % 256 = 40
      · obtain ⟨kl1, hp1, q1, q2, r4, r5, r6, r10, qf⟩ := ad_s40 (d := d + 1 + 1) (n := q) (z := lim) (u := τ q) (by omega) g1 hl h4 g5 hu (by omega) (by omega) hb hq e2
        exact sgn kl1 hp1 (xSg_t (by omega)) q1 (qf.mono (sMsub_ok (by decide))) r4 r5 r6 r10
      by_cases e3 : τ q % 256 = 41
      · obtain ⟨kl1, hp1, q1, q2, r4, r5, r6, r10, qf⟩ := ad_s41 (d := d + 1 + 1) (n := q) (z := lim) (u := τ q) (by omega) g1 hl h4 g5 hu (by omega) (by omega) hb hq e3
        exact sgn kl1 hp1 (xSg_t (by omega)) q1 (qf.mono (sMsub_ok (by decide))) r4 r5 r6 r10
      by_cases e4 : τ q % 256 = 60
      · obtain ⟨kl1, hp1, q1, q2, r4, r5, r6, r10, qf⟩ := ad_s60 (d := d + 1 + 1) (n := q) (z := lim) (u := τ q) (by omega) g1 hl h4 g5 hu (by omega) (by omega) hb hq e4
        exact sgn kl1 hp1 (xSg_t (by omega)) q1 (qf.mono (sMsub_ok (by decide))) r4 r5 r6 r10
      by_cases e5 : τ q % 256 = 61
      · obtain ⟨kl1, hp1, q1, q2, r4, r5, r6, r10, qf⟩ := ad_s61 (d := d + 1 + 1) (n := q) (z := lim) (u := τ q) (by omega) g1 hl h4 g5 hu (by omega) (by omega) hb hq e5
        exact sgn kl1 hp1 (xSg_t (by omega)) q1 (qf.mono (sMsub_ok (by decide))) r4 r5 r6 r10
      by_cases e6 : τ q % 256 = 62
      · obtain ⟨kl1, hp1, q1, q2, r4, r5, r6, r10, qf⟩ := ad_s62 (d := d + 1 + 1) (n := q) (z := lim) (u := τ q) (by omega) g1 hl h4 g5 hu (by omega) (by omega) hb hq e6
        exact sgn kl1 hp1 (xSg_t (by omega)) q1 (qf.mono (sMsub_ok (by decide))) r4 r5 r6 r10
      by_cases e7 : τ q % 256 < 48 ∨ 128 ≤ τ q % 256
      · obtain ⟨kl1, hp1, q1, q2, r4, r5, r6, r10, qf⟩ := ad_slo (d := d + 1 + 1) (n := q) (z := lim) (u := τ q) (by omega) g1 hl h4 g5 hu (by omega) (by omega) hb hq e7 e2 e3
        exact bad kl1 hp1 (xSg_f (by omega)) q1 (qf.mono (sMsub_ok (by decide))) r4 r5 r6 r10
      by_cases e8 : 122 < τ q % 256
      · obtain ⟨kl1, hp1, q1, q2, r4, r5, r6, r10, qf⟩ := ad_shi (d := d + 1 + 1) (n := q) (z := lim) (u := τ q) (by omega) g1 hl h4 g5 hu (by omega) (by omega) hb hq e8 (by omega)
        exact bad kl1 hp1 (xSg_f (by omega)) q1 (qf.mono (sMsub_ok (by decide))) r4 r5 r6 r10
      · obtain ⟨kl1, hp1, q1, q2, r4, r5, r6, r10, qf⟩ := ad_smi (d := d + 1 + 1) (n := q) (z := lim) (u := τ q) (by omega) g1 hl h4 g5 hu (by omega) (by omega) hb hq (by omega) (by omega) e1 e4 e5 e6
        exact bad kl1 hp1 (xSg_f (by omega)) q1 (qf.mono (sMsub_ok (by decide))) r4 r5 r6 r10
theorem adv_ok {d : Nat} (hd : 8 ≤ d) {τ K : Nat → Nat} {z m n : Nat} {hp : List vOb} (hR : cRdy hp τ K z m) (hn : n ≤ z) (h4 : hC hp 1 4 (.inl n)) : ∃ kr hp', (∃ N, ∀ fuel, N ≤ fuel → vCalD vms vdf fuel (d + 1 + 1 + 1) 37 [.inr (.inr (.inr (.inl (some 1))))] hp = some (kr, hp', 0, 0)) ∧ adP hp K (xLex (fun i => τ i % 256) z m n).1 (xLex (fun i => τ i % 256) z m n).2.1 (xLex (fun i => τ i % 256) z m n).2.2 kr hp' := by
  have hz : z ≤ 940 := hR.2.2.2.2.2.2.2.1
  have hm9 : m ≤ 940 := hR.2.2.2.2.2.2.2.2
  refine kEnd_cal hM_ad (by decide) rfl rfl ?_
  have h0 : ∃ kl1 hp1, kRe vms vdf (d + 1 + 1) vt_X6_advance 0 0 (0, vEnt [.inr (.inr (.inr (.inl (some 1))))] m_X6_advance.2.2.1, [], hp) (12, kl1, [], hp1) ∧ cLm (adL (min z m)) kl1 ∧ sFr [] hp hp1 := by
    by_cases h : z ≤ m
    · obtain ⟨kl1, hp1, q1, q2, q3⟩ := ad_0t (d := d + 1 + 1) (kl := vEnt [.inr (.inr (.inr (.inl (some 1))))] m_X6_advance.2.2.1) (by omega) hR.1 ⟨rfl, trivial⟩ hR.2.1 hR.2.2.1 (by omega) (by omega) h
      have e : min z m = z := by omega
      rw [e]
      exact ⟨kl1, hp1, q1, q2, q3⟩
    · obtain ⟨kl1, hp1, q1, q2, q3⟩ := ad_0f (d := d + 1 + 1) (kl := vEnt [.inr (.inr (.inr (.inl (some 1))))] m_X6_advance.2.2.1) (by omega) hR.1 ⟨rfl, trivial⟩ hR.2.1 hR.2.2.1 (by omega) (by omega) (by omega)
      have e : min z m = m := by omega
      rw [e]
      exact ⟨kl1, hp1, q1, q2, q3⟩
  obtain ⟨kl0, hp0, p1, p2, p3⟩ := h0
  have hR0 := cRdy_fr p3 rfl hR
  obtain ⟨kl1, hp1, q1, q2, q3, q4⟩ := ad_skip (d := d + 1 + 1) (by omega) (lim := min z m) (by omega) (min z m - n) n rfl (by omega) hR0 (eC_fr0 p3 h4) p2
  obtain ⟨q, hq⟩ : ∃ q, xSk (fun i => τ i % 256) (min z m - n) n = q := ⟨_, rfl⟩
  have hle := (xSk_le (τ := fun i => τ i % 256) (min z m - n) n)
  rw [hq] at hle q3
  rw [xLex_q hq]
  have hF : sFr adF hp hp1 := (eFr_nil p3).tr (q4.mono (sMsub_ok (by decide)))
  have hR1 := cRdy_fr q4 rfl hR0
  refine kEnd.of (p1.tr q1) ?_
  by_cases c : min z m ≤ q
  · rw [if_pos c]
    have g := hR1
    obtain ⟨g1, g2, g3, g5, g6, g7, g8, g9, g10⟩ := g
    by_cases h : z ≤ m
    · rw [if_neg (show ¬ m < z by omega)]
      obtain ⟨kl2, hp2, w1, w2, w5, w6, w10, wf⟩ := ad_et (d := d + 1 + 1) (n := q) (z := min z m) (l := z) (m := m) (by omega) g1 q2 q3 g2 g3 (by omega) (by omega) (by omega) (by omega) c h
      exact kEnd.of w1 (k_return (List.all_eq_true.mp ad_rt _ (by decide)) rfl ⟨rfl, hF.tr (wf.mono (sMsub_ok (by decide))), Or.inl ⟨rfl, w5, w10⟩, w6, fun _ => hC_fr wf (sMnot_ok rfl) q3⟩)
    · rw [if_pos (show m < z by omega)]
      obtain ⟨kl2, hp2, w1, w2, w5, w6, w10, wf⟩ := ad_ef (d := d + 1 + 1) (n := q) (z := min z m) (l := z) (m := m) (by omega) g1 q2 q3 g2 g3 (by omega) (by omega) (by omega) (by omega) c (by omega)
      exact kEnd.of w1 (k_return (List.all_eq_true.mp ad_rt _ (by decide)) rfl ⟨rfl, hF.tr (wf.mono (sMsub_ok (by decide))), Or.inr (Or.inl ⟨rfl, w5, w10⟩), w6, fun h => absurd rfl h⟩)
  · rw [if_neg c]
    exact ad_at hd hR1 (by omega) (by omega) hF q3 q2
