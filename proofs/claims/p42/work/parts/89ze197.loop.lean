/-! ===== the loop over the LINEs ===== -/
/-- what the class's reading of a TOWN may write -/
def CF (t : Nat) (hp hp' : List vOb) : Prop := ∃ md, sFr md hp hp' ∧ ∀ k i, sMin md k i → (k = 1 ∧ 4 ≤ i) ∨ k = 30 ∨ (t ≤ k ∧ k ≤ t + 12)
def RF (hp hp' : List vOb) : Prop := ∃ md, sFr md hp hp' ∧ ∀ k i, sMin md k i → (k = 220 ∧ (i = 4 ∨ (11 ≤ i ∧ i ≤ 22))) ∨ k = 223 ∨ (k = 225 ∧ 24 ≤ i)
theorem sMin_app {a b : sMd} {k i : Nat} (h : sMin (a ++ b) k i) : sMin a k i ∨ sMin b k i := by
  obtain ⟨m, m1, m2⟩ := h
  rcases List.mem_append.mp m1 with h | h
  · exact Or.inl ⟨m, h, m2⟩
  · exact Or.inr ⟨m, h, m2⟩
theorem sMin_l {a b : sMd} {k i : Nat} (h : sMin a k i) : sMin (a ++ b) k i := by
  obtain ⟨m, m1, m2⟩ := h
  exact ⟨m, List.mem_append_left _ m1, m2⟩
theorem sMin_r {a b : sMd} {k i : Nat} (h : sMin b k i) : sMin (a ++ b) k i := by
  obtain ⟨m, m1, m2⟩ := h
  exact ⟨m, List.mem_append_right _ m1, m2⟩
theorem CF.tr {t : Nat} {a b c : List vOb} (h : CF t a b) (h' : CF t b c) : CF t a c := by
  obtain ⟨m1, f1, g1⟩ := h
  obtain ⟨m2, f2, g2⟩ := h'
  refine ⟨m1 ++ m2, (f1.mono (fun k i h => sMin_l h)).tr (f2.mono (fun k i h => sMin_r h)), fun k i h => ?_⟩
  rcases sMin_app h with h | h
  · exact g1 k i h
  · exact g2 k i h
theorem RF.tr {a b c : List vOb} (h : RF a b) (h' : RF b c) : RF a c := by
  obtain ⟨m1, f1, g1⟩ := h
  obtain ⟨m2, f2, g2⟩ := h'
  refine ⟨m1 ++ m2, (f1.mono (fun k i h => sMin_l h)).tr (f2.mono (fun k i h => sMin_r h)), fun k i h => ?_⟩
  rcases sMin_app h with h | h
  · exact g1 k i h
  · exact g2 k i h
theorem CF_rf {t : Nat} (a : List vOb) : CF t a a := ⟨[], sFr.rf _ _, fun k i ⟨m, m1, _⟩ => by cases m1⟩
theorem RF_rf (a : List vOb) : RF a a := ⟨[], sFr.rf _ _, fun k i ⟨m, m1, _⟩ => by cases m1⟩
theorem CF_w {t : Nat} {ρ : Nat → Nat → Nat} {W : List (Nat × eX)} {a b : List vOb} (hf : sFr (eMd ρ W) a b) (h : clW t W = true) : CF t a b := ⟨_, hf, fun k i hm => by
  obtain ⟨e, e1, e2, e3⟩ := eMd_min hm
  have h1 := List.all_eq_true.mp h e e1
  rw [Bool.or_eq_true, Bool.or_eq_true, Bool.and_eq_true, Bool.and_eq_true, e2] at h1
  rcases h1 with ⟨h1, h2⟩ | h1 | ⟨h1, h2⟩
  · refine Or.inl ⟨Nat.eq_of_beq_eq_true h1, ?_⟩
    split at h2
    · next c hc =>
      rw [e3, eR_val (eCn_ok hc)]
      exact Nat.le_of_ble_eq_true h2
    · cases h2
  · exact Or.inr (Or.inl (Nat.eq_of_beq_eq_true h1))
  · exact Or.inr (Or.inr ⟨Nat.le_of_ble_eq_true h1, Nat.le_of_ble_eq_true h2⟩)⟩
theorem CF_1 {t : Nat} {ρ : Nat → Nat → Nat} {W : List (Nat × eX)} {a b : List vOb} (hf : sFr (eMd ρ W) a b) (h : W1 W = true) : CF t a b := ⟨_, hf, fun k i hm => by
  obtain ⟨e, e1, e2, e3⟩ := eMd_min hm
  have h1 := List.all_eq_true.mp h e e1
  rw [Bool.and_eq_true, e2] at h1
  refine Or.inl ⟨Nat.eq_of_beq_eq_true h1.1, ?_⟩
  have h2 := h1.2
  split at h2
  · next c hc =>
    rw [e3, eR_val (eCn_ok hc)]
    exact Nat.le_of_ble_eq_true h2
  · cases h2⟩
theorem RF_w {ρ : Nat → Nat → Nat} {W : List (Nat × eX)} {a b : List vOb} (b1 : ∀ j, 1 ≤ j → j ≤ 4 → ρ 0 j ≤ 8) (hf : sFr (eMd ρ W) a b) (h : rlW W = true) : RF a b := ⟨_, hf, fun k i hm => by
  obtain ⟨e, e1, e2, e3⟩ := eMd_min hm
  have h1 := List.all_eq_true.mp h e e1
  rw [Bool.or_eq_true, Bool.or_eq_true, Bool.and_eq_true, Bool.and_eq_true, e2] at h1
  rcases h1 with ⟨h1, h2⟩ | h1 | ⟨h1, h2⟩
  · refine Or.inl ⟨Nat.eq_of_beq_eq_true h1, ?_⟩
    split at h2
    · next c hc =>
      rw [e3, eR_val (eCn_ok hc)]
      rw [Bool.or_eq_true, Bool.and_eq_true] at h2
      rcases h2 with h2 | ⟨h2, h3⟩
      · exact Or.inl (Nat.eq_of_beq_eq_true h2)
      · exact Or.inr ⟨Nat.le_of_ble_eq_true h2, Nat.le_of_ble_eq_true h3⟩
    · cases h2
  · exact Or.inr (Or.inl (Nat.eq_of_beq_eq_true h1))
  · refine Or.inr (Or.inr ⟨Nat.eq_of_beq_eq_true h1, ?_⟩)
    split at h2
    · next c j hc =>
      rw [Bool.and_eq_true, Bool.and_eq_true, Bool.and_eq_true] at h2
      obtain ⟨c1, c2, c3, c4⟩ := h2
      have c1 := Nat.le_of_ble_eq_true c1
      have c2 := Nat.le_of_ble_eq_true c2
      have := b1 j (Nat.le_of_ble_eq_true c3) (Nat.le_of_ble_eq_true c4)
      rw [e3, hc]
      have e9 : eVal ρ [(0, c), (1, j), (2, 0)] = c + ρ 0 j := (eR_val (eR_b 0 (eR_c ρ c) (eR_s (j := j) (u := ρ 0 j) rfl))).trans (vAdd_s (by omega))
      omega
    · cases h2⟩
/-- both fail alike, or both come to the end of the text -/
def LE (t : Nat) (cH : eD) (sh : List (Nat × Nat × Nat)) (d d2 : Nat) (hpC : List vOb) (klC : vLs) (hpR : List vOb) (klR : vLs) (τ K R : Nat → Nat) (z m : Nat) : Prop := (∃ k a, (∃ kl' hp', kRe vms vdf d vt_X10_read 0 0 (21, klC, [], hpC) (55, kl', [.inl 4294967295], hp') ∧ hC hp' 1 11 (.inl k) ∧ hC hp' 1 12 (.inl a) ∧ CF t hpC hp') ∧ (∃ kl' hp', kRe vms vdf d2 vt_X12_town 0 0 (69, klR, [], hpR) (98, kl', [.inl (eBn 1 4294967295 a)], hp') ∧ hC hp' 220 15 (.inl k) ∧ hC hp' 220 16 (.inl a) ∧ RF hpR hp')) ∨
  (∃ ρ' ht' N' DC' NM' TK' BR' ST', PV ρ' τ K R z m N' DC' NM' TK' BR' ST' ∧ ρ' 7 (ρ' 0 0) = 0 ∧ (∃ kl' hp', kRe vms vdf d vt_X10_read 0 0 (21, klC, [], hpC) (39, kl', [], hp') ∧ eLm ρ' (LSC t) kl' ∧ CM t cH sh hp' τ K z m ρ' ht' N' DC' TK' BR' ST' ∧ CF t hpC hp') ∧ (∃ kl' hp', kRe vms vdf d2 vt_X12_town 0 0 (69, klR, [], hpR) (69, kl', [], hp') ∧ eLm ρ' LSR kl' ∧ RS hp' τ R z m ρ' ht' NM' TK' BR' ST' ∧ RF hpR hp'))
theorem lpT17 {d d2 : Nat} (hd : 20 ≤ d) (hd2 : 20 ≤ d2) {τ K R : Nat → Nat} {z m : Nat} : ∀ (f : Nat) {hpC hpR : List vOb} {klC klR : vLs} {N DC NM TK BR ST : Nat → Nat} {ht : Nat} {ρ : Nat → Nat → Nat}, z - ρ 0 0 ≤ f → PV ρ τ K R z m N DC NM TK BR ST → TX ρ τ K R z m → CM 17 cH17 shc17 hpC τ K z m ρ ht N DC TK BR ST → hC hpC 1 4 (.inl (ρ 0 0)) → eLm ρ (LSC 17) klC → RS hpR τ R z m ρ ht NM TK BR ST → eLm ρ LSR klR → LE 17 cH17 shc17 d d2 hpC klC hpR klR τ K R z m := fun f => by
  induction f with
  | zero =>
    intro hpC hpR klC klR N DC NM TK BR ST ht ρ hf hP hX hM hn hlC hR hlR
    obtain ⟨kl1, hp1, k1, k2, hM1, ⟨W, k4, hW⟩, -, hLk⟩ := cA17 hd hP hM hn hlC
    have hk := tab_k hP.1 (u := ρ 0 0) hP.2.1
    have hn9 := hP.2.1
    by_cases c : ρ 3 (ρ 0 0) = 0
    · rw [if_pos c] at k1
      exact Or.inr ⟨ρ, ht, N, DC, NM, TK, BR, ST, hP, by omega, ⟨kl1, hp1, k1, k2, hM1, CF_1 k4 hW⟩, ⟨klR, hpR, kRe.rf _, hlR, hR, RF_rf _⟩⟩
    · rw [if_neg c] at k1
      have hb := PV_b hP
      have b14 : ∀ j, 1 ≤ j → j ≤ 4 → ρ 0 j ≤ 8 := fun j j1 j2 => by
        rcases (show j = 1 ∨ j = 2 ∨ j = 3 ∨ j = 4 by omega) with rfl | rfl | rfl | rfl <;> omega
      rcases ln17_any hd hd2 hP hX hM1 hLk k2 hR hlR c with ⟨k, a, ⟨kl2, hp2, W2, q1, q2, q3, q4, q5⟩, ⟨kl3, hp3, W3, r1, r2, r3, r4, r5⟩⟩ | ⟨ρ', ht', N', DC', NM', TK', BR', ST', hP', hX', hlt, -⟩
      · exact Or.inl ⟨k, a, ⟨kl2, hp2, k1.tr q1, q2, q3, (CF_1 k4 hW).tr (CF_w q4 q5)⟩, ⟨kl3, hp3, r1, r2, r3, RF_w b14 r4 r5⟩⟩
      · have := hP'.2.1
        omega
  | succ f ih =>
    intro hpC hpR klC klR N DC NM TK BR ST ht ρ hf hP hX hM hn hlC hR hlR
    obtain ⟨kl1, hp1, k1, k2, hM1, ⟨W, k4, hW⟩, -, hLk⟩ := cA17 hd hP hM hn hlC
    have hk := tab_k hP.1 (u := ρ 0 0) hP.2.1
    by_cases c : ρ 3 (ρ 0 0) = 0
    · rw [if_pos c] at k1
      exact Or.inr ⟨ρ, ht, N, DC, NM, TK, BR, ST, hP, by omega, ⟨kl1, hp1, k1, k2, hM1, CF_1 k4 hW⟩, ⟨klR, hpR, kRe.rf _, hlR, hR, RF_rf _⟩⟩
    · rw [if_neg c] at k1
      have hb := PV_b hP
      have b14 : ∀ j, 1 ≤ j → j ≤ 4 → ρ 0 j ≤ 8 := fun j j1 j2 => by
        rcases (show j = 1 ∨ j = 2 ∨ j = 3 ∨ j = 4 by omega) with rfl | rfl | rfl | rfl <;> omega
      rcases ln17_any hd hd2 hP hX hM1 hLk k2 hR hlR c with ⟨k, a, ⟨kl2, hp2, W2, q1, q2, q3, q4, q5⟩, ⟨kl3, hp3, W3, r1, r2, r3, r4, r5⟩⟩ | ⟨ρ', ht', N', DC', NM', TK', BR', ST', hP', hX', hlt, ⟨kl2, hp2, W2, q1, q2, q3, q4, q5, q6⟩, ⟨kl3, hp3, W3, r1, r2, r3, r4, r5⟩⟩
      · exact Or.inl ⟨k, a, ⟨kl2, hp2, k1.tr q1, q2, q3, (CF_1 k4 hW).tr (CF_w q4 q5)⟩, ⟨kl3, hp3, r1, r2, r3, RF_w b14 r4 r5⟩⟩
      · have g1 : CF 17 hpC hp2 := (CF_1 k4 hW).tr (CF_w q5 q6)
        have g2 : RF hpR hp3 := RF_w b14 r4 r5
        rcases ih (by omega) hP' hX' q3 q4 q2 r3 r2 with ⟨k, a, ⟨kl4, hp4, u1, u2, u3, u4⟩, ⟨kl5, hp5, w1, w2, w3, w4⟩⟩ | ⟨ρ2, ht2, N2, DC2, NM2, TK2, BR2, ST2, hP2, h72, ⟨kl4, hp4, u1, u2, u3, u4⟩, ⟨kl5, hp5, w1, w2, w3, w4⟩⟩
        · exact Or.inl ⟨k, a, ⟨kl4, hp4, (k1.tr q1).tr u1, u2, u3, g1.tr u4⟩, ⟨kl5, hp5, r1.tr w1, w2, w3, g2.tr w4⟩⟩
        · exact Or.inr ⟨ρ2, ht2, N2, DC2, NM2, TK2, BR2, ST2, hP2, h72, ⟨kl4, hp4, (k1.tr q1).tr u1, u2, u3, g1.tr u4⟩, ⟨kl5, hp5, r1.tr w1, w2, w3, g2.tr w4⟩⟩
theorem lpT4 {d d2 : Nat} (hd : 20 ≤ d) (hd2 : 20 ≤ d2) {τ K R : Nat → Nat} {z m : Nat} : ∀ (f : Nat) {hpC hpR : List vOb} {klC klR : vLs} {N DC NM TK BR ST : Nat → Nat} {ht : Nat} {ρ : Nat → Nat → Nat}, z - ρ 0 0 ≤ f → PV ρ τ K R z m N DC NM TK BR ST → TX ρ τ K R z m → CM 4 cH4 shc4 hpC τ K z m ρ ht N DC TK BR ST → hC hpC 1 4 (.inl (ρ 0 0)) → eLm ρ (LSC 4) klC → RS hpR τ R z m ρ ht NM TK BR ST → eLm ρ LSR klR → LE 4 cH4 shc4 d d2 hpC klC hpR klR τ K R z m := fun f => by
  induction f with
  | zero =>
    intro hpC hpR klC klR N DC NM TK BR ST ht ρ hf hP hX hM hn hlC hR hlR
    obtain ⟨kl1, hp1, k1, k2, hM1, ⟨W, k4, hW⟩, -, hLk⟩ := cA4 hd hP hM hn hlC
    have hk := tab_k hP.1 (u := ρ 0 0) hP.2.1
    have hn9 := hP.2.1
    by_cases c : ρ 3 (ρ 0 0) = 0
    · rw [if_pos c] at k1
      exact Or.inr ⟨ρ, ht, N, DC, NM, TK, BR, ST, hP, by omega, ⟨kl1, hp1, k1, k2, hM1, CF_1 k4 hW⟩, ⟨klR, hpR, kRe.rf _, hlR, hR, RF_rf _⟩⟩
    · rw [if_neg c] at k1
      have hb := PV_b hP
      have b14 : ∀ j, 1 ≤ j → j ≤ 4 → ρ 0 j ≤ 8 := fun j j1 j2 => by
        rcases (show j = 1 ∨ j = 2 ∨ j = 3 ∨ j = 4 by omega) with rfl | rfl | rfl | rfl <;> omega
      rcases ln4_any hd hd2 hP hX hM1 hLk k2 hR hlR c with ⟨k, a, ⟨kl2, hp2, W2, q1, q2, q3, q4, q5⟩, ⟨kl3, hp3, W3, r1, r2, r3, r4, r5⟩⟩ | ⟨ρ', ht', N', DC', NM', TK', BR', ST', hP', hX', hlt, -⟩
      · exact Or.inl ⟨k, a, ⟨kl2, hp2, k1.tr q1, q2, q3, (CF_1 k4 hW).tr (CF_w q4 q5)⟩, ⟨kl3, hp3, r1, r2, r3, RF_w b14 r4 r5⟩⟩
      · have := hP'.2.1
        omega
  | succ f ih =>
    intro hpC hpR klC klR N DC NM TK BR ST ht ρ hf hP hX hM hn hlC hR hlR
    obtain ⟨kl1, hp1, k1, k2, hM1, ⟨W, k4, hW⟩, -, hLk⟩ := cA4 hd hP hM hn hlC
    have hk := tab_k hP.1 (u := ρ 0 0) hP.2.1
    by_cases c : ρ 3 (ρ 0 0) = 0
    · rw [if_pos c] at k1
      exact Or.inr ⟨ρ, ht, N, DC, NM, TK, BR, ST, hP, by omega, ⟨kl1, hp1, k1, k2, hM1, CF_1 k4 hW⟩, ⟨klR, hpR, kRe.rf _, hlR, hR, RF_rf _⟩⟩
    · rw [if_neg c] at k1
      have hb := PV_b hP
      have b14 : ∀ j, 1 ≤ j → j ≤ 4 → ρ 0 j ≤ 8 := fun j j1 j2 => by
        rcases (show j = 1 ∨ j = 2 ∨ j = 3 ∨ j = 4 by omega) with rfl | rfl | rfl | rfl <;> omega
      rcases ln4_any hd hd2 hP hX hM1 hLk k2 hR hlR c with ⟨k, a, ⟨kl2, hp2, W2, q1, q2, q3, q4, q5⟩, ⟨kl3, hp3, W3, r1, r2, r3, r4, r5⟩⟩ | ⟨ρ', ht', N', DC', NM', TK', BR', ST', hP', hX', hlt, ⟨kl2, hp2, W2, q1, q2, q3, q4, q5, q6⟩, ⟨kl3, hp3, W3, r1, r2, r3, r4, r5⟩⟩
      · exact Or.inl ⟨k, a, ⟨kl2, hp2, k1.tr q1, q2, q3, (CF_1 k4 hW).tr (CF_w q4 q5)⟩, ⟨kl3, hp3, r1, r2, r3, RF_w b14 r4 r5⟩⟩
      · have g1 : CF 4 hpC hp2 := (CF_1 k4 hW).tr (CF_w q5 q6)
        have g2 : RF hpR hp3 := RF_w b14 r4 r5
        rcases ih (by omega) hP' hX' q3 q4 q2 r3 r2 with ⟨k, a, ⟨kl4, hp4, u1, u2, u3, u4⟩, ⟨kl5, hp5, w1, w2, w3, w4⟩⟩ | ⟨ρ2, ht2, N2, DC2, NM2, TK2, BR2, ST2, hP2, h72, ⟨kl4, hp4, u1, u2, u3, u4⟩, ⟨kl5, hp5, w1, w2, w3, w4⟩⟩
        · exact Or.inl ⟨k, a, ⟨kl4, hp4, (k1.tr q1).tr u1, u2, u3, g1.tr u4⟩, ⟨kl5, hp5, r1.tr w1, w2, w3, g2.tr w4⟩⟩
        · exact Or.inr ⟨ρ2, ht2, N2, DC2, NM2, TK2, BR2, ST2, hP2, h72, ⟨kl4, hp4, (k1.tr q1).tr u1, u2, u3, g1.tr u4⟩, ⟨kl5, hp5, r1.tr w1, w2, w3, g2.tr w4⟩⟩
