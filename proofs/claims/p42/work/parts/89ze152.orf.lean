/-! ===== what is told of isName() and find() ===== -/
theorem eCo_mk {ρ : Nat → Nat → Nat} {y : eX} {c : Nat} (hy : eR ρ y c) : eCo ρ (0, y, [(0, c)], true) := by
  unfold eCo
  dsimp only
  rw [if_neg (by decide), eR_val hy, eR_val (eR_c ρ c)]
  exact Nat.beq_refl _
theorem eCo_b {ρ : Nat → Nat → Nat} {y : eX} {v c : Nat} {b : Bool} (hy : eR ρ y v) (hv : v < 4294967296) (hc : c < 4294967296) (h : eCo ρ (1, y, [(0, c)], b)) : b = true ↔ v ≠ c := by
  unfold eCo at h
  dsimp only at h
  rw [if_neg (by decide), eR_val hy, eR_val (eR_c ρ c)] at h
  have h1 : (!Nat.beq (sBi v) (sBi c)) = b := h
  by_cases e : v = c
  · rw [e, Nat.beq_refl] at h1
    rw [← h1, e]
    exact ⟨(fun h => by cases h), fun h => absurd rfl h⟩
  · rw [beq_f (fun h2 => e (sBi_inj hv hc h2))] at h1
    rw [← h1]
    exact ⟨fun _ => e, fun _ => rfl⟩
/-- the token that the reference holds is the one at x -/
def oTokX (D : eD) : Option (eX × eCs) := match eGet 220 [(0, 11)] D, eGet 220 [(0, 17)] D with
  | some (.inl y, g), some (.inr (.inl y2), g2) => bif (eEq y (y.dropLast ++ [(4, 7)]) && (eEq y2 (y.dropLast ++ [(4, 8)]) && elB ecB g2 [(0, y, [(0, 1)], true)])) && (oPos y.dropLast && eWf y.dropLast) then some (y.dropLast, g) else none
  | _, _ => none
theorem oTokX_ok {ρ : Nat → Nat → Nat} {D : eD} {x : eX} {g : eCs} {hp : List vOb} {z : Nat} (h0 : ρ 0 0 ≤ z) (h1 : ∀ u, ρ 1 u ≤ z) (h : oTokX D = some (x, g)) (hd : eDr ρ D hp) (hg : ∀ q ∈ g, eCo ρ q) : ∃ u, eR ρ x u ∧ u ≤ z ∧ hC hp 220 11 (.inl (ρ 7 u)) ∧ (ρ 7 u = 1 → hC hp 220 17 (.inr (.inr (.inl (ρ 8 u))))) := by
  unfold oTokX at h
  split at h
  · next y g1 y2 g2 hy hy2 =>
    cases hb : ((eEq y (y.dropLast ++ [(4, 7)]) && (eEq y2 (y.dropLast ++ [(4, 8)]) && elB ecB g2 [(0, y, [(0, 1)], true)])) && (oPos y.dropLast && eWf y.dropLast)) with
    | false => rw [hb] at h; cases h
    | true =>
      rw [hb, cond_true] at h
      rw [Bool.and_eq_true, Bool.and_eq_true, Bool.and_eq_true, Bool.and_eq_true] at hb
      obtain ⟨⟨b1, b2, b3⟩, b4, b5⟩ := hb
      have e := Prod.mk.inj (Option.some.inj h)
      obtain ⟨e1, e2⟩ := e
      have b1 := eEq_ok b1
      have b2 := eEq_ok b2
      have b3 := elB_ok ecB_ok b3
      rw [e1] at b1 b2 b4 b5
      have hx := eWf_ok (ρ := ρ) b5
      refine ⟨_, hx, oPos_ok h0 h1 b4 hx, ?_, fun ht => ?_⟩
      · obtain ⟨u, u1, u2⟩ := eDr_i hd hy (fun q hq => hg q (by rw [← e2]; exact hq))
        rw [b1] at u1
        rw [eR_fun (eR_t 7 hx) u1]
        exact u2
      · have hy7 : eR ρ y (ρ 7 (eVal ρ x)) := by
          rw [b1]
          exact eR_t 7 hx
        rw [ht] at hy7
        obtain ⟨u, u1, u2⟩ := eDr_l hd hy2 (fun q hq => by
          rw [b3, List.mem_singleton] at hq
          rw [hq]
          exact eCo_mk hy7)
        rw [b2] at u1
        rw [eR_fun (eR_t 8 hx) u1]
        exact u2
  · cases h
theorem xNr_le (R : Nat → Nat) (w : Nat) : ∀ (k i : Nat), xNr R w k i ≤ 1
  | 0, _ => Nat.le_refl _
  | k + 1, i => by
    unfold xNr
    split
    · omega
    · exact xNr_le R w k (i + 1)
/-- isName() of the reference: table 11 -/
def oNam : eCalT := fun j av D W path => bif Nat.beq j 68 then (match av, path with
  | [.inr (.inr (some k))], b :: path' => bif Nat.beq k 220 && oWm W then (match oTokX D with
    | some (x, g) => some (some (.inl [(0, bif b then 1 else 0)]), D, W, (1, x ++ [(4, 11)], [(0, 0)], b) :: g, path')
    | none => none) else none
  | _, _ => none) else none
theorem oNam_ok {ρ : Nat → Nat → Nat} {τ R : Nat → Nat} {z m : Nat} {hp0 : List vOb} (hR : nRdy hp0 τ z m) (hS : mRs hp0 R) (h0 : ρ 0 0 ≤ z) (hT : tabM ρ τ z m) (hN : ∀ u, u ≤ z → ρ 11 u = if ρ 7 u = 1 then xNr R (ρ 8 u) 25 0 else 0) (d : Nat) (hd : 11 ≤ d) : eCalOK vms vdf d ρ hp0 oNam := by
  intro j av D W path r D' W' C path' h hQ kav hp ht hD hf
  unfold oNam at h
  cases hj : Nat.beq j 68 with
  | false => rw [hj] at h; cases h
  | true =>
    rw [hj, cond_true] at h
    have hj := Nat.eq_of_beq_eq_true hj
    subst hj
    split at h
    · next k b path9 =>
      cases hk : (Nat.beq k 220 && oWm W) with
      | false => rw [hk] at h; cases h
      | true =>
        rw [hk, cond_true] at h
        rw [Bool.and_eq_true] at hk
        have hk1 := Nat.eq_of_beq_eq_true hk.1
        subst hk1
        split at h
        · next x g hx =>
          have e := Prod.mk.inj (Option.some.inj h)
          have e2 := Prod.mk.inj e.2
          have e3 := Prod.mk.inj e2.2
          have e4 := Prod.mk.inj e3.2
          rw [← e.1, ← e2.1, ← e3.1]
          rw [← e4.1] at hQ
          obtain ⟨kv, ekv, hkv⟩ := eTr_1 ht
          have hkv : kv = .inr (.inr (.inr (.inl (some 220)))) := hkv
          subst ekv hkv
          obtain ⟨u, u1, u2, u3, u4⟩ := oTokX_ok h0 hT.1 hx hD (fun q hq => hQ q (List.mem_cons_of_mem _ hq))
          have hw := oWm_ok (ρ := ρ) hk.2
          have hRp := nRdy_g hf (fun k i hm => ⟨(hw k i hm).1, (hw k i hm).2.2⟩) hR
          have hSp : mRs hp R := by
            refine ⟨hC_fr hf (fun hm => ?_) hS.1, fun i hi => ⟨hC_fr hf (fun hm => ?_) (hS.2 i hi).1, (hS.2 i hi).2⟩⟩
            · have := (hw _ _ hm).2.2 rfl
              omega
            · exact (hw _ _ hm).2.1 rfl
          obtain ⟨d', rfl⟩ : ∃ d', d = d' + 1 := ⟨d - 1, by omega⟩
          obtain ⟨t1, t2, t7, t8, t9, t10⟩ := hT.2 u u2
          have hto := (xLex_to (τ := fun i => τ i % 256) (m := m) u2).1
          obtain ⟨kl, k0, k4, k1, k2, k3, kh, khl⟩ := xTm_i hto
          rw [← t7] at kl
          obtain ⟨kr, hp', c1, c2, c3⟩ := mn_ok (d := d') (by omega) (t := ρ 7 u) (w := ρ 8 u) (by omega) hRp.1 hSp u3 (fun h => ⟨u4 h, by
            rw [t7] at h
            have h2 := k1.mp h
            rw [t8]
            rcases hto with ⟨b, -⟩ | ⟨b, -⟩ | ⟨b, b1, b2, b3⟩ | ⟨v, hv, -⟩ | ⟨c, hv, -⟩
            · omega
            · omega
            · exact xE256_lt b1 b3
            · rw [hv] at h2; cases h2
            · rw [hv] at h2; cases h2⟩)
          rw [← hN u u2] at c2
          subst c2
          have hq := hQ _ List.mem_cons_self
          have hle : ρ 11 u ≤ 1 := by
            rw [hN u u2]
            split
            · exact xNr_le _ _ _ _
            · omega
          have hb := eCo_b (eR_t 11 u1) (by omega) (by decide) hq
          refine ⟨_, hp', c1, ⟨ρ 11 u, ?_, rfl⟩, fun e he hg => ?_, hf.tr (eFr_nil c3)⟩
          · cases b with
            | true =>
              have := hb.mp rfl
              have e1 : ρ 11 u = 1 := by omega
              rw [e1]
              exact eR_c ρ 1
            | false =>
              have e1 : ρ 11 u = 0 := Classical.byContradiction (fun h => by
                have := hb.mpr h
                cases this)
              rw [e1]
              exact eR_c ρ 0
          · obtain ⟨i, v, i1, i2, i3⟩ := hD e he hg
            exact ⟨i, v, i1, eC_fr0 c3 i2, i3⟩
        · cases h
    · cases h
/-- find() of the reference: from, the symbol of how many, the table -/
def oFtb (f : Nat) : List (Nat × Nat × Nat) → Option (Nat × Nat)
  | [] => none
  | e :: l => bif Nat.beq e.1 f then some e.2 else oFtb f l
theorem oFtb_ok {f : Nat} : ∀ {l : List (Nat × Nat × Nat)} {q : Nat × Nat}, oFtb f l = some q → (f, q) ∈ l
  | [], _, h => by cases h
  | e :: l, q, h => by
    unfold oFtb at h
    cases hb : Nat.beq e.1 f with
    | true =>
      rw [hb, cond_true] at h
      have e1 := Nat.eq_of_beq_eq_true hb
      have e2 := Option.some.inj h
      rw [← e1, ← e2]
      exact List.mem_cons_self
    | false =>
      rw [hb, cond_false] at h
      exact List.mem_cons_of_mem _ (oFtb_ok h)
/-- the names are as they were, but for the new pain's -/
def oWn (f : Nat) (W : List (Nat × eX)) : Bool := W.all (fun e => !Nat.beq e.1 225 || (Nat.ble f 30 && eEq e.2 [(0, 40), (1, 3), (2, 0)]))
def oFdM (FT : List (Nat × Nat × Nat)) : eCalT := fun j av D W path => bif Nat.beq j 69 then (match av with
  | [.inr (.inr (some k)), .inl xf, .inl xc] => bif Nat.beq k 220 && oWm W then (match eCn xf with
    | some f => (match oFtb f FT, oTokX D with
      | some q, some (x, g) => bif eEq xc [(1, q.1)] && oWn f W then some (some (.inl (x ++ [(4, q.2)])), D, W, (0, x ++ [(4, 7)], [(0, 1)], true) :: g, path) else none
      | _, _ => none)
    | none => none) else none
  | _ => none) else none
/-- what the tables of find() say -/
def tabF (ρ : Nat → Nat → Nat) (hp0 : List vOb) (NM : Nat → Nat) (z : Nat) (FT : List (Nat × Nat × Nat)) : Prop := ∀ e ∈ FT, ρ 0 e.2.1 ≤ 8 ∧ e.1 ≤ 40 ∧ (e.1 ≤ 30 → e.1 + ρ 0 e.2.1 ≤ 40) ∧ mNm hp0 NM e.1 (ρ 0 e.2.1) ∧ ∀ u, u ≤ z → ρ e.2.2 u = xFc (fun i => i) (xFi (fun i => NM (e.1 + i)) (ρ 8 u) (ρ 0 e.2.1) 0)
theorem oFdM_ok {ρ : Nat → Nat → Nat} {τ NM : Nat → Nat} {z m : Nat} {hp0 : List vOb} {FT : List (Nat × Nat × Nat)} (hR : nRdy hp0 τ z m) (h9 : hC hp0 220 9 (.inr (.inr (.inr (.inl (some 225)))))) (h0 : ρ 0 0 ≤ z) (h3 : ρ 0 3 ≤ 8) (hT : tabM ρ τ z m) (hF : tabF ρ hp0 NM z FT) (d : Nat) (hd : 11 ≤ d) : eCalOK vms vdf d ρ hp0 (oFdM FT) := by
  intro j av D W path r D' W' C path' h hQ kav hp ht hD hf
  unfold oFdM at h
  cases hj : Nat.beq j 69 with
  | false => rw [hj] at h; cases h
  | true =>
    rw [hj, cond_true] at h
    have hj := Nat.eq_of_beq_eq_true hj
    subst hj
    split at h
    · next k xf xc =>
      cases hk : (Nat.beq k 220 && oWm W) with
      | false => rw [hk] at h; cases h
      | true =>
        rw [hk, cond_true] at h
        rw [Bool.and_eq_true] at hk
        have hk1 := Nat.eq_of_beq_eq_true hk.1
        subst hk1
        split at h
        · next f hcf =>
          split at h
          · next q x g hq hx =>
            cases hb : (eEq xc [(1, q.1)] && oWn f W) with
            | false => rw [hb] at h; cases h
            | true =>
              rw [hb, cond_true] at h
              rw [Bool.and_eq_true] at hb
              have e := Prod.mk.inj (Option.some.inj h)
              have e2 := Prod.mk.inj e.2
              have e3 := Prod.mk.inj e2.2
              have e4 := Prod.mk.inj e3.2
              rw [← e.1, ← e2.1, ← e3.1]
              rw [← e4.1] at hQ
              obtain ⟨kv, vf, vc, ekv, hkv, ⟨uf, f1, f2⟩, ⟨uc, c1, c2⟩⟩ := eTr_3 ht
              have hkv : kv = .inr (.inr (.inr (.inl (some 220)))) := hkv
              have ef := eCn_val hcf f1
              have exc := eEq_ok hb.1
              rw [exc] at c1
              have ec := eR_fun c1 (eR_s (j := q.1) (u := ρ 0 q.1) rfl)
              subst ekv hkv f2 c2 ef ec
              obtain ⟨a1, a2, a3, a4, a5⟩ := hF _ (oFtb_ok hq)
              dsimp only at a1 a2 a3 a4 a5
              obtain ⟨u, u1, u2, u3, u4⟩ := oTokX_ok h0 hT.1 hx hD (fun q hq => hQ q (List.mem_cons_of_mem _ hq))
              have hw := oWm_ok (ρ := ρ) hk.2
              have hRp := nRdy_g hf (fun k i hm => ⟨(hw k i hm).1, (hw k i hm).2.2⟩) hR
              have h9p : hC hp 220 9 (.inr (.inr (.inr (.inl (some 225))))) := hC_fr hf (fun hm => by
                have := (hw _ _ hm).2.2 rfl
                omega) h9
              have hNp : mNm hp NM uf (ρ 0 q.1) := fun i hi => ⟨hC_fr hf (fun hm => by
                obtain ⟨e, e1, e2, e3⟩ := eMd_min hm
                have h1 := List.all_eq_true.mp hb.2 e e1
                rw [e2, Nat.beq_refl, Bool.not_true, Bool.false_or, Bool.and_eq_true] at h1
                have h2 := eEq_ok h1.2
                have h4 := Nat.le_of_ble_eq_true h1.1
                have h5 := a3 h4
                have h6 : eVal ρ e.2 = 40 + ρ 0 3 := by
                  rw [h2]
                  exact (eR_val (eR_b 0 (eR_c ρ 40) (eR_s (j := 3) (u := ρ 0 3) rfl))).trans (vAdd_s (by omega))
                omega) (a4 i hi).1, (a4 i hi).2⟩
              obtain ⟨d', rfl⟩ : ∃ d', d = d' + 1 := ⟨d - 1, by omega⟩
              obtain ⟨t1, t2, t7, t8, t9, t10⟩ := hT.2 u u2
              have hto := (xLex_to (τ := fun i => τ i % 256) (m := m) u2).1
              obtain ⟨kl, k0, k4, k1, k2, k3, kh, khl⟩ := xTm_i hto
              have v7 := eR_t 7 u1
              have g7 := eCo_eq v7 (by rw [t7]; omega) (by decide) (hQ _ List.mem_cons_self)
              have hlt : ρ 8 u < 18446744073709551616 := by
                rw [t7] at g7
                have h2 := k1.mp g7
                rw [t8]
                rcases hto with ⟨b, -⟩ | ⟨b, -⟩ | ⟨b, b1, b2, b3⟩ | ⟨v, hv, -⟩ | ⟨c, hv, -⟩
                · omega
                · omega
                · exact xE256_lt b1 b3
                · rw [hv] at h2; cases h2
                · rw [hv] at h2; cases h2
              obtain ⟨kr, hp', c1, c2, c3⟩ := mf_ok (d := d') (by omega) (f := uf) (c := ρ 0 q.1) (w := ρ 8 u) hlt (by omega) (by omega) hRp.1 h9p (u4 g7) hNp
              rw [← a5 u u2] at c2
              subst c2
              refine ⟨_, hp', c1, ⟨_, eR_t q.2 u1, rfl⟩, fun e he hg => ?_, hf.tr (eFr_nil c3)⟩
              obtain ⟨i, v, i1, i2, i3⟩ := hD e he hg
              exact ⟨i, v, i1, eC_fr0 c3 i2, i3⟩
          · cases h
        · cases h
    · cases h
/-- find() of the class, no name written: table 12 -/
def oWt (t : Nat) (W : List (Nat × eX)) : Bool := W.all (fun e => !Nat.beq e.1 (t + 11) && (!Nat.beq e.1 (t + 12) && (!Nat.beq e.1 t || (match eCn e.2 with
  | some c => Nat.blt c 16
  | none => false))))
theorem oWt_ok {ρ : Nat → Nat → Nat} {t : Nat} {W : List (Nat × eX)} (h : oWt t W = true) : ∀ k i, sMin (eMd ρ W) k i → k ≠ t + 11 ∧ k ≠ t + 12 ∧ (k = t → i < 16) := fun k i hm => by
  obtain ⟨e, e1, e2, e3⟩ := eMd_min hm
  have h1 := List.all_eq_true.mp h e e1
  rw [Bool.and_eq_true, Bool.and_eq_true, e2] at h1
  obtain ⟨h1, h2, h3⟩ := h1
  refine ⟨fun hk => ?_, fun hk => ?_, fun hk => ?_⟩
  · rw [hk, Nat.beq_refl] at h1
    cases h1
  · rw [hk, Nat.beq_refl] at h2
    cases h2
  · rw [hk, Nat.beq_refl, Bool.not_true, Bool.false_or] at h3
    split at h3
    · next c hc =>
      rw [e3, eR_val (eCn_ok hc)]
      exact Nat.blt_eq.mp h3
    · cases h3
def oFdC (t : Nat) : eCalT := fun j av D W path => bif Nat.beq j 41 then (match av with
  | [.inr (.inr (some k)), .inr (.inl y)] => bif (Nat.beq k t && oWt t W) && (eEq y (y.dropLast ++ [(4, 5)]) && (oPos y.dropLast && eWf y.dropLast)) then some (some (.inl (y.dropLast ++ [(4, 12)])), D, W, [], path) else none
  | _ => none) else none
/-- what the table of find() of the class says -/
def tabG (ρ : Nat → Nat → Nat) (N DC : Nat → Nat) (c z : Nat) : Prop := c ≤ 24 ∧ ∀ u, u ≤ z → ρ 12 u = xFc DC (xFi N (ρ 5 u) c 0)
def xfOK (t : Nat) : Prop := ∀ {d : Nat}, 8 ≤ d → ∀ {N D : Nat → Nat} {c w : Nat}, w < 18446744073709551616 → c ≤ 24 → ∀ {hp : List vOb}, eSh [(t, 72, 19), (t + 11, 4, 24), (t + 12, 1, 24)] hp → cNm t hp N D c → ∃ kr hp', (∃ N, ∀ fuel, N ≤ fuel → vCalD vms vdf fuel (d + 1) 41 [.inr (.inr (.inr (.inl (some t)))), .inr (.inr (.inl w))] hp = some (kr, hp', 0, 0)) ∧ fnP hp (xFc D (xFi N w c 0)) kr hp'
theorem xfOK_4 : xfOK 4 := fun hd _ _ _ _ hw hc _ hs hN => xf_ok_4 hd hw hc hs hN
theorem xfOK_17 : xfOK 17 := fun hd _ _ _ _ hw hc _ hs hN => xf_ok_17 hd hw hc hs hN
theorem cNm_g {md : sMd} {t c : Nat} {hp hp' : List vOb} {N D : Nat → Nat} (hf : sFr md hp hp') (hm : ∀ k i, sMin md k i → k ≠ t + 11 ∧ k ≠ t + 12 ∧ (k = t → i < 16)) (h : cNm t hp N D c) : cNm t hp' N D c := by
  refine ⟨hC_fr hf (fun hi => ?_) h.1, hC_fr hf (fun hi => ?_) h.2.1, hC_fr hf (fun hi => ?_) h.2.2.1, fun i hi => ⟨hC_fr hf (fun hi2 => (hm _ _ hi2).1 rfl) (h.2.2.2 i hi).1, (h.2.2.2 i hi).2.1, hC_fr hf (fun hi2 => (hm _ _ hi2).2.1 rfl) (h.2.2.2 i hi).2.2⟩⟩
  · have := (hm _ _ hi).2.2 rfl
    omega
  · have := (hm _ _ hi).2.2 rfl
    omega
  · have := (hm _ _ hi).2.2 rfl
    omega
theorem oFdC_ok {ρ : Nat → Nat → Nat} {τ K N DC : Nat → Nat} {t c z m : Nat} {hp0 : List vOb} (hX : xfOK t) (hs : eSh [(t, 72, 19), (t + 11, 4, 24), (t + 12, 1, 24)] hp0) (hN : cNm t hp0 N DC c) (h0 : ρ 0 0 ≤ z) (hT : tabC ρ τ K z m) (hG : tabG ρ N DC c z) (d : Nat) (hd : 11 ≤ d) : eCalOK vms vdf d ρ hp0 (oFdC t) := by
  intro j av D W path r D' W' C path' h hQ kav hp ht hD hf
  unfold oFdC at h
  cases hj : Nat.beq j 41 with
  | false => rw [hj] at h; cases h
  | true =>
    rw [hj, cond_true] at h
    have hj := Nat.eq_of_beq_eq_true hj
    subst hj
    split at h
    · next k y =>
      cases hk : ((Nat.beq k t && oWt t W) && (eEq y (y.dropLast ++ [(4, 5)]) && (oPos y.dropLast && eWf y.dropLast))) with
      | false => rw [hk] at h; cases h
      | true =>
        rw [hk, cond_true] at h
        rw [Bool.and_eq_true, Bool.and_eq_true, Bool.and_eq_true, Bool.and_eq_true] at hk
        obtain ⟨⟨b1, b2⟩, b3, b4, b5⟩ := hk
        have hk1 := Nat.eq_of_beq_eq_true b1
        subst hk1
        have e := Prod.mk.inj (Option.some.inj h)
        have e2 := Prod.mk.inj e.2
        have e3 := Prod.mk.inj e2.2
        rw [← e.1, ← e2.1, ← e3.1]
        obtain ⟨kv, vy, ekv, hkv, ⟨uy, y1, y2⟩⟩ := eTr_2 ht
        have hkv : kv = .inr (.inr (.inr (.inl (some k)))) := hkv
        subst ekv hkv y2
        have hx := eWf_ok (ρ := ρ) b5
        have hu := oPos_ok h0 hT.1 b4 hx
        have b3 := eEq_ok b3
        rw [b3] at y1
        have ey := eR_fun y1 (eR_t 5 hx)
        have hto := (xLex_to (τ := fun i => τ i % 256) (m := m) hu).1
        obtain ⟨t1, t2, t3, t4, t5, t6⟩ := hT.2 _ hu
        have hlt : uy < 18446744073709551616 := by
          rw [ey, t5]
          exact xE32_lt hto
        obtain ⟨d', rfl⟩ : ∃ d', d = d' + 1 := ⟨d - 1, by omega⟩
        obtain ⟨kr, hp', c1, c2, c3⟩ := hX (d := d') (by omega) hlt hG.1 (eSh_fr hf hs) (cNm_g hf (oWt_ok b2) hN)
        rw [ey, ← hG.2 _ hu] at c2
        subst c2
        refine ⟨_, hp', c1, ⟨_, eR_t 12 hx, rfl⟩, fun e he hg => ?_, hf.tr (eFr_nil c3)⟩
        obtain ⟨i, v, i1, i2, i3⟩ := hD e he hg
        exact ⟨i, v, i1, eC_fr0 c3 i2, i3⟩
    · cases h
/-- find() of the class behind one new name -/
def oWu (t : Nat) (W : List (Nat × eX)) (xc : eX) : Bool := W.all (fun e => bif Nat.beq e.1 (t + 11) || Nat.beq e.1 (t + 12) then eEq e.2 xc else (!Nat.beq e.1 t || (match eCn e.2 with
  | some c => Nat.blt c 16 || Nat.beq c 18
  | none => false)))
theorem oWu_ok {ρ : Nat → Nat → Nat} {t c : Nat} {W : List (Nat × eX)} {xc : eX} (hc : eR ρ xc c) (h : oWu t W xc = true) : ∀ k i, sMin (eMd ρ W) k i → (k = t + 11 → i = c) ∧ (k = t + 12 → i = c) ∧ (k = t → i < 16 ∨ i = 18) := fun k i hm => by
  obtain ⟨e, e1, e2, e3⟩ := eMd_min hm
  have h1 := List.all_eq_true.mp h e e1
  rw [e2] at h1
  refine ⟨fun hk => ?_, fun hk => ?_, fun hk => ?_⟩
  · rw [hk, Nat.beq_refl, Bool.true_or, cond_true] at h1
    rw [e3, eEq_ok h1, eR_val hc]
  · rw [hk, Nat.beq_refl, Bool.or_true, cond_true] at h1
    rw [e3, eEq_ok h1, eR_val hc]
  · rw [hk, beq_f (show t ≠ t + 11 by omega), beq_f (show t ≠ t + 12 by omega), Bool.or_self, cond_false, Nat.beq_refl, Bool.not_true, Bool.false_or] at h1
    split at h1
    · next c' hc' =>
      rw [e3, eR_val (eCn_ok hc')]
      rw [Bool.or_eq_true] at h1
      rcases h1 with h1 | h1
      · exact Or.inl (Nat.blt_eq.mp h1)
      · exact Or.inr (Nat.eq_of_beq_eq_true h1)
    · cases h1
def oFdD (t jc : Nat) : eCalT := fun j av D W path => bif Nat.beq j 41 then (match av, path with
  | [.inr (.inr (some k)), .inr (.inl y)], b :: path' => (match eGet t [(0, 18)] D, eGet (t + 11) [(1, jc)] D, eGet (t + 12) [(1, jc)] D with
    | some (.inl xn, []), some (.inr (.inl wn), []), some (.inl dn, []) => bif ((Nat.beq k t && (eEq xn [(1, jc), (0, 1), (2, 0)] && oWu t W [(1, jc)])) && (eEq y (y.dropLast ++ [(4, 5)]) && (oPos y.dropLast && eWf y.dropLast))) && (eEq wn (wn.dropLast ++ [(4, 5)]) && (oPos wn.dropLast && eWf wn.dropLast)) then some (some (.inl (bif b then dn else y.dropLast ++ [(4, 12)])), D, W, [(0, y ++ (wn ++ [(2, 15)]), [(0, 0)], b), (0, wn.dropLast ++ [(4, 12)], [(0, 4294967295)], true)], path') else none
    | _, _, _ => none)
  | _, _ => none) else none
theorem xFi_ext {N N' : Nat → Nat} {w : Nat} : ∀ (k i : Nat), (∀ j, i ≤ j → j < i + k → N j = N' j) → xFi N w k i = xFi N' w k i
  | 0, i, _ => rfl
  | k + 1, i, h => by
    unfold xFi
    rw [h i (by omega) (by omega), xFi_ext k (i + 1) (fun j h1 h2 => h j (by omega) (by omega))]
theorem xFi_snoc {N : Nat → Nat} {w : Nat} : ∀ (k i : Nat), xFi N w (k + 1) i = match xFi N w k i with
    | some j => some j
    | none => if N (i + k) = w then some (i + k) else none
  | 0, i => by
    unfold xFi
    rfl
  | k + 1, i => by
    show (if N i = w then some i else xFi N w (k + 1) (i + 1)) = match (if N i = w then some i else xFi N w k (i + 1)) with
      | some j => some j
      | none => if N (i + (k + 1)) = w then some (i + (k + 1)) else none
    by_cases e : N i = w
    · rw [if_pos e, if_pos e]
    · rw [if_neg e, if_neg e, xFi_snoc k (i + 1)]
      have e2 : i + 1 + k = i + (k + 1) := by omega
      rw [e2]
theorem eLc_0 {u w : Nat} (hu : u < 18446744073709551616) (hw : w < 18446744073709551616) : eLc u w = 0 ↔ u = w := by
  refine ⟨fun h => Classical.byContradiction (fun e => eLc_ne hu hw e h), fun h => by rw [h]; exact eLc_rf w⟩
theorem eCo_c {ρ : Nat → Nat → Nat} {y : eX} {v c : Nat} {b : Bool} (hy : eR ρ y v) (hv : v < 4294967296) (hc : c < 4294967296) (h : eCo ρ (0, y, [(0, c)], b)) : b = true ↔ v = c := by
  unfold eCo at h
  dsimp only at h
  rw [if_neg (by decide), eR_val hy, eR_val (eR_c ρ c)] at h
  have h1 : Nat.beq (sBi v) (sBi c) = b := h
  by_cases e : v = c
  · rw [e, Nat.beq_refl] at h1
    rw [← h1, e]
    exact ⟨fun _ => rfl, fun _ => rfl⟩
  · rw [beq_f (fun h2 => e (sBi_inj hv hc h2))] at h1
    rw [← h1]
    exact ⟨(fun h => by cases h), fun h => absurd h e⟩
theorem xFc_lt {DC : Nat → Nat} {o : Option Nat} {B : Nat} (h : ∀ i, o = some i → DC i < B) (hB : 4294967295 < B) : xFc DC o < B := by
  match o with
  | none => exact hB
  | some i => exact h i rfl
theorem oFdD_ok {ρ : Nat → Nat → Nat} {τ K N DC : Nat → Nat} {t jc z m : Nat} {hp0 : List vOb} (hX : xfOK t) (hs : eSh [(t, 72, 19), (t + 11, 4, 24), (t + 12, 1, 24)] hp0) (hN : cNm t hp0 N DC (ρ 0 jc)) (hc0 : ρ 0 jc ≤ 24) (hDC : ∀ i, i < ρ 0 jc → DC i < 4294967295) (h0 : ρ 0 0 ≤ z) (hT : tabC ρ τ K z m) (hG : tabG ρ N DC (ρ 0 jc) z) (d : Nat) (hd : 11 ≤ d) : eCalOK vms vdf d ρ hp0 (oFdD t jc) := by
  intro j av D W path r D' W' C path' h hQ kav hp ht hD hf
  unfold oFdD at h
  cases hj : Nat.beq j 41 with
  | false => rw [hj] at h; cases h
  | true =>
    rw [hj, cond_true] at h
    have hj := Nat.eq_of_beq_eq_true hj
    subst hj
    split at h
    · next k y b path9 =>
      split at h
      · next xn wn dn hxn hwn hdn =>
        cases hk : (((Nat.beq k t && (eEq xn [(1, jc), (0, 1), (2, 0)] && oWu t W [(1, jc)])) && (eEq y (y.dropLast ++ [(4, 5)]) && (oPos y.dropLast && eWf y.dropLast))) && (eEq wn (wn.dropLast ++ [(4, 5)]) && (oPos wn.dropLast && eWf wn.dropLast))) with
        | false => rw [hk] at h; cases h
        | true =>
          rw [hk, cond_true] at h
          simp only [Bool.and_eq_true] at hk
          obtain ⟨⟨⟨b1, b2, b3⟩, b4, b5, b6⟩, b7, b8, b9⟩ := hk
          have hk1 := Nat.eq_of_beq_eq_true b1
          subst hk1
          have e := Prod.mk.inj (Option.some.inj h)
          have e2 := Prod.mk.inj e.2
          have e3 := Prod.mk.inj e2.2
          have e4 := Prod.mk.inj e3.2
          rw [← e.1, ← e2.1, ← e3.1]
          rw [← e4.1] at hQ
          obtain ⟨kv, vy, ekv, hkv, ⟨uy, y1, y2⟩⟩ := eTr_2 ht
          have hkv : kv = .inr (.inr (.inr (.inl (some k)))) := hkv
          subst ekv hkv y2
          have hx := eWf_ok (ρ := ρ) b6
          have hu := oPos_ok h0 hT.1 b5 hx
          have hxw := eWf_ok (ρ := ρ) b9
          have huw := oPos_ok h0 hT.1 b8 hxw
          have b4 := eEq_ok b4
          have b7 := eEq_ok b7
          have y1' := y1
          rw [b4] at y1
          have ey := eR_fun y1 (eR_t 5 hx)
          have hto := (xLex_to (τ := fun i => τ i % 256) (m := m) hu).1
          have htw := (xLex_to (τ := fun i => τ i % 256) (m := m) huw).1
          obtain ⟨t1, t2, t3, t4, t5, t6⟩ := hT.2 _ hu
          obtain ⟨s1, s2, s3, s4, s5, s6⟩ := hT.2 _ huw
          have hlt : uy < 18446744073709551616 := by
            rw [ey, t5]
            exact xE32_lt hto
          have hltw : ρ 5 (eVal ρ wn.dropLast) < 18446744073709551616 := by
            rw [s5]
            exact xE32_lt htw
          have hjc : eR ρ [(1, jc)] (ρ 0 jc) := eR_s (j := jc) rfl
          -- what is told of the new name
          obtain ⟨n1, hxnv, hcn⟩ := eDr_i hD hxn (fun q hq => by cases hq)
          have exn := eEq_ok b2
          rw [exn] at hxnv
          have en1 := eR_fun hxnv (eR_b 0 hjc (eR_c ρ 1))
          have ev1 : eBn 0 (ρ 0 jc) 1 = ρ 0 jc + 1 := vAdd_s (by omega)
          rw [en1, ev1] at hcn
          obtain ⟨iw, vw, iw1, iw2, uw, uw1, uw2⟩ := hD _ (eGet_ok hwn) (fun q hq => by cases hq)
          obtain ⟨id, vd, id1, id2, ud, ud1, ud2⟩ := hD _ (eGet_ok hdn) (fun q hq => by cases hq)
          have eiw := eR_fun iw1 hjc
          have eid := eR_fun id1 hjc
          have uw1' := uw1
          rw [b7] at uw1
          have euw := eR_fun uw1 (eR_t 5 hxw)
          subst eiw eid uw2 ud2
          have hc : ρ 0 jc < 24 := by
            obtain ⟨ob, o1, -, o3⟩ := eSh_fr hf hs (k + 11, 4, 24) (List.mem_cons_of_mem _ List.mem_cons_self)
            obtain ⟨ob', p1, p2⟩ := iw2
            rw [o1] at p1
            have e9 := Option.some.inj p1
            subst e9
            have h24 := (List.getElem?_eq_some_iff.mp p2).1
            have o3 : ob.2.length = 24 := o3
            rw [o3] at h24
            exact h24
          have hw := oWu_ok hjc b3
          -- the names now
          have hNp : cNm k hp (fun i => if i = ρ 0 jc then uw else N i) (fun i => if i = ρ 0 jc then ud else DC i) (ρ 0 jc + 1) := by
            refine ⟨hcn, hC_fr hf (fun hm => ?_) hN.2.1, hC_fr hf (fun hm => ?_) hN.2.2.1, fun i hi => ?_⟩
            · have := (hw _ _ hm).2.2 rfl
              omega
            · have := (hw _ _ hm).2.2 rfl
              omega
            · dsimp only
              by_cases ei : i = ρ 0 jc
              · rw [if_pos ei, if_pos ei, ei]
                exact ⟨iw2, by rw [euw]; exact hltw, id2⟩
              · rw [if_neg ei, if_neg ei]
                obtain ⟨g1, g2, g3⟩ := hN.2.2.2 i (by omega)
                refine ⟨hC_fr hf (fun hm => ?_) g1, g2, hC_fr hf (fun hm => ?_) g3⟩
                · exact ei ((hw _ _ hm).1 rfl)
                · exact ei ((hw _ _ hm).2.1 rfl)
          obtain ⟨d', rfl⟩ : ∃ d', d = d' + 1 := ⟨d - 1, by omega⟩
          obtain ⟨kr, hp', c1, c2, c3⟩ := hX (d := d') (by omega) hlt (show ρ 0 jc + 1 ≤ 24 by omega) (eSh_fr hf hs) hNp
          have ext : xFi (fun i => if i = ρ 0 jc then uw else N i) uy (ρ 0 jc) 0 = xFi N uy (ρ 0 jc) 0 := xFi_ext _ _ (fun j h1 h2 => by
            rw [if_neg (show ¬ j = ρ 0 jc by omega)])
          rw [xFi_snoc, ext, Nat.zero_add] at c2
          have q1 := hQ _ List.mem_cons_self
          have q2 := hQ _ (List.mem_cons_of_mem _ List.mem_cons_self)
          have hlcm : eR ρ (y ++ (wn ++ [(2, 15)])) (eLc uy uw) := eR_b 15 y1' uw1'
          have hb := eCo_c hlcm (eLc_lt _ _) (by decide) q1
          rw [eLc_0 hlt (by rw [euw]; exact hltw)] at hb
          have hG12 : ρ 12 (eVal ρ wn.dropLast) < 4294967296 := by
            rw [hG.2 _ huw]
            exact xFc_lt (fun i hi => by
              have := xFi_some hi
              have := hDC i (by omega)
              omega) (by decide)
          have hfr := eCo_eq (eR_t 12 hxw) hG12 (by decide) q2
          rw [hG.2 _ huw] at hfr
          have hfn : xFi N (ρ 5 (eVal ρ wn.dropLast)) (ρ 0 jc) 0 = none := by
            match ho : xFi N (ρ 5 (eVal ρ wn.dropLast)) (ρ 0 jc) 0 with
            | none => rfl
            | some i =>
              rw [ho] at hfr
              have := xFi_some ho
              have h1 := hDC i (by omega)
              have h2 : DC i = 4294967295 := hfr
              omega
          refine ⟨kr, hp', c1, ?_, fun e he hg => ?_, hf.tr (eFr_nil c3)⟩
          · rw [c2]
            rw [if_pos rfl]
            cases b with
            | true =>
              have e1 := hb.mp rfl
              have e5 : xFi N uy (ρ 0 jc) 0 = none := by
                rw [e1, euw]
                exact hfn
              rw [e5, e1]
              dsimp only
              rw [if_pos rfl]
              refine ⟨ud, ud1, ?_⟩
              show Sum.inl (if ρ 0 jc = ρ 0 jc then ud else DC (ρ 0 jc)) = _
              rw [if_pos rfl]
            | false =>
              have e1 : ¬ uw = uy := fun h => by
                have := hb.mpr h.symm
                cases this
              refine ⟨ρ 12 (eVal ρ y.dropLast), eR_t 12 hx, ?_⟩
              rw [hG.2 _ hu, ← ey]
              match ho : xFi N uy (ρ 0 jc) 0 with
              | none =>
                dsimp only
                rw [if_neg e1]
                rfl
              | some i =>
                have := xFi_some ho
                dsimp only
                show Sum.inl (if i = ρ 0 jc then ud else DC i) = _
                rw [if_neg (show ¬ i = ρ 0 jc by omega)]
                rfl
          · obtain ⟨i, v, i1, i2, i3⟩ := hD e he hg
            exact ⟨i, v, i1, eC_fr0 c3 i2, i3⟩
      · cases h
    · cases h
