/-! ===== what is told of calls ===== -/
theorem eTr_1 {ρ : Nat → Nat → Nat} {a : eV} {ks : List vAV} (h : eTr ρ [a] ks) : ∃ v, ks = [v] ∧ eRv ρ a v := by
  match ks, h with
  | [], h => exact h.elim
  | [v], h => exact ⟨v, rfl, h.1⟩
  | _ :: _ :: _, h => exact h.2.elim
theorem eTr_2 {ρ : Nat → Nat → Nat} {a b : eV} {ks : List vAV} (h : eTr ρ [a, b] ks) : ∃ v w, ks = [v, w] ∧ eRv ρ a v ∧ eRv ρ b w := by
  match ks, h with
  | [], h => exact h.elim
  | [_], h => exact h.2.elim
  | [v, w], h => exact ⟨v, w, rfl, h.1, h.2.1⟩
  | _ :: _ :: _ :: _, h => exact h.2.2.elim
theorem eTr_3 {ρ : Nat → Nat → Nat} {a b c : eV} {ks : List vAV} (h : eTr ρ [a, b, c] ks) : ∃ v w y, ks = [v, w, y] ∧ eRv ρ a v ∧ eRv ρ b w ∧ eRv ρ c y := by
  match ks, h with
  | [], h => exact h.elim
  | [_], h => exact h.2.elim
  | [_, _], h => exact h.2.2.elim
  | [v, w, y], h => exact ⟨v, w, y, rfl, h.1, h.2.1, h.2.2.1⟩
  | _ :: _ :: _ :: _ :: _, h => exact h.2.2.2.elim
/-- a told int cell with a known index -/
theorem eDr_i {ρ : Nat → Nat → Nat} {D : eD} {hp : List vOb} {k b : Nat} {x : eX} {g : eCs} (hd : eDr ρ D hp) (h : eGet k [(0, b)] D = some (.inl x, g)) (hg : ∀ q ∈ g, eCo ρ q) : ∃ u, eR ρ x u ∧ hC hp k b (.inl u) := by
  obtain ⟨i, v, i1, i2, u, u1, u2⟩ := hd _ (eGet_ok h) hg
  have e := eR_fun i1 (eR_c ρ b)
  subst e u2
  exact ⟨u, u1, i2⟩
theorem eDr_l {ρ : Nat → Nat → Nat} {D : eD} {hp : List vOb} {k b : Nat} {x : eX} {g : eCs} (hd : eDr ρ D hp) (h : eGet k [(0, b)] D = some (.inr (.inl x), g)) (hg : ∀ q ∈ g, eCo ρ q) : ∃ u, eR ρ x u ∧ hC hp k b (.inr (.inr (.inl u))) := by
  obtain ⟨i, v, i1, i2, u, u1, u2⟩ := hd _ (eGet_ok h) hg
  have e := eR_fun i1 (eR_c ρ b)
  subst e u2
  exact ⟨u, u1, i2⟩
theorem eDr_ci {ρ : Nat → Nat → Nat} {D : eD} {hp : List vOb} {k c u : Nat} {x : eX} {g : eCs} (hx : eR ρ x u) (h : (∀ q ∈ g, eCo ρ q) → hC hp k c (.inl u)) (hs : eDr ρ D hp) : eDr ρ ((k, [(0, c)], .inl x, g) :: D) hp := eDr_cons (v := .inl u) (eR_c ρ c) (fun hg => ⟨h hg, u, hx, rfl⟩) hs
theorem eDr_cl {ρ : Nat → Nat → Nat} {D : eD} {hp : List vOb} {k c u : Nat} {x : eX} {g : eCs} (hx : eR ρ x u) (h : (∀ q ∈ g, eCo ρ q) → hC hp k c (.inr (.inr (.inl u)))) (hs : eDr ρ D hp) : eDr ρ ((k, [(0, c)], .inr (.inl x), g) :: D) hp := eDr_cons (v := .inr (.inr (.inl u))) (eR_c ρ c) (fun hg => ⟨h hg, u, hx, rfl⟩) hs
def oWc (W : List (Nat × eX)) : Bool := W.all (fun e => !Nat.beq e.1 2 && (!Nat.beq e.1 3 && (!Nat.beq e.1 1 || (match eCn e.2 with
  | some c => Nat.ble 4 c
  | none => false))))
theorem oWc_ok {ρ : Nat → Nat → Nat} {W : List (Nat × eX)} (h : oWc W = true) : ∀ k i, sMin (eMd ρ W) k i → k ≠ 2 ∧ k ≠ 3 ∧ (k = 1 → 4 ≤ i) := fun k i hm => by
  obtain ⟨e, e1, e2, e3⟩ := eMd_min hm
  have h1 := List.all_eq_true.mp h e e1
  rw [Bool.and_eq_true, Bool.and_eq_true, e2] at h1
  obtain ⟨h1, h2, h3⟩ := h1
  refine ⟨fun hk => ?_, fun hk => ?_, fun hk => ?_⟩
  · rw [hk] at h1
    cases h1
  · rw [hk] at h2
    cases h2
  · rw [hk, Nat.beq_refl, Bool.not_true, Bool.false_or] at h3
    split at h3
    · next c hc =>
      rw [e3, eR_val (eCn_ok hc)]
      exact Nat.le_of_ble_eq_true h3
    · cases h3
def oWm (W : List (Nat × eX)) : Bool := W.all (fun e => !Nat.beq e.1 221 && (!Nat.beq e.1 226 && (!Nat.beq e.1 220 || (match eCn e.2 with
  | some c => Nat.beq c 4 || Nat.ble 11 c
  | none => false))))
theorem oWm_ok {ρ : Nat → Nat → Nat} {W : List (Nat × eX)} (h : oWm W = true) : ∀ k i, sMin (eMd ρ W) k i → k ≠ 221 ∧ k ≠ 226 ∧ (k = 220 → i = 4 ∨ 11 ≤ i) := fun k i hm => by
  obtain ⟨e, e1, e2, e3⟩ := eMd_min hm
  have h1 := List.all_eq_true.mp h e e1
  rw [Bool.and_eq_true, Bool.and_eq_true, e2] at h1
  obtain ⟨h1, h2, h3⟩ := h1
  refine ⟨fun hk => ?_, fun hk => ?_, fun hk => ?_⟩
  · rw [hk] at h1
    cases h1
  · rw [hk] at h2
    cases h2
  · rw [hk, Nat.beq_refl, Bool.not_true, Bool.false_or] at h3
    split at h3
    · next c hc =>
      rw [Bool.or_eq_true] at h3
      rw [e3, eR_val (eCn_ok hc)]
      rcases h3 with h3 | h3
      · exact Or.inl (Nat.eq_of_beq_eq_true h3)
      · exact Or.inr (Nat.le_of_ble_eq_true h3)
    · cases h3
/-- advance() -/
def oAdvD (x : eX) : eD := [(1, [(0, 4)], .inl (x ++ [(4, 1)]), [(1, x ++ [(4, 3)], [(0, 1)], true)]), (1, [(0, 5)], .inl (x ++ [(4, 3)]), []), (1, [(0, 6)], .inl (x ++ [(4, 2)]), []), (1, [(0, 7)], .inl (x ++ [(4, 6)]), [(0, x ++ [(4, 3)], [(0, 3)], true)]), (1, [(0, 9)], .inr (.inl (x ++ [(4, 5)])), [(0, x ++ [(4, 3)], [(0, 2)], true)]), (1, [(0, 10)], .inl (x ++ [(4, 4)]), [])]
def oAdvW : List (Nat × eX) := [(1, [(0, 4)]), (1, [(0, 5)]), (1, [(0, 6)]), (1, [(0, 7)]), (1, [(0, 9)]), (1, [(0, 10)])]
def oAdv : eCalT := fun j av D W path => bif Nat.beq j 37 then (match av with
  | [.inr (.inr (some k))] => bif Nat.beq k 1 then (match eGet 1 [(0, 4)] D with
    | some (.inl x, g) => bif oPos x && oWc W then some (none, oAdvD x ++ D.filter (oKeep adF), oAdvW ++ W, g, path) else none
    | _ => none) else none
  | _ => none) else none
theorem oAdvW_ok {ρ : Nat → Nat → Nat} {W : List (Nat × eX)} {hp0 hp hp' : List vOb} (hf : sFr (eMd ρ W) hp0 hp) (h : sFr adF hp hp') : sFr (eMd ρ (oAdvW ++ W)) hp0 hp' := by
  refine (hf.mono (fun k i ⟨m, m1, m2⟩ => ⟨m, ?_, m2⟩)).tr (h.mono (fun k i ⟨m, m1, m2, m3, m4⟩ => ?_))
  · unfold eMd
    rw [List.map_append]
    exact List.mem_append_right _ m1
  · have e : (i = 4 ∨ i = 5 ∨ i = 6 ∨ i = 7 ∨ i = 9 ∨ i = 10) ∧ m.1 = 1 := by
      unfold adF at m1
      simp only [List.mem_cons, List.not_mem_nil, or_false] at m1
      rcases m1 with rfl | rfl
      · dsimp only at m3 m4
        exact ⟨by omega, rfl⟩
      · dsimp only at m3 m4
        exact ⟨by omega, rfl⟩
    obtain ⟨e1, e2⟩ := e
    rw [← m2, e2]
    have a : ∀ c, (1, [(0, c)]) ∈ oAdvW → sMin (eMd ρ (oAdvW ++ W)) 1 c := fun c hc => eMd_ofc (List.mem_append_left _ hc)
    rcases e1 with rfl | rfl | rfl | rfl | rfl | rfl
    · exact a 4 (by unfold oAdvW; simp)
    · exact a 5 (by unfold oAdvW; simp)
    · exact a 6 (by unfold oAdvW; simp)
    · exact a 7 (by unfold oAdvW; simp)
    · exact a 9 (by unfold oAdvW; simp)
    · exact a 10 (by unfold oAdvW; simp)
theorem oAdv_ok {ρ : Nat → Nat → Nat} {τ K : Nat → Nat} {z m : Nat} {hp0 : List vOb} (hR : cRdy hp0 τ K z m) (h0 : ρ 0 0 ≤ z) (hT : tabC ρ τ K z m) (d : Nat) (hd : 11 ≤ d) : eCalOK vms vdf d ρ hp0 oAdv := by
  intro j av D W path r D' W' C path' h hQ kav hp ht hD hf
  unfold oAdv at h
  cases hj : Nat.beq j 37 with
  | false => rw [hj] at h; cases h
  | true =>
    rw [hj, cond_true] at h
    have hj := Nat.eq_of_beq_eq_true hj
    subst hj
    split at h
    · next k =>
      cases hk : Nat.beq k 1 with
      | false => rw [hk] at h; cases h
      | true =>
        rw [hk, cond_true] at h
        have hk := Nat.eq_of_beq_eq_true hk
        subst hk
        split at h
        · next x g hx =>
          cases hb : (oPos x && oWc W) with
          | false => rw [hb] at h; cases h
          | true =>
            rw [hb, cond_true] at h
            rw [Bool.and_eq_true] at hb
            have e := Prod.mk.inj (Option.some.inj h)
            have e2 := Prod.mk.inj e.2
            have e3 := Prod.mk.inj e2.2
            have e4 := Prod.mk.inj e3.2
            rw [← e.1, ← e2.1, ← e3.1]
            obtain ⟨kv, ekv, hkv⟩ := eTr_1 ht
            have hkv : kv = .inr (.inr (.inr (.inl (some 1)))) := hkv
            subst ekv hkv
            obtain ⟨u, u1, u2⟩ := eDr_i hD hx (fun q hq => hQ q (by rw [← e4.1]; exact hq))
            have hu := oPos_ok h0 hT.1 hb.1 u1
            have hRp := cRdy_g hf (oWc_ok hb.2) hR
            obtain ⟨d', rfl⟩ : ∃ d', d = d' + 1 + 1 + 1 := ⟨d - 3, by omega⟩
            obtain ⟨kr, hp', c1, c2, c3, c4, c5, c6⟩ := adv_ok (d := d') (by omega) hRp hu u2
            obtain ⟨t1, t2, t3, t4, t5, t6⟩ := hT.2 u hu
            have hto := (xLex_to (τ := fun i => τ i % 256) (m := m) hu).1
            obtain ⟨T, hT1⟩ : ∃ T, (xLex (fun i => τ i % 256) z m u).1 = T := ⟨_, rfl⟩
            rw [hT1] at c4 c6 t3 t4 t5 t6 hto
            subst c2
            have hkd := xKd_lt hto
            obtain ⟨k0, k1, k2, k3⟩ := xKd_i hto
            refine ⟨none, hp', c1, trivial, ?_, oAdvW_ok hf c3⟩
            have v3 := eR_t 3 u1
            rw [t3] at v3
            have cells : hC hp' 1 5 (.inl (xKd T)) ∧ hC hp' 1 10 (.inl (xKy K T)) ∧ (T.1 = 3 → hC hp' 1 7 (.inl (xNm T))) ∧ (T.1 = 2 → hC hp' 1 9 (.inr (.inr (.inl (xE32 T.2))))) := by
              rcases c4 with ⟨a1, a2, a3⟩ | ⟨a1, a2, a3⟩ | ⟨a1, a2, a3, a4⟩ | ⟨v, rfl, a2, a3, a4⟩ | ⟨c, rfl, a2, a3⟩
              · rw [k0.mpr a1]
                unfold xKy
                rw [if_neg (by omega)]
                exact ⟨a2, a3, fun h => by omega, fun h => by omega⟩
              · rw [k1.mpr a1]
                unfold xKy
                rw [if_neg (by omega)]
                exact ⟨a2, a3, fun h => by omega, fun h => by omega⟩
              · rw [k2.mpr a1]
                unfold xKy
                rw [if_pos a1]
                exact ⟨a2, a4, fun h => by omega, fun _ => a3⟩
              · rw [k3.mpr rfl]
                exact ⟨a2, a4, (fun _ => a3), (fun h => by cases h)⟩
              · exact ⟨a2, a3, (fun h => by cases h), (fun h => by cases h)⟩
            obtain ⟨d1, d2, d3, d4⟩ := cells
            refine eDr_app ?_ (eDr_keep c3 hD)
            have v1 := eR_t 1 u1
            rw [t1] at v1
            have v2 := eR_t 2 u1
            rw [t2] at v2
            have v4 := eR_t 4 u1
            rw [t4] at v4
            have v5 := eR_t 5 u1
            rw [t5] at v5
            have v6 := eR_t 6 u1
            rw [t6] at v6
            refine eDr_ci v1 (fun hg => ?_) (eDr_ci v3 (fun _ => d1) (eDr_ci v2 (fun _ => c5) (eDr_ci v6 (fun hg => ?_) (eDr_cl v5 (fun hg => ?_) (eDr_ci v4 (fun _ => d2) eDr_nil)))))
            · have g1 := eCo_neq v3 (hg _ List.mem_cons_self)
              exact c6 (fun h => g1 (k1.mpr h))
            · have g1 := eCo_eq v3 (by omega) (by decide) (hg _ List.mem_cons_self)
              exact d3 (k3.mp g1)
            · have g1 := eCo_eq v3 (by omega) (by decide) (hg _ List.mem_cons_self)
              exact d4 (k2.mp g1)
        · cases h
    · cases h
/-- next() -/
def oNxtD (x : eX) : eD := [(220, [(0, 4)], .inl (x ++ [(4, 1)]), [(1, x ++ [(4, 7)], [(0, 4)], true)]), (220, [(0, 11)], .inl (x ++ [(4, 7)]), []), (220, [(0, 12)], .inl (x ++ [(4, 2)]), []), (220, [(0, 14)], .inl (x ++ [(4, 6)]), [(0, x ++ [(4, 10)], [(0, 1)], true)]), (220, [(0, 17)], .inr (.inl (x ++ [(4, 8)])), [(0, x ++ [(4, 7)], [(0, 1)], true)])]
def oNxtW : List (Nat × eX) := [(220, [(0, 4)]), (220, [(0, 11)]), (220, [(0, 12)]), (220, [(0, 13)]), (220, [(0, 14)]), (220, [(0, 17)])]
def oNxt : eCalT := fun j av D W path => bif Nat.beq j 65 then (match av with
  | [.inr (.inr (some k))] => bif Nat.beq k 220 then (match eGet 220 [(0, 4)] D with
    | some (.inl x, g) => bif oPos x && oWm W then some (none, oNxtD x ++ D.filter (oKeep nxF), oNxtW ++ W, g, path) else none
    | _ => none) else none
  | _ => none) else none
theorem oNxtW_ok {ρ : Nat → Nat → Nat} {W : List (Nat × eX)} {hp0 hp hp' : List vOb} (hf : sFr (eMd ρ W) hp0 hp) (h : sFr nxF hp hp') : sFr (eMd ρ (oNxtW ++ W)) hp0 hp' := by
  refine (hf.mono (fun k i ⟨m, m1, m2⟩ => ⟨m, ?_, m2⟩)).tr (h.mono (fun k i ⟨m, m1, m2, m3, m4⟩ => ?_))
  · unfold eMd
    rw [List.map_append]
    exact List.mem_append_right _ m1
  · have e : (i = 4 ∨ i = 11 ∨ i = 12 ∨ i = 13 ∨ i = 14 ∨ i = 17) ∧ m.1 = 220 := by
      unfold nxF at m1
      simp only [List.mem_cons, List.not_mem_nil, or_false] at m1
      rcases m1 with rfl | rfl | rfl
      · dsimp only at m3 m4
        exact ⟨by omega, rfl⟩
      · dsimp only at m3 m4
        exact ⟨by omega, rfl⟩
      · dsimp only at m3 m4
        exact ⟨by omega, rfl⟩
    obtain ⟨e1, e2⟩ := e
    rw [← m2, e2]
    have a : ∀ c, (220, [(0, c)]) ∈ oNxtW → sMin (eMd ρ (oNxtW ++ W)) 220 c := fun c hc => eMd_ofc (List.mem_append_left _ hc)
    rcases e1 with rfl | rfl | rfl | rfl | rfl | rfl
    · exact a 4 (by unfold oNxtW; simp)
    · exact a 11 (by unfold oNxtW; simp)
    · exact a 12 (by unfold oNxtW; simp)
    · exact a 13 (by unfold oNxtW; simp)
    · exact a 14 (by unfold oNxtW; simp)
    · exact a 17 (by unfold oNxtW; simp)
theorem oNxt_ok {ρ : Nat → Nat → Nat} {τ : Nat → Nat} {z m : Nat} {hp0 : List vOb} (hR : nRdy hp0 τ z m) (h0 : ρ 0 0 ≤ z) (hT : tabM ρ τ z m) (d : Nat) (hd : 11 ≤ d) : eCalOK vms vdf d ρ hp0 oNxt := by
  intro j av D W path r D' W' C path' h hQ kav hp ht hD hf
  unfold oNxt at h
  cases hj : Nat.beq j 65 with
  | false => rw [hj] at h; cases h
  | true =>
    rw [hj, cond_true] at h
    have hj := Nat.eq_of_beq_eq_true hj
    subst hj
    split at h
    · next k =>
      cases hk : Nat.beq k 220 with
      | false => rw [hk] at h; cases h
      | true =>
        rw [hk, cond_true] at h
        have hk := Nat.eq_of_beq_eq_true hk
        subst hk
        split at h
        · next x g hx =>
          cases hb : (oPos x && oWm W) with
          | false => rw [hb] at h; cases h
          | true =>
            rw [hb, cond_true] at h
            rw [Bool.and_eq_true] at hb
            have e := Prod.mk.inj (Option.some.inj h)
            have e2 := Prod.mk.inj e.2
            have e3 := Prod.mk.inj e2.2
            have e4 := Prod.mk.inj e3.2
            rw [← e.1, ← e2.1, ← e3.1]
            obtain ⟨kv, ekv, hkv⟩ := eTr_1 ht
            have hkv : kv = .inr (.inr (.inr (.inl (some 220)))) := hkv
            subst ekv hkv
            obtain ⟨u, u1, u2⟩ := eDr_i hD hx (fun q hq => hQ q (by rw [← e4.1]; exact hq))
            have hu := oPos_ok h0 hT.1 hb.1 u1
            have hRp := nRdy_g hf (fun k i hm => ⟨(oWm_ok hb.2 k i hm).1, (oWm_ok hb.2 k i hm).2.2⟩) hR
            obtain ⟨d', rfl⟩ : ∃ d', d = d' + 1 := ⟨d - 1, by omega⟩
            obtain ⟨kr, hp', c1, c2, c3, ⟨c5, c4⟩, c6⟩ := next_ok (d := d') (by omega) hRp hu u2
            obtain ⟨t1, t2, t7, t8, t9, t10⟩ := hT.2 u hu
            have hto := (xLex_to (τ := fun i => τ i % 256) (m := m) hu).1
            obtain ⟨T, hT1⟩ : ∃ T, (xLex (fun i => τ i % 256) z m u).1 = T := ⟨_, rfl⟩
            rw [hT1] at c4 c6 t7 t8 t9 t10 hto
            subst c2
            obtain ⟨kl, k0, k4, k1, k2, k3, kh, khl⟩ := xTm_i hto
            refine ⟨none, hp', c1, trivial, ?_, oNxtW_ok hf c3⟩
            have v7 := eR_t 7 u1
            rw [t7] at v7
            have v10 := eR_t 10 u1
            rw [t10] at v10
            have cells : hC hp' 220 11 (.inl (xTmk T)) ∧ (3 ≤ T.1 → hC hp' 220 14 (.inl (xNm T))) ∧ (T.1 = 2 → hC hp' 220 17 (.inr (.inr (.inl (xE256 T.2))))) := by
              have hw : T.1 = 2 → rnW 0 0 T.2 = xE256 T.2 := fun h => by
                rcases hto with ⟨b, -⟩ | ⟨b, -⟩ | ⟨b, b1, b2, b3⟩ | ⟨v, rfl, hv⟩ | ⟨c, rfl, hc⟩
                · omega
                · omega
                · exact (rnW_eq T.2 0 0 b1 (by decide) (by omega)).1
                · cases h
                · cases h
              rcases c4 with ⟨a1, a2⟩ | ⟨a1, a2⟩ | ⟨a1, a2, a3⟩ | ⟨v, rfl, a2, a3⟩ | ⟨c, rfl, a2, a3⟩
              · rw [k0.mpr a1]
                exact ⟨a2, fun h => by omega, fun h => by omega⟩
              · rw [k4.mpr a1]
                exact ⟨a2, fun h => by omega, fun h => by omega⟩
              · rw [k1.mpr a1]
                exact ⟨a2, fun h => by omega, fun _ => hw a1 ▸ a3⟩
              · rw [k2.mpr rfl]
                exact ⟨a2, (fun _ => a3), (fun h => by cases h)⟩
              · rw [k3.mpr rfl]
                exact ⟨a2, (fun _ => a3), (fun h => by cases h)⟩
            obtain ⟨d1, d2, d3⟩ := cells
            refine eDr_app ?_ (eDr_keep c3 hD)
            have v1 := eR_t 1 u1
            rw [t1] at v1
            have v2 := eR_t 2 u1
            rw [t2] at v2
            have v8 := eR_t 8 u1
            rw [t8] at v8
            have v9 := eR_t 6 u1
            rw [t9] at v9
            refine eDr_ci v1 (fun hg => ?_) (eDr_ci v7 (fun _ => d1) (eDr_ci v2 (fun _ => c5) (eDr_ci v9 (fun hg => ?_) (eDr_cl v8 (fun hg => ?_) eDr_nil))))
            · have g1 := eCo_neq v7 (hg _ List.mem_cons_self)
              exact c6 (fun h => g1 (k4.mpr h))
            · have g1 := eCo_eq v10 (by omega) (by decide) (hg _ List.mem_cons_self)
              exact d2 (kh.mp g1)
            · have g1 := eCo_eq v7 (by omega) (by decide) (hg _ List.mem_cons_self)
              exact d3 (k1.mp g1)
        · cases h
    · cases h
