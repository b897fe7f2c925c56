/-! ===== comparisons: what is known on either side ===== -/
noncomputable def sLtG (G : sG) (x y : vAV) : Option (Option sG × Option sG) := match sSetOf G x, sSetOf G y with
  | some X, some Y => bif Nat.blt (sHi X) (sLo Y) then some (some G, none) else bif Nat.ble (sHi Y) (sLo X) then some (none, some G) else
      some ((match sRef G x [(sLo X, sHi Y - 1)] with
        | some G1 => sRef G1 y [(sLo X + 1, sHi Y)]
        | none => none), (match sRef G x [(sLo Y, sHi X)] with
        | some G1 => sRef G1 y [(sLo Y, sHi X)]
        | none => none))
  | _, _ => none
theorem sLtG_ok {ρ : List Nat} {G : sG} {x y : vAV} {u w : Nat} {T F : Option sG} (hG : sGr ρ G) (hx : sV ρ x (.inl u)) (hy : sV ρ y (.inl w)) (h : sLtG G x y = some (T, F)) : (sBi u < sBi w → ∃ G', T = some G' ∧ sGr ρ G') ∧ (¬ sBi u < sBi w → ∃ G', F = some G' ∧ sGr ρ G') := by
  unfold sLtG at h
  split at h
  · next X Y hX hY =>
    obtain ⟨u', hu, eu, iu⟩ := sSetOf_ok hG hx hX
    obtain ⟨w', hw, ew, iw⟩ := sSetOf_ok hG hy hY
    cases eu
    cases ew
    have b1 := sIn_lohi iu
    have b2 := sIn_lohi iw
    have l1 := sBi_lt u
    have l2 := sBi_lt w
    cases c1 : Nat.blt (sHi X) (sLo Y) with
    | true =>
      rw [c1, cond_true] at h
      have e1 := Nat.blt_eq.mp c1
      cases h
      exact ⟨fun _ => ⟨G, rfl, hG⟩, fun hn => absurd (by omega) hn⟩
    | false =>
      rw [c1, cond_false] at h
      cases c2 : Nat.ble (sHi Y) (sLo X) with
      | true =>
        rw [c2, cond_true] at h
        have e2 := Nat.le_of_ble_eq_true c2
        cases h
        exact ⟨fun hn => absurd hn (by omega), fun _ => ⟨G, rfl, hG⟩⟩
      | false =>
        rw [c2, cond_false] at h
        cases h
        refine ⟨fun hlt => ?_, fun hlt => ?_⟩
        · obtain ⟨G1, g1, g2⟩ := sRef_ok hG hx (S := [(sLo X, sHi Y - 1)]) (sIn_one (by omega) (by omega))
          obtain ⟨G2, g3, g4⟩ := sRef_ok g2 hy (S := [(sLo X + 1, sHi Y)]) (sIn_one (by omega) (by omega))
          rw [g1]
          exact ⟨G2, g3, g4⟩
        · obtain ⟨G1, g1, g2⟩ := sRef_ok hG hx (S := [(sLo Y, sHi X)]) (sIn_one (by omega) (by omega))
          obtain ⟨G2, g3, g4⟩ := sRef_ok g2 hy (S := [(sLo Y, sHi X)]) (sIn_one (by omega) (by omega))
          rw [g1]
          exact ⟨G2, g3, g4⟩
  · cases h
noncomputable def sEqG (G : sG) (x y : vAV) : Option (Option sG × Option sG) := match sSetOf G x, sSetOf G y with
  | some X, some Y => match sCap X Y with
    | [] => some (none, some G)
    | q :: R => bif (Nat.beq (sLo X) (sHi X) && Nat.beq (sLo Y) (sHi Y)) && Nat.beq (sLo X) (sLo Y) then some (some G, none) else
      some ((match sRef G x (q :: R) with
        | some G1 => sRef G1 y (q :: R)
        | none => none), (bif Nat.beq (sLo Y) (sHi Y) then sRef G x (sDel (sLo Y) X) else bif Nat.beq (sLo X) (sHi X) then sRef G y (sDel (sLo X) Y) else some G))
  | _, _ => none
theorem sEqG_ok {ρ : List Nat} {G : sG} {x y : vAV} {u w : Nat} {T F : Option sG} (hG : sGr ρ G) (hx : sV ρ x (.inl u)) (hy : sV ρ y (.inl w)) (h : sEqG G x y = some (T, F)) : (sBi u = sBi w → ∃ G', T = some G' ∧ sGr ρ G') ∧ (¬ sBi u = sBi w → ∃ G', F = some G' ∧ sGr ρ G') := by
  unfold sEqG at h
  split at h
  · next X Y hX hY =>
    obtain ⟨u', hu, eu, iu⟩ := sSetOf_ok hG hx hX
    obtain ⟨w', hw, ew, iw⟩ := sSetOf_ok hG hy hY
    cases eu
    cases ew
    have b1 := sIn_lohi iu
    have b2 := sIn_lohi iw
    split at h
    · next hc =>
      cases h
      refine ⟨fun he => ?_, fun _ => ⟨G, rfl, hG⟩⟩
      have := sCap_ok X Y _ iu (by rw [he]; exact iw)
      rw [hc] at this
      exact (sIn_nil this).elim
    · next q R hc =>
      cases c1 : ((Nat.beq (sLo X) (sHi X) && Nat.beq (sLo Y) (sHi Y)) && Nat.beq (sLo X) (sLo Y)) with
      | true =>
        rw [c1, cond_true] at h
        cases h
        rw [Bool.and_eq_true, Bool.and_eq_true] at c1
        have e1 := Nat.eq_of_beq_eq_true c1.1.1
        have e2 := Nat.eq_of_beq_eq_true c1.1.2
        have e3 := Nat.eq_of_beq_eq_true c1.2
        exact ⟨fun _ => ⟨G, rfl, hG⟩, fun hn => absurd (by omega) hn⟩
      | false =>
        rw [c1, cond_false] at h
        cases h
        refine ⟨fun he => ?_, fun hn => ?_⟩
        · have i3 := sCap_ok X Y _ iu (by rw [he]; exact iw)
          rw [hc] at i3
          have i4 : sIn (q :: R) (sBi w) := by rw [← he]; exact i3
          obtain ⟨G1, g1, g2⟩ := sRef_ok hG hx i3
          obtain ⟨G2, g3, g4⟩ := sRef_ok g2 hy i4
          rw [g1]
          exact ⟨G2, g3, g4⟩
        · cases c2 : Nat.beq (sLo Y) (sHi Y) with
          | true =>
            rw [cond_true]
            have e2 := Nat.eq_of_beq_eq_true c2
            exact sRef_ok hG hx (sDel_ok _ _ _ (by omega) iu)
          | false =>
            rw [cond_false]
            cases c3 : Nat.beq (sLo X) (sHi X) with
            | true =>
              rw [cond_true]
              have e3 := Nat.eq_of_beq_eq_true c3
              exact sRef_ok hG hy (sDel_ok _ _ _ (by omega) iw)
            | false => exact ⟨G, rfl, hG⟩
  · cases h
