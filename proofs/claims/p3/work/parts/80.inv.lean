/-! ===== arraycopy, and a call ===== -/
noncomputable def sCp (md : sMd) (st : List vAV) (h : sHp) : Option (List vAV × sHp) := match st with
  | .inl n :: .inl 0 :: .inr (.inr (.inr (.inl (some k)))) :: .inl 0 :: .inr (.inr (.inr (.inl (some j)))) :: rest => match sGo h k, sGo h j with
    | some o, some o2 => bif ((Nat.beq (o.1 % 8) 1 || Nat.beq (o.1 % 8) 4) && Nat.beq (o2.1 % 8) (o.1 % 8)) && (Nat.blt n 65536 && (Nat.ble n (sLen o.2.1) && (Nat.ble n (sLen o2.2.1) && sMc md k 0 (n - 1)))) then some (rest, sPo h k (o.1, sTk o2.2.1 n ++ sDp o.2.1 n, [])) else none
    | _, _ => none
  | _ => none
theorem sFr_new {md : sMd} {hp : List vOb} {k : Nat} {o : vOb} {X : List vAV} (hk : hp[k]? = some o) (hl : X.length = o.2.length) (hX : ∀ i, ¬ sMin md k i → X[i]? = o.2[i]?) : sFr md hp (hp.set k (o.1, X)) := by
  refine ⟨by simp, fun j o0 h => ?_⟩
  by_cases hj : k = j
  · subst hj
    rw [hk] at h
    cases h
    exact ⟨_, List.getElem?_set_self (List.getElem?_eq_some_iff.mp hk).1, rfl, hl, hX⟩
  · exact ⟨o0, by rw [List.getElem?_set_ne hj]; exact h, rfl, rfl, fun _ _ => rfl⟩
section SCP
variable {md : sMd} {hp0 : List vOb} {ρ : List Nat} {st : List vAV} {h : sHp} {ks : List vAV} {hp : List vOb}
theorem sCp_ok {rest : List vAV} {h' : sHp} (ht : sTr ρ st ks) (hh : sHr ρ h hp) (hf : sFr md hp0 hp) (he : sCp md st h = some (rest, h')) : ∃ krest hp', vCp ks hp = some (krest, hp') ∧ sTr ρ rest krest ∧ sHr ρ h' hp' ∧ sFr md hp0 hp' := by
  unfold sCp at he
  split at he
  · next n k j rest0 =>
    match ks, ht with
    | [_], ht => exact ht.2.elim
    | [_, _], ht => exact ht.2.2.elim
    | [_, _, _], ht => exact ht.2.2.2.elim
    | [_, _, _, _], ht => exact ht.2.2.2.2.elim
    | a1 :: a2 :: a3 :: a4 :: a5 :: kr, ht =>
      obtain ⟨⟨-, e1⟩, ⟨-, e2⟩, e3, ⟨-, e4⟩, e5, ht⟩ := ht
      have e3 : a3 = .inr (.inr (.inr (.inl (some k)))) := e3
      have e5 : a5 = .inr (.inr (.inr (.inl (some j)))) := e5
      subst e1 e2 e3 e4 e5
      split at he
      · next o o2 ho ho2 =>
        obtain ⟨ob, h1, h2⟩ := sHr_get hh ho
        obtain ⟨ob2, h3, h4⟩ := sHr_get hh ho2
        cases hb : (((Nat.beq (o.1 % 8) 1 || Nat.beq (o.1 % 8) 4) && Nat.beq (o2.1 % 8) (o.1 % 8)) && (Nat.blt n 65536 && (Nat.ble n (sLen o.2.1) && (Nat.ble n (sLen o2.2.1) && sMc md k 0 (n - 1))))) with
        | false => rw [hb] at he; cases he
        | true =>
          rw [hb, cond_true] at he
          cases he
          rw [Bool.and_eq_true, Bool.and_eq_true, Bool.and_eq_true, Bool.and_eq_true, Bool.and_eq_true] at hb
          obtain ⟨⟨b1, b2⟩, b3, b4, b5, b6⟩ := hb
          have c4 := Nat.le_of_ble_eq_true b4
          have c5 := Nat.le_of_ble_eq_true b5
          have l1 := h2.2.1.1
          have l2 := h4.2.1.1
          have htk : (ob2.2.take n).length = n := by rw [List.length_take]; omega
          have hget : ∀ i, (ob2.2.take n ++ ob.2.drop n)[i]? = if i < n then ob2.2[i]? else ob.2[i]? := fun i => by
            by_cases hi : i < n
            · rw [if_pos hi, List.getElem?_append_left (by omega), List.getElem?_take_of_lt hi]
            · rw [if_neg hi, List.getElem?_append_right (by omega), htk, List.getElem?_drop]
              congr 1
              omega
          have hlen : (ob2.2.take n ++ ob.2.drop n).length = ob.2.length := by
            rw [List.length_append, htk, List.length_drop]
            omega
          refine ⟨kr, hp.set k (ob.1, ob2.2.take n ++ ob.2.drop n), ?_, ht, ?_, hf.tr (sFr_new h1 hlen (fun i hi => ?_))⟩
          · unfold vCp
            simp only [vNth_eq, h1, h3, h2.1, h4.1, b1, b2, b3, l1, l2, b4, b5, Bool.and_self, cond_true]
          · refine sHr_set hh (List.getElem?_eq_some_iff.mp h1).1 ⟨h2.1, ⟨?_, fun i c v hc hv => ?_⟩, fun e he => by cases he⟩
            · rw [hlen, l1, sLen_app, sLen_tk _ _ c5, sLen_dp _ _ c4]
              omega
            · have hv : (ob2.2.take n ++ ob.2.drop n)[i]? = some v := hv
              rw [hget] at hv
              have hc : sRd (sTk o2.2.1 n ++ sDp o.2.1 n) i = some c := hc
              rw [sRd_app, sLen_tk _ _ c5] at hc
              by_cases hi : i < n
              · rw [if_pos hi] at hv hc
                rw [sRd_tk _ _ _ c5 hi] at hc
                exact h4.2.1.2 i c v hc hv
              · rw [if_neg hi] at hv hc
                rw [sRd_dp] at hc
                have e : n + (i - n) = i := by omega
                rw [e] at hc
                exact h2.2.1.2 i c v hc hv
          · rw [hget]
            by_cases hi2 : i < n
            · exact absurd (sMc_ok b6 (Nat.zero_le _) (by omega)) hi
            · rw [if_neg hi2]
      · cases he
  · cases he
noncomputable def sInv (scal : sCal) (md : sMd) (i : Instr) (a b t : Nat) (st : List vAV) (h : sHp) (G : sG) : Option (List (List vAV × sHp × sG)) := match i with
  | .invokevirtual _ => (match vTk b [] st with
    | some (as, rv :: rest) => bif sRc t rv h && Nat.ble (sCs rest) 8 then (match scal a (rv :: as) h G with
      | some L => some (L.map (fun e => (e.1.toList ++ rest, e.2.1, e.2.2)))
      | none => none) else none
    | _ => none)
  | .invokestatic _ => bif Nat.beq a 1001 then (match sCp md st h with
      | some (rest, h') => bif Nat.ble (sCs rest) 8 then some [(rest, h', G)] else none
      | none => none) else (match vTk b [] st with
    | some (as, rest) => bif Nat.ble (sCs rest) 8 then (match scal a as h G with
      | some L => some (L.map (fun e => (e.1.toList ++ rest, e.2.1, e.2.2)))
      | none => none) else none
    | none => none)
  | _ => none
theorem sRt_tr {r kr : Option vAV} {rest krest : List vAV} (h1 : sRt ρ r kr) (h2 : sTr ρ rest krest) : sTr ρ (r.toList ++ rest) (kr.toList ++ krest) := by
  match r, kr, h1 with
  | none, none, _ => exact h2
  | some a, some v, h1 => exact ⟨h1, h2⟩
theorem sInv_ok {vms : List vMt} {df : List (List vAV)} {d : Nat} {scal : sCal} {i : Instr} {len a b t pc : Nat} {G : sG} {kl : vLs} {L : List (List vAV × sHp × sG)} (hs : sCalOK vms df d md hp0 scal) (ht : sTr ρ st ks) (hh : sHr ρ h hp) (hG : sGr ρ G) (hf : sFr md hp0 hp) (he : sInv scal md i a b t st h G = some L) :
    vStep [] vTx i len a b t pc kl ks hp = none ∧ vAl df i a t ks hp = none ∧ ∃ e ∈ L, ∃ xs ks' hp', (∃ N, ∀ fuel, N ≤ fuel → vInv (vCalD vms df fuel d) i a b t ks hp = some (ks', hp', 0, 0)) ∧ sTr (ρ ++ xs) e.1 ks' ∧ sHr (ρ ++ xs) e.2.1 hp' ∧ sGr (ρ ++ xs) e.2.2 ∧ sFr md hp0 hp' := by
  unfold sInv at he
  split at he
  · refine ⟨rfl, rfl, ?_⟩
    split at he
    · next as rv rest htk =>
      cases hb : (sRc t rv h && Nat.ble (sCs rest) 8) with
      | false => rw [hb] at he; cases he
      | true =>
        rw [hb, cond_true] at he
        rw [Bool.and_eq_true] at hb
        obtain ⟨kas, kr0, k1, k2, k3⟩ := sTk_tr b (acc := []) (kacc := []) trivial ht htk
        match kr0, k3 with
        | [], k3 => exact k3.elim
        | kv :: krest, k3 =>
          split at he
          · next L0 hL0 =>
            cases he
            obtain ⟨e, e1, xs, r, hp', ⟨N, eN⟩, e3, e4, e5, e6⟩ := hs a (rv :: as) h G L0 hL0 ρ (kv :: kas) hp ⟨k3.1, k2⟩ hh hG hf
            refine ⟨_, List.mem_map.mpr ⟨e, e1, rfl⟩, xs, r.toList ++ krest, hp', ⟨N, fun fuel hfu => ?_⟩, sRt_tr e3 (sTr_app xs k3.2), e4, e5, e6⟩
            unfold vInv
            simp only [k1, sRc_ok hh k3.1 hb.1, sCs_ok k3.2, hb.2, eN fuel hfu, Bool.and_self, cond_true]
          · cases he
    · cases he
  · refine ⟨rfl, rfl, ?_⟩
    cases h1 : Nat.beq a 1001 with
    | true =>
      rw [h1, cond_true] at he
      split at he
      · next rest h' hc =>
        obtain ⟨krest, hp', q1, q2, q3, q4⟩ := sCp_ok ht hh hf hc
        cases hb : Nat.ble (sCs rest) 8 with
        | false => rw [hb] at he; cases he
        | true =>
          rw [hb, cond_true] at he
          cases he
          refine ⟨_, List.mem_cons_self, [], krest, hp', ⟨0, fun fuel _ => ?_⟩, ?_⟩
          · unfold vInv
            simp only [h1, q1, sCs_ok q2, hb, cond_true]
          · rw [List.append_nil]
            exact ⟨q2, q3, hG, q4⟩
      · cases he
    | false =>
      rw [h1, cond_false] at he
      split at he
      · next as rest htk =>
        cases hb : Nat.ble (sCs rest) 8 with
        | false => rw [hb] at he; cases he
        | true =>
          rw [hb, cond_true] at he
          obtain ⟨kas, krest, k1, k2, k3⟩ := sTk_tr b (acc := []) (kacc := []) trivial ht htk
          split at he
          · next L0 hL0 =>
            cases he
            obtain ⟨e, e1, xs, r, hp', ⟨N, eN⟩, e3, e4, e5, e6⟩ := hs a as h G L0 hL0 ρ kas hp k2 hh hG hf
            refine ⟨_, List.mem_map.mpr ⟨e, e1, rfl⟩, xs, r.toList ++ krest, hp', ⟨N, fun fuel hfu => ?_⟩, sRt_tr e3 (sTr_app xs k3), e4, e5, e6⟩
            unfold vInv
            simp only [h1, k1, sCs_ok k3, hb, eN fuel hfu, cond_true, cond_false]
          · cases he
      · cases he
  · cases he
end SCP
