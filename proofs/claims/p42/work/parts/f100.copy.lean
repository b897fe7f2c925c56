/-! ===== rows copied by the machine ===== -/
noncomputable def eIcp (tbl : vTbl) (pc : Nat) : Bool := match vGet tbl pc with
  | some (.invokestatic _, _, a, _, _) => Nat.beq a 1001
  | _ => false
theorem e_copy {d : Nat} {tbl : vTbl} {pc : Nat} {kl : vLs} {rest : List vAV} {hp : List vOb} {j k n m kd : Nat} (hg : eIcp tbl pc = true) (hk : ∃ o, hp[k]? = some o ∧ o.1 = kd ∧ o.2.length = m) (hj : ∃ o, hp[j]? = some o ∧ o.1 = kd ∧ o.2.length = m) (hkd : kd = 1 ∨ kd = 4) (h1 : 1 ≤ n) (hn : n ≤ m) (hm : n < 65536) (h8 : Nat.ble (vCs rest) 8 = true) : ∃ hp', kRe vms vdf d tbl 0 0 (pc, kl, .inl n :: .inl 0 :: .inr (.inr (.inr (.inl (some k)))) :: .inl 0 :: .inr (.inr (.inr (.inl (some j)))) :: rest, hp) (pc + 3, kl, rest, hp') ∧ (∀ i, i < n → ∀ v, hC hp j i v → hC hp' k i v) ∧ sFr [(k, 0, n - 1)] hp hp' := by
  obtain ⟨o, o1, o2, o3⟩ := hk
  obtain ⟨p, p1, p2, p3⟩ := hj
  have hlk := (List.getElem?_eq_some_iff.mp o1).1
  have hlen : (p.2.take n ++ o.2.drop n).length = o.2.length := by
    rw [List.length_append, List.length_take, List.length_drop]
    omega
  have hcp : vCp (.inl n :: .inl 0 :: .inr (.inr (.inr (.inl (some k)))) :: .inl 0 :: .inr (.inr (.inr (.inl (some j)))) :: rest) hp = some (rest, hp.set k (o.1, p.2.take n ++ o.2.drop n)) := by
    have e0 : vCp (.inl n :: .inl 0 :: .inr (.inr (.inr (.inl (some k)))) :: .inl 0 :: .inr (.inr (.inr (.inl (some j)))) :: rest) hp = (match vNth hp k, vNth hp j with
      | some o, some o2 => bif (Nat.beq (o.1 % 8) 1 || Nat.beq (o.1 % 8) 4) && Nat.beq (o2.1 % 8) (o.1 % 8) && Nat.blt n 65536 && Nat.ble n o.2.length && Nat.ble n o2.2.length then some (rest, hp.set k (o.1, o2.2.take n ++ o.2.drop n)) else none
      | _, _ => none) := rfl
    rw [e0, vNth_eq, vNth_eq, o1, p1]
    show (bif (Nat.beq (o.1 % 8) 1 || Nat.beq (o.1 % 8) 4) && Nat.beq (p.1 % 8) (o.1 % 8) && Nat.blt n 65536 && Nat.ble n o.2.length && Nat.ble n p.2.length then some (rest, hp.set k (o.1, p.2.take n ++ o.2.drop n)) else none) = some (rest, hp.set k (o.1, p.2.take n ++ o.2.drop n))
    have e1 : (Nat.beq (o.1 % 8) 1 || Nat.beq (o.1 % 8) 4) = true := by
      rw [o2]
      rcases hkd with rfl | rfl <;> rfl
    have e2 : Nat.beq (p.1 % 8) (o.1 % 8) = true := by rw [o2, p2, Nat.beq_refl]
    have e3 : Nat.blt n 65536 = true := Nat.blt_eq.mpr hm
    have e4 : Nat.ble n o.2.length = true := Nat.ble_eq_true_of_le (by omega)
    have e5 : Nat.ble n p.2.length = true := Nat.ble_eq_true_of_le (by omega)
    rw [e1, e2, e3, e4, e5]
    rfl
  refine ⟨hp.set k (o.1, p.2.take n ++ o.2.drop n), ?_, fun i hi v ⟨ob, b1, b2⟩ => ⟨_, List.getElem?_set_self hlk, ?_⟩, List.length_set, fun r o0 h => ?_⟩
  · unfold eIcp at hg
    split at hg
    · next x len a b t hg' =>
      have ea := Nat.eq_of_beq_eq_true hg
      subst ea
      refine kRe_call hg' rfl rfl ⟨0, fun fuel _ => ?_⟩
      unfold vInv
      simp only [Nat.beq_refl, cond_true, hcp, h8]
    · cases hg
  · rw [p1] at b1
    have e := Option.some.inj b1
    subst e
    show (p.2.take n ++ o.2.drop n)[i]? = some v
    rw [List.getElem?_append_left (by rw [List.length_take]; omega), List.getElem?_take, if_pos hi]
    exact b2
  · by_cases e : r = k
    · subst e
      rw [o1] at h
      have h := Option.some.inj h
      subst h
      refine ⟨_, List.getElem?_set_self hlk, rfl, hlen, fun i hi => ?_⟩
      have hni : n ≤ i := Classical.byContradiction (fun hc => hi ⟨(r, 0, n - 1), List.mem_cons_self, rfl, Nat.zero_le _, by dsimp only; omega⟩)
      show (p.2.take n ++ o.2.drop n)[i]? = o.2[i]?
      rw [List.getElem?_append_right (by rw [List.length_take]; omega), List.length_take, List.getElem?_drop]
      congr 1
      omega
    · exact ⟨o0, by rw [List.getElem?_set_ne (fun e1 => e e1.symm)]; exact h, rfl, rfl, fun _ _ => rfl⟩
