/-! ===== two ints, one of them or both symbols ===== -/
theorem sIn_lohi {S : sSet} {x : Nat} (h : sIn S x) : sLo S ≤ x ∧ x ≤ sHi S := ⟨sLo_le S x h, sHi_ge S x h⟩
noncomputable def sFa (G : sG) (n : Nat) (z : vAV) (Z : sSet) : List (Nat × Nat × Nat) := match z with
  | .inr (.inl (j, c)) => bif Nat.ble 2147483648 (sLo Z) then (match sFind j G.2.1 with
    | some S => bif Nat.beq c 0 then [(n, 0, j)] else bif Nat.beq c 4294967295 && Nat.ble 1 (sLo S) then [(n, 1, j)] else []
    | none => []) else []
  | _ => []
/-- what is known of a new symbol besides its set: it isn't greater than, or less than, an older one -/
noncomputable def sFct (op : Nat) (G : sG) (x y v : vAV) (X Y : sSet) : List (Nat × Nat × Nat) := match v with
  | .inr (.inl (n, 0)) => bif Nat.beq op 3 then sFa G n x X ++ sFa G n y Y else bif Nat.beq op 10 then (match y with
      | .inr (.inl (j, 0)) => bif Nat.ble 2147483648 (sLo X) && Nat.blt 2147483648 (sLo Y) then (match sFind j G.2.1 with
        | some _ => [(n, 1, j)]
        | none => []) else []
      | _ => []) else []
  | _ => []
noncomputable def sGen (op : Nat) (G : sG) (x y : vAV) : Option (List (sG × vAV)) := match sSetOf G x, sSetOf G y with
  | some X, some Y => bif Nat.ble 9 op && sMem 2147483648 Y then none else match sMk G (sOpS op (sLo X) (sHi X) (sLo Y) (sHi Y)) with
    | (G', v) => some [((G'.1, G'.2.1, sFct op G x y v X Y ++ G'.2.2), v)]
  | _, _ => none
/-- a quotient or a remainder by a known number, a piece of the set at a time -/
noncomputable def sDR (op : Nat) (G : sG) (q : Nat × Nat) (w : Nat) : sSet → List (sG × vAV)
  | [] => []
  | i :: X => match sRef G (.inr (.inl q)) [i] with
    | none => sDR op G q w X
    | some G' => bif Nat.ble 2147483648 i.1 && Nat.beq ((i.1 - 2147483648) / w) ((i.2 - 2147483648) / w) then
        (bif Nat.beq op 9 then vF ((i.1 - 2147483648) / w) (fun r => (G', .inl r) :: sDR op G q w X)
         else vF ((q.2 + (4294967296 - (i.1 - 2147483648) / w * w % 4294967296)) % 4294967296) (fun c => (G', .inr (.inl (q.1, c))) :: sDR op G q w X))
      else sMk G' (sOpS op i.1 i.2 (w + 2147483648) (w + 2147483648)) :: sDR op G q w X
noncomputable def sBin (op : Nat) (G : sG) (x y : vAV) : Option (List (sG × vAV)) := match x, y with
  | .inl u, .inl w => bif Nat.ble op 7 then vF (sKop op u w) (fun r => some [(G, .inl r)]) else bif Nat.beq op 8 && Nat.blt u 2147483648 then vF (u / 2 ^ (w % 32)) (fun r => some [(G, .inl r)]) else bif Nat.blt u 2147483648 && (Nat.blt 0 w && Nat.blt w 2147483648) then
      (bif Nat.beq op 9 then vF (u / w) (fun r => some [(G, .inl r)]) else bif Nat.beq op 10 then vF (u % w) (fun r => some [(G, .inl r)]) else sGen op G x y) else sGen op G x y
  | .inr (.inl q), .inl w => bif Nat.beq op 0 then vF ((q.2 + w) % 4294967296) (fun c => some [(G, .inr (.inl (q.1, c)))])
      else bif Nat.beq op 1 then vF ((q.2 + (4294967296 - w)) % 4294967296) (fun c => some [(G, .inr (.inl (q.1, c)))])
      else bif (Nat.beq op 9 || Nat.beq op 10) && (Nat.blt 0 w && Nat.blt w 2147483648) then (match sSetOf G x with
        | some X => some (sDR op G q w X)
        | none => none)
      else sGen op G x y
  | .inl u, .inr (.inl q) => bif Nat.beq op 0 then vF ((q.2 + u) % 4294967296) (fun c => some [(G, .inr (.inl (q.1, c)))]) else sGen op G x y
  | _, _ => sGen op G x y
/-- what a row of two ints comes to -/
def sBr (ρ : List Nat) (L : List (sG × vAV)) (r : Nat) : Prop := ∃ e ∈ L, ∃ xs, sGr (ρ ++ xs) e.1 ∧ sV (ρ ++ xs) e.2 (.inl r)
theorem sGr_fct {ρ : List Nat} {G : sG} {F : List (Nat × Nat × Nat)} (hG : sGr ρ G) (hF : ∀ t ∈ F, ∃ a b, ρ[t.1]? = some a ∧ ρ[t.2.2]? = some b ∧ a + t.2.1 ≤ b) : sGr ρ (G.1, G.2.1, F ++ G.2.2) :=
  ⟨hG.1, hG.2.1, fun t ht => by
    rcases List.mem_append.mp ht with h | h
    · exact hF t h
    · exact hG.2.2 t h⟩
/-- a symbol's number -/
theorem sV_num {ρ : List Nat} {j c u : Nat} (h : sV ρ (.inr (.inl (j, c))) (.inl u)) : ∃ r, ρ[j]? = some r ∧ sBi u = (r + c) % 4294967296 := by
  obtain ⟨r, h1, h2⟩ := h
  have e := Sum.inl.inj h2
  rw [e]
  exact ⟨r, h1, sBi_un r c⟩
theorem sFa_ok {ρ : List Nat} {G : sG} {n a r rn : Nat} {z : vAV} {Z : sSet} (hG : sGr ρ G) (hu : a < 4294967296) (hx : sV ρ z (.inl a)) (hX : sIn Z (sBi a)) (l1 : r ≤ a) {ρ' : List Nat} (n5 : sBi r = rn) (n1 : ρ'[n]? = some rn) (hp : ∀ j r : Nat, ρ[j]? = some r → ρ'[j]? = some r) : ∀ t ∈ sFa G n z Z, ∃ a b, ρ'[t.1]? = some a ∧ ρ'[t.2.2]? = some b ∧ a + t.2.1 ≤ b := by
  intro t ht
  unfold sFa at ht
  split at ht
  · next j c =>
    cases hb : Nat.ble 2147483648 (sLo Z) with
    | false => rw [hb] at ht; cases ht
    | true =>
      rw [hb, cond_true] at ht
      have b1 := Nat.le_of_ble_eq_true hb
      have b2 := (sIn_lohi hX).1
      obtain ⟨p1, p2⟩ := sBi_pos hu (by omega)
      obtain ⟨rj, j1, j2⟩ := sV_num hx
      rw [sBi_of (by omega)] at n5
      split at ht
      · next S hf =>
        obtain ⟨r', h1, h2, h4⟩ := hG.2.1 _ (sFind_mem hf)
        have h1 : ρ[j]? = some r' := h1
        rw [j1] at h1
        cases h1
        cases hc : Nat.beq c 0 with
        | true =>
          have ec := Nat.eq_of_beq_eq_true hc
          rw [hc, cond_true] at ht
          have et := List.mem_singleton.mp ht
          rw [et]
          refine ⟨rn, rj, n1, hp _ _ j1, ?_⟩
          show rn + 0 ≤ rj
          omega
        | false =>
          rw [hc, cond_false] at ht
          cases hd : (Nat.beq c 4294967295 && Nat.ble 1 (sLo S)) with
          | false => rw [hd] at ht; cases ht
          | true =>
            rw [hd, cond_true] at ht
            rw [Bool.and_eq_true] at hd
            have d1 := Nat.eq_of_beq_eq_true hd.1
            have d2 := Nat.le_of_ble_eq_true hd.2
            have d3 := (sIn_lohi h4).1
            have et := List.mem_singleton.mp ht
            rw [et]
            refine ⟨rn, rj, n1, hp _ _ j1, ?_⟩
            show rn + 1 ≤ rj
            have d4 : sLo S ≤ rj := d3
            omega
      · cases ht
  · cases ht
theorem sFct_ok {ρ : List Nat} {G : sG} {op u w : Nat} {x y v : vAV} {X Y : sSet} (hG : sGr ρ G) (hu : u < 4294967296) (hw : w < 4294967296) (hx : sV ρ x (.inl u)) (hy : sV ρ y (.inl w)) (hX : sIn X (sBi u)) (hY : sIn Y (sBi w)) {ρ' : List Nat} (hp : ∀ j r : Nat, ρ[j]? = some r → ρ'[j]? = some r) (hr : ∀ n c r : Nat, v = .inr (.inl (n, c)) → ρ'[n]? = some r → r < 4294967296) (hv : sV ρ' v (.inl (sKop op u w))) :
    ∀ t ∈ sFct op G x y v X Y, ∃ a b, ρ'[t.1]? = some a ∧ ρ'[t.2.2]? = some b ∧ a + t.2.1 ≤ b := by
  intro t ht
  unfold sFct at ht
  split at ht
  · next n =>
    obtain ⟨rn, n1, n2⟩ := sV_num hv
    have n3 := hr n 0 rn rfl n1
    have n4 : sBi (sKop op u w) = rn := by rw [n2]; omega
    cases h3 : Nat.beq op 3 with
    | true =>
      have e3 := Nat.eq_of_beq_eq_true h3
      subst e3
      rw [h3, cond_true] at ht
      have n5 : sBi (Nat.land u w) = rn := n4
      rcases List.mem_append.mp ht with ht | ht
      · exact sFa_ok hG hu hx hX Nat.and_le_left n5 n1 hp t ht
      · exact sFa_ok hG hw hy hY Nat.and_le_right n5 n1 hp t ht
    | false =>
      rw [h3, cond_false] at ht
      cases h10 : Nat.beq op 10 with
      | false => rw [h10] at ht; cases ht
      | true =>
        have e10 := Nat.eq_of_beq_eq_true h10
        subst e10
        rw [h10, cond_true] at ht
        split at ht
        · next j =>
          cases hb : (Nat.ble 2147483648 (sLo X) && Nat.blt 2147483648 (sLo Y)) with
          | false => rw [hb] at ht; cases ht
          | true =>
            rw [hb, cond_true] at ht
            rw [Bool.and_eq_true] at hb
            have b1 := Nat.le_of_ble_eq_true hb.1
            have b2 := Nat.blt_eq.mp hb.2
            have b3 := (sIn_lohi hX).1
            have b4 := (sIn_lohi hY).1
            obtain ⟨p1, p2⟩ := sBi_pos hu (by omega)
            obtain ⟨p3, p4⟩ := sBi_pos hw (by omega)
            obtain ⟨rj, j1, j2⟩ := sV_num hy
            split at ht
            · next S hf =>
              obtain ⟨r', h1, h2, h4⟩ := hG.2.1 _ (sFind_mem hf)
              have h1 : ρ[j]? = some r' := h1
              rw [j1] at h1
              cases h1
              have n5 : sBi (kRem u w) = rn := n4
              have l2 : u % w < w := Nat.mod_lt _ (by omega)
              rw [kRem_pos p1 (by omega) p3, sBi_of (by omega)] at n5
              have et := List.mem_singleton.mp ht
              rw [et]
              refine ⟨rn, rj, n1, hp _ _ j1, ?_⟩
              show rn + 1 ≤ rj
              omega
            · cases ht
        · cases ht
  · cases ht
