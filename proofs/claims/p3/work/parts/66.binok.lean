theorem sMk_sym {G : sG} {S : sSet} {n c : Nat} (h : (sMk G S).2 = .inr (.inl (n, c))) : n = G.1 ∧ (sMk G S).1 = sNew G S := by
  unfold sMk at h ⊢
  split at h
  · next q =>
    cases hb : (Nat.beq q.1 q.2 && Nat.blt q.1 4294967296) with
    | true =>
      rw [hb, cond_true, vF_eq] at h
      cases h
    | false =>
      rw [hb, cond_false] at h
      have e := Sum.inl.inj (Sum.inr.inj h)
      exact ⟨(congrArg Prod.fst e).symm, rfl⟩
  · have e := Sum.inl.inj (Sum.inr.inj h)
    refine ⟨(congrArg Prod.fst e).symm, rfl⟩
theorem sApp_get {ρ : List Nat} (xs : List Nat) {j r : Nat} (h : ρ[j]? = some r) : (ρ ++ xs)[j]? = some r := by
  rw [List.getElem?_append_left (List.getElem?_eq_some_iff.mp h).1]; exact h
theorem sGen_ok {ρ : List Nat} {G : sG} {op u w : Nat} {x y : vAV} {L : List (sG × vAV)} (hG : sGr ρ G) (hx : sV ρ x (.inl u)) (hy : sV ρ y (.inl w)) (h : sGen op G x y = some L) : (9 ≤ op → w ≠ 0) ∧ sBr ρ L (sKop op u w) := by
  unfold sGen at h
  split at h
  · next X Y hX hY =>
    obtain ⟨u', hu, eu, iu⟩ := sSetOf_ok hG hx hX
    obtain ⟨w', hw, ew, iw⟩ := sSetOf_ok hG hy hY
    cases eu
    cases ew
    cases hb : (Nat.ble 9 op && sMem 2147483648 Y) with
    | true => rw [hb] at h; cases h
    | false =>
      rw [hb, cond_false] at h
      have h := Option.some.inj h
      subst h
      refine ⟨fun h9 h0 => ?_, ?_⟩
      · subst h0
        have := sMem_of Y _ iw
        rw [show sBi 0 = 2147483648 from rfl] at this
        rw [Nat.ble_eq_true_of_le h9, this] at hb
        cases hb
      · obtain ⟨k1, k2⟩ := sOpS_ok op hu hw (sIn_lohi iu).1 (sIn_lohi iu).2 (sIn_lohi iw).1 (sIn_lohi iw).2
        obtain ⟨xs, m1, m2⟩ := sMk_ok hG k1 k2
        refine ⟨_, List.mem_cons_self, xs, sGr_fct m1 (sFct_ok hG hu hw hx hy iu iw (fun j r h => sApp_get xs h) (fun n c r e h1 => ?_) m2), m2⟩
        obtain ⟨e1, e2⟩ := sMk_sym e
        have m1b := m1
        rw [e2] at m1b
        obtain ⟨r', q1, q2, -⟩ := m1b.2.1 _ List.mem_cons_self
        rw [e1] at h1
        rw [h1] at q1
        cases q1
        exact q2
  · cases h
theorem sDR_ok {ρ : List Nat} {G : sG} {op u w : Nat} {q : Nat × Nat} (hG : sGr ρ G) (hx : sV ρ (.inr (.inl q)) (.inl u)) (hu : u < 4294967296) (hw0 : 0 < w) (hw : w < 2147483648) (hop : op = 9 ∨ op = 10) : ∀ X : sSet, sIn X (sBi u) → sBr ρ (sDR op G q w X) (sKop op u w)
  | [], h => (sIn_nil h).elim
  | i :: X, h => by
    have ih := sDR_ok hG hx hu hw0 hw hop X
    have hmem : ∀ {e : sG × vAV} {L : List (sG × vAV)}, sBr ρ L (sKop op u w) → sBr ρ (e :: L) (sKop op u w) := fun ⟨e1, h1, h2⟩ => ⟨e1, List.mem_cons_of_mem _ h1, h2⟩
    unfold sDR
    rcases sIn_cons.mp h with h | h
    · obtain ⟨G', hG1, hG2⟩ := sRef_ok hG hx (S := [i]) (sIn_one h.1 h.2)
      rw [hG1]
      dsimp only
      cases hb : (Nat.ble 2147483648 i.1 && Nat.beq ((i.1 - 2147483648) / w) ((i.2 - 2147483648) / w)) with
      | true =>
        rw [cond_true]
        rw [Bool.and_eq_true] at hb
        have b1 := Nat.le_of_ble_eq_true hb.1
        have b2 := Nat.eq_of_beq_eq_true hb.2
        obtain ⟨p1, p2⟩ := sBi_pos hu (by omega)
        have d1 : (i.1 - 2147483648) / w ≤ u / w := Nat.div_le_div_right (by omega)
        have d2 : u / w ≤ (i.2 - 2147483648) / w := Nat.div_le_div_right (by omega)
        have d3 : u / w = (i.1 - 2147483648) / w := by omega
        rcases hop with rfl | rfl
        · rw [show Nat.beq 9 9 = true from rfl, cond_true, vF_eq]
          refine ⟨_, List.mem_cons_self, [], ?_, ?_⟩
          · rw [List.append_nil]; exact hG2
          · have e : sKop 9 u w = (i.1 - 2147483648) / w := by
              show kDiv u w = _
              rw [kDiv_pos p1 hw0 hw, d3]
            have l1 : u / w ≤ u := Nat.div_le_self _ _
            rw [e]
            exact ⟨by omega, rfl⟩
        · rw [show Nat.beq 10 9 = false from rfl, cond_false, vF_eq]
          refine ⟨_, List.mem_cons_self, [], ?_, ?_⟩
          · rw [List.append_nil]; exact hG2
          · have e : sKop 10 u w = u - (i.1 - 2147483648) / w * w := by
              show kRem u w = _
              rw [kRem_pos p1 hw0 hw, ← d3]
              have := Nat.div_add_mod' u w
              omega
            have l2 : u / w * w ≤ u := Nat.div_mul_le_self u w
            rw [d3] at l2
            rw [e, List.append_nil]
            obtain ⟨r, h1, h2⟩ := hx
            have e2 := Sum.inl.inj h2
            refine sV_sym h1 (congrArg Sum.inl ?_)
            generalize (i.1 - 2147483648) / w * w = z at l2
            unfold sUn at e2 ⊢
            omega
      | false =>
        rw [cond_false]
        have ew : sBi w = w + 2147483648 := sBi_of hw
        obtain ⟨k1, k2⟩ := sOpS_ok op hu (show w < 4294967296 by omega) h.1 h.2 (Nat.le_of_eq ew.symm) (Nat.le_of_eq ew)
        obtain ⟨xs, m1, m2⟩ := sMk_ok hG2 k1 k2
        exact ⟨_, List.mem_cons_self, xs, m1, m2⟩
    · split
      · exact ih h
      · next G' _ =>
        cases (Nat.ble 2147483648 i.1 && Nat.beq ((i.1 - 2147483648) / w) ((i.2 - 2147483648) / w)) with
        | true =>
          rw [cond_true]
          cases Nat.beq op 9 with
          | true => rw [cond_true, vF_eq]; exact hmem (ih h)
          | false => rw [cond_false, vF_eq]; exact hmem (ih h)
        | false => rw [cond_false]; exact hmem (ih h)
theorem sBin_ok {ρ : List Nat} {G : sG} {op u w : Nat} {x y : vAV} {L : List (sG × vAV)} (hop : op ≤ 10) (hG : sGr ρ G) (hx : sV ρ x (.inl u)) (hy : sV ρ y (.inl w)) (h : sBin op G x y = some L) : (9 ≤ op → w ≠ 0) ∧ sBr ρ L (sKop op u w) := by
  have hone : ∀ {v : vAV}, sV ρ v (.inl (sKop op u w)) → sBr ρ [(G, v)] (sKop op u w) := fun {v} hv => ⟨_, List.mem_cons_self, [], by rw [List.append_nil]; exact hG, by rw [List.append_nil]; exact hv⟩
  unfold sBin at h
  split at h
  · next u' w' =>
    obtain ⟨hu, eu⟩ := hx
    obtain ⟨hw, ew⟩ := hy
    cases eu
    cases ew
    cases h7 : Nat.ble op 7 with
    | true =>
      have e7 := Nat.le_of_ble_eq_true h7
      rw [h7, cond_true, vF_eq] at h
      have h := Option.some.inj h
      subst h
      exact ⟨fun h9 => by omega, hone ⟨(sOpS_ok op hu hw (Nat.le_refl _) (Nat.le_refl _) (Nat.le_refl _) (Nat.le_refl _)).1, rfl⟩⟩
    | false =>
      rw [h7, cond_false] at h
      cases h8 : (Nat.beq op 8 && Nat.blt u 2147483648) with
      | true =>
        rw [h8, cond_true, vF_eq] at h
        rw [Bool.and_eq_true] at h8
        have e8 := Nat.eq_of_beq_eq_true h8.1
        have b8 := Nat.blt_eq.mp h8.2
        subst e8
        have h := Option.some.inj h
        subst h
        refine ⟨fun h9 => by omega, hone ?_⟩
        have e : sKop 8 u w = u / 2 ^ (w % 32) := kShr_pos b8 hw
        have l1 : u / 2 ^ (w % 32) ≤ u := Nat.div_le_self _ _
        rw [e]
        exact ⟨Nat.lt_of_le_of_lt l1 hu, rfl⟩
      | false =>
      rw [h8, cond_false] at h
      cases hb : (Nat.blt u 2147483648 && (Nat.blt 0 w && Nat.blt w 2147483648)) with
      | false => rw [hb, cond_false] at h; exact sGen_ok hG (x := .inl u) (y := .inl w) ⟨hu, rfl⟩ ⟨hw, rfl⟩ h
      | true =>
        rw [hb, cond_true] at h
        rw [Bool.and_eq_true, Bool.and_eq_true] at hb
        have b1 := Nat.blt_eq.mp hb.1
        have b2 := Nat.blt_eq.mp hb.2.1
        have b3 := Nat.blt_eq.mp hb.2.2
        cases h9 : Nat.beq op 9 with
        | true =>
          have e9 := Nat.eq_of_beq_eq_true h9
          subst e9
          rw [h9, cond_true, vF_eq] at h
          have h := Option.some.inj h
          subst h
          refine ⟨fun _ => by omega, hone ?_⟩
          have e : sKop 9 u w = u / w := kDiv_pos b1 b2 b3
          have l1 : u / w ≤ u := Nat.div_le_self _ _
          rw [e]
          exact ⟨by omega, rfl⟩
        | false =>
          rw [h9, cond_false] at h
          cases h10 : Nat.beq op 10 with
          | true =>
            have e10 := Nat.eq_of_beq_eq_true h10
            subst e10
            rw [h10, cond_true, vF_eq] at h
            have h := Option.some.inj h
            subst h
            refine ⟨fun _ => by omega, hone ?_⟩
            have e : sKop 10 u w = u % w := kRem_pos b1 b2 b3
            have l1 : u % w ≤ u := Nat.mod_le _ _
            rw [e]
            exact ⟨by omega, rfl⟩
          | false => rw [h10, cond_false] at h; exact sGen_ok hG (x := .inl u) (y := .inl w) ⟨hu, rfl⟩ ⟨hw, rfl⟩ h
  · next q w' =>
    obtain ⟨hw, ew⟩ := hy
    cases ew
    cases h0 : Nat.beq op 0 with
    | true =>
      have e0 := Nat.eq_of_beq_eq_true h0
      subst e0
      rw [h0, cond_true, vF_eq] at h
      have h := Option.some.inj h
      subst h
      refine ⟨fun h9 => by omega, hone ?_⟩
      obtain ⟨r, h1, h2⟩ := hx
      have e2 := Sum.inl.inj h2
      refine sV_sym h1 (congrArg Sum.inl ?_)
      show vAdd u w = _
      unfold vAdd
      unfold sUn at e2 ⊢
      omega
    | false =>
      rw [h0, cond_false] at h
      cases h1' : Nat.beq op 1 with
      | true =>
        have e0 := Nat.eq_of_beq_eq_true h1'
        subst e0
        rw [h1', cond_true, vF_eq] at h
        have h := Option.some.inj h
        subst h
        refine ⟨fun h9 => by omega, hone ?_⟩
        obtain ⟨r, h1, h2⟩ := hx
        have e2 := Sum.inl.inj h2
        refine sV_sym h1 (congrArg Sum.inl ?_)
        show vSub u w = _
        unfold vSub
        unfold sUn at e2 ⊢
        omega
      | false =>
        rw [h1', cond_false] at h
        cases hb : ((Nat.beq op 9 || Nat.beq op 10) && (Nat.blt 0 w && Nat.blt w 2147483648)) with
        | false => rw [hb, cond_false] at h; exact sGen_ok hG hx (y := .inl w) ⟨hw, rfl⟩ h
        | true =>
          rw [hb, cond_true] at h
          rw [Bool.and_eq_true, Bool.and_eq_true, Bool.or_eq_true] at hb
          have b2 := Nat.blt_eq.mp hb.2.1
          have b3 := Nat.blt_eq.mp hb.2.2
          have hop2 : op = 9 ∨ op = 10 := by
            rcases hb.1 with h | h
            · exact Or.inl (Nat.eq_of_beq_eq_true h)
            · exact Or.inr (Nat.eq_of_beq_eq_true h)
          split at h
          · next X hX =>
            have h := Option.some.inj h
            subst h
            obtain ⟨u', hu, eu, iu⟩ := sSetOf_ok hG hx hX
            cases eu
            exact ⟨fun _ => by omega, sDR_ok hG hx hu b2 b3 hop2 X iu⟩
          · cases h
  · next u' q =>
    obtain ⟨hu, eu⟩ := hx
    cases eu
    cases h0 : Nat.beq op 0 with
    | true =>
      have e0 := Nat.eq_of_beq_eq_true h0
      subst e0
      rw [h0, cond_true, vF_eq] at h
      have h := Option.some.inj h
      subst h
      refine ⟨fun h9 => by omega, hone ?_⟩
      obtain ⟨r, h1, h2⟩ := hy
      have e2 := Sum.inl.inj h2
      refine sV_sym h1 (congrArg Sum.inl ?_)
      show vAdd u w = _
      unfold vAdd
      unfold sUn at e2 ⊢
      omega
    | false => rw [h0, cond_false] at h; exact sGen_ok hG (x := .inl u) ⟨hu, rfl⟩ hy h
  · exact sGen_ok hG hx hy h
