/-! ===== from one LINE to the next: new symbols for what was told ===== -/
def eSub (ys : List eX) : eX → eX
  | [] => []
  | q :: x => match q.1 with
    | 1 => ys.getD q.2 [] ++ eSub ys x
    | _ => q :: eSub ys x
def eSubV (ys : List eX) : eV → eV
  | .inl x => .inl (eSub ys x)
  | .inr (.inl x) => .inr (.inl (eSub ys x))
  | .inr (.inr o) => .inr (.inr o)
def eSubC (ys : List eX) (q : Nat × eX × eX × Bool) : Nat × eX × eX × Bool := (q.1, eSub ys q.2.1, eSub ys q.2.2.1, q.2.2.2)
/-- tables that are alike ahead of the LINE and behind it -/
def eTb (x : eX) : Bool := x.all (fun q => !Nat.beq q.1 4 || Nat.ble q.2 11)
theorem eEv_sub {ρ ρ' : Nat → Nat → Nat} {ys : List eX} {B : Nat} (hy : ∀ j, j < B → eR ρ (ys.getD j []) (ρ' 0 j)) (ht : ∀ k, k ≤ 11 → k ≠ 0 → ∀ u, ρ' k u = ρ k u) : ∀ (x : eX) (st : List Nat), (x.all (fun q => !Nat.beq q.1 1 || Nat.blt q.2 B) && (eTb x && x.all (fun q => !Nat.beq q.1 4 || !Nat.beq q.2 0))) = true → eEv ρ' x st = eEv ρ (eSub ys x) st
  | [], _, _ => rfl
  | q :: x, st, h => by
    unfold eTb at h
    rw [Bool.and_eq_true, Bool.and_eq_true, List.all_cons, List.all_cons, List.all_cons, Bool.and_eq_true, Bool.and_eq_true, Bool.and_eq_true] at h
    obtain ⟨⟨a1, a2⟩, ⟨b1, b2⟩, c1, c2⟩ := h
    have ih := fun st => eEv_sub hy ht x st (by
      unfold eTb
      rw [Bool.and_eq_true, Bool.and_eq_true]
      exact ⟨a2, b2, c2⟩)
    obtain ⟨k, j⟩ := q
    show eEv ρ' x (eTok ρ' (k, j) st) = eEv ρ (eSub ys ((k, j) :: x)) st
    rw [ih]
    match k with
    | 0 => rfl
    | 1 =>
      show _ = eEv ρ (ys.getD j [] ++ eSub ys x) st
      rw [eEv_app, hy j (Nat.blt_eq.mp a1)]
      rfl
    | 2 =>
      match st with
      | [] => rfl
      | [_] => rfl
      | _ :: _ :: _ => rfl
    | 3 =>
      match st with
      | [] => rfl
      | _ :: _ => rfl
    | 4 =>
      show eEv ρ (eSub ys x) (eTok ρ' (4, j) st) = eEv ρ (eSub ys x) (eTok ρ (4, j) st)
      have e : eTok ρ' (4, j) st = eTok ρ (4, j) st := by
        match st with
        | [] => rfl
        | u :: st' =>
          show ρ' j u :: st' = ρ j u :: st'
          rw [ht j (Nat.le_of_ble_eq_true b1) (fun e => by rw [e] at c1; cases c1)]
      rw [e]
    | k + 5 => rfl
def eOkx (B : Nat) (x : eX) : Bool := x.all (fun q => !Nat.beq q.1 1 || Nat.blt q.2 B) && (eTb x && x.all (fun q => !Nat.beq q.1 4 || !Nat.beq q.2 0))
theorem eVal_sub {ρ ρ' : Nat → Nat → Nat} {ys : List eX} {B : Nat} (hy : ∀ j, j < B → eR ρ (ys.getD j []) (ρ' 0 j)) (ht : ∀ k, k ≤ 11 → k ≠ 0 → ∀ u, ρ' k u = ρ k u) {x : eX} (h : eOkx B x = true) : eVal ρ' x = eVal ρ (eSub ys x) := by
  unfold eVal
  rw [eEv_sub hy ht x [] h]
theorem eCo_sub {ρ ρ' : Nat → Nat → Nat} {ys : List eX} {B : Nat} (hy : ∀ j, j < B → eR ρ (ys.getD j []) (ρ' 0 j)) (ht : ∀ k, k ≤ 11 → k ≠ 0 → ∀ u, ρ' k u = ρ k u) {q : Nat × eX × eX × Bool} (h : (eOkx B q.2.1 && eOkx B q.2.2.1) = true) : eCo ρ' q ↔ eCo ρ (eSubC ys q) := by
  rw [Bool.and_eq_true] at h
  unfold eCo eSubC
  dsimp only
  rw [eVal_sub hy ht h.1, eVal_sub hy ht h.2]
theorem eCv_sub {ρ ρ' : Nat → Nat → Nat} {ys : List eX} {B : Nat} (hy : ∀ j, j < B → eR ρ (ys.getD j []) (ρ' 0 j)) (ht : ∀ k, k ≤ 11 → k ≠ 0 → ∀ u, ρ' k u = ρ k u) {v : eV} (h : (match v with
  | .inl x => eOkx B x
  | .inr (.inl x) => eOkx B x
  | .inr (.inr _) => true) = true) : eCv ρ' v = eCv ρ (eSubV ys v) := by
  rcases v with x | x | o
  · show (Sum.inl (eVal ρ' x) : vAV) = Sum.inl (eVal ρ (eSub ys x))
    rw [eVal_sub hy ht h]
  · show (Sum.inr (Sum.inr (Sum.inl (eVal ρ' x))) : vAV) = Sum.inr (Sum.inr (Sum.inl (eVal ρ (eSub ys x))))
    rw [eVal_sub hy ht h]
  · rfl
/-- a condition is among these -/
def ecIn (q : Nat × eX × eX × Bool) (l : eCs) : Bool := l.any (fun r => ecB q r)
theorem ecIn_ok {q : Nat × eX × eX × Bool} {l : eCs} (h : ecIn q l = true) : q ∈ l := by
  obtain ⟨r, r1, r2⟩ := List.any_eq_true.mp h
  rw [ecB_ok _ _ r2]
  exact r1
def eNx (cd : eD) (ys : List eX) (gs : eCs) (B : Nat) (e : Nat × eX × eV × eCs) : Bool := match eGet e.1 (eSub ys e.2.1) cd with
  | some (v, g) => (eOkx B e.2.1 && (evB v (eSubV ys e.2.2.1) && (match e.2.2.1 with
    | .inl x => eOkx B x
    | .inr (.inl x) => eOkx B x
    | .inr (.inr _) => true))) && (e.2.2.2.all (fun q => eOkx B q.2.1 && eOkx B q.2.2.1) && g.all (fun q => ecIn q (e.2.2.2.map (eSubC ys) ++ gs)))
  | none => false
/-- what was told, by new symbols -/
theorem eDt_next {ρ ρ' : Nat → Nat → Nat} {ys : List eX} {cd cH : eD} {gs : eCs} {B : Nat} {hp : List vOb} (hy : ∀ j, j < B → eR ρ (ys.getD j []) (ρ' 0 j)) (ht : ∀ k, k ≤ 11 → k ≠ 0 → ∀ u, ρ' k u = ρ k u) (hg : ∀ q ∈ gs, eCo ρ q) (h : cH.all (eNx cd ys gs B) = true) (hd : eDt ρ cd hp) : eDt ρ' cH hp := fun e he hge => by
  have h1 := List.all_eq_true.mp h e he
  unfold eNx at h1
  split at h1
  · next v g hv =>
    rw [Bool.and_eq_true, Bool.and_eq_true, Bool.and_eq_true, Bool.and_eq_true] at h1
    obtain ⟨⟨a1, a2, a3⟩, a4, a5⟩ := h1
    have h2 := hd _ (eGet_ok hv) (fun q hq => by
      have h3 := ecIn_ok (List.all_eq_true.mp a5 q hq)
      rcases List.mem_append.mp h3 with h4 | h4
      · obtain ⟨r, r1, r2⟩ := List.mem_map.mp h4
        rw [← r2]
        exact (eCo_sub hy ht (List.all_eq_true.mp a4 r r1)).mp (hge r r1)
      · exact hg q h4)
    dsimp only at h2
    rw [evB_ok _ _ a2] at h2
    rw [eVal_sub hy ht a1, eCv_sub hy ht a3]
    exact h2
  · cases h1
/-- rows that are not written -/
theorem eW_row {ρ : Nat → Nat → Nat} {W : List (Nat × eX)} {hp hp' : List vOb} {k : Nat} (hf : sFr (eMd ρ W) hp hp') (h : W.all (fun e => !Nat.beq e.1 k) = true) {i : Nat} {v : vAV} (hc : hC hp k i v) : hC hp' k i v := hC_fr hf (fun hm => by
  obtain ⟨e, e1, e2, -⟩ := eMd_min hm
  have h1 := List.all_eq_true.mp h e e1
  rw [e2, Nat.beq_refl] at h1
  cases h1) hc
/-- a row in which one cell is written -/
theorem eW_cell {ρ : Nat → Nat → Nat} {W : List (Nat × eX)} {hp hp' : List vOb} {k u : Nat} {x : eX} (hf : sFr (eMd ρ W) hp hp') (hx : eVal ρ x = u) (h : W.all (fun e => !Nat.beq e.1 k || eEq e.2 x) = true) {i : Nat} {v : vAV} (hi : i ≠ u) (hc : hC hp k i v) : hC hp' k i v := hC_fr hf (fun hm => by
  obtain ⟨e, e1, e2, e3⟩ := eMd_min hm
  have h1 := List.all_eq_true.mp h e e1
  rw [e2, Nat.beq_refl, Bool.not_true, Bool.false_or] at h1
  rw [eEq_ok h1, hx] at e3
  exact hi e3) hc
