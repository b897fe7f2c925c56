/-! ===== symbols: what a state of the machine says of a state in which all is known ===== -/
/-- a cell: a value, or a set in which it lies -/
abbrev sC : Type := vAV ⊕ sSet
/-- an object: its kind, runs of cells, and what is known at an index that is a symbol -/
abbrev sOb : Type := Nat × List (Nat × sC) × List ((Nat × Nat) × vAV)
abbrev sHp : Type := List (Nat × sOb)
/-- how many symbols there are, the sets in which they lie, and rows (f, d, j): f + d ≤ j -/
abbrev sG : Type := Nat × List (Nat × sSet) × List (Nat × Nat × Nat)
/-- a symbol's number from 0 on, a number added: the int -/
def sUn (r c : Nat) : Nat := (r + c + 2147483648) % 4294967296
theorem sUn_lt (r c : Nat) : sUn r c < 4294967296 := Nat.mod_lt _ (by decide)
theorem sBi_un (r c : Nat) : sBi (sUn r c) = (r + c) % 4294967296 := by unfold sBi sUn; omega
theorem sUn_bi {u : Nat} (hu : u < 4294967296) : sUn (sBi u) 0 = u := by unfold sBi sUn; omega
/-- a value of the machine and what it stands for: its second kind is a symbol and a number that is added, 4 of the last kind some long -/
def sV (ρ : List Nat) : vAV → vAV → Prop
  | .inl u, v => u < 4294967296 ∧ v = .inl u
  | .inr (.inl q), v => ∃ r, ρ[q.1]? = some r ∧ v = .inl (sUn r q.2)
  | .inr (.inr (.inl u)), v => u < 18446744073709551616 ∧ v = .inr (.inr (.inl u))
  | .inr (.inr (.inr (.inl o))), v => v = .inr (.inr (.inr (.inl o)))
  | .inr (.inr (.inr (.inr 4))), v => ∃ u, u < 18446744073709551616 ∧ v = .inr (.inr (.inl u))
  | .inr (.inr (.inr (.inr z))), v => v = .inr (.inr (.inr (.inr z)))
theorem sV_app {ρ : List Nat} (xs : List Nat) {a v : vAV} (h : sV ρ a v) : sV (ρ ++ xs) a v := by
  unfold sV at h ⊢
  split at h
  · exact h
  · obtain ⟨r, h1, h2⟩ := h
    refine ⟨r, ?_, h2⟩
    rw [List.getElem?_append_left (List.getElem?_eq_some_iff.mp h1).1]
    exact h1
  · exact h
  · exact h
  · exact h
  · exact h
def sCr (ρ : List Nat) : sC → vAV → Prop
  | .inl a, v => sV ρ a v
  | .inr S, v => ∃ u, u < 4294967296 ∧ sIn S (sBi u) ∧ v = .inl u
theorem sCr_app {ρ : List Nat} (xs : List Nat) {c : sC} {v : vAV} (h : sCr ρ c v) : sCr (ρ ++ xs) c v := by
  rcases c with a | S
  · exact sV_app xs h
  · exact h
/-- the cell at an index, and how many there are -/
def sRd : List (Nat × sC) → Nat → Option sC
  | [], _ => none
  | q :: rs, i => bif Nat.blt i q.1 then some q.2 else sRd rs (i - q.1)
def sLen : List (Nat × sC) → Nat
  | [] => 0
  | q :: rs => q.1 + sLen rs
/-- runs of cells, and the cells -/
def sRr (ρ : List Nat) (rs : List (Nat × sC)) (cs : List vAV) : Prop := cs.length = sLen rs ∧ ∀ (i : Nat) (c : sC) (v : vAV), sRd rs i = some c → cs[i]? = some v → sCr ρ c v
theorem sRr_app {ρ : List Nat} (xs : List Nat) {rs : List (Nat × sC)} {cs : List vAV} (h : sRr ρ rs cs) : sRr (ρ ++ xs) rs cs := ⟨h.1, fun i c v h1 h2 => sCr_app xs (h.2 i c v h1 h2)⟩
/-- the index that a symbol and a number name: not below 0, so its number from 0 on is 2^31 more -/
def sIx (ρ : List Nat) (q : Nat × Nat) (i : Nat) : Prop := ∃ r, ρ[q.1]? = some r ∧ (r + q.2) % 4294967296 = i + 2147483648
def sOr (ρ : List Nat) (o : sOb) (ob : vOb) : Prop := ob.1 = o.1 ∧ sRr ρ o.2.1 ob.2 ∧ ∀ e ∈ o.2.2, ∃ i v, sIx ρ e.1 i ∧ ob.2[i]? = some v ∧ sV ρ e.2 v
theorem sIx_app {ρ : List Nat} (xs : List Nat) {q : Nat × Nat} {i : Nat} (h : sIx ρ q i) : sIx (ρ ++ xs) q i := by
  obtain ⟨r, h1, h2⟩ := h
  refine ⟨r, ?_, h2⟩
  rw [List.getElem?_append_left (List.getElem?_eq_some_iff.mp h1).1]
  exact h1
theorem sOr_app {ρ : List Nat} (xs : List Nat) {o : sOb} {ob : vOb} (h : sOr ρ o ob) : sOr (ρ ++ xs) o ob :=
  ⟨h.1, sRr_app xs h.2.1, fun e he => by
    obtain ⟨i, v, h1, h2, h3⟩ := h.2.2 e he
    exact ⟨i, v, sIx_app xs h1, h2, sV_app xs h3⟩⟩
def sHr (ρ : List Nat) (h : sHp) (hp : List vOb) : Prop := ∀ e ∈ h, ∃ ob, hp[e.1]? = some ob ∧ sOr ρ e.2 ob
theorem sHr_app {ρ : List Nat} (xs : List Nat) {h : sHp} {hp : List vOb} (hh : sHr ρ h hp) : sHr (ρ ++ xs) h hp := fun e he => by
  obtain ⟨ob, h1, h2⟩ := hh e he
  exact ⟨ob, h1, sOr_app xs h2⟩
def sTr (ρ : List Nat) : List vAV → List vAV → Prop
  | [], [] => True
  | a :: as, v :: vs => sV ρ a v ∧ sTr ρ as vs
  | [], _ :: _ => False
  | _ :: _, [] => False
theorem sTr_app {ρ : List Nat} (xs : List Nat) : ∀ {as vs : List vAV}, sTr ρ as vs → sTr (ρ ++ xs) as vs
  | [], [], _ => trivial
  | _ :: _, _ :: _, h => ⟨sV_app xs h.1, sTr_app xs h.2⟩
  | [], _ :: _, h => h.elim
  | _ :: _, [], h => h.elim
def sLr (ρ : List Nat) : vLs → vLs → Prop
  | [], [] => True
  | a :: as, v :: vs => (∀ x, a = some x → ∃ y, v = some y ∧ sV ρ x y) ∧ sLr ρ as vs
  | [], _ :: _ => False
  | _ :: _, [] => False
theorem sLr_app {ρ : List Nat} (xs : List Nat) : ∀ {as vs : vLs}, sLr ρ as vs → sLr (ρ ++ xs) as vs
  | [], [], _ => trivial
  | _ :: _, _ :: _, h => ⟨fun x hx => by obtain ⟨y, h1, h2⟩ := h.1 x hx; exact ⟨y, h1, sV_app xs h2⟩, sLr_app xs h.2⟩
  | [], _ :: _, h => h.elim
  | _ :: _, [], h => h.elim
def sGr (ρ : List Nat) (G : sG) : Prop := ρ.length = G.1 ∧ (∀ e ∈ G.2.1, ∃ r, ρ[e.1]? = some r ∧ r < 4294967296 ∧ sIn e.2 r) ∧ (∀ t ∈ G.2.2, ∃ a b, ρ[t.1]? = some a ∧ ρ[t.2.2]? = some b ∧ a + t.2.1 ≤ b)
/-- the set of a symbol -/
def sFind (j : Nat) : List (Nat × sSet) → Option sSet
  | [] => none
  | e :: es => bif Nat.beq e.1 j then some e.2 else sFind j es
theorem sFind_mem {j : Nat} : ∀ {es : List (Nat × sSet)} {S : sSet}, sFind j es = some S → (j, S) ∈ es
  | [], _, h => by cases h
  | e :: es, S, h => by
    unfold sFind at h
    cases hb : Nat.beq e.1 j with
    | true =>
      rw [hb, cond_true] at h
      have e1 := Nat.eq_of_beq_eq_true hb
      have e2 := Option.some.inj h
      rw [← e1, ← e2]
      exact List.mem_cons_self
    | false =>
      rw [hb, cond_false] at h
      exact List.mem_cons_of_mem _ (sFind_mem h)
noncomputable def sSetOf (G : sG) (a : vAV) : Option sSet := match a with
  | .inl u => vF ((u + 2147483648) % 4294967296) (fun r => some [(r, r)])
  | .inr (.inl q) => match sFind q.1 G.2.1 with
    | some S => some (sShf S q.2)
    | none => none
  | _ => none
theorem sSetOf_ok {ρ : List Nat} {G : sG} {a v : vAV} {S : sSet} (hG : sGr ρ G) (hv : sV ρ a v) (h : sSetOf G a = some S) : ∃ u, u < 4294967296 ∧ v = .inl u ∧ sIn S (sBi u) := by
  unfold sSetOf at h
  split at h
  · next u =>
    rw [vF_eq] at h
    have h := Option.some.inj h
    subst h
    exact ⟨u, hv.1, hv.2, sIn_one (Nat.le_refl _) (Nat.le_refl _)⟩
  · next q =>
    split at h
    · next S0 hf =>
      have h := Option.some.inj h
      subst h
      obtain ⟨r, h1, h2⟩ := hv
      obtain ⟨r', h3, h4, h5⟩ := hG.2.1 _ (sFind_mem hf)
      rw [h1] at h3
      cases h3
      refine ⟨_, sUn_lt _ _, h2, ?_⟩
      rw [sBi_un]
      exact sShf_ok _ _ _ h5
    · cases h
  · cases h
/-- a value lies in a set, too: none if that can't be -/
noncomputable def sRef (G : sG) (a : vAV) (S : sSet) : Option sG := match a with
  | .inl u => bif sMem ((u + 2147483648) % 4294967296) S then some G else none
  | .inr (.inl q) => match sFind q.1 G.2.1 with
    | some S0 => match sCap S0 (sShf S (4294967296 - q.2 % 4294967296)) with
      | [] => none
      | x :: R => some (G.1, (q.1, x :: R) :: G.2.1, G.2.2)
    | none => some G
  | _ => some G
theorem sRef_ok {ρ : List Nat} {G : sG} {a : vAV} {u : Nat} {S : sSet} (hG : sGr ρ G) (hv : sV ρ a (.inl u)) (hS : sIn S (sBi u)) : ∃ G', sRef G a S = some G' ∧ sGr ρ G' := by
  unfold sRef
  split
  · next u' =>
    have e := Sum.inl.inj hv.2
    subst e
    have h := sMem_of S _ hS
    unfold sBi at h
    rw [h]
    exact ⟨G, rfl, hG⟩
  · next q =>
    split
    · next S0 hf =>
      obtain ⟨r, h1, h2⟩ := hv
      obtain ⟨r', h3, h4, h5⟩ := hG.2.1 _ (sFind_mem hf)
      rw [h1] at h3
      cases h3
      have e := Sum.inl.inj h2
      have h6 : sIn (sCap S0 (sShf S (4294967296 - q.2 % 4294967296))) r := by
        refine sCap_ok _ _ _ h5 ?_
        have h7 := sShf_ok S (4294967296 - q.2 % 4294967296) _ hS
        have e2 : (sBi u + (4294967296 - q.2 % 4294967296)) % 4294967296 = r := by rw [e, sBi_un]; omega
        rw [e2] at h7
        exact h7
      split
      · next h8 => rw [h8] at h6; exact (sIn_nil h6).elim
      · next x R h8 =>
        rw [h8] at h6
        refine ⟨_, rfl, hG.1, fun e1 he => ?_, hG.2.2⟩
        rcases List.mem_cons.mp he with he | he
        · rw [he]; exact ⟨r, h1, h4, h6⟩
        · exact hG.2.1 e1 he
    · exact ⟨G, rfl, hG⟩
  · exact ⟨G, rfl, hG⟩
/-- a new symbol -/
def sNew (G : sG) (S : sSet) : sG := (G.1 + 1, (G.1, S) :: G.2.1, G.2.2)
theorem sGr_new {ρ : List Nat} {G : sG} {S : sSet} {x : Nat} (hG : sGr ρ G) (hx : x < 4294967296) (hS : sIn S x) : sGr (ρ ++ [x]) (sNew G S) := by
  have hl : ∀ (j r : Nat), ρ[j]? = some r → (ρ ++ [x])[j]? = some r := fun j r h => by
    rw [List.getElem?_append_left (List.getElem?_eq_some_iff.mp h).1]; exact h
  refine ⟨by simp [sNew, hG.1], fun e he => ?_, fun t ht => ?_⟩
  · rcases List.mem_cons.mp he with he | he
    · rw [he]
      refine ⟨x, ?_, hx, hS⟩
      show (ρ ++ [x])[G.1]? = some x
      rw [← hG.1]
      simp
    · obtain ⟨r, h1, h2, h3⟩ := hG.2.1 e he
      exact ⟨r, hl _ _ h1, h2, h3⟩
  · obtain ⟨a, b, h1, h2, h3⟩ := hG.2.2 t ht
    exact ⟨a, b, hl _ _ h1, hl _ _ h2, h3⟩
theorem sV_sym {ρ : List Nat} {j c r : Nat} {v : vAV} (h1 : ρ[j]? = some r) (h2 : v = .inl (sUn r c)) : sV ρ (.inr (.inl (j, c))) v := ⟨r, h1, h2⟩
theorem sV_new {ρ : List Nat} {G : sG} (hG : sGr ρ G) {u : Nat} (hu : u < 4294967296) : sV (ρ ++ [sBi u]) (.inr (.inl (G.1, 0))) (.inl u) := by
  have h1 : (ρ ++ [sBi u])[G.1]? = some (sBi u) := by
    rw [← hG.1]
    exact List.getElem?_concat_length
  exact sV_sym h1 (congrArg Sum.inl (sUn_bi hu).symm)
