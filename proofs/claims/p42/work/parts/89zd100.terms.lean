/-! ===== exact runs: values are terms over symbols ===== -/
/-- a term: numbers (0), symbols (1), sums (2, 3) and what tables say (4) in the order in which a stack takes them -/
abbrev eX : Type := List (Nat × Nat)
/-- an int's term, a long's term, a known reference -/
abbrev eV : Type := eX ⊕ eX ⊕ Option Nat
def eLc (u w : Nat) : Nat := bif Nat.blt ((u + 9223372036854775808) % 18446744073709551616) ((w + 9223372036854775808) % 18446744073709551616) then 4294967295 else bif Nat.beq ((u + 9223372036854775808) % 18446744073709551616) ((w + 9223372036854775808) % 18446744073709551616) then 0 else 1
noncomputable def eBn (op u w : Nat) : Nat := match op with
  | 11 => (u + w) % 18446744073709551616
  | 12 => (u * w) % 18446744073709551616
  | 13 => kLor u w
  | 14 => kLshl u w
  | 15 => eLc u w
  | op => sKop op u w
def eUn (op u : Nat) : Nat := match op with
  | 0 => bif Nat.blt u 2147483648 then u else u + 18446744069414584320
  | 1 => u % 4294967296
  | 2 => kI2b u
  | _ => kNarB u
noncomputable def eTok (ρ : Nat → Nat → Nat) (q : Nat × Nat) (st : List Nat) : List Nat := match q.1, st with
  | 0, st => q.2 :: st
  | 1, st => ρ 0 q.2 :: st
  | 2, w :: u :: st' => eBn q.2 u w :: st'
  | 3, u :: st' => eUn q.2 u :: st'
  | 4, u :: st' => ρ q.2 u :: st'
  | _, st => st
noncomputable def eEv (ρ : Nat → Nat → Nat) : eX → List Nat → List Nat
  | [], st => st
  | q :: x, st => eEv ρ x (eTok ρ q st)
theorem eEv_app (ρ : Nat → Nat → Nat) : ∀ (x y : eX) (st : List Nat), eEv ρ (x ++ y) st = eEv ρ y (eEv ρ x st)
  | [], _, _ => rfl
  | q :: x, y, st => eEv_app ρ x y (eTok ρ q st)
/-- a term has this value -/
def eR (ρ : Nat → Nat → Nat) (x : eX) (u : Nat) : Prop := ∀ st, eEv ρ x st = u :: st
noncomputable def eVal (ρ : Nat → Nat → Nat) (x : eX) : Nat := (eEv ρ x []).headD 0
theorem eR_val {ρ : Nat → Nat → Nat} {x : eX} {u : Nat} (h : eR ρ x u) : eVal ρ x = u := by
  unfold eVal
  rw [h []]
  rfl
theorem eR_fun {ρ : Nat → Nat → Nat} {x : eX} {u w : Nat} (h : eR ρ x u) (h' : eR ρ x w) : u = w := by
  have a := h []
  rw [h' []] at a
  exact (List.cons.inj a).1.symm
theorem eR_c (ρ : Nat → Nat → Nat) (c : Nat) : eR ρ [(0, c)] c := fun _ => rfl
theorem eR_b {ρ : Nat → Nat → Nat} {x y : eX} {u w : Nat} (op : Nat) (hx : eR ρ x u) (hy : eR ρ y w) : eR ρ (x ++ (y ++ [(2, op)])) (eBn op u w) := fun st => by
  rw [eEv_app, hx, eEv_app, hy]
  rfl
theorem eR_u {ρ : Nat → Nat → Nat} {x : eX} {u : Nat} (op : Nat) (hx : eR ρ x u) : eR ρ (x ++ [(3, op)]) (eUn op u) := fun st => by
  rw [eEv_app, hx]
  rfl
def eCn (x : eX) : Option Nat := match x with
  | [(0, c)] => some c
  | _ => none
theorem eCn_ok {ρ : Nat → Nat → Nat} {x : eX} {c : Nat} (h : eCn x = some c) : eR ρ x c := by
  unfold eCn at h
  split at h
  · have h := Option.some.inj h
    subst h
    exact eR_c ρ _
  · cases h
theorem eCn_val {ρ : Nat → Nat → Nat} {x : eX} {c u : Nat} (h : eCn x = some c) (hu : eR ρ x u) : u = c := eR_fun hu (eCn_ok h)
def eEq : eX → eX → Bool
  | [], [] => true
  | a :: x, b :: y => Nat.beq a.1 b.1 && (Nat.beq a.2 b.2 && eEq x y)
  | _, _ => false
theorem eEq_ok : ∀ {x y : eX}, eEq x y = true → x = y
  | [], [], _ => rfl
  | [], _ :: _, h => by cases h
  | _ :: _, [], h => by cases h
  | a :: x, b :: y, h => by
    unfold eEq at h
    rw [Bool.and_eq_true, Bool.and_eq_true] at h
    rw [eEq_ok h.2.2, Prod.ext (Nat.eq_of_beq_eq_true h.1) (Nat.eq_of_beq_eq_true h.2.1)]
def eNe (x y : eX) : Bool := match eCn x, eCn y with
  | some a, some b => !Nat.beq a b
  | _, _ => false
theorem eNe_ok {ρ : Nat → Nat → Nat} {x y : eX} {u w : Nat} (h : eNe x y = true) (hx : eR ρ x u) (hy : eR ρ y w) : u ≠ w := by
  unfold eNe at h
  split at h
  · next a b ha hb =>
    intro e
    have e1 := eCn_val ha hx
    have e2 := eCn_val hb hy
    rw [← e1, ← e2, e, Nat.beq_refl] at h
    cases h
  · cases h
def eRv (ρ : Nat → Nat → Nat) : eV → vAV → Prop
  | .inl x, v => ∃ u, eR ρ x u ∧ v = .inl u
  | .inr (.inl x), v => ∃ u, eR ρ x u ∧ v = .inr (.inr (.inl u))
  | .inr (.inr o), v => v = .inr (.inr (.inr (.inl o)))
def eTr (ρ : Nat → Nat → Nat) : List eV → List vAV → Prop
  | [], [] => True
  | a :: as, v :: vs => eRv ρ a v ∧ eTr ρ as vs
  | [], _ :: _ => False
  | _ :: _, [] => False
def eLr (ρ : Nat → Nat → Nat) : List (Option eV) → vLs → Prop
  | [], [] => True
  | a :: as, v :: vs => (∀ x, a = some x → ∃ y, v = some y ∧ eRv ρ x y) ∧ eLr ρ as vs
  | [], _ :: _ => False
  | _ :: _, [] => False
/-- what must hold for a way: a comparison and how it ends; 100: an index lies in its row -/
abbrev eCs : Type := List (Nat × eX × eX × Bool)
def eCo (ρ : Nat → Nat → Nat) (c : Nat × eX × eX × Bool) : Prop := if c.1 = 100 then eVal ρ c.2.1 < eVal ρ c.2.2.1 else kCmp c.1 (sBi (eVal ρ c.2.1)) (sBi (eVal ρ c.2.2.1)) = c.2.2.2
/-- cells that are told: row, index, value, and what must hold that it is so -/
abbrev eD : Type := List (Nat × eX × eV × eCs)
def eDr (ρ : Nat → Nat → Nat) (D : eD) (hp : List vOb) : Prop := ∀ e ∈ D, (∀ q ∈ e.2.2.2, eCo ρ q) → ∃ i v, eR ρ e.2.1 i ∧ hC hp e.1 i v ∧ eRv ρ e.2.2.1 v
def eGet (k : Nat) (x : eX) : eD → Option (eV × eCs)
  | [] => none
  | e :: D => bif Nat.beq e.1 k && eEq e.2.1 x then some e.2.2 else eGet k x D
theorem eGet_ok {k : Nat} {x : eX} : ∀ {D : eD} {v : eV × eCs}, eGet k x D = some v → (k, x, v) ∈ D
  | [], _, h => by cases h
  | e :: D, v, h => by
    unfold eGet at h
    cases hb : (Nat.beq e.1 k && eEq e.2.1 x) with
    | true =>
      rw [hb, cond_true] at h
      rw [Bool.and_eq_true] at hb
      have e1 := Nat.eq_of_beq_eq_true hb.1
      have e2 := eEq_ok hb.2
      have e3 := Option.some.inj h
      rw [← e1, ← e2, ← e3]
      exact List.mem_cons_self
    | false =>
      rw [hb, cond_false] at h
      exact List.mem_cons_of_mem _ (eGet_ok h)
def eDel (k : Nat) (x : eX) : eD → eD
  | [] => []
  | e :: D => bif Nat.beq e.1 k && eEq e.2.1 x then eDel k x D else e :: eDel k x D
/-- what must hold that the others stay -/
def eDob (k : Nat) (x : eX) : eD → eCs
  | [] => []
  | e :: D => bif !Nat.beq e.1 k || (eEq e.2.1 x || eNe e.2.1 x) then eDob k x D else (1, e.2.1, x, true) :: eDob k x D
theorem eEq_rf : ∀ x : eX, eEq x x = true
  | [] => rfl
  | a :: x => by
    unfold eEq
    rw [Nat.beq_refl, Nat.beq_refl, eEq_rf x]
    rfl
theorem eDel_ok {ρ : Nat → Nat → Nat} {k : Nat} {x : eX} {e : Nat × eX × eV × eCs} : ∀ {D : eD}, e ∈ eDel k x D → (∀ q ∈ eDob k x D, eCo ρ q) → e ∈ D ∧ (e.1 ≠ k ∨ ∀ i u, eR ρ e.2.1 i → eR ρ x u → i ≠ u)
  | [], h, _ => by cases h
  | a :: D, h, hq => by
    unfold eDel at h
    unfold eDob at hq
    have hq' : ∀ q ∈ eDob k x D, eCo ρ q := by
      cases hb : (!Nat.beq a.1 k || (eEq a.2.1 x || eNe a.2.1 x)) with
      | true =>
        rw [hb, cond_true] at hq
        exact hq
      | false =>
        rw [hb, cond_false] at hq
        exact fun q h => hq q (List.mem_cons_of_mem _ h)
    cases hb : (Nat.beq a.1 k && eEq a.2.1 x) with
    | true =>
      rw [hb, cond_true] at h
      exact ⟨List.mem_cons_of_mem _ (eDel_ok h hq').1, (eDel_ok h hq').2⟩
    | false =>
      rw [hb, cond_false] at h
      rcases List.mem_cons.mp h with h | h
      · subst h
        refine ⟨List.mem_cons_self, ?_⟩
        by_cases hk : e.1 = k
        · right
          intro i u hi hu
          rw [hk, Nat.beq_refl, Bool.true_and] at hb
          rw [hk, Nat.beq_refl, hb, Bool.not_true, Bool.false_or, Bool.false_or] at hq
          cases hn : eNe e.2.1 x with
          | true => exact eNe_ok hn hi hu
          | false =>
            rw [hn, cond_false] at hq
            have h1 := hq _ List.mem_cons_self
            unfold eCo at h1
            dsimp only at h1
            rw [if_neg (by decide), eR_val hi, eR_val hu] at h1
            intro e1
            rw [e1] at h1
            have h2 : (!Nat.beq (sBi u) (sBi u)) = true := h1
            rw [Nat.beq_refl] at h2
            cases h2
        · exact Or.inl hk
      · exact ⟨List.mem_cons_of_mem _ (eDel_ok h hq').1, (eDel_ok h hq').2⟩
/-- cells that are written -/
noncomputable def eMd (ρ : Nat → Nat → Nat) (W : List (Nat × eX)) : sMd := W.map (fun e => (e.1, eVal ρ e.2, eVal ρ e.2))
theorem hC_set {hp : List vOb} {k u : Nat} {o : vOb} {v : vAV} (ho : hp[k]? = some o) (hu : u < o.2.length) : hC (hp.set k (o.1, o.2.set u v)) k u v := by
  have hk := (List.getElem?_eq_some_iff.mp ho).1
  exact ⟨(o.1, o.2.set u v), List.getElem?_set_self hk, List.getElem?_set_self hu⟩
theorem hC_set_ne {hp : List vOb} {k u r i : Nat} {o : vOb} {v w : vAV} (ho : hp[k]? = some o) (h : r ≠ k ∨ i ≠ u) (hc : hC hp r i w) : hC (hp.set k (o.1, o.2.set u v)) r i w := by
  obtain ⟨ob, h1, h2⟩ := hc
  by_cases e : r = k
  · subst e
    have hi : i ≠ u := by
      rcases h with h | h
      · exact absurd rfl h
      · exact h
    rw [ho] at h1
    have h1 := Option.some.inj h1
    subst h1
    have hk := (List.getElem?_eq_some_iff.mp ho).1
    refine ⟨(o.1, o.2.set u v), List.getElem?_set_self hk, ?_⟩
    show (o.2.set u v)[i]? = some w
    rw [List.getElem?_set_ne (fun e => hi e.symm)]
    exact h2
  · exact ⟨ob, by rw [List.getElem?_set_ne (fun e1 => e e1.symm)]; exact h1, h2⟩
theorem eFr_set {hp : List vOb} {k u : Nat} {o : vOb} {v : vAV} (ho : hp[k]? = some o) : sFr [(k, u, u)] hp (hp.set k (o.1, o.2.set u v)) := by
  refine ⟨List.length_set, fun r o0 h => ?_⟩
  by_cases e : r = k
  · subst e
    rw [ho] at h
    have h := Option.some.inj h
    subst h
    have hk := (List.getElem?_eq_some_iff.mp ho).1
    refine ⟨(o.1, o.2.set u v), List.getElem?_set_self hk, rfl, List.length_set, fun i hi => ?_⟩
    show (o.2.set u v)[i]? = o.2[i]?
    by_cases e2 : u = i
    · exact absurd ⟨(r, u, u), List.mem_cons_self, rfl, by dsimp only; omega, by dsimp only; omega⟩ hi
    · exact List.getElem?_set_ne e2
  · exact ⟨o0, by rw [List.getElem?_set_ne (fun e1 => e e1.symm)]; exact h, rfl, rfl, fun _ _ => rfl⟩
theorem sFr_one {ρ : Nat → Nat → Nat} {W : List (Nat × eX)} {hp0 hp : List vOb} {k u : Nat} {x : eX} {o : vOb} {v : vAV} (hf : sFr (eMd ρ W) hp0 hp) (ho : hp[k]? = some o) (hx : eR ρ x u) : sFr (eMd ρ ((k, x) :: W)) hp0 (hp.set k (o.1, o.2.set u v)) := by
  refine (hf.mono (fun r i ⟨m, m1, m2⟩ => ⟨m, List.mem_cons_of_mem _ m1, m2⟩)).tr ((eFr_set (u := u) ho).mono (fun r i ⟨m, m1, m2⟩ => ?_))
  rw [List.mem_singleton] at m1
  subst m1
  refine ⟨(k, eVal ρ x, eVal ρ x), List.mem_cons_self, ?_⟩
  rw [eR_val hx]
  exact m2
theorem eDr_put {ρ : Nat → Nat → Nat} {D : eD} {hp : List vOb} {k u : Nat} {x : eX} {o : vOb} {V : eV} {v : vAV} (hq : ∀ q ∈ eDob k x D, eCo ρ q) (hd : eDr ρ D hp) (ho : hp[k]? = some o) (hx : eR ρ x u) (hu : u < o.2.length) (hv : eRv ρ V v) : eDr ρ ((k, x, V, []) :: eDel k x D) (hp.set k (o.1, o.2.set u v)) := fun e he hg => by
  rcases List.mem_cons.mp he with h | h
  · subst h
    exact ⟨u, v, hx, hC_set ho hu, hv⟩
  · obtain ⟨h1, h2⟩ := eDel_ok h hq
    obtain ⟨i, w, q1, q2, q3⟩ := hd e h1 hg
    refine ⟨i, w, q1, hC_set_ne ho ?_ q2, q3⟩
    rcases h2 with h2 | h2
    · exact Or.inl h2
    · exact Or.inr (h2 _ _ q1 hx)
/-- rows: place, kind, how many cells -/
def eSh (sh : List (Nat × Nat × Nat)) (hp : List vOb) : Prop := ∀ e ∈ sh, ∃ ob, hp[e.1]? = some ob ∧ ob.1 = e.2.1 ∧ ob.2.length = e.2.2
theorem eSh_fr {sh : List (Nat × Nat × Nat)} {md : sMd} {hp hp' : List vOb} (hf : sFr md hp hp') (h : eSh sh hp) : eSh sh hp' := fun e he => by
  obtain ⟨ob, h1, h2, h3⟩ := h e he
  obtain ⟨o, q1, q2, q3, -⟩ := hf.2 _ _ h1
  exact ⟨o, q1, q2.trans h2, q3.trans h3⟩
def eSl (k : Nat) : List (Nat × Nat × Nat) → Option (Nat × Nat)
  | [] => none
  | e :: sh => bif Nat.beq e.1 k then some e.2 else eSl k sh
theorem eSl_ok {k : Nat} : ∀ {sh : List (Nat × Nat × Nat)} {q : Nat × Nat}, eSl k sh = some q → (k, q) ∈ sh
  | [], _, h => by cases h
  | e :: sh, q, h => by
    unfold eSl at h
    cases hb : Nat.beq e.1 k with
    | true =>
      rw [hb, cond_true] at h
      have e1 := Nat.eq_of_beq_eq_true hb
      have e2 := Option.some.inj h
      rw [← e1, ← e2]
      exact List.mem_cons_self
    | false =>
      rw [hb, cond_false] at h
      exact List.mem_cons_of_mem _ (eSl_ok h)
theorem eSl_row {k : Nat} {sh : List (Nat × Nat × Nat)} {q : Nat × Nat} {hp : List vOb} (hs : eSh sh hp) (h : eSl k sh = some q) : ∃ ob, hp[k]? = some ob ∧ ob.1 = q.1 ∧ ob.2.length = q.2 := hs _ (eSl_ok h)
