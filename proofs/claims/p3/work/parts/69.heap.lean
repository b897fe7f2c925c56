/-! ===== objects by their places; what has changed ===== -/
def sGo : sHp → Nat → Option sOb
  | [], _ => none
  | e :: h, k => bif Nat.beq e.1 k then some e.2 else sGo h k
theorem sGo_mem : ∀ {h : sHp} {k : Nat} {o : sOb}, sGo h k = some o → (k, o) ∈ h
  | [], _, _, h => by cases h
  | e :: h, k, o, hh => by
    unfold sGo at hh
    cases hb : Nat.beq e.1 k with
    | true =>
      rw [hb, cond_true] at hh
      have e1 := Nat.eq_of_beq_eq_true hb
      have e2 := Option.some.inj hh
      rw [← e1, ← e2]
      exact List.mem_cons_self
    | false => rw [hb, cond_false] at hh; exact List.mem_cons_of_mem _ (sGo_mem hh)
theorem sHr_get {ρ : List Nat} {h : sHp} {hp : List vOb} (hh : sHr ρ h hp) {k : Nat} {o : sOb} (ho : sGo h k = some o) : ∃ ob, hp[k]? = some ob ∧ sOr ρ o ob := hh _ (sGo_mem ho)
def sPo : sHp → Nat → sOb → sHp
  | [], _, _ => []
  | e :: h, k, o => bif Nat.beq e.1 k then (k, o) :: sPo h k o else e :: sPo h k o
theorem sPo_mem : ∀ {h : sHp} {k : Nat} {o : sOb} {e : Nat × sOb}, e ∈ sPo h k o → e = (k, o) ∨ (e ∈ h ∧ e.1 ≠ k)
  | [], _, _, _, h => by cases h
  | e0 :: h, k, o, e, hh => by
    unfold sPo at hh
    cases hb : Nat.beq e0.1 k with
    | true =>
      rw [hb, cond_true] at hh
      rcases List.mem_cons.mp hh with h1 | h1
      · exact Or.inl h1
      · exact (sPo_mem h1).imp id (fun q => ⟨List.mem_cons_of_mem _ q.1, q.2⟩)
    | false =>
      rw [hb, cond_false] at hh
      rcases List.mem_cons.mp hh with h1 | h1
      · subst h1
        exact Or.inr ⟨List.mem_cons_self, fun e1 => by rw [e1] at hb; simp at hb⟩
      · exact (sPo_mem h1).imp id (fun q => ⟨List.mem_cons_of_mem _ q.1, q.2⟩)
theorem sHr_tell {ρ : List Nat} {h : sHp} {hp : List vOb} (hh : sHr ρ h hp) {k : Nat} {o : sOb} {ob : vOb} (hk : hp[k]? = some ob) (ho : sOr ρ o ob) : sHr ρ (sPo h k o) hp := fun e he => by
  rcases sPo_mem he with h1 | ⟨h1, -⟩
  · rw [h1]; exact ⟨ob, hk, ho⟩
  · exact hh e h1
theorem sHr_set {ρ : List Nat} {h : sHp} {hp : List vOb} (hh : sHr ρ h hp) {k : Nat} {o : sOb} {ob : vOb} (hk : k < hp.length) (ho : sOr ρ o ob) : sHr ρ (sPo h k o) (hp.set k ob) := fun e he => by
  rcases sPo_mem he with h1 | ⟨h1, h2⟩
  · rw [h1]; exact ⟨ob, List.getElem?_set_self hk, ho⟩
  · obtain ⟨ob', q1, q2⟩ := hh e h1
    exact ⟨ob', by rw [List.getElem?_set_ne (fun e1 => h2 e1.symm)]; exact q1, q2⟩
/-- the cells that may change: rows (place, from, to) -/
abbrev sMd : Type := List (Nat × Nat × Nat)
def sMin (md : sMd) (k i : Nat) : Prop := ∃ e ∈ md, e.1 = k ∧ e.2.1 ≤ i ∧ i ≤ e.2.2
def sMc (md : sMd) (k lo hi : Nat) : Bool := match md with
  | [] => false
  | e :: md => (Nat.beq e.1 k && (Nat.ble e.2.1 lo && Nat.ble hi e.2.2)) || sMc md k lo hi
theorem sMc_ok : ∀ {md : sMd} {k lo hi i : Nat}, sMc md k lo hi = true → lo ≤ i → i ≤ hi → sMin md k i
  | [], _, _, _, _, h, _, _ => by cases h
  | e :: md, k, lo, hi, i, h, h1, h2 => by
    unfold sMc at h
    rw [Bool.or_eq_true] at h
    rcases h with h | h
    · rw [Bool.and_eq_true, Bool.and_eq_true] at h
      have a := Nat.eq_of_beq_eq_true h.1
      have b := Nat.le_of_ble_eq_true h.2.1
      have c := Nat.le_of_ble_eq_true h.2.2
      exact ⟨e, List.mem_cons_self, a, by omega, by omega⟩
    · obtain ⟨e', q1, q2⟩ := sMc_ok h h1 h2
      exact ⟨e', List.mem_cons_of_mem _ q1, q2⟩
/-- all but those cells are as they were -/
def sFr (md : sMd) (hp0 hp : List vOb) : Prop := hp.length = hp0.length ∧ ∀ (k : Nat) (o0 : vOb), hp0[k]? = some o0 → ∃ o, hp[k]? = some o ∧ o.1 = o0.1 ∧ o.2.length = o0.2.length ∧ ∀ i, ¬ sMin md k i → o.2[i]? = o0.2[i]?
theorem sFr.rf (md : sMd) (hp : List vOb) : sFr md hp hp := ⟨rfl, fun k o0 h => ⟨o0, h, rfl, rfl, fun _ _ => rfl⟩⟩
theorem sFr.tr {md : sMd} {h0 h1 h2 : List vOb} (a : sFr md h0 h1) (b : sFr md h1 h2) : sFr md h0 h2 := ⟨b.1.trans a.1, fun k o0 h => by
  obtain ⟨o1, q1, q2, q3, q4⟩ := a.2 k o0 h
  obtain ⟨o2, r1, r2, r3, r4⟩ := b.2 k o1 q1
  exact ⟨o2, r1, r2.trans q2, r3.trans q3, fun i hi => (r4 i hi).trans (q4 i hi)⟩⟩
theorem sFr.mono {md md' : sMd} {h0 h1 : List vOb} (hm : ∀ k i, sMin md k i → sMin md' k i) (a : sFr md h0 h1) : sFr md' h0 h1 := ⟨a.1, fun k o0 h => by
  obtain ⟨o1, q1, q2, q3, q4⟩ := a.2 k o0 h
  exact ⟨o1, q1, q2, q3, fun i hi => q4 i (fun h => hi (hm k i h))⟩⟩
theorem sFr_set {md : sMd} {hp : List vOb} {k i : Nat} {o : vOb} {v : vAV} (hk : hp[k]? = some o) (hm : sMin md k i) : sFr md hp (hp.set k (o.1, o.2.set i v)) := by
  refine ⟨by simp, fun j o0 h => ?_⟩
  by_cases hj : k = j
  · subst hj
    rw [hk] at h
    cases h
    exact ⟨_, List.getElem?_set_self (List.getElem?_eq_some_iff.mp hk).1, rfl, by simp, fun i' hi' => List.getElem?_set_ne (fun e => hi' (by rw [← e]; exact hm))⟩
  · exact ⟨o0, by rw [List.getElem?_set_ne hj]; exact h, rfl, rfl, fun _ _ => rfl⟩
/-- what is said of a symbol's index -/
noncomputable def sIdx (G : sG) (a : vAV) : Option (Nat × Nat) := match sSetOf G a with
  | some S => bif Nat.ble 2147483648 (sLo S) && Nat.blt (sHi S) 2147549184 then vF (sLo S - 2147483648) (fun x => vF (sHi S - 2147483648) (fun y => some (x, y))) else none
  | none => none
theorem sIdx_ok {ρ : List Nat} {G : sG} {a v : vAV} {lo hi : Nat} (hG : sGr ρ G) (hv : sV ρ a v) (h : sIdx G a = some (lo, hi)) : ∃ u, u < 65536 ∧ v = .inl u ∧ lo ≤ u ∧ u ≤ hi := by
  unfold sIdx at h
  split at h
  · next S hS =>
    obtain ⟨u, hu, e, i⟩ := sSetOf_ok hG hv hS
    cases hb : (Nat.ble 2147483648 (sLo S) && Nat.blt (sHi S) 2147549184) with
    | false => rw [hb] at h; cases h
    | true =>
      rw [hb, cond_true, vF_eq, vF_eq] at h
      obtain ⟨e1, e2⟩ := Prod.mk.inj (Option.some.inj h)
      rw [Bool.and_eq_true] at hb
      have b1 := Nat.le_of_ble_eq_true hb.1
      have b2 := Nat.blt_eq.mp hb.2
      have b3 := sIn_lohi i
      obtain ⟨p1, p2⟩ := sBi_pos hu (by omega)
      exact ⟨u, by omega, e, by omega, by omega⟩
  · cases h
theorem sIx_of {ρ : List Nat} {q : Nat × Nat} {u : Nat} (h : sV ρ (.inr (.inl q)) (.inl u)) (hu : u < 65536) : sIx ρ q u := by
  obtain ⟨r, h1, h2⟩ := sV_num (j := q.1) (c := q.2) h
  refine ⟨r, h1, ?_⟩
  rw [← h2, sBi_of (by omega)]
theorem sIx_inj {ρ : List Nat} {q : Nat × Nat} {i j : Nat} (h1 : sIx ρ q i) (h2 : sIx ρ q j) : i = j := by
  obtain ⟨r, a, b⟩ := h1
  obtain ⟨r', c, d⟩ := h2
  rw [a] at c
  cases c
  omega
