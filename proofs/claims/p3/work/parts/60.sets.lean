/-! ===== sets of ints by their numbers from 0 on (x + 2^31), as lists of bounds ===== -/
abbrev sSet : Type := List (Nat × Nat)
def sIn (S : sSet) (x : Nat) : Prop := ∃ q ∈ S, q.1 ≤ x ∧ x ≤ q.2
def sM : Nat := 4294967296
/-- an int's number from 0 on, and back -/
def sBi (u : Nat) : Nat := (u + 2147483648) % 4294967296
theorem sBi_lt (u : Nat) : sBi u < 4294967296 := Nat.mod_lt _ (by decide)
theorem sBi_bi {u : Nat} (h : u < 4294967296) : sBi (sBi u) = u := by unfold sBi; omega
theorem sBi_inj {u w : Nat} (hu : u < 4294967296) (hw : w < 4294967296) (h : sBi u = sBi w) : u = w := by unfold sBi at h; omega
def sFull : sSet := [(0, 4294967295)]
theorem sIn_full {x : Nat} (h : x < 4294967296) : sIn sFull x := ⟨_, List.mem_cons_self, Nat.zero_le _, by show x ≤ 4294967295; omega⟩
theorem sIn_one {a b x : Nat} (h1 : a ≤ x) (h2 : x ≤ b) : sIn [(a, b)] x := ⟨_, List.mem_cons_self, h1, h2⟩
theorem sIn_cons {q : Nat × Nat} {S : sSet} {x : Nat} : sIn (q :: S) x ↔ (q.1 ≤ x ∧ x ≤ q.2) ∨ sIn S x := by
  constructor
  · rintro ⟨r, hr, h⟩
    rcases List.mem_cons.mp hr with e | e
    · rw [e] at h; exact Or.inl h
    · exact Or.inr ⟨r, e, h⟩
  · rintro (h | ⟨r, hr, h⟩)
    · exact ⟨q, List.mem_cons_self, h⟩
    · exact ⟨r, List.mem_cons_of_mem _ hr, h⟩
theorem sIn_nil {x : Nat} : ¬ sIn [] x := by rintro ⟨q, h, -⟩; cases h
/-- the least and the greatest bound -/
def sLo : sSet → Nat
  | [] => 4294967295
  | q :: S => bif Nat.ble q.1 (sLo S) then q.1 else sLo S
def sHi : sSet → Nat
  | [] => 0
  | q :: S => bif Nat.ble (sHi S) q.2 then q.2 else sHi S
theorem sLo_le : ∀ (S : sSet) (x : Nat), sIn S x → sLo S ≤ x
  | [], x, h => (sIn_nil h).elim
  | q :: S, x, h => by
    unfold sLo
    cases hb : Nat.ble q.1 (sLo S) with
    | true =>
      rw [cond_true]
      rcases sIn_cons.mp h with h | h
      · exact h.1
      · exact Nat.le_trans (Nat.le_of_ble_eq_true hb) (sLo_le S x h)
    | false =>
      rw [cond_false]
      rcases sIn_cons.mp h with h | h
      · have h2 : ¬ q.1 ≤ sLo S := fun h3 => by rw [Nat.ble_eq_true_of_le h3] at hb; cases hb
        omega
      · exact sLo_le S x h
theorem sHi_ge : ∀ (S : sSet) (x : Nat), sIn S x → x ≤ sHi S
  | [], x, h => (sIn_nil h).elim
  | q :: S, x, h => by
    unfold sHi
    cases hb : Nat.ble (sHi S) q.2 with
    | true =>
      rw [cond_true]
      rcases sIn_cons.mp h with h | h
      · exact h.2
      · exact Nat.le_trans (sHi_ge S x h) (Nat.le_of_ble_eq_true hb)
    | false =>
      rw [cond_false]
      rcases sIn_cons.mp h with h | h
      · have h2 : ¬ sHi S ≤ q.2 := fun h3 => by rw [Nat.ble_eq_true_of_le h3] at hb; cases hb
        omega
      · exact sHi_ge S x h
/-- moved by a number, round the end -/
noncomputable def sShf (S : sSet) (c : Nat) : sSet := match S with
  | [] => []
  | q :: S => match sShf S c with
    | R => vF ((q.1 + c) % 4294967296) (fun a => vF ((q.2 + c) % 4294967296) (fun b => bif Nat.ble a b && Nat.blt q.2 4294967296 then (a, b) :: R else sFull))
theorem sShf_ok : ∀ (S : sSet) (c x : Nat), sIn S x → sIn (sShf S c) ((x + c) % 4294967296)
  | [], c, x, h => (sIn_nil h).elim
  | q :: S, c, x, h => by
    have ih := sShf_ok S c x
    unfold sShf
    simp only [vF_eq]
    cases hb : (Nat.ble ((q.1 + c) % 4294967296) ((q.2 + c) % 4294967296) && Nat.blt q.2 4294967296) with
    | true =>
      rw [cond_true]
      rw [Bool.and_eq_true] at hb
      have hq2 : q.2 < 4294967296 := Nat.blt_eq.mp hb.2
      have hb := Nat.le_of_ble_eq_true hb.1
      rcases sIn_cons.mp h with h | h
      · exact sIn_cons.mpr (Or.inl ⟨by show (q.1 + c) % 4294967296 ≤ _; omega, by show _ ≤ (q.2 + c) % 4294967296; omega⟩)
      · exact sIn_cons.mpr (Or.inr (ih h))
    | false =>
      rw [cond_false]
      exact sIn_full (Nat.mod_lt _ (by decide))
/-- what lies in both -/
def sCap1 (q : Nat × Nat) : sSet → sSet
  | [] => []
  | r :: S => bif Nat.ble q.1 r.2 && Nat.ble r.1 q.2 then ((bif Nat.ble q.1 r.1 then r.1 else q.1), (bif Nat.ble q.2 r.2 then q.2 else r.2)) :: sCap1 q S else sCap1 q S
def sCap : sSet → sSet → sSet
  | [], _ => []
  | q :: S, T => sCap1 q T ++ sCap S T
theorem sCap1_ok (q : Nat × Nat) : ∀ (S : sSet) (x : Nat), q.1 ≤ x → x ≤ q.2 → sIn S x → sIn (sCap1 q S) x
  | [], x, _, _, h => (sIn_nil h).elim
  | r :: S, x, h1, h2, h => by
    unfold sCap1
    rcases sIn_cons.mp h with h | h
    · have e : (Nat.ble q.1 r.2 && Nat.ble r.1 q.2) = true := by
        rw [Bool.and_eq_true]
        exact ⟨Nat.ble_eq_true_of_le (by omega), Nat.ble_eq_true_of_le (by omega)⟩
      rw [e, cond_true]
      refine sIn_cons.mpr (Or.inl ⟨?_, ?_⟩)
      · show (bif Nat.ble q.1 r.1 then r.1 else q.1) ≤ x
        cases Nat.ble q.1 r.1
        · exact h1
        · exact h.1
      · show x ≤ (bif Nat.ble q.2 r.2 then q.2 else r.2)
        cases Nat.ble q.2 r.2
        · exact h.2
        · exact h2
    · have ih := sCap1_ok q S x h1 h2 h
      cases (Nat.ble q.1 r.2 && Nat.ble r.1 q.2) with
      | true => rw [cond_true]; exact sIn_cons.mpr (Or.inr ih)
      | false => rw [cond_false]; exact ih
theorem sIn_app {S T : sSet} {x : Nat} : sIn (S ++ T) x ↔ sIn S x ∨ sIn T x := by
  constructor
  · rintro ⟨q, hq, h⟩
    rcases List.mem_append.mp hq with e | e
    · exact Or.inl ⟨q, e, h⟩
    · exact Or.inr ⟨q, e, h⟩
  · rintro (⟨q, hq, h⟩ | ⟨q, hq, h⟩)
    · exact ⟨q, List.mem_append_left _ hq, h⟩
    · exact ⟨q, List.mem_append_right _ hq, h⟩
theorem sCap_ok : ∀ (S T : sSet) (x : Nat), sIn S x → sIn T x → sIn (sCap S T) x
  | [], T, x, h, _ => (sIn_nil h).elim
  | q :: S, T, x, h, hT => by
    unfold sCap
    rcases sIn_cons.mp h with h | h
    · exact sIn_app.mpr (Or.inl (sCap1_ok q T x h.1 h.2 hT))
    · exact sIn_app.mpr (Or.inr (sCap_ok S T x h hT))
/-- without one number -/
def sDel (v : Nat) : sSet → sSet
  | [] => []
  | q :: S => bif Nat.ble q.1 v && Nat.ble v q.2 then (bif Nat.blt q.1 v then [(q.1, v - 1)] else []) ++ ((bif Nat.blt v q.2 then [(v + 1, q.2)] else []) ++ sDel v S) else q :: sDel v S
theorem sDel_ok (v : Nat) : ∀ (S : sSet) (x : Nat), x ≠ v → sIn S x → sIn (sDel v S) x
  | [], x, _, h => (sIn_nil h).elim
  | q :: S, x, hx, h => by
    unfold sDel
    cases hb : (Nat.ble q.1 v && Nat.ble v q.2) with
    | false =>
      rw [cond_false]
      rcases sIn_cons.mp h with h | h
      · exact sIn_cons.mpr (Or.inl h)
      · exact sIn_cons.mpr (Or.inr (sDel_ok v S x hx h))
    | true =>
      rw [cond_true]
      rcases sIn_cons.mp h with h | h
      · by_cases hlt : x < v
        · refine sIn_app.mpr (Or.inl ?_)
          have e : Nat.blt q.1 v = true := Nat.blt_eq.mpr (by omega)
          rw [e]
          exact sIn_one h.1 (by omega)
        · refine sIn_app.mpr (Or.inr (sIn_app.mpr (Or.inl ?_)))
          have e : Nat.blt v q.2 = true := Nat.blt_eq.mpr (by omega)
          rw [e]
          exact sIn_one (by omega) h.2
      · exact sIn_app.mpr (Or.inr (sIn_app.mpr (Or.inr (sDel_ok v S x hx h))))
/-- every number of one lies in the other -/
def sSub1 (q : Nat × Nat) : sSet → Bool
  | [] => false
  | r :: S => (Nat.ble r.1 q.1 && Nat.ble q.2 r.2) || sSub1 q S
def sSub : sSet → sSet → Bool
  | [], _ => true
  | q :: S, T => sSub1 q T && sSub S T
theorem sSub1_ok (q : Nat × Nat) : ∀ (S : sSet) (x : Nat), sSub1 q S = true → q.1 ≤ x → x ≤ q.2 → sIn S x
  | [], x, h, _, _ => by cases h
  | r :: S, x, h, h1, h2 => by
    unfold sSub1 at h
    rw [Bool.or_eq_true] at h
    rcases h with h | h
    · rw [Bool.and_eq_true] at h
      have a := Nat.le_of_ble_eq_true h.1
      have b := Nat.le_of_ble_eq_true h.2
      exact sIn_cons.mpr (Or.inl ⟨by omega, by omega⟩)
    · exact sIn_cons.mpr (Or.inr (sSub1_ok q S x h h1 h2))
theorem sSub_ok : ∀ (S T : sSet) (x : Nat), sSub S T = true → sIn S x → sIn T x
  | [], T, x, _, h => (sIn_nil h).elim
  | q :: S, T, x, h, hx => by
    unfold sSub at h
    rw [Bool.and_eq_true] at h
    rcases sIn_cons.mp hx with hx | hx
    · exact sSub1_ok q T x h.1 hx.1 hx.2
    · exact sSub_ok S T x h.2 hx
def sMem (x : Nat) : sSet → Bool
  | [] => false
  | q :: S => (Nat.ble q.1 x && Nat.ble x q.2) || sMem x S
theorem sMem_of : ∀ (S : sSet) (x : Nat), sIn S x → sMem x S = true
  | [], x, h => (sIn_nil h).elim
  | q :: S, x, h => by
    unfold sMem
    rcases sIn_cons.mp h with h | h
    · rw [Nat.ble_eq_true_of_le h.1, Nat.ble_eq_true_of_le h.2]; rfl
    · rw [sMem_of S x h, Bool.or_true]
