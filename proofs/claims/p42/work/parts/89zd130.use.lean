/-! ===== exact runs: how they are used ===== -/
/-- how deep a term's stack is behind it -/
def eDp : eX → Nat → Option Nat
  | [], d => some d
  | q :: x, d => match q.1, d with
    | 0, d => eDp x (d + 1)
    | 1, d => eDp x (d + 1)
    | 2, d + 2 => eDp x (d + 1)
    | 3, d + 1 => eDp x (d + 1)
    | 4, d + 1 => eDp x (d + 1)
    | _, _ => none
theorem eDp_ok {ρ : Nat → Nat → Nat} : ∀ (x : eX) (pre base : List Nat) (d : Nat), eDp x pre.length = some d → eEv ρ x (pre ++ base) = eEv ρ x pre ++ base ∧ (eEv ρ x pre).length = d
  | [], pre, base, d, h => ⟨rfl, Option.some.inj h⟩
  | (0, c) :: x, pre, base, d, h => eDp_ok x (c :: pre) base d h
  | (1, j) :: x, pre, base, d, h => eDp_ok x (ρ 0 j :: pre) base d h
  | (2, op) :: x, [], base, d, h => by cases h
  | (2, op) :: x, [_], base, d, h => by cases h
  | (2, op) :: x, w :: u :: pre, base, d, h => eDp_ok x (eBn op u w :: pre) base d h
  | (3, op) :: x, [], base, d, h => by cases h
  | (3, op) :: x, u :: pre, base, d, h => eDp_ok x (eUn op u :: pre) base d h
  | (4, j) :: x, [], base, d, h => by cases h
  | (4, j) :: x, u :: pre, base, d, h => eDp_ok x (ρ j u :: pre) base d h
  | (n + 5, c) :: x, pre, base, d, h => by cases h
def eWf (x : eX) : Bool := match eDp x 0 with
  | some 1 => true
  | _ => false
theorem eWf_ok {ρ : Nat → Nat → Nat} {x : eX} (h : eWf x = true) : eR ρ x (eVal ρ x) := fun st => by
  unfold eWf at h
  split at h
  · next h1 =>
    obtain ⟨e1, e2⟩ := eDp_ok (ρ := ρ) x [] st 1 h1
    have e1 : eEv ρ x st = eEv ρ x [] ++ st := e1
    rw [e1]
    unfold eVal
    match hx : eEv ρ x [], e2 with
    | [v], _ => rfl
  · cases h
noncomputable def eCv (ρ : Nat → Nat → Nat) : eV → vAV
  | .inl x => .inl (eVal ρ x)
  | .inr (.inl x) => .inr (.inr (.inl (eVal ρ x)))
  | .inr (.inr o) => .inr (.inr (.inr (.inl o)))
def eWv (v : eV) : Bool := match v with
  | .inl x => eWf x
  | .inr (.inl x) => eWf x
  | .inr (.inr _) => true
theorem eWv_ok {ρ : Nat → Nat → Nat} {v : eV} (h : eWv v = true) : eRv ρ v (eCv ρ v) := by
  rcases v with x | x | o
  · exact ⟨_, eWf_ok h, rfl⟩
  · exact ⟨_, eWf_ok h, rfl⟩
  · exact rfl
theorem eRv_cv {ρ : Nat → Nat → Nat} {x : eV} {v : vAV} (h : eRv ρ x v) : v = eCv ρ x := by
  rcases x with x | x | o
  · obtain ⟨u, u1, u2⟩ := h
    rw [u2]
    exact congrArg Sum.inl (eR_val u1).symm
  · obtain ⟨u, u1, u2⟩ := h
    rw [u2]
    exact congrArg (fun n => Sum.inr (Sum.inr (Sum.inl n))) (eR_val u1).symm
  · exact h
theorem eTr_cv {ρ : Nat → Nat → Nat} : ∀ {st : List eV} {ks : List vAV}, eTr ρ st ks → ks = st.map (eCv ρ)
  | [], [], _ => rfl
  | [], _ :: _, h => h.elim
  | _ :: _, [], h => h.elim
  | a :: st, v :: ks, h => by
    rw [List.map_cons, ← eTr_cv h.2, ← eRv_cv h.1]
theorem eTr_of {ρ : Nat → Nat → Nat} : ∀ {st : List eV}, st.all eWv = true → eTr ρ st (st.map (eCv ρ))
  | [], _ => trivial
  | a :: st, h => by
    rw [List.all_cons, Bool.and_eq_true] at h
    exact ⟨eWv_ok h.1, eTr_of h.2⟩
/-- locals: none is not looked at -/
def eLm (ρ : Nat → Nat → Nat) : List (Option eV) → vLs → Prop
  | [], [] => True
  | none :: as, _ :: vs => eLm ρ as vs
  | some a :: as, v :: vs => v = some (eCv ρ a) ∧ eLm ρ as vs
  | [], _ :: _ => False
  | _ :: _, [] => False
theorem eLr_lm {ρ : Nat → Nat → Nat} : ∀ {ls : List (Option eV)} {kl : vLs}, eLr ρ ls kl → eLm ρ ls kl
  | [], [], _ => trivial
  | [], _ :: _, h => h.elim
  | _ :: _, [], h => h.elim
  | none :: ls, _ :: kl, h => eLr_lm (ls := ls) h.2
  | some a :: ls, v :: kl, h => by
    obtain ⟨y, y1, y2⟩ := h.1 a rfl
    exact ⟨by rw [y1, eRv_cv y2], eLr_lm h.2⟩
def eWl : List (Option eV) → Bool
  | [] => true
  | none :: ls => eWl ls
  | some a :: ls => eWv a && eWl ls
theorem eLm_lr {ρ : Nat → Nat → Nat} : ∀ {ls : List (Option eV)} {kl : vLs}, eWl ls = true → eLm ρ ls kl → eLr ρ ls kl
  | [], [], _, _ => trivial
  | [], _ :: _, _, h => h.elim
  | none :: _, [], _, h => h.elim
  | some _ :: _, [], _, h => h.elim
  | none :: ls, _ :: kl, hw, h => ⟨fun x hx => (by cases hx), eLm_lr (ls := ls) hw h⟩
  | some a :: ls, v :: kl, hw, h => by
    unfold eWl at hw
    rw [Bool.and_eq_true] at hw
    refine ⟨fun x hx => ?_, eLm_lr hw.2 h.2⟩
    have e := Option.some.inj hx
    subst e
    exact ⟨_, h.1, eWv_ok hw.1⟩
def eDt (ρ : Nat → Nat → Nat) (D : eD) (hp : List vOb) : Prop := ∀ e ∈ D, (∀ q ∈ e.2.2.2, eCo ρ q) → hC hp e.1 (eVal ρ e.2.1) (eCv ρ e.2.2.1)
def eWd (D : eD) : Bool := D.all (fun e => eWf e.2.1 && eWv e.2.2.1)
theorem eDt_nil {ρ : Nat → Nat → Nat} {hp : List vOb} : eDt ρ [] hp := fun e he => by cases he
theorem eDt_cons {ρ : Nat → Nat → Nat} {hp : List vOb} {e : Nat × eX × eV × eCs} {D : eD} (h : (∀ q ∈ e.2.2.2, eCo ρ q) → hC hp e.1 (eVal ρ e.2.1) (eCv ρ e.2.2.1)) (hs : eDt ρ D hp) : eDt ρ (e :: D) hp := fun e' he => by
  rcases List.mem_cons.mp he with h1 | h1
  · rw [h1]
    exact h
  · exact hs e' h1
theorem eDt_dr {ρ : Nat → Nat → Nat} {D : eD} {hp : List vOb} (hw : eWd D = true) (h : eDt ρ D hp) : eDr ρ D hp := fun e he hg => by
  have h1 := List.all_eq_true.mp hw e he
  rw [Bool.and_eq_true] at h1
  exact ⟨_, _, eWf_ok h1.1, h e he hg, eWv_ok h1.2⟩
theorem eDr_dt {ρ : Nat → Nat → Nat} {D : eD} {hp : List vOb} (h : eDr ρ D hp) : eDt ρ D hp := fun e he hg => by
  obtain ⟨i, v, h1, h2, h3⟩ := h e he hg
  rw [eR_val h1, ← eRv_cv h3]
  exact h2
/-- a run from a state told in full to the state at its end -/
theorem e_goo {vms : List vMt} {df : List (List vAV)} {d d0 : Nat} {orc : eCalT} {tbl : vTbl} {sh : List (Nat × Nat × Nat)} {stops : List Nat} {n m fuel : Nat} {path path' : List Bool} {ρ : Nat → Nat → Nat} {pc pc' : Nat} {ls ls' : List (Option eV)} {st st' : List eV} {D D' : eD} {W : List (Nat × eX)} {C : eCs} {kl : vLs} {hp : List vOb} (ho : ∀ d, d0 ≤ d → eCalOK vms df d ρ hp orc) (hm : m + d0 ≤ d) (hr : eQ (eRun sh (eCalI orc vms sh fuel m) tbl stops n path (pc, ls, st, D, [])) (pc', ls', st', D', W) C path' = true) (hw : (eWl ls && (st.all eWv && eWd D)) = true) (hs : eSh sh hp) (hC : ∀ q ∈ C, eCo ρ q) (hl : eLm ρ ls kl) (hd : eDt ρ D hp) :
    ∃ kl' hp', kRe vms df d tbl 0 0 (pc, kl, st.map (eCv ρ), hp) (pc', kl', st'.map (eCv ρ), hp') ∧ eLm ρ ls' kl' ∧ eDt ρ D' hp' ∧ sFr (eMd ρ W) hp hp' := by
  rw [Bool.and_eq_true, Bool.and_eq_true] at hw
  obtain ⟨κ', k1, k2, k3, k4, k5, k6⟩ := e_run (vms := vms) (df := df) (d := d) (κ := (pc, kl, st.map (eCv ρ), hp)) (eCalI_ok ho hs m d hm) hs (eQ_ok hr) hC ⟨rfl, eLm_lr hw.1 hl, eTr_of hw.2.1, eDt_dr hw.2.2 hd, sFr.rf _ _⟩
  obtain ⟨pc1, kl1, ks1, hp1⟩ := κ'
  dsimp only at k2 k3 k4 k5 k6
  subst k2
  have e := eTr_cv k4
  subst e
  exact ⟨kl1, hp1, k1, eLr_lm k3, eDr_dt k5, k6⟩
theorem e_go {vms : List vMt} {df : List (List vAV)} {d : Nat} {tbl : vTbl} {sh : List (Nat × Nat × Nat)} {stops : List Nat} {n m fuel : Nat} {path path' : List Bool} {ρ : Nat → Nat → Nat} {pc pc' : Nat} {ls ls' : List (Option eV)} {st st' : List eV} {D D' : eD} {W : List (Nat × eX)} {C : eCs} {kl : vLs} {hp : List vOb} (hm : m ≤ d) (hr : eQ (eRun sh (eCalI eNo vms sh fuel m) tbl stops n path (pc, ls, st, D, [])) (pc', ls', st', D', W) C path' = true) (hw : (eWl ls && (st.all eWv && eWd D)) = true) (hs : eSh sh hp) (hC : ∀ q ∈ C, eCo ρ q) (hl : eLm ρ ls kl) (hd : eDt ρ D hp) :
    ∃ kl' hp', kRe vms df d tbl 0 0 (pc, kl, st.map (eCv ρ), hp) (pc', kl', st'.map (eCv ρ), hp') ∧ eLm ρ ls' kl' ∧ eDt ρ D' hp' ∧ sFr (eMd ρ W) hp hp' := e_goo (d0 := 0) (fun _ _ => eNo_ok) hm hr hw hs hC hl hd
/-- a call with anything below it on the stack -/
theorem e_call {vms : List vMt} {df : List (List vAV)} {d : Nat} {tbl : vTbl} {pc len a b t : Nat} {i : Instr} {kl : vLs} {ks kas rest : List vAV} {rv : vAV} {hp hp' : List vOb} {r : Option vAV} (hg : vGet tbl pc = some (i, len, a, b, t)) (hi : ∃ x, i = .invokevirtual x) (htk : vTk b [] ks = some (kas, rv :: rest)) (h8 : Nat.ble (vCs rest) 8 = true) (hrc : vRc t rv hp = true) (hc : ∃ N, ∀ fuel, N ≤ fuel → vCalD vms df fuel d a (rv :: kas) hp = some (r, hp', 0, 0)) : kRe vms df d tbl 0 0 (pc, kl, ks, hp) (pc + 3, kl, r.toList ++ rest, hp') := by
  obtain ⟨N, hc⟩ := hc
  obtain ⟨x, rfl⟩ := hi
  refine kRe_call hg rfl rfl ⟨N, fun fuel hfu => ?_⟩
  unfold vInv
  simp only [htk, hrc, h8, hc fuel hfu, Bool.and_self, cond_true]
theorem e_calls {vms : List vMt} {df : List (List vAV)} {d : Nat} {tbl : vTbl} {pc len a b t : Nat} {i : Instr} {kl : vLs} {ks kas rest : List vAV} {hp hp' : List vOb} {r : Option vAV} (hg : vGet tbl pc = some (i, len, a, b, t)) (hi : ∃ x, i = .invokestatic x) (ha : Nat.beq a 1001 = false) (htk : vTk b [] ks = some (kas, rest)) (h8 : Nat.ble (vCs rest) 8 = true) (hc : ∃ N, ∀ fuel, N ≤ fuel → vCalD vms df fuel d a kas hp = some (r, hp', 0, 0)) : kRe vms df d tbl 0 0 (pc, kl, ks, hp) (pc + 3, kl, r.toList ++ rest, hp') := by
  obtain ⟨N, hc⟩ := hc
  obtain ⟨x, rfl⟩ := hi
  refine kRe_call hg rfl rfl ⟨N, fun fuel hfu => ?_⟩
  unfold vInv
  simp only [htk, ha, h8, hc fuel hfu, cond_false, cond_true]
