/-! ===== contracts with a cell that is told exactly ===== -/
abbrev sCtX : Type := sCtE × sHp × (Nat × Nat × Nat)
def cOKx (vms : List vMt) (df : List (List vAV)) (d : Nat) (T : sHp) (x : sCtX) : Prop := ∀ (kav : List vAV) (hp : List vOb), sAr x.1.2.1 kav → kTy x.2.1 x.1.2.2.1 hp → ∃ hp', (∃ N, ∀ fuel, N ≤ fuel → vCalD vms df fuel d x.1.1 kav hp = some (none, hp', 0, 0)) ∧ sFr x.1.2.2.2.2 hp hp' ∧ kTy T x.1.2.2.1 hp' ∧ ∀ (ob : vOb) (u : Nat), hp[x.2.2.1]? = some ob → ob.2[x.2.2.2.1]? = some (.inl u) → ∃ ob', hp'[x.2.2.1]? = some ob' ∧ ob'.2[x.2.2.2.1]? = some (.inl ((u + x.2.2.2.2) % 4294967296))
def sIsI (v : vAV) : Bool := match v with
  | .inl _ => true
  | .inr (.inl _) => true
  | _ => false
noncomputable def sAppX (T : sHp) (md : sMd) (x : sCtX) (av : List vAV) (h : sHp) (G : sG) : Option (List (Option vAV × sHp × sG)) := bif sAle G x.1.2.1 av && (sTlc G x.2.1 h x.1.2.2.1 && sMok T md x.1.2.2.1 x.1.2.2.2.2) then (match sGo h x.2.2.1 with
    | some o => (match sReadK h G x.2.2.1 x.2.2.2.1 o with
      | some (h1, G1, v) => bif sIsI v then (match sGo (sHw T x.1.2.2.2.2 h1) x.2.2.1 with
        | some o2 => bif Nat.blt x.2.2.2.1 (sLen o2.2.1) then some [(none, sPo (sHw T x.1.2.2.2.2 h1) x.2.2.1 (o2.1, sWr o2.2.1 x.2.2.2.1 (.inl (sShV v x.2.2.2.2)), o2.2.2), G1)] else none
        | none => none) else none
      | none => none)
    | none => none) else none
theorem sShV_of {ρ : List Nat} {b : vAV} {u c : Nat} (hb : sV ρ b (.inl u)) (hi : sIsI b = true) : sV ρ (sShV b c) (.inl ((u + c) % 4294967296)) := by
  rcases b with u' | q | w | o | z
  · obtain ⟨h1, h2⟩ := hb
    have e := Sum.inl.inj h2
    subst e
    show sV ρ (vF ((u + c) % 4294967296) (fun r => .inl r)) _
    rw [vF_eq]
    exact ⟨Nat.mod_lt _ (by decide), rfl⟩
  · obtain ⟨r, h1, h2⟩ := hb
    have e := Sum.inl.inj h2
    show sV ρ (vF ((q.2 + c) % 4294967296) (fun r => .inr (.inl (q.1, r)))) _
    rw [vF_eq]
    refine ⟨r, h1, congrArg Sum.inl ?_⟩
    rw [e]
    show (sUn r q.2 + c) % 4294967296 = sUn r ((q.2 + c) % 4294967296)
    unfold sUn
    omega
  · cases hi
  · cases hi
  · cases hi
theorem sIsI_ok {ρ : List Nat} {b v : vAV} (hi : sIsI b = true) (hb : sV ρ b v) : ∃ u, u < 4294967296 ∧ v = .inl u := by
  rcases b with u' | q | w | o | z
  · exact ⟨u', hb.1, hb.2⟩
  · obtain ⟨r, h1, h2⟩ := hb
    exact ⟨_, sUn_lt _ _, h2⟩
  · cases hi
  · cases hi
  · cases hi
theorem sAppX_ok {vms : List vMt} {df : List (List vAV)} {d : Nat} {T : sHp} {md : sMd} {hp0 : List vOb} {x : sCtX} (hc : cOKx vms df d T x) {av : List vAV} {h : sHp} {G : sG} {L : List (Option vAV × sHp × sG)} (he : sAppX T md x av h G = some L) {ρ : List Nat} {kav : List vAV} {hp : List vOb} (ht : sTr ρ av kav) (hh : sHr ρ h hp) (hG : sGr ρ G) (hf : sFr md hp0 hp) :
    ∃ e' ∈ L, ∃ xs r hp', (∃ N, ∀ fuel, N ≤ fuel → vCalD vms df fuel d x.1.1 kav hp = some (r, hp', 0, 0)) ∧ sRt (ρ ++ xs) e'.1 r ∧ sHr (ρ ++ xs) e'.2.1 hp' ∧ sGr (ρ ++ xs) e'.2.2 ∧ sFr md hp0 hp' := by
  unfold sAppX at he
  cases hb : (sAle G x.1.2.1 av && (sTlc G x.2.1 h x.1.2.2.1 && sMok T md x.1.2.2.1 x.1.2.2.2.2)) with
  | false => rw [hb] at he; cases he
  | true =>
    rw [hb, cond_true] at he
    rw [Bool.and_eq_true, Bool.and_eq_true] at hb
    obtain ⟨hp', q1, q3, q4, q5⟩ := hc kav hp (sAle_ok hG hb.1 ht) (sTlc_ok hG hh hb.2.1)
    have hf' : sFr md hp0 hp' := hf.tr (q3.mono (fun k i ⟨m, m1, m2, m3, m4⟩ => by
      have := (sMok_ok hb.2.2 m m1).2.2
      rw [m2] at this
      exact sMc_ok this m3 m4))
    split at he
    · next o ho =>
      obtain ⟨ob, o1, o2⟩ := sHr_get hh ho
      split at he
      · next h1 G1 v hrd =>
        obtain ⟨xs, w, w1, w2, w3, w4⟩ := sReadK_ok hh hG o1 o2 hrd
        cases hk : sIsI v with
        | false => rw [hk] at he; cases he
        | true =>
          rw [hk, cond_true] at he
          split at he
          · next o3 ho3 =>
            cases hl : Nat.blt x.2.2.2.1 (sLen o3.2.1) with
            | false => rw [hl] at he; cases he
            | true =>
              rw [hl, cond_true] at he
              have he := Option.some.inj he
              subst he
              have hh' := sHv_ok w2 q3 q4 hb.2.2
              rw [← sHw_eq] at hh'
              obtain ⟨ob', p1, p2⟩ := sHr_get hh' ho3
              obtain ⟨u, hu, rfl⟩ := sIsI_ok hk w4
              obtain ⟨ob2, r1, r2⟩ := q5 ob u o1 w1
              rw [p1] at r1
              cases r1
              refine ⟨_, List.mem_cons_self, xs, none, hp', q1, trivial, ?_, w3, hf'⟩
              exact sHr_tell hh' p1 ⟨p2.1, sRr_tell p2.2.1 (Nat.blt_eq.mp hl) r2 (sShV_of w4 hk), p2.2.2⟩
          · cases he
      · cases he
    · cases he
noncomputable def sCtXs (T : sHp) (md : sMd) : List sCtX → sCal
  | [] => fun _ _ _ _ => none
  | e :: es => fun j av h G => bif Nat.beq e.1.1 j then (match sAppX T md e av h G with
    | some L => some L
    | none => sCtXs T md es j av h G) else sCtXs T md es j av h G
theorem sCtX_ok {vms : List vMt} {df : List (List vAV)} {d : Nat} {T : sHp} {md : sMd} {hp0 : List vOb} : ∀ {es : List sCtX}, (∀ e ∈ es, cOKx vms df d T e) → sCalOK vms df d md hp0 (sCtXs T md es)
  | [], _, j, av, h, G, L, he, _, _, _, _, _, _, _ => by cases he
  | e :: es, hes, j, av, h, G, L, he, ρ, kav, hp, ht, hh, hG, hf => by
    have ih := sCtX_ok (md := md) (hp0 := hp0) (fun e' h' => hes e' (List.mem_cons_of_mem _ h'))
    unfold sCtXs at he
    cases hb : Nat.beq e.1.1 j with
    | false => rw [hb, cond_false] at he; exact ih j av h G L he ρ kav hp ht hh hG hf
    | true =>
      rw [hb, cond_true] at he
      have ej := Nat.eq_of_beq_eq_true hb
      split at he
      · next L1 hL1 =>
        cases he
        subst ej
        exact sAppX_ok (hes e List.mem_cons_self) hL1 ht hh hG hf
      · exact ih j av h G L he ρ kav hp ht hh hG hf
theorem cx_nil {vms : List vMt} {df : List (List vAV)} {d : Nat} {T : sHp} : ∀ e ∈ ([] : List sCtX), cOKx vms df d T e := fun e he => by cases he
theorem cx_cons {vms : List vMt} {df : List (List vAV)} {d : Nat} {T : sHp} {a : sCtX} {l : List sCtX} (h : cOKx vms df d T a) (hs : ∀ e ∈ l, cOKx vms df d T e) : ∀ e ∈ a :: l, cOKx vms df d T e := fun e he => by
  rcases List.mem_cons.mp he with h1 | h1
  · rw [h1]; exact h
  · exact hs e h1
