/-! ===== all paths of a method ===== -/
def sAll {α β : Type} (f : α → Option (List β)) : List α → Option (List β)
  | [] => some []
  | x :: xs => match f x with
    | none => none
    | some A => match sAll f xs with
      | none => none
      | some B => some (A ++ B)
theorem sAll_mem {α β : Type} {f : α → Option (List β)} : ∀ {xs : List α} {R : List β}, sAll f xs = some R → ∀ x ∈ xs, ∃ A, f x = some A ∧ ∀ y ∈ A, y ∈ R
  | [], _, _, x, hx => by cases hx
  | x0 :: xs, R, h, x, hx => by
    unfold sAll at h
    split at h
    · cases h
    · next A hA =>
      split at h
      · cases h
      · next B hB =>
        cases h
        rcases List.mem_cons.mp hx with e | e
        · rw [e]; exact ⟨A, hA, fun y hy => List.mem_append_left _ hy⟩
        · obtain ⟨A', h1, h2⟩ := sAll_mem hB x e
          exact ⟨A', h1, fun y hy => List.mem_append_right _ (h2 y hy)⟩
def sStop (pc : Nat) : List Nat → Bool
  | [] => false
  | s :: ss => Nat.beq s pc || sStop pc ss
theorem sStop_mem {pc : Nat} : ∀ {ss : List Nat}, sStop pc ss = true → pc ∈ ss
  | [], h => by cases h
  | s :: ss, h => by
    have h : (Nat.beq s pc || sStop pc ss) = true := h
    rw [Bool.or_eq_true] at h
    rcases h with h | h
    · rw [Nat.eq_of_beq_eq_true h]; exact List.mem_cons_self
    · exact List.mem_cons_of_mem _ (sStop_mem h)
def sFin (i : Instr) : Bool := match i with
  | .ireturn => true
  | .lreturn => true
  | .return_ => true
  | _ => false
noncomputable def sRunL (scal : sCal) (md : sMd) (tbl : vTbl) (stops : sSt → Bool) : Nat → sSt → Option (List sSt)
  | 0, _ => none
  | f + 1, (pc, ls, st, h, G) => match vGet tbl pc with
    | none => none
    | some (i, len, a, b, t) => match sStep md i len a b t pc ls st h G with
      | some L => sAll (fun σ => bif stops σ then some [σ] else sRunL scal md tbl stops f σ) L
      | none => match sInv scal md i a b t st h G with
        | some L => vF (pc + 3) (fun q => sAll (fun e => bif stops (q, ls, e) then some [(q, ls, e)] else sRunL scal md tbl stops f (q, ls, e)) L)
        | none => bif sFin i then some [(pc, ls, st, h, G)] else none
/-- an end of a path -/
def sEnd (tbl : vTbl) (stops : sSt → Bool) (σ : sSt) : Prop := stops σ = true ∨ ∃ i len a b t, vGet tbl σ.1 = some (i, len, a, b, t) ∧ sFin i = true
section SRUN
variable {vms : List vMt} {df : List (List vAV)} {d : Nat} {md : sMd} {hp0 : List vOb} {scal : sCal} {tbl : vTbl} {stops : sSt → Bool} {mc ms : Nat}
theorem sRunL_ok (hs : sCalOK vms df d md hp0 scal) : ∀ (f : Nat) (σ : sSt) (L : List sSt), sRunL scal md tbl stops f σ = some L → ∀ (ρ : List Nat) (kl : vLs) (ks : List vAV) (hp : List vOb), sR md hp0 ρ σ.2.1 σ.2.2.1 σ.2.2.2.1 σ.2.2.2.2 kl ks hp →
    ∃ σ' ∈ L, ∃ xs kl' ks' hp', kRe vms df d tbl mc ms (σ.1, kl, ks, hp) (σ'.1, kl', ks', hp') ∧ sR md hp0 (ρ ++ xs) σ'.2.1 σ'.2.2.1 σ'.2.2.2.1 σ'.2.2.2.2 kl' ks' hp' ∧ sEnd tbl stops σ'
  | 0, _, _, h, _, _, _, _, _ => by cases h
  | f + 1, (pc, ls, st, h, G), L, he, ρ, kl, ks, hp, hR => by
    unfold sRunL at he
    split at he
    · cases he
    · next i len a b t hg =>
      split at he
      · next L1 hL1 =>
        obtain ⟨pc1, kl1, ks1, hp1, e1, σ1, e2, e3, xs, e4⟩ := sStep_ok (sc := []) (tx := vTx) hR hL1
        obtain ⟨A, a1, a2⟩ := sAll_mem he σ1 e2
        have hk := kRe_step (vms := vms) (df := df) (d := d) (mc := mc) (ms := ms) hg e1
        cases hb : stops σ1 with
        | true =>
          rw [hb, cond_true] at a1
          cases a1
          refine ⟨σ1, a2 _ List.mem_cons_self, xs, kl1, ks1, hp1, ?_, e4, Or.inl hb⟩
          rw [e3]
          exact hk
        | false =>
          rw [hb, cond_false] at a1
          obtain ⟨σ2, f1, ys, kl2, ks2, hp2, f2, f3, f4⟩ := sRunL_ok hs f σ1 A a1 (ρ ++ xs) kl1 ks1 hp1 e4
          refine ⟨σ2, a2 _ f1, xs ++ ys, kl2, ks2, hp2, ?_, ?_, f4⟩
          · rw [e3] at f2
            exact hk.tr f2
          · rw [← List.append_assoc]
            exact f3
      · split at he
        · next L1 hL1 =>
          rw [vF_eq] at he
          obtain ⟨hl, ht, hh, hG, hf⟩ := hR
          obtain ⟨v1, v2, e, e1, xs, ks1, hp1, e2, e3, e4, e5, e6⟩ := sInv_ok (len := len) (pc := pc) (kl := kl) hs ht hh hG hf hL1
          obtain ⟨A, a1, a2⟩ := sAll_mem he e e1
          have hk := kRe_call (mc := mc) (ms := ms) (ls := kl) hg v1 v2 e2
          cases hb : stops (pc + 3, ls, e) with
          | true =>
            rw [hb, cond_true] at a1
            cases a1
            exact ⟨_, a2 _ List.mem_cons_self, xs, kl, ks1, hp1, hk, ⟨sLr_app xs hl, e3, e4, e5, e6⟩, Or.inl hb⟩
          | false =>
            rw [hb, cond_false] at a1
            obtain ⟨σ2, f1, ys, kl2, ks2, hp2, f2, f3, f4⟩ := sRunL_ok hs f (pc + 3, ls, e) A a1 (ρ ++ xs) kl ks1 hp1 ⟨sLr_app xs hl, e3, e4, e5, e6⟩
            refine ⟨σ2, a2 _ f1, xs ++ ys, kl2, ks2, hp2, hk.tr f2, ?_, f4⟩
            rw [← List.append_assoc]
            exact f3
        · cases hb : sFin i with
          | false => rw [hb] at he; cases he
          | true =>
            rw [hb, cond_true] at he
            cases he
            refine ⟨_, List.mem_cons_self, [], kl, ks, hp, kRe.rf _, ?_, Or.inr ⟨i, len, a, b, t, hg, hb⟩⟩
            rw [List.append_nil]
            exact hR
end SRUN
/-! ===== an answer ===== -/
noncomputable def sRetV (ret : Option FieldType) (i : Instr) (st : List vAV) (G : sG) : Option (Option vAV) := match i, st with
  | .ireturn, [c] => (match ret with
    | some .int => bif Nat.beq (sKd c) 0 then some (some c) else none
    | some .boolean => (match sSetOf G c with
      | some S => bif sSub S [(2147483648, 2147483649)] then some (some c) else none
      | none => none)
    | _ => none)
  | .lreturn, [c] => (match ret with
    | some .long => bif sLng (.inl c) then some (some c) else none
    | _ => none)
  | .return_, [] => (match ret with
    | none => some none
    | _ => none)
  | _, _ => none
theorem sRetV_ok {ρ : List Nat} {ret : Option FieldType} {i : Instr} {st ks : List vAV} {G : sG} {r : Option vAV} (hG : sGr ρ G) (ht : sTr ρ st ks) (h : sRetV ret i st G = some r) : ∃ kr, vRet ret i ks = some kr ∧ sRt ρ r kr := by
  unfold sRetV at h
  split at h
  · next c =>
    match ks, ht with
    | [v], ht =>
      split at h
      · cases hb : Nat.beq (sKd c) 0 with
        | false => rw [hb] at h; cases h
        | true =>
          rw [hb, cond_true] at h
          cases h
          obtain ⟨u, hu, rfl⟩ := sInt ht.1 hb
          exact ⟨some (.inl u), rfl, ht.1⟩
      · split at h
        · next S hS =>
          cases hb : sSub S [(2147483648, 2147483649)] with
          | false => rw [hb] at h; cases h
          | true =>
            rw [hb, cond_true] at h
            cases h
            obtain ⟨u, hu, rfl, i1⟩ := sSetOf_ok hG ht.1 hS
            refine ⟨some (.inl u), ?_, ht.1⟩
            show (bif Nat.ble u 1 then some (some (Sum.inl u)) else none) = _
            rw [Nat.ble_eq_true_of_le (sBit hu i1 hb)]
            rfl
        · cases h
      · cases h
    | _ :: _ :: _, ht => exact ht.2.elim
  · next c =>
    match ks, ht with
    | [v], ht =>
      split at h
      · cases hb : sLng (.inl c) with
        | false => rw [hb] at h; cases h
        | true =>
          rw [hb, cond_true] at h
          cases h
          obtain ⟨u, hu, rfl⟩ := sLng_ok (c := .inl c) hb ht.1
          exact ⟨some (.inr (.inr (.inl u))), rfl, ht.1⟩
      · cases h
    | _ :: _ :: _, ht => exact ht.2.elim
  · match ks, ht with
    | [], ht =>
      split at h
      · cases h
        exact ⟨none, rfl, trivial⟩
      · cases h
  · cases h
def sArgs : List vAV → vLs
  | [] => []
  | c :: cs => bif Nat.beq (sKd c) 1 then some c :: none :: sArgs cs else some c :: sArgs cs
def sEnt (av : List vAV) (nL : Nat) : vLs := sArgs av ++ List.replicate (nL - (sArgs av).length) none
theorem sLr_rep {ρ : List Nat} : ∀ n : Nat, sLr ρ (List.replicate n none) (List.replicate n none)
  | 0 => trivial
  | n + 1 => ⟨fun x h => (by cases h), sLr_rep n⟩
theorem sLr_appd {ρ : List Nat} : ∀ {a b c d : vLs}, sLr ρ a b → sLr ρ c d → sLr ρ (a ++ c) (b ++ d)
  | [], [], _, _, _, h => h
  | _ :: _, _ :: _, _, _, h1, h2 => ⟨h1.1, sLr_appd h1.2 h2⟩
  | [], _ :: _, _, _, h, _ => h.elim
  | _ :: _, [], _, _, h, _ => h.elim
theorem sArgs_ok {ρ : List Nat} : ∀ {av kav : List vAV}, sTr ρ av kav → sLr ρ (sArgs av) (vArgs kav)
  | [], [], _ => trivial
  | c :: cs, v :: vs, h => by
    show sLr ρ (bif Nat.beq (sKd c) 1 then some c :: none :: sArgs cs else some c :: sArgs cs) (bif Nat.beq (vKd v) 1 then some v :: none :: vArgs vs else some v :: vArgs vs)
    rw [sKd_ok h.1]
    have h1 : ∀ x, some c = some x → ∃ y, some v = some y ∧ sV ρ x y := fun x hx => by cases hx; exact ⟨v, rfl, h.1⟩
    cases Nat.beq (sKd c) 1 with
    | true => exact ⟨h1, fun x hx => (by cases hx), sArgs_ok h.2⟩
    | false => exact ⟨h1, sArgs_ok h.2⟩
  | [], _ :: _, h => h.elim
  | _ :: _, [], h => h.elim
theorem sEnt_ok {ρ : List Nat} {av kav : List vAV} (h : sTr ρ av kav) (nL : Nat) : sLr ρ (sEnt av nL) (vEnt kav nL) ∧ (vArgs kav).length = (sArgs av).length := by
  have h1 := sArgs_ok h
  have h2 := sLr_len h1
  unfold sEnt vEnt
  rw [h2]
  exact ⟨sLr_appd h1 (sLr_rep _), rfl⟩
