/-! ===== the same machine, which leaves a cell alone that already holds what is put there ===== -/
def vSame (x y : vAV) : Bool := match x, y with
  | .inl u, .inl w => Nat.beq u w
  | .inr (.inl p), .inr (.inl q) => Nat.beq p.1 q.1 && Nat.beq p.2 q.2
  | .inr (.inr (.inl u)), .inr (.inr (.inl w)) => Nat.beq u w
  | _, _ => false
theorem vSame_ok {x y : vAV} (h : vSame x y = true) : x = y := by
  unfold vSame at h
  split at h
  · rw [Nat.eq_of_beq_eq_true h]
  · next p q =>
    obtain ⟨h1, h2⟩ := vBx h
    rw [Prod.ext (Nat.eq_of_beq_eq_true h1) (Nat.eq_of_beq_eq_true h2)]
  · rw [Nat.eq_of_beq_eq_true h]
  · cases h
theorem vSet_id {hp : List vOb} {k u : Nat} {o : vOb} {z : vAV} (h1 : vNth hp k = some o) (h2 : vNth o.2 u = some z) : hp.set k (o.1, o.2.set u z) = hp := by
  rw [vNth_eq] at h1 h2
  obtain ⟨l1, e1⟩ := List.getElem?_eq_some_iff.mp h1
  obtain ⟨l2, e2⟩ := List.getElem?_eq_some_iff.mp h2
  have q2 : o.2.set u z = o.2 := by rw [← e2]; exact List.set_getElem_self l2
  rw [q2, Prod.eta, ← e1]
  exact List.set_getElem_self l1
def vPfF (a b t pc : Nat) (ls : vLs) (st : List vAV) (hp : List vOb) : vR := match st with
  | v :: .inr (.inr (.inr (.inl (some k)))) :: st' => match vNth hp k with
    | some o => bif Nat.beq o.1 (8 * a) && vFit t v then match vNth o.2 b with
      | some z => bif vSame z v then some (pc, ls, st', hp) else some (pc, ls, st', hp.set k (o.1, o.2.set b v))
      | none => none
      else none
    | none => none
  | _ => none
def vAstF (kd1 kd2 pc : Nat) (ls : vLs) (st : List vAV) (hp : List vOb) : vR := match st with
  | v :: .inl u :: .inr (.inr (.inr (.inl (some k)))) :: st' => match vNth hp k with
    | some o => bif (Nat.beq (o.1 % 8) kd1 || Nat.beq (o.1 % 8) kd2) && Nat.blt u 65536 then match vNth o.2 u, vNar (o.1 % 8) v with
      | some z, some w => bif vSame z w then some (pc, ls, st', hp) else some (pc, ls, st', hp.set k (o.1, o.2.set u w))
      | _, _ => none
      else none
    | none => none
  | _ => none
theorem vPfF_eq (a b t pc : Nat) (ls : vLs) (st : List vAV) (hp : List vOb) : vPfF a b t pc ls st hp = vPf a b t pc ls st hp := by
  unfold vPfF
  split
  · next v k st' =>
    simp only [vPf]
    cases h1 : vNth hp k with
    | none => rfl
    | some o =>
      dsimp only
      cases (Nat.beq o.1 (8 * a) && vFit t v) with
      | false => rfl
      | true =>
        cases h2 : vNth o.2 b with
        | none => rfl
        | some z =>
          dsimp only
          cases h3 : vSame z v with
          | false => rfl
          | true =>
            have e := vSame_ok h3
            subst e
            rw [vSet_id h1 h2]
            rfl
  · next hn =>
    unfold vPf
    split
    · next v k st' => exact (hn v k st' rfl).elim
    · rfl
theorem vAstF_eq (kd1 kd2 pc : Nat) (ls : vLs) (st : List vAV) (hp : List vOb) : vAstF kd1 kd2 pc ls st hp = vAst kd1 kd2 pc ls st hp := by
  unfold vAstF
  split
  · next v u k st' =>
    simp only [vAst]
    cases h1 : vNth hp k with
    | none => rfl
    | some o =>
      dsimp only
      cases ((Nat.beq (o.1 % 8) kd1 || Nat.beq (o.1 % 8) kd2) && Nat.blt u 65536) with
      | false => rfl
      | true =>
        cases h2 : vNth o.2 u with
        | none => rfl
        | some z =>
          cases vNar (o.1 % 8) v with
          | none => rfl
          | some w =>
            dsimp only
            cases h3 : vSame z w with
            | false => rfl
            | true =>
              have e := vSame_ok h3
              subst e
              rw [vSet_id h1 h2]
              rfl
  · next hn =>
    unfold vAst
    split
    · next v u k st' => exact (hn v u k st' rfl).elim
    · rfl
noncomputable def vStepF (sc : List vAV) (tx : List Nat) (i : Instr) (len a b t pc : Nat) (ls : vLs) (st : List vAV) (hp : List vOb) : vR := match i with
  | .putfield _ => vPfF a b t (pc + len) ls st hp
  | .iastore => vAstF 1 1 (pc + len) ls st hp
  | .bastore => vAstF 2 3 (pc + len) ls st hp
  | .lastore => vAstF 4 4 (pc + len) ls st hp
  | _ => vStep sc tx i len a b t pc ls st hp
theorem vStepF_eq (sc : List vAV) (tx : List Nat) (i : Instr) (len a b t pc : Nat) (ls : vLs) (st : List vAV) (hp : List vOb) : vStepF sc tx i len a b t pc ls st hp = vStep sc tx i len a b t pc ls st hp := by
  unfold vStepF
  split
  · exact vPfF_eq _ _ _ _ _ _ _
  · exact vAstF_eq _ _ _ _ _ _
  · exact vAstF_eq _ _ _ _ _ _
  · exact vAstF_eq _ _ _ _ _ _
  · rfl
noncomputable def vRunF (cal : vCal) (df : List (List vAV)) (tbl : vTbl) (sc : List vAV) (tx : List Nat) (mc ms : Nat) : Nat → Nat → vLs → List vAV → List vOb → Nat → Nat → vRes
  | 0, _, _, _, _, _, _ => none
  | f + 1, pc, ls, st, hp, ce, sl => match vGet tbl pc with
    | none => none
    | some (i, len, a, b, t) => match vStepF sc tx i len a b t pc ls st hp with
      | some (pc', ls', st', hp') => vF pc' (fun q => vRunF cal df tbl sc tx mc ms f q ls' st' hp' ce sl)
      | none => match vAl df i a t st hp with
        | some (st', hp', n) => bif Nat.ble (ce + 1) mc && Nat.ble (sl + n) ms then vF (pc + len) (fun q => vF (ce + 1) (fun ce' => vF (sl + n) (fun sl' => vRunF cal df tbl sc tx mc ms f q ls st' hp' ce' sl'))) else none
        | none => match vInv cal i a b t st hp with
          | some (st', hp', c1, s1) => bif Nat.ble (ce + c1) mc && Nat.ble (sl + s1) ms then vF (pc + 3) (fun q => vF (ce + c1) (fun ce' => vF (sl + s1) (fun sl' => vRunF cal df tbl sc tx mc ms f q ls st' hp' ce' sl'))) else none
          | none => bif vEnd i then some (pc, ls, st, hp, ce, sl) else none
theorem vRunF_eq (cal : vCal) (df : List (List vAV)) (tbl : vTbl) (sc : List vAV) (tx : List Nat) (mc ms : Nat) : ∀ (f pc : Nat) (ls : vLs) (st : List vAV) (hp : List vOb) (ce sl : Nat), vRunF cal df tbl sc tx mc ms f pc ls st hp ce sl = vRun cal df tbl sc tx mc ms f pc ls st hp ce sl := by
  intro f
  induction f with
  | zero => intro pc ls st hp ce sl; rfl
  | succ f ih =>
    intro pc ls st hp ce sl
    simp only [vRunF, vRun, vStepF_eq, ih]
    rfl
noncomputable def vCalDF (vms : List vMt) (df : List (List vAV)) (fuel : Nat) : Nat → vCal
  | 0 => fun _ _ _ => none
  | d + 1 => fun j av hp => match vNth vms j with
    | none => none
    | some M => bif Nat.ble (vArgs av).length M.2.2.1 then match vRunF (vCalDF vms df fuel d) df M.2.2.2.2.1 [] vTx (mRm M).cells (mRm M).slots fuel 0 (vEnt av M.2.2.1) [] hp 0 0 with
      | none => none
      | some (pc', _, st', hp', ce', sl') => match vGet M.2.2.2.2.1 pc' with
        | none => none
        | some x => match vRet M.2.2.2.1 x.1 st' with
          | none => none
          | some r => bif Nat.ble ce' (mRm M).cells && Nat.ble sl' (mRm M).slots then some (r, hp', (mRm M).cells, (mRm M).slots) else none
      else none
theorem vCalDF_eq (vms : List vMt) (df : List (List vAV)) (fuel : Nat) : ∀ d : Nat, vCalDF vms df fuel d = vCalD vms df fuel d := by
  intro d
  induction d with
  | zero => rfl
  | succ d ih =>
    funext j av hp
    simp only [vCalDF, vCalD, vRunF_eq, ih]
    rfl
noncomputable def vcalF : vCal := vCalDF vms vdf 100000 12
theorem vcalF_eq : vcalF = vcal := vCalDF_eq vms vdf 100000 12
noncomputable def vGoSF (sc : List vAV) (pc : Nat) (ls : vLs) (st : List vAV) (hp : List vOb) (ce sl : Nat) : Bool := match vRunF vcalF vdf vt_law2 sc vTx 600002 7302232 100000 pc ls st hp ce sl with
  | some (pc', _, st', _, ce', sl') => Nat.beq pc' 1489 && (match st' with
    | [.inl u] => Nat.beq u 1
    | _ => false) && Nat.ble ce' 600002 && Nat.ble sl' 7302232
  | none => false
noncomputable def vGoF (sc : List vAV) (pc : Nat) : Bool := vGoSF sc pc ls0 [] hp0 249 7595
theorem vGoF_eq (sc : List vAV) (pc : Nat) : vGoF sc pc = vGo sc pc := by
  unfold vGoF vGo vGoSF vGoS
  rw [vRunF_eq, vcalF_eq]
  rfl
