/-! ===== exact runs: all steps, and runs of them ===== -/
section ERUN
variable {ρ : Nat → Nat → Nat} {hp0 : List vOb} {ls : List (Option eV)} {st : List eV} {D : eD} {W : List (Nat × eX)} {path path' : List Bool} {kl : vLs} {ks : List vAV} {hp : List vOb} {σ : eS} {C : eCs} {sh : List (Nat × Nat × Nat)}
def eShr (pc : Nat) (ls : List (Option eV)) (st : List eV) (D : eD) (W : List (Nat × eX)) (path : List Bool) : eO := match st with
  | .inl y :: .inl x :: st' => (match eIxC y 4294967296 with
    | some C => some ((pc, ls, .inl (x ++ (y ++ [(2, 8)])) :: st', D, W), C, path)
    | none => none)
  | _ => none
theorem eShr_ok {pc : Nat} (hl : eLr ρ ls kl) (ht : eTr ρ st ks) (hd : eDr ρ D hp) (hf : sFr (eMd ρ W) hp0 hp) (h : eShr pc ls st D W path = some (σ, C, path')) (hC : ∀ q ∈ C, eCo ρ q) : eOk ρ hp0 σ (vShrD pc kl ks hp) := by
  unfold eShr at h
  split at h
  · next y x st' =>
    match ks, ht with
    | [_], ht => exact ht.2.elim
    | vy :: vx :: ks', ht =>
      obtain ⟨⟨w, w1, w2⟩, ⟨u, u1, u2⟩, ht⟩ := ht
      split at h
      · next C' hC' =>
        have e := Prod.mk.inj (Option.some.inj h)
        have e1 := e.1
        have e2 := (Prod.mk.inj e.2).1
        subst e1 e2
        subst w2 u2
        rw [kShr_eq pc (eIxC_ok w1 hC' hC)]
        exact ⟨_, rfl, rfl, hl, ⟨⟨_, eR_b 8 u1 w1, rfl⟩, ht⟩, hd, hf⟩
      · cases h
  · cases h
def eAln (sh : List (Nat × Nat × Nat)) (pc : Nat) (ls : List (Option eV)) (st : List eV) (D : eD) (W : List (Nat × eX)) (path : List Bool) : eO := match st with
  | .inr (.inr (some k)) :: st' => (match eSl k sh with
    | some q => bif Nat.beq (q.1 % 8) 0 || Nat.ble 6 (q.1 % 8) then none else bif Nat.blt q.2 65536 then some ((pc, ls, .inl [(0, q.2)] :: st', D, W), [], path) else none
    | none => none)
  | _ => none
theorem eAln_ok {pc : Nat} {sc : List vAV} {tx : List Nat} (hs : eSh sh hp0) (hl : eLr ρ ls kl) (ht : eTr ρ st ks) (hd : eDr ρ D hp) (hf : sFr (eMd ρ W) hp0 hp) (h : eAln sh pc ls st D W path = some (σ, C, path')) : eOk ρ hp0 σ (vAln pc sc tx kl ks hp) := by
  unfold eAln at h
  split at h
  · next k st' =>
    match ks, ht with
    | [], ht => exact ht.elim
    | vx :: ks', ht =>
      obtain ⟨e0, ht⟩ := ht
      have e0 : vx = .inr (.inr (.inr (.inl (some k)))) := e0
      subst e0
      split at h
      · next q hq =>
        obtain ⟨ob, o1, o2, o3⟩ := eSl_row (eSh_fr hf hs) hq
        cases hb : (Nat.beq (q.1 % 8) 0 || Nat.ble 6 (q.1 % 8)) with
        | true => rw [hb] at h; cases h
        | false =>
          rw [hb, cond_false] at h
          cases hb2 : Nat.blt q.2 65536 with
          | false => rw [hb2] at h; cases h
          | true =>
            rw [hb2, cond_true] at h
            have e := (Prod.mk.inj (Option.some.inj h)).1
            subst e
            refine ⟨(pc, kl, .inl q.2 :: ks', hp), ?_, rfl, hl, ⟨⟨_, eR_c ρ q.2, rfl⟩, ht⟩, hd, hf⟩
            unfold vAln
            dsimp only
            rw [vNth_eq, o1]
            dsimp only
            rw [o2, o3, hb, hb2]
            rfl
      · cases h
  · cases h
noncomputable def eStep (sh : List (Nat × Nat × Nat)) (i : Instr) (len a b t pc : Nat) (ls : List (Option eV)) (st : List eV) (D : eD) (W : List (Nat × eX)) (path : List Bool) : eO := match i with
  | .iconst _ => some ((pc + len, ls, .inl [(0, a)] :: st, D, W), [], path)
  | .bipush _ => some ((pc + len, ls, .inl [(0, a)] :: st, D, W), [], path)
  | .sipush _ => some ((pc + len, ls, .inl [(0, a)] :: st, D, W), [], path)
  | .ldc_w _ => some ((pc + len, ls, .inl [(0, a)] :: st, D, W), [], path)
  | .lconst _ => some ((pc + len, ls, .inr (.inl [(0, a)]) :: st, D, W), [], path)
  | .ldc2_w _ => some ((pc + len, ls, .inr (.inl [(0, a)]) :: st, D, W), [], path)
  | .iload_n _ => eLd 0 a (pc + len) ls st D W path
  | .iload _ => eLd 0 a (pc + len) ls st D W path
  | .lload_n _ => eLd 1 a (pc + len) ls st D W path
  | .lload _ => eLd 1 a (pc + len) ls st D W path
  | .aload_n _ => eLd 3 a (pc + len) ls st D W path
  | .aload _ => eLd 3 a (pc + len) ls st D W path
  | .istore_n _ => eSt1 0 a (pc + len) ls st D W path
  | .istore _ => eSt1 0 a (pc + len) ls st D W path
  | .astore_n _ => eSt1 3 a (pc + len) ls st D W path
  | .astore _ => eSt1 3 a (pc + len) ls st D W path
  | .lstore_n _ => eSt2 a (pc + len) ls st D W path
  | .lstore _ => eSt2 a (pc + len) ls st D W path
  | .iinc _ _ => eInc a b (pc + len) ls st D W path
  | .iadd => eI2 0 (pc + len) ls st D W path
  | .isub => eI2 1 (pc + len) ls st D W path
  | .imul => eI2 2 (pc + len) ls st D W path
  | .iand => eI2 3 (pc + len) ls st D W path
  | .ior => eI2 4 (pc + len) ls st D W path
  | .ixor => eI2 5 (pc + len) ls st D W path
  | .ishl => eI2 6 (pc + len) ls st D W path
  | .iushr => eI2 7 (pc + len) ls st D W path
  | .ishr => eShr (pc + len) ls st D W path
  | .idiv => eDv 9 (pc + len) ls st D W path
  | .irem => eDv 10 (pc + len) ls st D W path
  | .ifCond .eq _ => eIf 0 (pc + len) a ls st D W path
  | .ifCond .ne _ => eIf 1 (pc + len) a ls st D W path
  | .ifCond .lt _ => eIf 2 (pc + len) a ls st D W path
  | .ifCond .ge _ => eIf 3 (pc + len) a ls st D W path
  | .ifCond .gt _ => eIf 4 (pc + len) a ls st D W path
  | .ifCond .le _ => eIf 5 (pc + len) a ls st D W path
  | .if_icmp .eq _ => eIc 0 (pc + len) a ls st D W path
  | .if_icmp .ne _ => eIc 1 (pc + len) a ls st D W path
  | .if_icmp .lt _ => eIc 2 (pc + len) a ls st D W path
  | .if_icmp .ge _ => eIc 3 (pc + len) a ls st D W path
  | .if_icmp .gt _ => eIc 4 (pc + len) a ls st D W path
  | .if_icmp .le _ => eIc 5 (pc + len) a ls st D W path
  | .goto _ => some ((a, ls, st, D, W), [], path)
  | .tableswitch d lo hi offs => eTab pc d lo hi offs ls st D W path
  | .getfield _ => eGf sh a b t (pc + len) ls st D W path
  | .putfield _ => ePf sh a b t (pc + len) ls st D W path
  | .iaload => eAld sh 1 1 (pc + len) ls st D W path
  | .baload => eAld sh 2 3 (pc + len) ls st D W path
  | .laload => eAld sh 4 4 (pc + len) ls st D W path
  | .aaload => eAld sh 5 5 (pc + len) ls st D W path
  | .iastore => eAst sh 1 1 (pc + len) ls st D W path
  | .bastore => eAst sh 2 3 (pc + len) ls st D W path
  | .lastore => eAst sh 4 4 (pc + len) ls st D W path
  | .arraylength => eAln sh (pc + len) ls st D W path
  | .ladd => eL2 11 (pc + len) ls st D W path
  | .lmul => eL2 12 (pc + len) ls st D W path
  | .lor => eL2 13 (pc + len) ls st D W path
  | .lcmp => eLcm (pc + len) ls st D W path
  | .lshl => eLsh (pc + len) ls st D W path
  | .i2b => eI2b (pc + len) ls st D W path
  | .i2l => eI2l (pc + len) ls st D W path
  | .dup => eDup (pc + len) ls st D W path
  | .dup2 => eDup2 (pc + len) ls st D W path
  | .pop => ePop (pc + len) ls st D W path
  | _ => none
set_option maxHeartbeats 1000000 in
theorem eStep_ok {sc : List vAV} {tx : List Nat} {i : Instr} {len a b t pc : Nat} (hs : eSh sh hp0) (hl : eLr ρ ls kl) (ht : eTr ρ st ks) (hd : eDr ρ D hp) (hf : sFr (eMd ρ W) hp0 hp) (he : eStep sh i len a b t pc ls st D W path = some (σ, C, path')) (hC : ∀ q ∈ C, eCo ρ q) : eOk ρ hp0 σ (vStep sc tx i len a b t pc kl ks hp) := by
  cases i
  case iconst n =>
    have e := (Prod.mk.inj (Option.some.inj he)).1
    subst e
    exact ⟨_, rfl, rfl, hl, ⟨⟨_, eR_c ρ a, rfl⟩, ht⟩, hd, hf⟩
  case bipush n =>
    have e := (Prod.mk.inj (Option.some.inj he)).1
    subst e
    exact ⟨_, rfl, rfl, hl, ⟨⟨_, eR_c ρ a, rfl⟩, ht⟩, hd, hf⟩
  case sipush n =>
    have e := (Prod.mk.inj (Option.some.inj he)).1
    subst e
    exact ⟨_, rfl, rfl, hl, ⟨⟨_, eR_c ρ a, rfl⟩, ht⟩, hd, hf⟩
  case ldc_w n =>
    have e := (Prod.mk.inj (Option.some.inj he)).1
    subst e
    exact ⟨_, rfl, rfl, hl, ⟨⟨_, eR_c ρ a, rfl⟩, ht⟩, hd, hf⟩
  case lconst n =>
    have e := (Prod.mk.inj (Option.some.inj he)).1
    subst e
    exact ⟨_, rfl, rfl, hl, ⟨⟨_, eR_c ρ a, rfl⟩, ht⟩, hd, hf⟩
  case ldc2_w n =>
    have e := (Prod.mk.inj (Option.some.inj he)).1
    subst e
    exact ⟨_, rfl, rfl, hl, ⟨⟨_, eR_c ρ a, rfl⟩, ht⟩, hd, hf⟩
  case iload_n n => exact eLd_ok hl ht hd hf he
  case iload n => exact eLd_ok hl ht hd hf he
  case lload_n n => exact eLd_ok hl ht hd hf he
  case lload n => exact eLd_ok hl ht hd hf he
  case aload_n n => exact eLd_ok hl ht hd hf he
  case aload n => exact eLd_ok hl ht hd hf he
  case istore_n n => exact eSt1_ok hl ht hd hf he
  case istore n => exact eSt1_ok hl ht hd hf he
  case astore_n n => exact eSt1_ok hl ht hd hf he
  case astore n => exact eSt1_ok hl ht hd hf he
  case lstore_n n => exact eSt2_ok hl ht hd hf he
  case lstore n => exact eSt2_ok hl ht hd hf he
  case iinc n c => exact eInc_ok hl ht hd hf he
  case iadd =>
    obtain ⟨u, w, ks', rfl, hO⟩ := eI2_ok (op := 0) hl ht hd hf he
    exact hO _ (k2_eq vAdd (pc + len) u w)
  case isub =>
    obtain ⟨u, w, ks', rfl, hO⟩ := eI2_ok (op := 1) hl ht hd hf he
    exact hO _ (k2_eq vSub (pc + len) u w)
  case imul =>
    obtain ⟨u, w, ks', rfl, hO⟩ := eI2_ok (op := 2) hl ht hd hf he
    exact hO _ (k2_eq vMul (pc + len) u w)
  case iand =>
    obtain ⟨u, w, ks', rfl, hO⟩ := eI2_ok (op := 3) hl ht hd hf he
    exact hO _ (k2_eq Nat.land (pc + len) u w)
  case ior =>
    obtain ⟨u, w, ks', rfl, hO⟩ := eI2_ok (op := 4) hl ht hd hf he
    exact hO _ (k2_eq Nat.lor (pc + len) u w)
  case ixor =>
    obtain ⟨u, w, ks', rfl, hO⟩ := eI2_ok (op := 5) hl ht hd hf he
    exact hO _ (k2_eq Nat.xor (pc + len) u w)
  case ishl =>
    obtain ⟨u, w, ks', rfl, hO⟩ := eI2_ok (op := 6) hl ht hd hf he
    exact hO _ (k2_eq vShl (pc + len) u w)
  case iushr =>
    obtain ⟨u, w, ks', rfl, hO⟩ := eI2_ok (op := 7) hl ht hd hf he
    exact hO _ (k2_eq vUsh (pc + len) u w)
  case ishr => exact eShr_ok hl ht hd hf he hC
  case idiv =>
    obtain ⟨u, w, ks', hw, rfl, hO⟩ := eDv_ok (op := 9) hl ht hd hf he
    exact hO _ (kDiv_eq (pc + len) hw)
  case irem =>
    obtain ⟨u, w, ks', hw, rfl, hO⟩ := eDv_ok (op := 10) hl ht hd hf he
    exact hO _ (kRem_eq (pc + len) hw)
  case ifCond cc off =>
    cases cc
    case eq => exact eIf_ok (f := vEq) (by decide) kf_eq hl ht hd hf he hC
    case ne => exact eIf_ok (f := (fun x y => vNot (vEq x y))) (by decide) kf_ne hl ht hd hf he hC
    case lt => exact eIf_ok (f := vLt) (by decide) kf_lt hl ht hd hf he hC
    case ge => exact eIf_ok (f := (fun x y => vNot (vLt x y))) (by decide) kf_ge hl ht hd hf he hC
    case gt => exact eIf_ok (f := (fun x y => vLt y x)) (by decide) kf_gt hl ht hd hf he hC
    case le => exact eIf_ok (f := (fun x y => vNot (vLt y x))) (by decide) kf_le hl ht hd hf he hC
  case if_icmp cc off =>
    cases cc
    case eq => exact eIc_ok (f := vEq) (by decide) kf_eq hl ht hd hf he hC
    case ne => exact eIc_ok (f := (fun x y => vNot (vEq x y))) (by decide) kf_ne hl ht hd hf he hC
    case lt => exact eIc_ok (f := vLt) (by decide) kf_lt hl ht hd hf he hC
    case ge => exact eIc_ok (f := (fun x y => vNot (vLt x y))) (by decide) kf_ge hl ht hd hf he hC
    case gt => exact eIc_ok (f := (fun x y => vLt y x)) (by decide) kf_gt hl ht hd hf he hC
    case le => exact eIc_ok (f := (fun x y => vNot (vLt y x))) (by decide) kf_le hl ht hd hf he hC
  case goto n =>
    have e := (Prod.mk.inj (Option.some.inj he)).1
    subst e
    exact ⟨_, rfl, rfl, hl, ht, hd, hf⟩
  case tableswitch d lo hi offs => exact eTab_ok hl ht hd hf he
  case getfield n => exact eGf_ok hs hl ht hd hf he hC
  case putfield n => exact ePf_ok hs hl ht hd hf he hC
  case iaload => exact eAld_ok hs hl ht hd hf he hC
  case baload => exact eAld_ok hs hl ht hd hf he hC
  case laload => exact eAld_ok hs hl ht hd hf he hC
  case aaload => exact eAld_ok hs hl ht hd hf he hC
  case iastore => exact eAst_ok hs hl ht hd hf he hC
  case bastore => exact eAst_ok hs hl ht hd hf he hC
  case lastore => exact eAst_ok hs hl ht hd hf he hC
  case arraylength => exact eAln_ok hs hl ht hd hf he
  case ladd => exact eL2_ok (op := 11) (fun _ _ => rfl) hl ht hd hf he
  case lmul => exact eL2_ok (op := 12) (fun _ _ => rfl) hl ht hd hf he
  case lor => exact eL2_ok (op := 13) (fun _ _ => rfl) hl ht hd hf he
  case lcmp => exact eLcm_ok hl ht hd hf he
  case lshl => exact eLsh_ok hl ht hd hf he
  case i2b => exact eI2b_ok hl ht hd hf he
  case i2l => exact eI2l_ok hl ht hd hf he
  case dup => exact eDup_ok hl ht hd hf he
  case dup2 => exact eDup2_ok hl ht hd hf he
  case pop => exact ePop_ok hl ht hd hf he
  all_goals cases he
end ERUN
/-! ===== calls, inlined ===== -/
abbrev eCalT : Type := Nat → List eV → eD → List (Nat × eX) → List Bool → Option (Option eV × eD × List (Nat × eX) × eCs × List Bool)
def eTk : Nat → List eV → List eV → Option (List eV × List eV)
  | 0, acc, st => some (acc, st)
  | n + 1, acc, v :: st => eTk n (v :: acc) st
  | _ + 1, _, [] => none
theorem eTk_ok {ρ : Nat → Nat → Nat} : ∀ {n : Nat} {acc st as rest : List eV} {kacc ks : List vAV}, eTk n acc st = some (as, rest) → eTr ρ acc kacc → eTr ρ st ks → ∃ kas krest, vTk n kacc ks = some (kas, krest) ∧ eTr ρ as kas ∧ eTr ρ rest krest
  | 0, acc, st, as, rest, kacc, ks, h, h1, h2 => by
    have e := Prod.mk.inj (Option.some.inj h)
    rw [← e.1, ← e.2]
    refine ⟨kacc, ks, ?_, h1, h2⟩
    cases ks <;> rfl
  | n + 1, acc, [], as, rest, kacc, ks, h, _, _ => by cases h
  | n + 1, acc, v :: st, as, rest, kacc, [], h, _, h2 => h2.elim
  | n + 1, acc, v :: st, as, rest, kacc, kv :: ks, h, h1, h2 => eTk_ok (n := n) (acc := v :: acc) (kacc := kv :: kacc) (st := st) (ks := ks) h ⟨h2.1, h1⟩ h2.2
def eCsz : List eV → Nat
  | [] => 0
  | c :: cs => (bif Nat.beq (eKd c) 1 then 2 else 1) + eCsz cs
theorem eCsz_ok {ρ : Nat → Nat → Nat} : ∀ {st : List eV} {ks : List vAV}, eTr ρ st ks → vCs ks = eCsz st
  | [], [], _ => rfl
  | [], _ :: _, h => h.elim
  | _ :: _, [], h => h.elim
  | c :: st, v :: ks, h => by
    unfold vCs eCsz
    rw [eKd_ok h.1, eCsz_ok h.2]
def eArgs : List eV → List (Option eV)
  | [] => []
  | c :: cs => bif Nat.beq (eKd c) 1 then some c :: none :: eArgs cs else some c :: eArgs cs
theorem eArgs_ok {ρ : Nat → Nat → Nat} : ∀ {st : List eV} {ks : List vAV}, eTr ρ st ks → eLr ρ (eArgs st) (vArgs ks)
  | [], [], _ => trivial
  | [], _ :: _, h => h.elim
  | _ :: _, [], h => h.elim
  | c :: st, v :: ks, h => by
    unfold vArgs eArgs
    rw [eKd_ok h.1]
    have ih := eArgs_ok h.2
    have hv : ∀ x, some c = some x → ∃ y, some v = some y ∧ eRv ρ x y := fun x hx => ⟨v, rfl, by rw [← Option.some.inj hx]; exact h.1⟩
    cases Nat.beq (eKd c) 1 with
    | true => exact ⟨hv, fun x hx => (by cases hx), ih⟩
    | false => exact ⟨hv, ih⟩
theorem eLr_rep {ρ : Nat → Nat → Nat} : ∀ n : Nat, eLr ρ (List.replicate n none) (List.replicate n none)
  | 0 => trivial
  | n + 1 => ⟨fun x h => (by cases h), eLr_rep n⟩
theorem eLr_appd {ρ : Nat → Nat → Nat} : ∀ {a c : List (Option eV)} {b d : vLs}, eLr ρ a b → eLr ρ c d → eLr ρ (a ++ c) (b ++ d)
  | [], _, [], _, _, h => h
  | _ :: _, _, _ :: _, _, h1, h2 => ⟨h1.1, eLr_appd h1.2 h2⟩
  | [], _, _ :: _, _, h, _ => h.elim
  | _ :: _, _, [], _, h, _ => h.elim
def eEnt (av : List eV) (nL : Nat) : List (Option eV) := eArgs av ++ List.replicate (nL - (eArgs av).length) none
theorem eEnt_ok {ρ : Nat → Nat → Nat} {av : List eV} {kav : List vAV} (h : eTr ρ av kav) (nL : Nat) : eLr ρ (eEnt av nL) (vEnt kav nL) ∧ (vArgs kav).length = (eArgs av).length := by
  have h1 := eArgs_ok h
  have h2 := eLr_len h1
  unfold eEnt vEnt
  rw [h2]
  exact ⟨eLr_appd h1 (eLr_rep _), rfl⟩
def eRet (ret : Option FieldType) (i : Instr) (st : List eV) : Option (Option eV) := match i, st with
  | .ireturn, [.inl x] => (match ret with
    | some .int => some (some (.inl x))
    | some .boolean => (match eCn x with
      | some c => bif Nat.ble c 1 then some (some (.inl x)) else none
      | none => none)
    | _ => none)
  | .lreturn, [.inr (.inl x)] => (match ret with
    | some .long => some (some (.inr (.inl x)))
    | _ => none)
  | .return_, [] => (match ret with
    | none => some none
    | _ => none)
  | _, _ => none
def eRo (ρ : Nat → Nat → Nat) : Option eV → Option vAV → Prop
  | none, none => True
  | some a, some v => eRv ρ a v
  | _, _ => False
theorem eRet_ok {ρ : Nat → Nat → Nat} {ret : Option FieldType} {i : Instr} {st : List eV} {ks : List vAV} {r : Option eV} (ht : eTr ρ st ks) (h : eRet ret i st = some r) : ∃ kr, vRet ret i ks = some kr ∧ eRo ρ r kr := by
  unfold eRet at h
  split at h
  · next x =>
    match ks, ht with
    | [], ht => exact ht.elim
    | _ :: _ :: _, ht => exact ht.2.elim
    | [v], ht =>
      obtain ⟨⟨u, u1, u2⟩, -⟩ := ht
      subst u2
      split at h
      · have h := Option.some.inj h
        subst h
        exact ⟨_, rfl, u, u1, rfl⟩
      · split at h
        · next c hc =>
          cases hb : Nat.ble c 1 with
          | false => rw [hb] at h; cases h
          | true =>
            rw [hb, cond_true] at h
            have h := Option.some.inj h
            subst h
            have e1 := eCn_val hc u1
            subst e1
            refine ⟨some (.inl u), ?_, u, u1, rfl⟩
            show (bif Nat.ble u 1 then some (some (.inl u : vAV)) else none) = _
            rw [hb]
            rfl
        · cases h
      · cases h
  · next x =>
    match ks, ht with
    | [], ht => exact ht.elim
    | _ :: _ :: _, ht => exact ht.2.elim
    | [v], ht =>
      obtain ⟨⟨u, u1, u2⟩, -⟩ := ht
      subst u2
      split at h
      · have h := Option.some.inj h
        subst h
        exact ⟨_, rfl, u, u1, rfl⟩
      · cases h
  · match ks, ht with
    | _ :: _, ht => exact ht.elim
    | [], ht =>
      split at h
      · have h := Option.some.inj h
        subst h
        exact ⟨_, rfl, trivial⟩
      · cases h
  · cases h
noncomputable def eInv (sh : List (Nat × Nat × Nat)) (cal : eCalT) (i : Instr) (a b t : Nat) (st : List eV) (D : eD) (W : List (Nat × eX)) (path : List Bool) : Option (List eV × eD × List (Nat × eX) × eCs × List Bool) := match i with
  | .invokevirtual _ => (match eTk b [] st with
    | some (as, .inr (.inr (some k)) :: rest) => (match eSl k sh with
      | some q => bif Nat.beq q.1 (8 * t) && (Nat.blt t 99 && Nat.ble (eCsz rest) 8) then (match cal a (.inr (.inr (some k)) :: as) D W path with
        | some (r, D', W', C, p') => some (r.toList ++ rest, D', W', C, p')
        | none => none) else none
      | none => none)
    | _ => none)
  | .invokestatic _ => bif Nat.beq a 1001 then none else (match eTk b [] st with
    | some (as, rest) => bif Nat.ble (eCsz rest) 8 then (match cal a as D W path with
      | some (r, D', W', C, p') => some (r.toList ++ rest, D', W', C, p')
      | none => none) else none
    | none => none)
  | _ => none
section ECAL
variable {vms : List vMt} {df : List (List vAV)} {ρ : Nat → Nat → Nat} {hp0 : List vOb} {sh : List (Nat × Nat × Nat)}
def eCalOK (vms : List vMt) (df : List (List vAV)) (d : Nat) (ρ : Nat → Nat → Nat) (hp0 : List vOb) (cal : eCalT) : Prop := ∀ j av D W path r D' W' C path', cal j av D W path = some (r, D', W', C, path') → (∀ q ∈ C, eCo ρ q) → ∀ kav hp, eTr ρ av kav → eDr ρ D hp → sFr (eMd ρ W) hp0 hp → ∃ kr hp', (∃ N, ∀ fuel, N ≤ fuel → vCalD vms df fuel d j kav hp = some (kr, hp', 0, 0)) ∧ eRo ρ r kr ∧ eDr ρ D' hp' ∧ sFr (eMd ρ W') hp0 hp'
theorem eRo_st {r : Option eV} {kr : Option vAV} {rest : List eV} {krest : List vAV} (h : eRo ρ r kr) (ht : eTr ρ rest krest) : eTr ρ (r.toList ++ rest) (kr.toList ++ krest) := by
  match r, kr, h with
  | none, none, _ => exact ht
  | some a, some v, h => exact ⟨h, ht⟩
theorem eInv_ok {d : Nat} {cal : eCalT} (hcal : eCalOK vms df d ρ hp0 cal) (hs : eSh sh hp0) {i : Instr} {a b t : Nat} {st st' : List eV} {D D' : eD} {W W' : List (Nat × eX)} {C : eCs} {path path' : List Bool} (h : eInv sh cal i a b t st D W path = some (st', D', W', C, path')) (hC : ∀ q ∈ C, eCo ρ q) {ks : List vAV} {hp : List vOb} (ht : eTr ρ st ks) (hd : eDr ρ D hp) (hf : sFr (eMd ρ W) hp0 hp) : ∃ ks' hp', (∃ N, ∀ fuel, N ≤ fuel → vInv (vCalD vms df fuel d) i a b t ks hp = some (ks', hp', 0, 0)) ∧ (∀ sc tx len pc kl, vStep sc tx i len a b t pc kl ks hp = none) ∧ vAl df i a t ks hp = none ∧ eTr ρ st' ks' ∧ eDr ρ D' hp' ∧ sFr (eMd ρ W') hp0 hp' := by
  unfold eInv at h
  split at h
  · next x =>
    split at h
    · next as k rest hk =>
      obtain ⟨kas, krest, t1, t2, t3⟩ := eTk_ok (kacc := []) hk trivial ht
      match krest, t3 with
      | [], t3 => exact t3.elim
      | rv :: krest, t3 =>
        have e0 : rv = .inr (.inr (.inr (.inl (some k)))) := t3.1
        subst e0
        split at h
        · next q hq =>
          obtain ⟨ob, o1, o2, o3⟩ := eSl_row (eSh_fr hf hs) hq
          cases hb : (Nat.beq q.1 (8 * t) && (Nat.blt t 99 && Nat.ble (eCsz rest) 8)) with
          | false => rw [hb] at h; cases h
          | true =>
            rw [hb, cond_true] at h
            rw [Bool.and_eq_true, Bool.and_eq_true] at hb
            split at h
            · next r D1 W1 C1 p1 hc =>
              have e := Prod.mk.inj (Option.some.inj h)
              have e2 := Prod.mk.inj e.2
              have e3 := Prod.mk.inj e2.2
              have e4 := Prod.mk.inj e3.2
              obtain ⟨kr, hp', ⟨N, g1⟩, g2, g3, g4⟩ := hcal _ _ _ _ _ _ _ _ _ _ hc (fun q hq => hC q (by rw [← e4.1]; exact hq)) (.inr (.inr (.inr (.inl (some k)))) :: kas) hp ⟨rfl, t2⟩ hd hf
              rw [← e.1, ← e2.1, ← e3.1]
              refine ⟨kr.toList ++ krest, hp', ⟨N, fun fuel hfu => ?_⟩, fun _ _ _ _ _ => rfl, rfl, eRo_st g2 t3.2, g3, g4⟩
              have hrc : vRc t (.inr (.inr (.inr (.inl (some k))))) hp = true := by
                unfold vRc
                dsimp only
                rw [vNth_eq, o1]
                dsimp only
                rw [o2, hb.1, hb.2.1]
                rfl
              unfold vInv
              simp only [t1, hrc, eCsz_ok t3.2, hb.2.2, g1 fuel hfu, Bool.and_self, cond_true]
            · cases h
        · cases h
    · cases h
  · next x =>
    cases ha : Nat.beq a 1001 with
    | true => rw [ha] at h; cases h
    | false =>
      rw [ha, cond_false] at h
      split at h
      · next as rest hk =>
        obtain ⟨kas, krest, t1, t2, t3⟩ := eTk_ok (kacc := []) hk trivial ht
        cases hb : Nat.ble (eCsz rest) 8 with
        | false => rw [hb] at h; cases h
        | true =>
          rw [hb, cond_true] at h
          split at h
          · next r D1 W1 C1 p1 hc =>
            have e := Prod.mk.inj (Option.some.inj h)
            have e2 := Prod.mk.inj e.2
            have e3 := Prod.mk.inj e2.2
            have e4 := Prod.mk.inj e3.2
            obtain ⟨kr, hp', ⟨N, g1⟩, g2, g3, g4⟩ := hcal _ _ _ _ _ _ _ _ _ _ hc (fun q hq => hC q (by rw [← e4.1]; exact hq)) kas hp t2 hd hf
            rw [← e.1, ← e2.1, ← e3.1]
            refine ⟨kr.toList ++ krest, hp', ⟨N, fun fuel hfu => ?_⟩, fun _ _ _ _ _ => rfl, rfl, eRo_st g2 t3, g3, g4⟩
            unfold vInv
            simp only [t1, ha, eCsz_ok t3, hb, g1 fuel hfu, cond_false, cond_true]
          · cases h
      · cases h
  · cases h
noncomputable def eFa (tbl : vTbl) (pc : Nat) : Bool := match vGet tbl pc with
  | some x => sFin x.1
  | none => false
/-- a step, or a call -/
noncomputable def eOne (sh : List (Nat × Nat × Nat)) (cal : eCalT) (x : vIn) (σ : eS) (path : List Bool) : eO := match eStep sh x.1 x.2.1 x.2.2.1 x.2.2.2.1 x.2.2.2.2 σ.1 σ.2.1 σ.2.2.1 σ.2.2.2.1 σ.2.2.2.2 path with
  | some r => some r
  | none => (match eInv sh cal x.1 x.2.2.1 x.2.2.2.1 x.2.2.2.2 σ.2.2.1 σ.2.2.2.1 σ.2.2.2.2 path with
    | some (st', D', W', C, p') => some ((σ.1 + 3, σ.2.1, st', D', W'), C, p')
    | none => none)
theorem eOne_ok {d : Nat} {cal : eCalT} {tbl : vTbl} (hcal : eCalOK vms df d ρ hp0 cal) (hs : eSh sh hp0) {x : vIn} {σ σ' : eS} {path path' : List Bool} {C : eCs} {κ : kSt} (hg : vGet tbl σ.1 = some x) (h : eOne sh cal x σ path = some (σ', C, path')) (hC : ∀ q ∈ C, eCo ρ q) (hr : eSr ρ hp0 σ κ) : ∃ κ', kRe vms df d tbl 0 0 κ κ' ∧ eSr ρ hp0 σ' κ' := by
  obtain ⟨pc, kl, ks, hp⟩ := κ
  obtain ⟨h1, hl, ht, hd, hf⟩ := hr
  dsimp only at h1 hl ht hd hf
  obtain ⟨i, len, a, b, t⟩ := x
  rw [← h1] at hg
  unfold eOne at h
  dsimp only at h
  rw [← h1] at h
  split at h
  · next r hr2 =>
    have h := Option.some.inj h
    subst h
    obtain ⟨κ1, k1, k2⟩ := eStep_ok (sc := []) (tx := vTx) hs hl ht hd hf hr2 hC
    exact ⟨κ1, kRe_step hg k1, k2⟩
  · split at h
    · next st' D' W' C' p' hi =>
      have e := Prod.mk.inj (Option.some.inj h)
      have e2 := Prod.mk.inj e.2
      obtain ⟨ks', hp', g1, g2, g3, g4, g5, g6⟩ := eInv_ok hcal hs hi (fun q hq => hC q (by rw [← e2.1]; exact hq)) ht hd hf
      rw [← e.1]
      exact ⟨(pc + 3, kl, ks', hp'), kRe_call hg (g2 _ _ _ _ _) g3 g1, rfl, hl, g4, g5, g6⟩
    · cases h
noncomputable def eRun (sh : List (Nat × Nat × Nat)) (cal : eCalT) (tbl : vTbl) (stops : List Nat) : Nat → List Bool → eS → eO
  | 0, _, _ => none
  | n + 1, path, σ => match vGet tbl σ.1 with
    | some x => (match eOne sh cal x σ path with
      | some (σ', C, path') => bif sStop σ'.1 stops || eFa tbl σ'.1 then some (σ', C, path') else (match eRun sh cal tbl stops n path' σ' with
        | some (σ2, C2, p2) => some (σ2, C ++ C2, p2)
        | none => none)
      | none => none)
    | none => none
theorem e_run {d : Nat} {cal : eCalT} {tbl : vTbl} {stops : List Nat} (hcal : eCalOK vms df d ρ hp0 cal) (hs : eSh sh hp0) : ∀ {n : Nat} {path path' : List Bool} {σ σ' : eS} {C : eCs} {κ : kSt}, eRun sh cal tbl stops n path σ = some (σ', C, path') → (∀ q ∈ C, eCo ρ q) → eSr ρ hp0 σ κ → ∃ κ', kRe vms df d tbl 0 0 κ κ' ∧ eSr ρ hp0 σ' κ'
  | 0, _, _, _, _, _, _, h, _, _ => by cases h
  | n + 1, path, path', σ, σ', C, κ, h, hC, hr => by
    unfold eRun at h
    split at h
    · next x hx =>
      split at h
      · next σ1 C1 path1 h2 =>
        cases hb : (sStop σ1.1 stops || eFa tbl σ1.1) with
        | true =>
          rw [hb, cond_true] at h
          have e := Prod.mk.inj (Option.some.inj h)
          have e2 := Prod.mk.inj e.2
          obtain ⟨κ1, k1, k2⟩ := eOne_ok (d := d) (vms := vms) (df := df) hcal hs hx h2 (fun q hq => hC q (by rw [← e2.1]; exact hq)) hr
          rw [← e.1]
          exact ⟨κ1, k1, k2⟩
        | false =>
          rw [hb, cond_false] at h
          split at h
          · next σ2 C2 p2 h3 =>
            have e := Prod.mk.inj (Option.some.inj h)
            have e2 := Prod.mk.inj e.2
            obtain ⟨κ1, k1, k2⟩ := eOne_ok (d := d) (vms := vms) (df := df) hcal hs hx h2 (fun q hq => hC q (by rw [← e2.1]; exact List.mem_append_left _ hq)) hr
            obtain ⟨κ2, q1, q2⟩ := e_run hcal hs h3 (fun q hq => hC q (by rw [← e2.1]; exact List.mem_append_right _ hq)) k2
            rw [← e.1]
            exact ⟨κ2, k1.tr q1, q2⟩
          · cases h
      · cases h
    · cases h
/-- calls: first what is told of them, then inlined -/
noncomputable def eCalI (orc : eCalT) (vms : List vMt) (sh : List (Nat × Nat × Nat)) (fuel : Nat) : Nat → eCalT
  | 0 => orc
  | n + 1 => fun j av D W path => match orc j av D W path with
    | some r => some r
    | none => (match vNth vms j with
      | some M => bif Nat.beq (mRm M).cells 0 && (Nat.beq (mRm M).slots 0 && Nat.ble (eArgs av).length M.2.2.1) then (match eRun sh (eCalI orc vms sh fuel n) M.2.2.2.2.1 [] fuel path (0, eEnt av M.2.2.1, [], D, W) with
        | some (σ, C, path') => (match vGet M.2.2.2.2.1 σ.1 with
          | some x => bif sFin x.1 then (match eRet M.2.2.2.1 x.1 σ.2.2.1 with
            | some r => some (r, σ.2.2.2.1, σ.2.2.2.2, C, path')
            | none => none) else none
          | none => none)
        | none => none) else none
      | none => none)
theorem eCalI_ok {fuel d0 : Nat} {orc : eCalT} (ho : ∀ d, d0 ≤ d → eCalOK vms df d ρ hp0 orc) (hs : eSh sh hp0) : ∀ (n d : Nat), n + d0 ≤ d → eCalOK vms df d ρ hp0 (eCalI orc vms sh fuel n)
  | 0, d, h => ho d (by omega)
  | n + 1, 0, h => by omega
  | n + 1, d + 1, hd => by
    intro j av D W path r D' W' C path' h hC kav hp ht hD hf
    have ih := eCalI_ok (fuel := fuel) ho hs n d (by omega)
    unfold eCalI at h
    split at h
    · next r0 hr0 => exact ho (d + 1) (by omega) j av D W path r D' W' C path' (hr0.trans h) hC kav hp ht hD hf
    · split at h
      · next M hM =>
        rw [vNth_eq] at hM
        cases hb : (Nat.beq (mRm M).cells 0 && (Nat.beq (mRm M).slots 0 && Nat.ble (eArgs av).length M.2.2.1)) with
        | false => rw [hb] at h; cases h
        | true =>
          rw [hb, cond_true] at h
          rw [Bool.and_eq_true, Bool.and_eq_true] at hb
          split at h
          · next σ C1 p1 hrun =>
            split at h
            · next x hx =>
              cases hfin : sFin x.1 with
              | false => rw [hfin] at h; cases h
              | true =>
                rw [hfin, cond_true] at h
                split at h
                · next r1 hr1 =>
                  have e := Prod.mk.inj (Option.some.inj h)
                  have e2 := Prod.mk.inj e.2
                  have e3 := Prod.mk.inj e2.2
                  have e4 := Prod.mk.inj e3.2
                  obtain ⟨q1, q2⟩ := eEnt_ok ht M.2.2.1
                  obtain ⟨κ', k1, k2, k3, k4, k5, k6⟩ := e_run (vms := vms) (df := df) (d := d) ih hs hrun (fun q hq => hC q (by rw [← e4.1]; exact hq)) (κ := (0, vEnt kav M.2.2.1, [], hp)) ⟨rfl, q1, trivial, hD, hf⟩
                  obtain ⟨pc', kl', ks', hp'⟩ := κ'
                  dsimp only at k2 k3 k4 k5 k6
                  obtain ⟨kr, r2, r3⟩ := eRet_ok k4 hr1
                  obtain ⟨i, len, a, b, t⟩ := x
                  rw [← k2] at hx
                  rw [← e.1, ← e2.1, ← e3.1]
                  exact ⟨kr, hp', kCal_of hM (by rw [q2]; exact Nat.le_of_ble_eq_true hb.2.2) (Nat.eq_of_beq_eq_true hb.1) (Nat.eq_of_beq_eq_true hb.2.1) k1 hx hfin r2, r3, k5, k6⟩
                · cases h
            · cases h
          · cases h
      · cases h
/-- nothing told of calls -/
def eNo : eCalT := fun _ _ _ _ _ => none
theorem eNo_ok {d : Nat} : eCalOK vms df d ρ hp0 eNo := fun j av D W path r D' W' C path' h => by cases h
def eOr (a b : eCalT) : eCalT := fun j av D W path => match a j av D W path with
  | some r => some r
  | none => b j av D W path
theorem eOr_ok {d : Nat} {a b : eCalT} (ha : eCalOK vms df d ρ hp0 a) (hb : eCalOK vms df d ρ hp0 b) : eCalOK vms df d ρ hp0 (eOr a b) := fun j av D W path r D' W' C path' h => by
  unfold eOr at h
  split at h
  · next r0 hr => exact ha j av D W path r D' W' C path' (hr.trans h)
  · exact hb j av D W path r D' W' C path' h
end ECAL
