/-! ===== the step ===== -/
section STP
variable {md : sMd} {hp0 : List vOb} {ρ : List Nat} {ls : vLs} {st : List vAV} {h : sHp} {G : sG} {kl : vLs} {ks : List vAV} {hp : List vOb} {L : List sSt}
theorem sI2c_in (u : Nat) : u % 65536 < 4294967296 ∧ sIn [(2147483648, 2147549183)] (sBi (u % 65536)) := by
  have hl : u % 65536 < 65536 := Nat.mod_lt _ (by decide)
  generalize u % 65536 = z at hl
  rw [sBi_of (by omega)]
  exact ⟨by omega, sIn_one (by omega) (by omega)⟩
theorem vI2c_k (pc u : Nat) : vI2c pc kl (.inl u :: ks) hp = some (pc, kl, .inl (u % 65536) :: ks, hp) := by
  unfold vI2c
  dsimp only
  rw [vF_eq]
def sLs (pc : Nat) (ls : vLs) (st : List vAV) (h : sHp) (G : sG) : Option (List sSt) := match st with
  | y :: x :: st' => bif Nat.beq (sKd y) 0 && sLng (.inl x) then some [(pc, ls, sUnk :: st', h, G)] else none
  | _ => none
theorem sLs_ok {pc : Nat} (hR : sR md hp0 ρ ls st h G kl ks hp) (he : sLs pc ls st h G = some L) : sOut md hp0 ρ L (vLsh pc kl ks hp) := by
  obtain ⟨hl, ht, hh, hG, hf⟩ := hR
  unfold sLs at he
  split at he
  · next y x st' =>
    match ks, ht with
    | [_], ht => exact ht.2.elim
    | ky :: kx :: ks', ht =>
      obtain ⟨hy, hx, ht⟩ := ht
      cases hb : (Nat.beq (sKd y) 0 && sLng (.inl x)) with
      | false => rw [hb] at he; cases he
      | true =>
        rw [hb, cond_true] at he
        cases he
        rw [Bool.and_eq_true] at hb
        obtain ⟨w, hw, rfl⟩ := sInt hy hb.1
        obtain ⟨u, hu, rfl⟩ := sLng_ok (c := .inl x) hb.2 hx
        exact sOut_now (kl' := kl) (ks' := .inr (.inr (.inl (kLshl u w))) :: ks') (hp' := hp) rfl ⟨hl, ⟨sUnk_ok (kl_lt _), ht⟩, hh, hG, hf⟩
  · cases he
noncomputable def sStep (md : sMd) (i : Instr) (len a b t pc : Nat) (ls : vLs) (st : List vAV) (h : sHp) (G : sG) : Option (List sSt) := match i with
  | .iconst _ => bif Nat.blt a 4294967296 then some [(pc + len, ls, .inl a :: st, h, G)] else none
  | .bipush _ => bif Nat.blt a 4294967296 then some [(pc + len, ls, .inl a :: st, h, G)] else none
  | .sipush _ => bif Nat.blt a 4294967296 then some [(pc + len, ls, .inl a :: st, h, G)] else none
  | .ldc _ => bif Nat.beq t 1 then none else bif Nat.blt a 4294967296 then some [(pc + len, ls, .inl a :: st, h, G)] else none
  | .ldc_w _ => bif Nat.blt a 4294967296 then some [(pc + len, ls, .inl a :: st, h, G)] else none
  | .lconst _ => bif Nat.blt a 18446744073709551616 then some [(pc + len, ls, .inr (.inr (.inl a)) :: st, h, G)] else none
  | .ldc2_w _ => bif Nat.blt a 18446744073709551616 then some [(pc + len, ls, .inr (.inr (.inl a)) :: st, h, G)] else none
  | .iload_n _ => sLd 0 a (pc + len) ls st h G
  | .iload _ => sLd 0 a (pc + len) ls st h G
  | .lload_n _ => sLd 1 a (pc + len) ls st h G
  | .lload _ => sLd 1 a (pc + len) ls st h G
  | .aload_n _ => sLd 3 a (pc + len) ls st h G
  | .aload _ => sLd 3 a (pc + len) ls st h G
  | .istore_n _ => sSt1 0 a (pc + len) ls st h G
  | .istore _ => sSt1 0 a (pc + len) ls st h G
  | .astore_n _ => sSt1 3 a (pc + len) ls st h G
  | .astore _ => sSt1 3 a (pc + len) ls st h G
  | .lstore_n _ => sSt2 a (pc + len) ls st h G
  | .lstore _ => sSt2 a (pc + len) ls st h G
  | .iinc _ _ => sInc a b (pc + len) ls st h G
  | .iadd => sBi2 0 (pc + len) ls st h G
  | .isub => sBi2 1 (pc + len) ls st h G
  | .imul => sBi2 2 (pc + len) ls st h G
  | .iand => sBi2 3 (pc + len) ls st h G
  | .ior => sBi2 4 (pc + len) ls st h G
  | .ixor => sBi2 5 (pc + len) ls st h G
  | .ishl => sBi2 6 (pc + len) ls st h G
  | .iushr => sBi2 7 (pc + len) ls st h G
  | .ishr => sBi2 8 (pc + len) ls st h G
  | .idiv => sBi2 9 (pc + len) ls st h G
  | .irem => sBi2 10 (pc + len) ls st h G
  | .ifCond .eq _ => sIf 0 (pc + len) a ls st h G
  | .ifCond .ne _ => sIf 1 (pc + len) a ls st h G
  | .ifCond .lt _ => sIf 2 (pc + len) a ls st h G
  | .ifCond .ge _ => sIf 3 (pc + len) a ls st h G
  | .ifCond .gt _ => sIf 4 (pc + len) a ls st h G
  | .ifCond .le _ => sIf 5 (pc + len) a ls st h G
  | .if_icmp .eq _ => sIc 0 (pc + len) a ls st h G
  | .if_icmp .ne _ => sIc 1 (pc + len) a ls st h G
  | .if_icmp .lt _ => sIc 2 (pc + len) a ls st h G
  | .if_icmp .ge _ => sIc 3 (pc + len) a ls st h G
  | .if_icmp .gt _ => sIc 4 (pc + len) a ls st h G
  | .if_icmp .le _ => sIc 5 (pc + len) a ls st h G
  | .goto _ => some [(a, ls, st, h, G)]
  | .tableswitch d lo hi offs => sTab pc d lo hi offs ls st h G
  | .lookupswitch d ps => sLook pc d ps ls st h G
  | .getfield _ => sGf a b t (pc + len) ls st h G
  | .putfield _ => sPf md a b t (pc + len) ls st h G
  | .iaload => sAld 1 1 (pc + len) ls st h G
  | .baload => sAld 2 3 (pc + len) ls st h G
  | .laload => sAld 4 4 (pc + len) ls st h G
  | .aaload => sAld 5 5 (pc + len) ls st h G
  | .iastore => sAst md 1 1 (pc + len) ls st h G
  | .bastore => sAst md 2 3 (pc + len) ls st h G
  | .lastore => sAst md 4 4 (pc + len) ls st h G
  | .arraylength => sAln (pc + len) ls st h G
  | .ladd => sL2 false (pc + len) ls st h G
  | .lmul => sL2 false (pc + len) ls st h G
  | .lor => sL2 false (pc + len) ls st h G
  | .ldiv => sL2 true (pc + len) ls st h G
  | .lrem => sL2 true (pc + len) ls st h G
  | .lcmp => sLcmp (pc + len) ls st h G
  | .lshl => sLs (pc + len) ls st h G
  | .i2b => sI1 [(2147483520, 2147483775)] (pc + len) ls st h G
  | .i2c => sI1 [(2147483648, 2147549183)] (pc + len) ls st h G
  | .i2l => sI2l (pc + len) ls st h G
  | .l2i => sL2i (pc + len) ls st h G
  | .dup => sDup (pc + len) ls st h G
  | .dup2 => sDup2 (pc + len) ls st h G
  | .pop => sPop (pc + len) ls st h G
  | _ => none
set_option maxHeartbeats 1000000 in
theorem sStep_ok {sc : List vAV} {tx : List Nat} {i : Instr} {len a b t pc : Nat} (hR : sR md hp0 ρ ls st h G kl ks hp) (he : sStep md i len a b t pc ls st h G = some L) : sOut md hp0 ρ L (vStep sc tx i len a b t pc kl ks hp) := by
  cases i
  case iconst n =>
    have he : (bif Nat.blt a 4294967296 then some [(pc + len, ls, .inl a :: st, h, G)] else none) = some L := he
    have hb : Nat.blt a 4294967296 = true := by
      cases hb : Nat.blt a 4294967296 with
      | true => rfl
      | false => rw [hb] at he; cases he
    rw [hb, cond_true] at he
    cases he
    exact sOut_now rfl ⟨hR.1, ⟨⟨Nat.blt_eq.mp hb, rfl⟩, hR.2.1⟩, hR.2.2.1, hR.2.2.2.1, hR.2.2.2.2⟩
  case bipush n =>
    have he : (bif Nat.blt a 4294967296 then some [(pc + len, ls, .inl a :: st, h, G)] else none) = some L := he
    have hb : Nat.blt a 4294967296 = true := by
      cases hb : Nat.blt a 4294967296 with
      | true => rfl
      | false => rw [hb] at he; cases he
    rw [hb, cond_true] at he
    cases he
    exact sOut_now rfl ⟨hR.1, ⟨⟨Nat.blt_eq.mp hb, rfl⟩, hR.2.1⟩, hR.2.2.1, hR.2.2.2.1, hR.2.2.2.2⟩
  case sipush n =>
    have he : (bif Nat.blt a 4294967296 then some [(pc + len, ls, .inl a :: st, h, G)] else none) = some L := he
    have hb : Nat.blt a 4294967296 = true := by
      cases hb : Nat.blt a 4294967296 with
      | true => rfl
      | false => rw [hb] at he; cases he
    rw [hb, cond_true] at he
    cases he
    exact sOut_now rfl ⟨hR.1, ⟨⟨Nat.blt_eq.mp hb, rfl⟩, hR.2.1⟩, hR.2.2.1, hR.2.2.2.1, hR.2.2.2.2⟩
  case ldc n =>
    have he : (bif Nat.beq t 1 then none else bif Nat.blt a 4294967296 then some [(pc + len, ls, .inl a :: st, h, G)] else none) = some L := he
    show sOut md hp0 ρ L (bif Nat.beq t 1 then some (pc + len, kl, .inr (.inr (.inr (.inr 1))) :: ks, hp) else some (pc + len, kl, .inl a :: ks, hp))
    cases ht1 : Nat.beq t 1 with
    | true => rw [ht1] at he; cases he
    | false =>
      rw [ht1, cond_false] at he
      rw [cond_false]
      have hb : Nat.blt a 4294967296 = true := by
        cases hb : Nat.blt a 4294967296 with
        | true => rfl
        | false => rw [hb] at he; cases he
      rw [hb, cond_true] at he
      cases he
      exact sOut_now rfl ⟨hR.1, ⟨⟨Nat.blt_eq.mp hb, rfl⟩, hR.2.1⟩, hR.2.2.1, hR.2.2.2.1, hR.2.2.2.2⟩
  case ldc_w n =>
    have he : (bif Nat.blt a 4294967296 then some [(pc + len, ls, .inl a :: st, h, G)] else none) = some L := he
    have hb : Nat.blt a 4294967296 = true := by
      cases hb : Nat.blt a 4294967296 with
      | true => rfl
      | false => rw [hb] at he; cases he
    rw [hb, cond_true] at he
    cases he
    exact sOut_now rfl ⟨hR.1, ⟨⟨Nat.blt_eq.mp hb, rfl⟩, hR.2.1⟩, hR.2.2.1, hR.2.2.2.1, hR.2.2.2.2⟩
  case lconst n =>
    have he : (bif Nat.blt a 18446744073709551616 then some [(pc + len, ls, .inr (.inr (.inl a)) :: st, h, G)] else none) = some L := he
    have hb : Nat.blt a 18446744073709551616 = true := by
      cases hb : Nat.blt a 18446744073709551616 with
      | true => rfl
      | false => rw [hb] at he; cases he
    rw [hb, cond_true] at he
    cases he
    exact sOut_now rfl ⟨hR.1, ⟨⟨Nat.blt_eq.mp hb, rfl⟩, hR.2.1⟩, hR.2.2.1, hR.2.2.2.1, hR.2.2.2.2⟩
  case ldc2_w n =>
    have he : (bif Nat.blt a 18446744073709551616 then some [(pc + len, ls, .inr (.inr (.inl a)) :: st, h, G)] else none) = some L := he
    have hb : Nat.blt a 18446744073709551616 = true := by
      cases hb : Nat.blt a 18446744073709551616 with
      | true => rfl
      | false => rw [hb] at he; cases he
    rw [hb, cond_true] at he
    cases he
    exact sOut_now rfl ⟨hR.1, ⟨⟨Nat.blt_eq.mp hb, rfl⟩, hR.2.1⟩, hR.2.2.1, hR.2.2.2.1, hR.2.2.2.2⟩
  case iload_n n =>
    exact sLd_ok (kd := 0) hR he
  case iload n =>
    exact sLd_ok (kd := 0) hR he
  case lload_n n =>
    exact sLd_ok (kd := 1) hR he
  case lload n =>
    exact sLd_ok (kd := 1) hR he
  case aload_n n =>
    exact sLd_ok (kd := 3) hR he
  case aload n =>
    exact sLd_ok (kd := 3) hR he
  case istore_n n =>
    exact sSt1_ok (kd := 0) hR he
  case istore n =>
    exact sSt1_ok (kd := 0) hR he
  case astore_n n =>
    exact sSt1_ok (kd := 3) hR he
  case astore n =>
    exact sSt1_ok (kd := 3) hR he
  case lstore_n n =>
    exact sSt2_ok hR he
  case lstore n =>
    exact sSt2_ok hR he
  case iinc n c =>
    exact sInc_ok hR he
  case iadd =>
    obtain ⟨u, w, ks', hu, hw, rfl, -, hO⟩ := sBi2_ok (op := 0) (by decide) hR he
    show sOut md hp0 ρ L (v2 vAdd (pc + len) kl (.inl w :: .inl u :: ks') hp)
    rw [k2_eq]
    exact hO
  case isub =>
    obtain ⟨u, w, ks', hu, hw, rfl, -, hO⟩ := sBi2_ok (op := 1) (by decide) hR he
    show sOut md hp0 ρ L (v2 vSub (pc + len) kl (.inl w :: .inl u :: ks') hp)
    rw [k2_eq]
    exact hO
  case imul =>
    obtain ⟨u, w, ks', hu, hw, rfl, -, hO⟩ := sBi2_ok (op := 2) (by decide) hR he
    show sOut md hp0 ρ L (v2 vMul (pc + len) kl (.inl w :: .inl u :: ks') hp)
    rw [k2_eq]
    exact hO
  case iand =>
    obtain ⟨u, w, ks', hu, hw, rfl, -, hO⟩ := sBi2_ok (op := 3) (by decide) hR he
    show sOut md hp0 ρ L (v2 Nat.land (pc + len) kl (.inl w :: .inl u :: ks') hp)
    rw [k2_eq]
    exact hO
  case ior =>
    obtain ⟨u, w, ks', hu, hw, rfl, -, hO⟩ := sBi2_ok (op := 4) (by decide) hR he
    show sOut md hp0 ρ L (v2 Nat.lor (pc + len) kl (.inl w :: .inl u :: ks') hp)
    rw [k2_eq]
    exact hO
  case ixor =>
    obtain ⟨u, w, ks', hu, hw, rfl, -, hO⟩ := sBi2_ok (op := 5) (by decide) hR he
    show sOut md hp0 ρ L (v2 Nat.xor (pc + len) kl (.inl w :: .inl u :: ks') hp)
    rw [k2_eq]
    exact hO
  case ishl =>
    obtain ⟨u, w, ks', hu, hw, rfl, -, hO⟩ := sBi2_ok (op := 6) (by decide) hR he
    show sOut md hp0 ρ L (v2 vShl (pc + len) kl (.inl w :: .inl u :: ks') hp)
    rw [k2_eq]
    exact hO
  case iushr =>
    obtain ⟨u, w, ks', hu, hw, rfl, -, hO⟩ := sBi2_ok (op := 7) (by decide) hR he
    show sOut md hp0 ρ L (v2 vUsh (pc + len) kl (.inl w :: .inl u :: ks') hp)
    rw [k2_eq]
    exact hO
  case ishr =>
    obtain ⟨u, w, ks', hu, hw, rfl, -, hO⟩ := sBi2_ok (op := 8) (by decide) hR he
    show sOut md hp0 ρ L (vShrD (pc + len) kl (.inl w :: .inl u :: ks') hp)
    rw [kShr_eq _ hw]
    exact hO
  case idiv =>
    obtain ⟨u, w, ks', hu, hw, rfl, h9, hO⟩ := sBi2_ok (op := 9) (by decide) hR he
    show sOut md hp0 ρ L (v2d Nat.div kDiv (pc + len) kl (.inl w :: .inl u :: ks') hp)
    rw [kDiv_eq _ (h9 (by decide))]
    exact hO
  case irem =>
    obtain ⟨u, w, ks', hu, hw, rfl, h9, hO⟩ := sBi2_ok (op := 10) (by decide) hR he
    show sOut md hp0 ρ L (v2d Nat.mod kRem (pc + len) kl (.inl w :: .inl u :: ks') hp)
    rw [kRem_eq _ (h9 (by decide))]
    exact hO
  case ifCond cc off =>
    cases cc
    case eq =>
      obtain ⟨u, ks', hu, rfl, hO⟩ := sIf_ok (c := 0) hR he
      show sOut md hp0 ρ L (vIf vEq (pc + len) a kl (.inl u :: ks') hp)
      rw [vIf_k kf_eq]
      exact hO
    case ne =>
      obtain ⟨u, ks', hu, rfl, hO⟩ := sIf_ok (c := 1) hR he
      show sOut md hp0 ρ L (vIf (fun x y => vNot (vEq x y)) (pc + len) a kl (.inl u :: ks') hp)
      rw [vIf_k kf_ne]
      exact hO
    case lt =>
      obtain ⟨u, ks', hu, rfl, hO⟩ := sIf_ok (c := 2) hR he
      show sOut md hp0 ρ L (vIf vLt (pc + len) a kl (.inl u :: ks') hp)
      rw [vIf_k kf_lt]
      exact hO
    case ge =>
      obtain ⟨u, ks', hu, rfl, hO⟩ := sIf_ok (c := 3) hR he
      show sOut md hp0 ρ L (vIf (fun x y => vNot (vLt x y)) (pc + len) a kl (.inl u :: ks') hp)
      rw [vIf_k kf_ge]
      exact hO
    case gt =>
      obtain ⟨u, ks', hu, rfl, hO⟩ := sIf_ok (c := 4) hR he
      show sOut md hp0 ρ L (vIf (fun x y => vLt y x) (pc + len) a kl (.inl u :: ks') hp)
      rw [vIf_k kf_gt]
      exact hO
    case le =>
      obtain ⟨u, ks', hu, rfl, hO⟩ := sIf_ok (c := 5) hR he
      show sOut md hp0 ρ L (vIf (fun x y => vNot (vLt y x)) (pc + len) a kl (.inl u :: ks') hp)
      rw [vIf_k kf_le]
      exact hO
  case if_icmp cc off =>
    cases cc
    case eq =>
      obtain ⟨u, w, ks', hu, hw, rfl, hO⟩ := sIc_ok (c := 0) hR he
      show sOut md hp0 ρ L (vIc vEq (pc + len) a kl (.inl w :: .inl u :: ks') hp)
      rw [vIc_k kf_eq]
      exact hO
    case ne =>
      obtain ⟨u, w, ks', hu, hw, rfl, hO⟩ := sIc_ok (c := 1) hR he
      show sOut md hp0 ρ L (vIc (fun x y => vNot (vEq x y)) (pc + len) a kl (.inl w :: .inl u :: ks') hp)
      rw [vIc_k kf_ne]
      exact hO
    case lt =>
      obtain ⟨u, w, ks', hu, hw, rfl, hO⟩ := sIc_ok (c := 2) hR he
      show sOut md hp0 ρ L (vIc vLt (pc + len) a kl (.inl w :: .inl u :: ks') hp)
      rw [vIc_k kf_lt]
      exact hO
    case ge =>
      obtain ⟨u, w, ks', hu, hw, rfl, hO⟩ := sIc_ok (c := 3) hR he
      show sOut md hp0 ρ L (vIc (fun x y => vNot (vLt x y)) (pc + len) a kl (.inl w :: .inl u :: ks') hp)
      rw [vIc_k kf_ge]
      exact hO
    case gt =>
      obtain ⟨u, w, ks', hu, hw, rfl, hO⟩ := sIc_ok (c := 4) hR he
      show sOut md hp0 ρ L (vIc (fun x y => vLt y x) (pc + len) a kl (.inl w :: .inl u :: ks') hp)
      rw [vIc_k kf_gt]
      exact hO
    case le =>
      obtain ⟨u, w, ks', hu, hw, rfl, hO⟩ := sIc_ok (c := 5) hR he
      show sOut md hp0 ρ L (vIc (fun x y => vNot (vLt y x)) (pc + len) a kl (.inl w :: .inl u :: ks') hp)
      rw [vIc_k kf_le]
      exact hO
  case goto n =>
    cases he
    exact sOut_now rfl hR
  case tableswitch d lo hi offs =>
    exact sTab_ok hR he
  case lookupswitch d ps =>
    exact sLook_ok hR he
  case getfield n =>
    exact sGf_ok hR he
  case putfield n =>
    exact sPf_ok hR he
  case iaload =>
    exact sAld_ok hR he
  case baload =>
    exact sAld_ok hR he
  case laload =>
    exact sAld_ok hR he
  case aaload =>
    exact sAld_ok hR he
  case iastore =>
    exact sAst_ok hR he
  case bastore =>
    exact sAst_ok hR he
  case lastore =>
    exact sAst_ok hR he
  case arraylength =>
    exact sAln_ok hR he
  case ladd =>
    obtain ⟨u, w, ks', hu, hw, rfl, -, hO⟩ := sL2_ok hR he
    show sOut md hp0 ρ L (vL2 (fun u w => (u + w) % 18446744073709551616) (pc + len) kl (.inr (.inr (.inl w)) :: .inr (.inr (.inl u)) :: ks') hp)
    rw [vL2_k]
    exact hO _ (Nat.mod_lt _ (by decide))
  case lmul =>
    obtain ⟨u, w, ks', hu, hw, rfl, -, hO⟩ := sL2_ok hR he
    show sOut md hp0 ρ L (vL2 (fun u w => (u * w) % 18446744073709551616) (pc + len) kl (.inr (.inr (.inl w)) :: .inr (.inr (.inl u)) :: ks') hp)
    rw [vL2_k]
    exact hO _ (Nat.mod_lt _ (by decide))
  case lor =>
    obtain ⟨u, w, ks', hu, hw, rfl, -, hO⟩ := sL2_ok hR he
    show sOut md hp0 ρ L (vL2 kLor (pc + len) kl (.inr (.inr (.inl w)) :: .inr (.inr (.inl u)) :: ks') hp)
    rw [vL2_k]
    exact hO _ (kl_lt _)
  case ldiv =>
    obtain ⟨u, w, ks', hu, hw, rfl, h9, hO⟩ := sL2_ok hR he
    obtain ⟨z, hz, e⟩ := vL2d_k (f := Nat.div) (g := kLdiv) (pc := pc + len) (u := u) (w := w) (kl := kl) (ks := ks') (hp := hp) (h9 rfl) (Nat.lt_of_le_of_lt (Nat.div_le_self u w) hu) (kl_lt _)
    show sOut md hp0 ρ L (vL2d Nat.div kLdiv (pc + len) kl (.inr (.inr (.inl w)) :: .inr (.inr (.inl u)) :: ks') hp)
    rw [e]
    exact hO z hz
  case lrem =>
    obtain ⟨u, w, ks', hu, hw, rfl, h9, hO⟩ := sL2_ok hR he
    obtain ⟨z, hz, e⟩ := vL2d_k (f := Nat.mod) (g := kLrem) (pc := pc + len) (u := u) (w := w) (kl := kl) (ks := ks') (hp := hp) (h9 rfl) (Nat.lt_of_le_of_lt (Nat.mod_le u w) hu) (kl_lt _)
    show sOut md hp0 ρ L (vL2d Nat.mod kLrem (pc + len) kl (.inr (.inr (.inl w)) :: .inr (.inr (.inl u)) :: ks') hp)
    rw [e]
    exact hO z hz
  case lcmp =>
    exact sLcmp_ok hR he
  case lshl =>
    exact sLs_ok hR he
  case i2b =>
    obtain ⟨u, ks', hu, rfl, hO⟩ := sI1_ok (f := kI2b) (fun u => ⟨kn_lt _, sIn_one (kI2b_in u).1 (kI2b_in u).2⟩) hR he
    exact hO
  case i2c =>
    obtain ⟨u, ks', hu, rfl, hO⟩ := sI1_ok (f := fun u => u % 65536) (fun u => sI2c_in u) hR he
    show sOut md hp0 ρ L (vI2c (pc + len) kl (.inl u :: ks') hp)
    rw [vI2c_k]
    exact hO
  case i2l =>
    exact sI2l_ok hR he
  case l2i =>
    exact sL2i_ok hR he
  case dup =>
    exact sDup_ok hR he
  case dup2 =>
    exact sDup2_ok hR he
  case pop =>
    exact sPop_ok hR he
  all_goals cases he
end STP
