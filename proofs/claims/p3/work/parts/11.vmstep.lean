/-! ===== its steps: an instruction with its length and up to three numbers that a table has looked up ===== -/
/-- what the JVM makes of known numbers -/
def kDiv (u w : Nat) : Nat := (nI u / nI w).toBitVec.toNat
def kRem (u w : Nat) : Nat := (nI u - nI u / nI w * nI w).toBitVec.toNat
def kShr (u w : Nat) : Nat := (nI u >>> (nI w &&& 31)).toBitVec.toNat
def kI2b (u : Nat) : Nat := (nI u).toInt8.toInt32.toBitVec.toNat
def kNarB (u : Nat) : Nat := (vp_nar .byte (nI u)).toBitVec.toNat
def kLdiv (u w : Nat) : Nat := (lN u / lN w).toBitVec.toNat
def kLrem (u w : Nat) : Nat := (lN u - lN u / lN w * lN w).toBitVec.toNat
def kLshl (u w : Nat) : Nat := (lN u <<< ((nI w).toInt64 &&& 63)).toBitVec.toNat
def kLor (u w : Nat) : Nat := (lN u ||| lN w).toBitVec.toNat
def vNth {α : Type} : List α → Nat → Option α
  | [], _ => none
  | x :: _, 0 => some x
  | _ :: l, n + 1 => vNth l n
theorem vNth_eq {α : Type} : ∀ (l : List α) (n : Nat), vNth l n = l[n]?
  | [], _ => by simp [vNth]
  | x :: l, 0 => by simp [vNth]
  | x :: l, n + 1 => by simp [vNth, vNth_eq l n]
abbrev vR : Type := Option (Nat × vLs × List vAV × List vOb)
abbrev vIn : Type := Instr × Nat × Nat × Nat × Nat
def vLd (kd a pc : Nat) (ls : vLs) (st : List vAV) (hp : List vOb) : vR := match vNth ls a with
  | some (some v) => bif Nat.beq (vKd v) kd then some (pc, ls, v :: st, hp) else none
  | _ => none
def vSt1 (kd a pc : Nat) (ls : vLs) (st : List vAV) (hp : List vOb) : vR := match st with
  | v :: st' => bif Nat.beq (vKd v) kd && Nat.blt a ls.length then some (pc, vSet1 ls a v, st', hp) else none
  | _ => none
def vSt2 (a pc : Nat) (ls : vLs) (st : List vAV) (hp : List vOb) : vR := match st with
  | v :: st' => bif Nat.beq (vKd v) 1 && Nat.blt (a + 1) ls.length then some (pc, vSet2 ls a v, st', hp) else none
  | _ => none
noncomputable def vInc (a b pc : Nat) (ls : vLs) (st : List vAV) (hp : List vOb) : vR := match vNth ls a with
  | some (some v) => match vB vAdd v (.inl b) with
    | some r => some (pc, vSet1 ls a r, st, hp)
    | none => none
  | _ => none
noncomputable def v2 (op : Nat → Nat → Nat) (pc : Nat) (ls : vLs) (st : List vAV) (hp : List vOb) : vR := match st with
  | y :: x :: st' => match vB op x y with
    | some r => some (pc, ls, r :: st', hp)
    | none => none
  | _ => none
/-- a division of two numbers that aren't negative -/
noncomputable def v2d (op g : Nat → Nat → Nat) (pc : Nat) (ls : vLs) (st : List vAV) (hp : List vOb) : vR := match st with
  | .inl w :: .inl u :: st' => bif Nat.blt u 2147483648 && Nat.blt w 2147483648 && Nat.blt 0 w then vF (op u w) (fun r => some (pc, ls, .inl r :: st', hp)) else bif Nat.beq w 0 then none else some (pc, ls, .inl (g u w) :: st', hp)
  | _ => none
noncomputable def vShrD (pc : Nat) (ls : vLs) (st : List vAV) (hp : List vOb) : vR := match st with
  | .inl w :: .inl u :: st' => bif Nat.blt u 2147483648 then vF (u / 2 ^ (w % 32)) (fun r => some (pc, ls, .inl r :: st', hp)) else some (pc, ls, .inl (kShr u w) :: st', hp)
  | .inl _ :: .inr (.inl _) :: st' => some (pc, ls, vAny :: st', hp)
  | _ => none
def vBr (o : Option Bool) (pc a : Nat) (ls : vLs) (st : List vAV) (hp : List vOb) : vR := match o with
  | some true => some (a, ls, st, hp)
  | some false => some (pc, ls, st, hp)
  | none => none
noncomputable def vIf (f : Nat × Nat → Nat × Nat → Option Bool) (pc a : Nat) (ls : vLs) (st : List vAV) (hp : List vOb) : vR := match st with
  | x :: st' => match vIv x with
    | some q => vBr (f q (2147483648, 2147483648)) pc a ls st' hp
    | none => none
  | _ => none
noncomputable def vIc (f : Nat × Nat → Nat × Nat → Option Bool) (pc a : Nat) (ls : vLs) (st : List vAV) (hp : List vOb) : vR := match st with
  | y :: x :: st' => match vIv x, vIv y with
    | some q, some r => vBr (f q r) pc a ls st' hp
    | _, _ => none
  | _ => none
def vNot (o : Option Bool) : Option Bool := match o with
  | some true => some false
  | some false => some true
  | none => none
noncomputable def vTab (pc : Nat) (dflt lo hi : Int) (offs : Array Int) (ls : vLs) (st : List vAV) (hp : List vOb) : vR := match st with
  | x :: st' => match vIv x with
    | some q => if (q.2 : Int) - 2147483648 < lo ∨ hi < (q.1 : Int) - 2147483648 then (if 0 ≤ (pc : Int) + dflt then some (((pc : Int) + dflt).toNat, ls, st', hp) else none)
      else if q.1 = q.2 ∧ lo ≤ (q.1 : Int) - 2147483648 ∧ (q.1 : Int) - 2147483648 ≤ hi then match offs[((q.1 : Int) - 2147483648 - lo).toNat]? with
        | some off => if 0 ≤ (pc : Int) + off then some (((pc : Int) + off).toNat, ls, st', hp) else none
        | none => none
      else none
    | none => none
  | _ => none
def vGf (a b t pc : Nat) (ls : vLs) (st : List vAV) (hp : List vOb) : vR := match st with
  | .inr (.inr (.inr (.inl (some k)))) :: st' => match vNth hp k with
    | some o => bif Nat.beq o.1 (8 * a) && Nat.blt t 7 then match vNth o.2 b with
      | some v => some (pc, ls, v :: st', hp)
      | none => none
      else none
    | none => none
  | .inr (.inr (.inr (.inr 1))) :: st' => bif Nat.beq t 7 then some (pc, ls, .inl 0 :: st', hp) else bif Nat.beq t 8 then some (pc, ls, .inr (.inr (.inr (.inr 2))) :: st', hp) else none
  | _ => none
/-- does a value fit a field: 0 int, 1 boolean, 2 long, 3 a reference -/
def vFit (t : Nat) (v : vAV) : Bool := match t with
  | 0 => Nat.beq (vKd v) 0
  | 1 => match v with
    | .inl u => Nat.ble u 1
    | _ => false
  | 2 => Nat.beq (vKd v) 1
  | 3 => Nat.ble 2 (vKd v)
  | _ => false
def vPf (a b t pc : Nat) (ls : vLs) (st : List vAV) (hp : List vOb) : vR := match st with
  | v :: .inr (.inr (.inr (.inl (some k)))) :: st' => match vNth hp k with
    | some o => bif Nat.beq o.1 (8 * a) && vFit t v then match vNth o.2 b with
      | some _ => some (pc, ls, st', hp.set k (o.1, o.2.set b v))
      | none => none
      else none
    | none => none
  | _ => none
/-- an array's load: kinds 1 int, 2 byte, 3 boolean, 4 long, 5 reference -/
def vAld (kd1 kd2 pc : Nat) (sc : List vAV) (tx : List Nat) (ls : vLs) (st : List vAV) (hp : List vOb) : vR := match st with
  | .inl u :: .inr (.inr (.inr (.inl (some k)))) :: st' => match vNth hp k with
    | some o => bif (Nat.beq (o.1 % 8) kd1 || Nat.beq (o.1 % 8) kd2) && Nat.blt u 65536 then match vNth o.2 u with
      | some v => some (pc, ls, v :: st', hp)
      | none => none
      else none
    | none => none
  | .inl u :: .inr (.inr (.inr (.inr 0))) :: st' => bif Nat.beq kd1 1 && Nat.blt u 65536 then match vNth sc u with
      | some v => some (pc, ls, v :: st', hp)
      | none => none
      else none
  | .inl u :: .inr (.inr (.inr (.inr 2))) :: st' => bif Nat.beq kd1 2 && Nat.blt u 65536 then match vNth tx u with
      | some v => some (pc, ls, .inl v :: st', hp)
      | none => none
      else none
  | _ => none
/-- what an array of a kind holds once a value was put in -/
def vNar (kd : Nat) (v : vAV) : Option vAV := match kd with
  | 1 => bif Nat.beq (vKd v) 0 then some v else none
  | 2 => match v with
    | .inl u => some (.inl (kNarB u))
    | _ => bif Nat.beq (vKd v) 0 then some vAny else none
  | 3 => match v with
    | .inl u => bif Nat.ble u 1 then some v else none
    | _ => none
  | 4 => bif Nat.beq (vKd v) 1 then some v else none
  | _ => none
def vAst (kd1 kd2 pc : Nat) (ls : vLs) (st : List vAV) (hp : List vOb) : vR := match st with
  | v :: .inl u :: .inr (.inr (.inr (.inl (some k)))) :: st' => match vNth hp k with
    | some o => bif (Nat.beq (o.1 % 8) kd1 || Nat.beq (o.1 % 8) kd2) && Nat.blt u 65536 then match vNth o.2 u, vNar (o.1 % 8) v with
      | some _, some w => some (pc, ls, st', hp.set k (o.1, o.2.set u w))
      | _, _ => none
      else none
    | none => none
  | _ => none
/-- an array of objects of the class o.1 / 8 -/
def vAstR (pc : Nat) (ls : vLs) (st : List vAV) (hp : List vOb) : vR := match st with
  | .inr (.inr (.inr (.inl (some j)))) :: .inl u :: .inr (.inr (.inr (.inl (some k)))) :: st' => match vNth hp k, vNth hp j with
    | some o, some o2 => bif Nat.beq (o.1 % 8) 5 && Nat.beq (o2.1 % 8) 0 && Nat.beq (o2.1 / 8) (o.1 / 8) && Nat.blt u 65536 then match vNth o.2 u with
      | some _ => some (pc, ls, st', hp.set k (o.1, o.2.set u (.inr (.inr (.inr (.inl (some j)))))))
      | none => none
      else none
    | _, _ => none
  | _ => none
def vAln (pc : Nat) (sc : List vAV) (tx : List Nat) (ls : vLs) (st : List vAV) (hp : List vOb) : vR := match st with
  | .inr (.inr (.inr (.inl (some k)))) :: st' => match vNth hp k with
    | some o => bif Nat.beq (o.1 % 8) 0 || Nat.ble 6 (o.1 % 8) then none else bif Nat.blt o.2.length 65536 then some (pc, ls, .inl o.2.length :: st', hp) else none
    | none => none
  | .inr (.inr (.inr (.inr 0))) :: st' => bif Nat.blt 0 sc.length && Nat.blt sc.length 65536 then some (pc, ls, .inl sc.length :: st', hp) else none
  | .inr (.inr (.inr (.inr 2))) :: st' => bif Nat.blt tx.length 65536 then some (pc, ls, .inl tx.length :: st', hp) else none
  | _ => none
noncomputable def vL2 (op : Nat → Nat → Nat) (pc : Nat) (ls : vLs) (st : List vAV) (hp : List vOb) : vR := match st with
  | .inr (.inr (.inl w)) :: .inr (.inr (.inl u)) :: st' => vF (op u w) (fun r => some (pc, ls, .inr (.inr (.inl r)) :: st', hp))
  | _ => none
noncomputable def vL2d (op g : Nat → Nat → Nat) (pc : Nat) (ls : vLs) (st : List vAV) (hp : List vOb) : vR := match st with
  | .inr (.inr (.inl w)) :: .inr (.inr (.inl u)) :: st' => bif Nat.blt u 9223372036854775808 && Nat.blt w 9223372036854775808 && Nat.blt 0 w then vF (op u w) (fun r => some (pc, ls, .inr (.inr (.inl r)) :: st', hp)) else bif Nat.beq w 0 then none else some (pc, ls, .inr (.inr (.inl (g u w))) :: st', hp)
  | _ => none
/-- two longs compared, both not negative or unlike in that -/
noncomputable def vLc (pc : Nat) (ls : vLs) (st : List vAV) (hp : List vOb) : vR := match st with
  | .inr (.inr (.inl w)) :: .inr (.inr (.inl u)) :: st' => vF ((u + 9223372036854775808) % 18446744073709551616) (fun x => vF ((w + 9223372036854775808) % 18446744073709551616) (fun y =>
      bif Nat.blt x y then some (pc, ls, .inl 4294967295 :: st', hp) else bif Nat.beq x y then some (pc, ls, .inl 0 :: st', hp) else some (pc, ls, .inl 1 :: st', hp)))
  | _ => none
noncomputable def vI2b (pc : Nat) (ls : vLs) (st : List vAV) (hp : List vOb) : vR := match st with
  | .inl u :: st' => some (pc, ls, .inl (kI2b u) :: st', hp)
  | v :: st' => bif Nat.beq (vKd v) 0 then some (pc, ls, vAny :: st', hp) else none
  | _ => none
noncomputable def vI2c (pc : Nat) (ls : vLs) (st : List vAV) (hp : List vOb) : vR := match st with
  | .inl u :: st' => vF (u % 65536) (fun r => some (pc, ls, .inl r :: st', hp))
  | _ => none
noncomputable def vI2l (pc : Nat) (ls : vLs) (st : List vAV) (hp : List vOb) : vR := match st with
  | .inl u :: st' => bif Nat.blt u 2147483648 then some (pc, ls, .inr (.inr (.inl u)) :: st', hp) else vF (u + 18446744069414584320) (fun r => some (pc, ls, .inr (.inr (.inl r)) :: st', hp))
  | _ => none
noncomputable def vL2i (pc : Nat) (ls : vLs) (st : List vAV) (hp : List vOb) : vR := match st with
  | .inr (.inr (.inl u)) :: st' => vF (u % 4294967296) (fun r => some (pc, ls, .inl r :: st', hp))
  | _ => none
def vDup (pc : Nat) (ls : vLs) (st : List vAV) (hp : List vOb) : vR := match st with
  | v :: st' => bif Nat.beq (vKd v) 1 then none else some (pc, ls, v :: v :: st', hp)
  | _ => none
def vDup2 (pc : Nat) (ls : vLs) (st : List vAV) (hp : List vOb) : vR := match st with
  | v :: w :: st' => bif Nat.beq (vKd v) 1 || Nat.beq (vKd w) 1 then none else some (pc, ls, v :: w :: v :: w :: st', hp)
  | _ => none
def vPop (pc : Nat) (ls : vLs) (st : List vAV) (hp : List vOb) : vR := match st with
  | v :: st' => bif Nat.beq (vKd v) 1 then none else some (pc, ls, st', hp)
  | _ => none
def vLsh (pc : Nat) (ls : vLs) (st : List vAV) (hp : List vOb) : vR := match st with
  | .inl w :: .inr (.inr (.inl u)) :: st' => some (pc, ls, .inr (.inr (.inl (kLshl u w))) :: st', hp)
  | _ => none
/-- where a lookupswitch goes with a known number -/
def vLoo (pc : Nat) (dflt : Int) (ps : Array (Int × Int)) (ls : vLs) (st : List vAV) (hp : List vOb) : vR := match st with
  | .inl u :: st' => bif (ps.toList.zip (ps.toList.drop 1)).all (fun (a, next) => a.1 < next.1) then
      (if 0 ≤ (pc : Int) + Op.lookupswitch.offset ps.toList dflt (nI u).toInt then some (((pc : Int) + Op.lookupswitch.offset ps.toList dflt (nI u).toInt).toNat, ls, st', hp) else none) else none
  | _ => none
noncomputable def vStep (sc : List vAV) (tx : List Nat) (i : Instr) (len a b t pc : Nat) (ls : vLs) (st : List vAV) (hp : List vOb) : vR := match i with
  | .iconst _ => some (pc + len, ls, .inl a :: st, hp)
  | .bipush _ => some (pc + len, ls, .inl a :: st, hp)
  | .sipush _ => some (pc + len, ls, .inl a :: st, hp)
  | .ldc _ => bif Nat.beq t 1 then some (pc + len, ls, .inr (.inr (.inr (.inr 1))) :: st, hp) else some (pc + len, ls, .inl a :: st, hp)
  | .ldc_w _ => some (pc + len, ls, .inl a :: st, hp)
  | .lconst _ => some (pc + len, ls, .inr (.inr (.inl a)) :: st, hp)
  | .ldc2_w _ => some (pc + len, ls, .inr (.inr (.inl a)) :: st, hp)
  | .iload_n _ => vLd 0 a (pc + len) ls st hp
  | .iload _ => vLd 0 a (pc + len) ls st hp
  | .lload_n _ => vLd 1 a (pc + len) ls st hp
  | .lload _ => vLd 1 a (pc + len) ls st hp
  | .aload_n _ => vLd 3 a (pc + len) ls st hp
  | .aload _ => vLd 3 a (pc + len) ls st hp
  | .istore_n _ => vSt1 0 a (pc + len) ls st hp
  | .istore _ => vSt1 0 a (pc + len) ls st hp
  | .astore_n _ => vSt1 3 a (pc + len) ls st hp
  | .astore _ => vSt1 3 a (pc + len) ls st hp
  | .lstore_n _ => vSt2 a (pc + len) ls st hp
  | .lstore _ => vSt2 a (pc + len) ls st hp
  | .iinc _ _ => vInc a b (pc + len) ls st hp
  | .iadd => v2 vAdd (pc + len) ls st hp
  | .isub => v2 vSub (pc + len) ls st hp
  | .imul => v2 vMul (pc + len) ls st hp
  | .iand => v2 Nat.land (pc + len) ls st hp
  | .ior => v2 Nat.lor (pc + len) ls st hp
  | .ixor => v2 Nat.xor (pc + len) ls st hp
  | .ishl => v2 vShl (pc + len) ls st hp
  | .iushr => v2 vUsh (pc + len) ls st hp
  | .ishr => vShrD (pc + len) ls st hp
  | .idiv => v2d Nat.div kDiv (pc + len) ls st hp
  | .irem => v2d Nat.mod kRem (pc + len) ls st hp
  | .ifCond .eq _ => vIf vEq (pc + len) a ls st hp
  | .ifCond .ne _ => vIf (fun x y => vNot (vEq x y)) (pc + len) a ls st hp
  | .ifCond .lt _ => vIf vLt (pc + len) a ls st hp
  | .ifCond .ge _ => vIf (fun x y => vNot (vLt x y)) (pc + len) a ls st hp
  | .ifCond .gt _ => vIf (fun x y => vLt y x) (pc + len) a ls st hp
  | .ifCond .le _ => vIf (fun x y => vNot (vLt y x)) (pc + len) a ls st hp
  | .if_icmp .eq _ => vIc vEq (pc + len) a ls st hp
  | .if_icmp .ne _ => vIc (fun x y => vNot (vEq x y)) (pc + len) a ls st hp
  | .if_icmp .lt _ => vIc vLt (pc + len) a ls st hp
  | .if_icmp .ge _ => vIc (fun x y => vNot (vLt x y)) (pc + len) a ls st hp
  | .if_icmp .gt _ => vIc (fun x y => vLt y x) (pc + len) a ls st hp
  | .if_icmp .le _ => vIc (fun x y => vNot (vLt y x)) (pc + len) a ls st hp
  | .goto _ => some (a, ls, st, hp)
  | .tableswitch dflt lo hi offs => vTab pc dflt lo hi offs ls st hp
  | .getfield _ => vGf a b t (pc + len) ls st hp
  | .putfield _ => vPf a b t (pc + len) ls st hp
  | .getstatic _ => bif Nat.beq t 9 then some (pc + len, ls, .inl 1 :: st, hp) else bif Nat.beq t 10 then some (pc + len, ls, .inr (.inr (.inr (.inr 3))) :: st, hp) else none
  | .iaload => vAld 1 1 (pc + len) sc tx ls st hp
  | .baload => vAld 2 3 (pc + len) sc tx ls st hp
  | .laload => vAld 4 4 (pc + len) sc tx ls st hp
  | .aaload => vAld 5 5 (pc + len) sc tx ls st hp
  | .iastore => vAst 1 1 (pc + len) ls st hp
  | .bastore => vAst 2 3 (pc + len) ls st hp
  | .lastore => vAst 4 4 (pc + len) ls st hp
  | .aastore => vAstR (pc + len) ls st hp
  | .arraylength => vAln (pc + len) sc tx ls st hp
  | .ladd => vL2 (fun u w => (u + w) % 18446744073709551616) (pc + len) ls st hp
  | .lmul => vL2 (fun u w => (u * w) % 18446744073709551616) (pc + len) ls st hp
  | .ldiv => vL2d Nat.div kLdiv (pc + len) ls st hp
  | .lrem => vL2d Nat.mod kLrem (pc + len) ls st hp
  | .lcmp => vLc (pc + len) ls st hp
  | .lshl => vLsh (pc + len) ls st hp
  | .lor => vL2 kLor (pc + len) ls st hp
  | .lookupswitch dflt ps => vLoo pc dflt ps ls st hp
  | .i2b => vI2b (pc + len) ls st hp
  | .i2c => vI2c (pc + len) ls st hp
  | .i2l => vI2l (pc + len) ls st hp
  | .l2i => vL2i (pc + len) ls st hp
  | .dup => vDup (pc + len) ls st hp
  | .dup2 => vDup2 (pc + len) ls st hp
  | .pop => vPop (pc + len) ls st hp
  | _ => none
