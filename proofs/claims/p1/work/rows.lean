section
/-! ===== a small machine of my own: values are known ints, ints between two bounds, known longs, places of a list of objects ===== -/
/-- inl u: the int nI u; inr inl (lo, hi): an int x, lo ≤ x + 2^31 ≤ hi; then the long lN u; null or the object at a place; 0 the script, 1 the text, 2 its bytes -/
abbrev vAV : Type := Nat ⊕ (Nat × Nat) ⊕ Nat ⊕ Option Nat ⊕ Nat
abbrev vOb : Type := Nat × List vAV
abbrev vLs : Type := List (Option vAV)
noncomputable def vF {α : Type} (n : Nat) (k : Nat → α) : α := Nat.rec (motive := fun _ => α) (k 0) (fun m _ => k (Nat.succ m)) n
theorem vF_eq {α : Type} (n : Nat) (k : Nat → α) : vF n k = k n := by cases n <;> rfl
def vAny : vAV := .inr (.inl (0, 4294967295))
def vG (b sa sv : Nat) (ad : List Nat) : vAV → Value → Prop
  | .inl u, v => u < 4294967296 ∧ v = .int (nI u)
  | .inr (.inl q), v => ∃ x : Int32, v = .int x ∧ (q.1 : Int) ≤ x.toInt + 2147483648 ∧ x.toInt + 2147483648 ≤ (q.2 : Int)
  | .inr (.inr (.inl u)), v => u < 18446744073709551616 ∧ v = .long (lN u)
  | .inr (.inr (.inr (.inl none))), v => v = .null
  | .inr (.inr (.inr (.inl (some k)))), v => ∃ a, ad[k]? = some a ∧ v = .ref a
  | .inr (.inr (.inr (.inr z))), v => (z = 0 ∧ v = .ref b) ∨ (z = 1 ∧ v = .ref sa) ∨ (z = 2 ∧ v = .ref sv)
/-- its kind: 0 an int, 1 a long, 2 null, 3 a reference -/
def vKd : vAV → Nat
  | .inl _ => 0
  | .inr (.inl _) => 0
  | .inr (.inr (.inl _)) => 1
  | .inr (.inr (.inr (.inl none))) => 2
  | .inr (.inr (.inr (.inl (some _)))) => 3
  | .inr (.inr (.inr (.inr _))) => 3
noncomputable def vIv : vAV → Option (Nat × Nat)
  | .inl u => vF ((u + 2147483648) % 4294967296) (fun r => some (r, r))
  | .inr (.inl q) => some q
  | _ => none
def vLt (x y : Nat × Nat) : Option Bool := bif Nat.blt x.2 y.1 then some true else bif Nat.ble y.2 x.1 then some false else none
def vEq (x y : Nat × Nat) : Option Bool := bif Nat.blt x.2 y.1 then some false else bif Nat.blt y.2 x.1 then some false else bif Nat.beq x.1 x.2 && Nat.beq y.1 y.2 && Nat.beq x.1 y.1 then some true else none
noncomputable def vB (op : Nat → Nat → Nat) (x y : vAV) : Option vAV := match x, y with
  | .inl u, .inl w => vF (op u w) (fun r => some (.inl r))
  | .inl _, .inr (.inl _) => some vAny
  | .inr (.inl _), .inl _ => some vAny
  | .inr (.inl _), .inr (.inl _) => some vAny
  | _, _ => none
def vAdd (u w : Nat) : Nat := (u + w) % 4294967296
def vSub (u w : Nat) : Nat := (u + (4294967296 - w)) % 4294967296
def vMul (u w : Nat) : Nat := (u * w) % 4294967296
def vShl (u w : Nat) : Nat := (u * 2 ^ (w % 32)) % 4294967296
def vUsh (u w : Nat) : Nat := u / 2 ^ (w % 32)
def vShr (u w : Nat) : Nat := bif Nat.blt u 2147483648 then u / 2 ^ (w % 32) else 4294967295 - (4294967295 - u) / 2 ^ (w % 32)
/-- the locals behind a store of one slot -/
def vSet1 (ls : vLs) (a : Nat) (v : vAV) : vLs := match a with
  | 0 => ls.set 0 (some v)
  | a' + 1 => match ls.getD a' none with
    | some (.inr (.inr (.inl _))) => (ls.set a' none).set (a' + 1) (some v)
    | _ => ls.set (a' + 1) (some v)
def vSet2 (ls : vLs) (a : Nat) (v : vAV) : vLs := (vSet1 ls a v).set (a + 1) none
end
section
/-! ===== its steps: an instruction with its length and up to three numbers that a table has looked up ===== -/
def vNth {α : Type} : List α → Nat → Option α
  | [], _ => none
  | x :: _, 0 => some x
  | _ :: l, n + 1 => vNth l n
theorem vNth_eq {α : Type} : ∀ (l : List α) (n : Nat), vNth l n = l[n]?
  | [], _ => by simp [vNth]
  | x :: l, 0 => by simp [vNth]
  | x :: l, n + 1 => by simp [vNth, vNth_eq l n]
abbrev vR : Type := Option (Nat × vLs × List vAV × List vOb)
abbrev vIn : Type := Instr × Nat × Nat × Nat × Nat
def vLd (kd a pc : Nat) (ls : vLs) (st : List vAV) (hp : List vOb) : vR := match vNth ls a with
  | some (some v) => bif Nat.beq (vKd v) kd then some (pc, ls, v :: st, hp) else none
  | _ => none
def vSt1 (kd a pc : Nat) (ls : vLs) (st : List vAV) (hp : List vOb) : vR := match st with
  | v :: st' => bif Nat.beq (vKd v) kd && Nat.blt a ls.length then some (pc, vSet1 ls a v, st', hp) else none
  | _ => none
def vSt2 (a pc : Nat) (ls : vLs) (st : List vAV) (hp : List vOb) : vR := match st with
  | v :: st' => bif Nat.beq (vKd v) 1 && Nat.blt (a + 1) ls.length then some (pc, vSet2 ls a v, st', hp) else none
  | _ => none
noncomputable def vInc (a b pc : Nat) (ls : vLs) (st : List vAV) (hp : List vOb) : vR := match vNth ls a with
  | some (some v) => match vB vAdd v (.inl b) with
    | some r => some (pc, vSet1 ls a r, st, hp)
    | none => none
  | _ => none
noncomputable def v2 (op : Nat → Nat → Nat) (pc : Nat) (ls : vLs) (st : List vAV) (hp : List vOb) : vR := match st with
  | y :: x :: st' => match vB op x y with
    | some r => some (pc, ls, r :: st', hp)
    | none => none
  | _ => none
/-- a division of two numbers that aren't negative -/
noncomputable def v2d (op : Nat → Nat → Nat) (pc : Nat) (ls : vLs) (st : List vAV) (hp : List vOb) : vR := match st with
  | .inl w :: .inl u :: st' => bif Nat.blt u 2147483648 && Nat.blt w 2147483648 && Nat.blt 0 w then vF (op u w) (fun r => some (pc, ls, .inl r :: st', hp)) else none
  | _ => none
def vBr (o : Option Bool) (pc a : Nat) (ls : vLs) (st : List vAV) (hp : List vOb) : vR := match o with
  | some true => some (a, ls, st, hp)
  | some false => some (pc, ls, st, hp)
  | none => none
noncomputable def vIf (f : Nat × Nat → Nat × Nat → Option Bool) (pc a : Nat) (ls : vLs) (st : List vAV) (hp : List vOb) : vR := match st with
  | x :: st' => match vIv x with
    | some q => vBr (f q (2147483648, 2147483648)) pc a ls st' hp
    | none => none
  | _ => none
noncomputable def vIc (f : Nat × Nat → Nat × Nat → Option Bool) (pc a : Nat) (ls : vLs) (st : List vAV) (hp : List vOb) : vR := match st with
  | y :: x :: st' => match vIv x, vIv y with
    | some q, some r => vBr (f q r) pc a ls st' hp
    | _, _ => none
  | _ => none
def vNot (o : Option Bool) : Option Bool := match o with
  | some true => some false
  | some false => some true
  | none => none
noncomputable def vTab (pc : Nat) (dflt lo hi : Int) (offs : Array Int) (ls : vLs) (st : List vAV) (hp : List vOb) : vR := match st with
  | x :: st' => match vIv x with
    | some q => if (q.2 : Int) - 2147483648 < lo ∨ hi < (q.1 : Int) - 2147483648 then (if 0 ≤ (pc : Int) + dflt then some (((pc : Int) + dflt).toNat, ls, st', hp) else none)
      else if q.1 = q.2 ∧ lo ≤ (q.1 : Int) - 2147483648 ∧ (q.1 : Int) - 2147483648 ≤ hi then match offs[((q.1 : Int) - 2147483648 - lo).toNat]? with
        | some off => if 0 ≤ (pc : Int) + off then some (((pc : Int) + off).toNat, ls, st', hp) else none
        | none => none
      else none
    | none => none
  | _ => none
def vGf (a b t pc : Nat) (ls : vLs) (st : List vAV) (hp : List vOb) : vR := match st with
  | .inr (.inr (.inr (.inl (some k)))) :: st' => match vNth hp k with
    | some o => bif Nat.beq o.1 (8 * a) && Nat.blt t 7 then match vNth o.2 b with
      | some v => some (pc, ls, v :: st', hp)
      | none => none
      else none
    | none => none
  | .inr (.inr (.inr (.inr 1))) :: st' => bif Nat.beq t 7 then some (pc, ls, .inl 0 :: st', hp) else bif Nat.beq t 8 then some (pc, ls, .inr (.inr (.inr (.inr 2))) :: st', hp) else none
  | _ => none
/-- does a value fit a field: 0 int, 1 boolean, 2 long, 3 a reference -/
def vFit (t : Nat) (v : vAV) : Bool := match t with
  | 0 => Nat.beq (vKd v) 0
  | 1 => match v with
    | .inl u => Nat.ble u 1
    | _ => false
  | 2 => Nat.beq (vKd v) 1
  | 3 => Nat.ble 2 (vKd v)
  | _ => false
def vPf (a b t pc : Nat) (ls : vLs) (st : List vAV) (hp : List vOb) : vR := match st with
  | v :: .inr (.inr (.inr (.inl (some k)))) :: st' => match vNth hp k with
    | some o => bif Nat.beq o.1 (8 * a) && vFit t v then match vNth o.2 b with
      | some _ => some (pc, ls, st', hp.set k (o.1, o.2.set b v))
      | none => none
      else none
    | none => none
  | _ => none
/-- an array's load: kinds 1 int, 2 byte, 3 boolean, 4 long, 5 reference -/
def vAld (kd1 kd2 pc : Nat) (sc : List vAV) (tx : List Nat) (ls : vLs) (st : List vAV) (hp : List vOb) : vR := match st with
  | .inl u :: .inr (.inr (.inr (.inl (some k)))) :: st' => match vNth hp k with
    | some o => bif (Nat.beq (o.1 % 8) kd1 || Nat.beq (o.1 % 8) kd2) && Nat.blt u 65536 then match vNth o.2 u with
      | some v => some (pc, ls, v :: st', hp)
      | none => none
      else none
    | none => none
  | .inl u :: .inr (.inr (.inr (.inr 0))) :: st' => bif Nat.beq kd1 1 && Nat.blt u 65536 then match vNth sc u with
      | some v => some (pc, ls, v :: st', hp)
      | none => none
      else none
  | .inl u :: .inr (.inr (.inr (.inr 2))) :: st' => bif Nat.beq kd1 2 && Nat.blt u 65536 then match vNth tx u with
      | some v => some (pc, ls, .inl v :: st', hp)
      | none => none
      else none
  | _ => none
/-- what an array of a kind holds once a value was put in -/
def vNar (kd : Nat) (v : vAV) : Option vAV := match kd with
  | 1 => bif Nat.beq (vKd v) 0 then some v else none
  | 2 => bif Nat.beq (vKd v) 0 then some vAny else none
  | 3 => match v with
    | .inl u => bif Nat.ble u 1 then some v else none
    | _ => none
  | 4 => bif Nat.beq (vKd v) 1 then some v else none
  | _ => none
def vAst (kd1 kd2 pc : Nat) (ls : vLs) (st : List vAV) (hp : List vOb) : vR := match st with
  | v :: .inl u :: .inr (.inr (.inr (.inl (some k)))) :: st' => match vNth hp k with
    | some o => bif (Nat.beq (o.1 % 8) kd1 || Nat.beq (o.1 % 8) kd2) && Nat.blt u 65536 then match vNth o.2 u, vNar (o.1 % 8) v with
      | some _, some w => some (pc, ls, st', hp.set k (o.1, o.2.set u w))
      | _, _ => none
      else none
    | none => none
  | _ => none
/-- an array of objects of the class o.1 / 8 -/
def vAstR (pc : Nat) (ls : vLs) (st : List vAV) (hp : List vOb) : vR := match st with
  | .inr (.inr (.inr (.inl (some j)))) :: .inl u :: .inr (.inr (.inr (.inl (some k)))) :: st' => match vNth hp k, vNth hp j with
    | some o, some o2 => bif Nat.beq (o.1 % 8) 5 && Nat.beq (o2.1 % 8) 0 && Nat.beq (o2.1 / 8) (o.1 / 8) && Nat.blt u 65536 then match vNth o.2 u with
      | some _ => some (pc, ls, st', hp.set k (o.1, o.2.set u (.inr (.inr (.inr (.inl (some j)))))))
      | none => none
      else none
    | _, _ => none
  | _ => none
def vAln (pc : Nat) (sc : List vAV) (tx : List Nat) (ls : vLs) (st : List vAV) (hp : List vOb) : vR := match st with
  | .inr (.inr (.inr (.inl (some k)))) :: st' => match vNth hp k with
    | some o => bif Nat.beq (o.1 % 8) 0 || Nat.ble 6 (o.1 % 8) then none else bif Nat.blt o.2.length 65536 then some (pc, ls, .inl o.2.length :: st', hp) else none
    | none => none
  | .inr (.inr (.inr (.inr 0))) :: st' => bif Nat.blt 0 sc.length && Nat.blt sc.length 65536 then some (pc, ls, .inl sc.length :: st', hp) else none
  | .inr (.inr (.inr (.inr 2))) :: st' => bif Nat.blt tx.length 65536 then some (pc, ls, .inl tx.length :: st', hp) else none
  | _ => none
noncomputable def vL2 (op : Nat → Nat → Nat) (pc : Nat) (ls : vLs) (st : List vAV) (hp : List vOb) : vR := match st with
  | .inr (.inr (.inl w)) :: .inr (.inr (.inl u)) :: st' => vF (op u w) (fun r => some (pc, ls, .inr (.inr (.inl r)) :: st', hp))
  | _ => none
noncomputable def vL2d (op : Nat → Nat → Nat) (pc : Nat) (ls : vLs) (st : List vAV) (hp : List vOb) : vR := match st with
  | .inr (.inr (.inl w)) :: .inr (.inr (.inl u)) :: st' => bif Nat.blt u 9223372036854775808 && Nat.blt w 9223372036854775808 && Nat.blt 0 w then vF (op u w) (fun r => some (pc, ls, .inr (.inr (.inl r)) :: st', hp)) else none
  | _ => none
/-- two longs compared, both not negative or unlike in that -/
noncomputable def vLc (pc : Nat) (ls : vLs) (st : List vAV) (hp : List vOb) : vR := match st with
  | .inr (.inr (.inl w)) :: .inr (.inr (.inl u)) :: st' => vF ((u + 9223372036854775808) % 18446744073709551616) (fun x => vF ((w + 9223372036854775808) % 18446744073709551616) (fun y =>
      bif Nat.blt x y then some (pc, ls, .inl 4294967295 :: st', hp) else bif Nat.beq x y then some (pc, ls, .inl 0 :: st', hp) else some (pc, ls, .inl 1 :: st', hp)))
  | _ => none
noncomputable def vI2b (pc : Nat) (ls : vLs) (st : List vAV) (hp : List vOb) : vR := match st with
  | v :: st' => bif Nat.beq (vKd v) 0 then some (pc, ls, vAny :: st', hp) else none
  | _ => none
noncomputable def vI2c (pc : Nat) (ls : vLs) (st : List vAV) (hp : List vOb) : vR := match st with
  | .inl u :: st' => vF (u % 65536) (fun r => some (pc, ls, .inl r :: st', hp))
  | _ => none
noncomputable def vI2l (pc : Nat) (ls : vLs) (st : List vAV) (hp : List vOb) : vR := match st with
  | .inl u :: st' => bif Nat.blt u 2147483648 then some (pc, ls, .inr (.inr (.inl u)) :: st', hp) else vF (u + 18446744069414584320) (fun r => some (pc, ls, .inr (.inr (.inl r)) :: st', hp))
  | _ => none
noncomputable def vL2i (pc : Nat) (ls : vLs) (st : List vAV) (hp : List vOb) : vR := match st with
  | .inr (.inr (.inl u)) :: st' => vF (u % 4294967296) (fun r => some (pc, ls, .inl r :: st', hp))
  | _ => none
def vDup (pc : Nat) (ls : vLs) (st : List vAV) (hp : List vOb) : vR := match st with
  | v :: st' => bif Nat.beq (vKd v) 1 then none else some (pc, ls, v :: v :: st', hp)
  | _ => none
def vDup2 (pc : Nat) (ls : vLs) (st : List vAV) (hp : List vOb) : vR := match st with
  | v :: w :: st' => bif Nat.beq (vKd v) 1 || Nat.beq (vKd w) 1 then none else some (pc, ls, v :: w :: v :: w :: st', hp)
  | _ => none
def vPop (pc : Nat) (ls : vLs) (st : List vAV) (hp : List vOb) : vR := match st with
  | v :: st' => bif Nat.beq (vKd v) 1 then none else some (pc, ls, st', hp)
  | _ => none
noncomputable def vStep (sc : List vAV) (tx : List Nat) (i : Instr) (len a b t pc : Nat) (ls : vLs) (st : List vAV) (hp : List vOb) : vR := match i with
  | .iconst _ => some (pc + len, ls, .inl a :: st, hp)
  | .bipush _ => some (pc + len, ls, .inl a :: st, hp)
  | .sipush _ => some (pc + len, ls, .inl a :: st, hp)
  | .ldc _ => bif Nat.beq t 1 then some (pc + len, ls, .inr (.inr (.inr (.inr 1))) :: st, hp) else some (pc + len, ls, .inl a :: st, hp)
  | .ldc_w _ => some (pc + len, ls, .inl a :: st, hp)
  | .lconst _ => some (pc + len, ls, .inr (.inr (.inl a)) :: st, hp)
  | .ldc2_w _ => some (pc + len, ls, .inr (.inr (.inl a)) :: st, hp)
  | .iload_n _ => vLd 0 a (pc + len) ls st hp
  | .iload _ => vLd 0 a (pc + len) ls st hp
  | .lload_n _ => vLd 1 a (pc + len) ls st hp
  | .lload _ => vLd 1 a (pc + len) ls st hp
  | .aload_n _ => vLd 3 a (pc + len) ls st hp
  | .aload _ => vLd 3 a (pc + len) ls st hp
  | .istore_n _ => vSt1 0 a (pc + len) ls st hp
  | .istore _ => vSt1 0 a (pc + len) ls st hp
  | .astore_n _ => vSt1 3 a (pc + len) ls st hp
  | .astore _ => vSt1 3 a (pc + len) ls st hp
  | .lstore_n _ => vSt2 a (pc + len) ls st hp
  | .lstore _ => vSt2 a (pc + len) ls st hp
  | .iinc _ _ => vInc a b (pc + len) ls st hp
  | .iadd => v2 vAdd (pc + len) ls st hp
  | .isub => v2 vSub (pc + len) ls st hp
  | .imul => v2 vMul (pc + len) ls st hp
  | .iand => v2 Nat.land (pc + len) ls st hp
  | .ior => v2 Nat.lor (pc + len) ls st hp
  | .ixor => v2 Nat.xor (pc + len) ls st hp
  | .ishl => v2 vShl (pc + len) ls st hp
  | .iushr => v2 vUsh (pc + len) ls st hp
  | .idiv => v2d Nat.div (pc + len) ls st hp
  | .irem => v2d Nat.mod (pc + len) ls st hp
  | .ifCond .eq _ => vIf vEq (pc + len) a ls st hp
  | .ifCond .ne _ => vIf (fun x y => vNot (vEq x y)) (pc + len) a ls st hp
  | .ifCond .lt _ => vIf vLt (pc + len) a ls st hp
  | .ifCond .ge _ => vIf (fun x y => vNot (vLt x y)) (pc + len) a ls st hp
  | .ifCond .gt _ => vIf (fun x y => vLt y x) (pc + len) a ls st hp
  | .ifCond .le _ => vIf (fun x y => vNot (vLt y x)) (pc + len) a ls st hp
  | .if_icmp .eq _ => vIc vEq (pc + len) a ls st hp
  | .if_icmp .ne _ => vIc (fun x y => vNot (vEq x y)) (pc + len) a ls st hp
  | .if_icmp .lt _ => vIc vLt (pc + len) a ls st hp
  | .if_icmp .ge _ => vIc (fun x y => vNot (vLt x y)) (pc + len) a ls st hp
  | .if_icmp .gt _ => vIc (fun x y => vLt y x) (pc + len) a ls st hp
  | .if_icmp .le _ => vIc (fun x y => vNot (vLt y x)) (pc + len) a ls st hp
  | .goto _ => some (a, ls, st, hp)
  | .tableswitch dflt lo hi offs => vTab pc dflt lo hi offs ls st hp
  | .getfield _ => vGf a b t (pc + len) ls st hp
  | .putfield _ => vPf a b t (pc + len) ls st hp
  | .getstatic _ => bif Nat.beq t 9 then some (pc + len, ls, .inl 1 :: st, hp) else none
  | .iaload => vAld 1 1 (pc + len) sc tx ls st hp
  | .baload => vAld 2 3 (pc + len) sc tx ls st hp
  | .laload => vAld 4 4 (pc + len) sc tx ls st hp
  | .aaload => vAld 5 5 (pc + len) sc tx ls st hp
  | .iastore => vAst 1 1 (pc + len) ls st hp
  | .bastore => vAst 2 3 (pc + len) ls st hp
  | .lastore => vAst 4 4 (pc + len) ls st hp
  | .aastore => vAstR (pc + len) ls st hp
  | .arraylength => vAln (pc + len) sc tx ls st hp
  | .ladd => vL2 (fun u w => (u + w) % 18446744073709551616) (pc + len) ls st hp
  | .lmul => vL2 (fun u w => (u * w) % 18446744073709551616) (pc + len) ls st hp
  | .ldiv => vL2d Nat.div (pc + len) ls st hp
  | .lrem => vL2d Nat.mod (pc + len) ls st hp
  | .lcmp => vLc (pc + len) ls st hp
  | .i2b => vI2b (pc + len) ls st hp
  | .i2c => vI2c (pc + len) ls st hp
  | .i2l => vI2l (pc + len) ls st hp
  | .l2i => vL2i (pc + len) ls st hp
  | .dup => vDup (pc + len) ls st hp
  | .dup2 => vDup2 (pc + len) ls st hp
  | .pop => vPop (pc + len) ls st hp
  | _ => none
end
section
/-! ===== what the machine's numbers say of the JVM's ===== -/
theorem vn_ext {x : Int32} {n : Nat} (h : x.toBitVec.toNat = n) : x = nI n := by
  have hl : x.toBitVec.toNat < 2 ^ 32 := x.toBitVec.isLt
  apply Int32.toBitVec_inj.mp
  apply BitVec.eq_of_toNat_eq
  rw [pk_tn (by omega), h]
theorem vn_tn (n : Nat) : (nI n).toBitVec.toNat = n % 4294967296 := by
  show (BitVec.ofNat 32 n).toNat = _
  rw [BitVec.toNat_ofNat]
theorem vn_mod (n : Nat) : nI (n % 4294967296) = nI n := (vn_ext (vn_tn n)).symm
theorem vn_add {u w : Nat} : nI u + nI w = nI (vAdd u w) := by rw [nI_add, vAdd, vn_mod]
theorem vn_mul {u w : Nat} : nI u * nI w = nI (vMul u w) := by rw [pk_mul, vMul, vn_mod]
theorem vn_sub {u w : Nat} (hu : u < 4294967296) (hw : w < 4294967296) : nI u - nI w = nI (vSub u w) := by
  apply vn_ext
  rw [Int32.toBitVec_sub, BitVec.toNat_sub, pk_tn (by omega), pk_tn (by omega), vSub]
  omega
theorem vn_and {u w : Nat} (hu : u < 4294967296) (hw : w < 4294967296) : nI u &&& nI w = nI (Nat.land u w) := by
  apply vn_ext
  rw [Int32.toBitVec_and, BitVec.toNat_and, pk_tn (by omega), pk_tn (by omega)]
  rfl
theorem vn_or {u w : Nat} (hu : u < 4294967296) (hw : w < 4294967296) : nI u ||| nI w = nI (Nat.lor u w) := by
  apply vn_ext
  rw [Int32.toBitVec_or, BitVec.toNat_or, pk_tn (by omega), pk_tn (by omega)]
  rfl
theorem vn_xor {u w : Nat} (hu : u < 4294967296) (hw : w < 4294967296) : nI u ^^^ nI w = nI (Nat.xor u w) := by
  apply vn_ext
  rw [Int32.toBitVec_xor, BitVec.toNat_xor, pk_tn (by omega), pk_tn (by omega)]
  rfl
theorem vn_31 {w : Nat} (hw : w < 4294967296) : nI w &&& 31 = nI (w % 32) := pk_andN (by omega) 5 (by decide)
theorem vn_s1 : ∀ n, n < 32 → ((nI n).toBitVec.smod 32).toNat = n := by decide +kernel
theorem vn_s2 : ∀ n, n < 32 → ((nI n).toUInt32.toBitVec % 32).toNat = n := by decide +kernel
theorem vn_shl {u w : Nat} (hu : u < 4294967296) (hw : w < 4294967296) : nI u <<< (nI w &&& 31) = nI (vShl u w) := by
  apply vn_ext
  rw [pk_shl (nI u) (nI w &&& 31) (w % 32) (by rw [vn_31 hw]; exact vn_s1 _ (Nat.mod_lt _ (by decide))), pk_tn (by omega)]
  rfl
theorem vn_ush {u w : Nat} (hu : u < 4294967296) (hw : w < 4294967296) : ((nI u).toUInt32 >>> ((nI w).toUInt32 &&& Int32.toUInt32 31)).toInt32 = nI (vUsh u w) := by
  apply vn_ext
  rw [pk_ushr (nI u) (nI w) (w % 32) ?_, pk_tn (by omega)]
  · rfl
  · have e : (nI w).toUInt32 &&& Int32.toUInt32 31 = (nI w &&& 31).toUInt32 := rfl
    rw [e, vn_31 hw]
    exact vn_s2 _ (Nat.mod_lt _ (by decide))
theorem vn_toInt {u : Nat} (hu : u < 4294967296) : (nI u).toInt = if 2 * u < 4294967296 then (u : Int) else (u : Int) - 4294967296 := by
  show (nI u).toBitVec.toInt = _
  rw [BitVec.toInt_eq_toNat_cond, pk_tn (by omega)]
  rfl
theorem vn_bias {u : Nat} (hu : u < 4294967296) : (nI u).toInt + 2147483648 = (((u + 2147483648) % 4294967296 : Nat) : Int) := by
  rw [vn_toInt hu]
  split <;> omega
theorem vIv_ok {b sa sv : Nat} {ad : List Nat} {c : vAV} {v : Value} {q : Nat × Nat} (h : vG b sa sv ad c v) (hq : vIv c = some q) : ∃ x : Int32, v = .int x ∧ (q.1 : Int) ≤ x.toInt + 2147483648 ∧ x.toInt + 2147483648 ≤ (q.2 : Int) := by
  rcases c with u | q' | u | r | z
  · obtain ⟨hu, rfl⟩ := h
    have hq : vF ((u + 2147483648) % 4294967296) (fun r => some (r, r)) = some q := hq
    rw [vF_eq] at hq
    have hq := Option.some.inj hq
    subst hq
    exact ⟨nI u, rfl, by rw [vn_bias hu]; exact Int.le_refl _, by rw [vn_bias hu]; exact Int.le_refl _⟩
  · have hq : some q' = some q := hq
    have hq := Option.some.inj hq
    subst hq
    exact h
  · have hq : (none : Option (Nat × Nat)) = some q := hq
    cases hq
  · have hq : (none : Option (Nat × Nat)) = some q := hq
    cases hq
  · have hq : (none : Option (Nat × Nat)) = some q := hq
    cases hq
theorem vKd0 {b sa sv : Nat} {ad : List Nat} {c : vAV} {v : Value} (h : vG b sa sv ad c v) (hk : Nat.beq (vKd c) 0 = true) : ∃ x : Int32, v = .int x := by
  match c, h, hk with
  | .inl u, h, _ => exact ⟨_, h.2⟩
  | .inr (.inl q'), h, _ => exact ⟨_, h.choose_spec.1⟩
  | .inr (.inr (.inl _)), _, hk => cases hk
  | .inr (.inr (.inr (.inl none))), _, hk => cases hk
  | .inr (.inr (.inr (.inl (some _)))), _, hk => cases hk
  | .inr (.inr (.inr (.inr _))), _, hk => cases hk
theorem vKd1 {b sa sv : Nat} {ad : List Nat} {c : vAV} {v : Value} (h : vG b sa sv ad c v) (hk : Nat.beq (vKd c) 1 = true) : ∃ x : Int64, v = .long x := by
  match c, h, hk with
  | .inl u, _, hk => cases hk
  | .inr (.inl q'), _, hk => cases hk
  | .inr (.inr (.inl _)), h, _ => exact ⟨_, h.2⟩
  | .inr (.inr (.inr (.inl none))), _, hk => cases hk
  | .inr (.inr (.inr (.inl (some _)))), _, hk => cases hk
  | .inr (.inr (.inr (.inr _))), _, hk => cases hk
theorem vKd3 {b sa sv : Nat} {ad : List Nat} {c : vAV} {v : Value} (h : vG b sa sv ad c v) (hk : Nat.beq (vKd c) 3 = true) : ∃ x : Nat, v = .ref x := by
  match c, h, hk with
  | .inl u, _, hk => cases hk
  | .inr (.inl q'), _, hk => cases hk
  | .inr (.inr (.inl _)), _, hk => cases hk
  | .inr (.inr (.inr (.inl none))), _, hk => cases hk
  | .inr (.inr (.inr (.inl (some _)))), h, _ =>
    obtain ⟨a, -, h⟩ := h
    exact ⟨a, h⟩
  | .inr (.inr (.inr (.inr _))), h, _ =>
    rcases h with ⟨-, h⟩ | ⟨-, h⟩ | ⟨-, h⟩
    · exact ⟨_, h⟩
    · exact ⟨_, h⟩
    · exact ⟨_, h⟩
/-- not a long: one slot -/
theorem vKd_cat {b sa sv : Nat} {ad : List Nat} {c : vAV} {v : Value} (h : vG b sa sv ad c v) (hk : Nat.beq (vKd c) 1 = false) : v.category = 1 := by
  match c, h, hk with
  | .inl u, h, _ => rw [h.2]; rfl
  | .inr (.inl q'), h, _ =>
    obtain ⟨x, rfl, -⟩ := h
    rfl
  | .inr (.inr (.inl _)), _, hk => cases hk
  | .inr (.inr (.inr (.inl none))), h, _ =>
    have h : v = .null := h
    rw [h]; rfl
  | .inr (.inr (.inr (.inl (some _)))), h, _ =>
    obtain ⟨a, -, rfl⟩ := h
    rfl
  | .inr (.inr (.inr (.inr _))), h, _ =>
    rcases h with ⟨-, rfl⟩ | ⟨-, rfl⟩ | ⟨-, rfl⟩ <;> rfl
theorem vLt_t {x y : Nat × Nat} (h : vLt x y = some true) : x.2 < y.1 := by
  unfold vLt at h
  cases h1 : Nat.blt x.2 y.1 with
  | true => exact Nat.blt_eq.mp h1
  | false =>
    rw [h1] at h
    cases h2 : Nat.ble y.2 x.1 <;> rw [h2] at h <;> cases h
theorem vLt_f {x y : Nat × Nat} (h : vLt x y = some false) : y.2 ≤ x.1 := by
  unfold vLt at h
  cases h1 : Nat.blt x.2 y.1 with
  | true =>
    rw [h1] at h
    cases h
  | false =>
    rw [h1] at h
    cases h2 : Nat.ble y.2 x.1 with
    | true => exact Nat.le_of_ble_eq_true h2
    | false =>
      rw [h2] at h
      cases h
theorem vEq_t {x y : Nat × Nat} (h : vEq x y = some true) : x.1 = x.2 ∧ y.1 = y.2 ∧ x.1 = y.1 := by
  unfold vEq at h
  cases h1 : Nat.blt x.2 y.1 with
  | true =>
    rw [h1] at h
    cases h
  | false =>
    rw [h1] at h
    cases h2 : Nat.blt y.2 x.1 with
    | true =>
      rw [h2] at h
      cases h
    | false =>
      rw [h2] at h
      cases h3 : (Nat.beq x.1 x.2 && Nat.beq y.1 y.2 && Nat.beq x.1 y.1) with
      | true =>
        rw [Bool.and_eq_true, Bool.and_eq_true] at h3
        exact ⟨Nat.eq_of_beq_eq_true h3.1.1, Nat.eq_of_beq_eq_true h3.1.2, Nat.eq_of_beq_eq_true h3.2⟩
      | false =>
        rw [h3] at h
        cases h
theorem vEq_f {x y : Nat × Nat} (h : vEq x y = some false) : x.2 < y.1 ∨ y.2 < x.1 := by
  unfold vEq at h
  cases h1 : Nat.blt x.2 y.1 with
  | true => exact Or.inl (Nat.blt_eq.mp h1)
  | false =>
    rw [h1] at h
    cases h2 : Nat.blt y.2 x.1 with
    | true => exact Or.inr (Nat.blt_eq.mp h2)
    | false =>
      rw [h2] at h
      cases h3 : (Nat.beq x.1 x.2 && Nat.beq y.1 y.2 && Nat.beq x.1 y.1) <;> rw [h3] at h <;> cases h
theorem vNot_t {o : Option Bool} (h : vNot o = some true) : o = some false := by
  match o, h with
  | some true, h => cases h
  | some false, _ => rfl
  | none, h => cases h
theorem vNot_f {o : Option Bool} (h : vNot o = some false) : o = some true := by
  match o, h with
  | some true, _ => rfl
  | some false, h => cases h
  | none, h => cases h
theorem vAny_ok {b sa sv : Nat} {ad : List Nat} (x : Int32) : vG b sa sv ad vAny (.int x) := by
  refine ⟨x, rfl, ?_, ?_⟩
  · have := Int32.le_toInt x
    show ((0 : Nat) : Int) ≤ _
    simp at this ⊢
    omega
  · have := Int32.toInt_lt x
    show _ ≤ ((4294967295 : Nat) : Int)
    simp at this ⊢
    omega
theorem vB_ok {b sa sv : Nat} {ad : List Nat} {op : Nat → Nat → Nat} {f : Int32 → Int32 → Int32} (hop : ∀ u w, u < 4294967296 → w < 4294967296 → op u w < 4294967296 ∧ f (nI u) (nI w) = nI (op u w))
    {x y r : vAV} {X Y : Int32} (hx : vG b sa sv ad x (.int X)) (hy : vG b sa sv ad y (.int Y)) (h : vB op x y = some r) : vG b sa sv ad r (.int (f X Y)) := by
  match x, y, hx, hy, h with
  | .inl u, .inl w, hx, hy, h =>
    obtain ⟨hu, hx⟩ := hx
    obtain ⟨hw, hy⟩ := hy
    cases hx
    cases hy
    have h : vF (op u w) (fun r => some (.inl r : vAV)) = some r := h
    rw [vF_eq] at h
    cases h
    obtain ⟨h1, h2⟩ := hop u w hu hw
    exact ⟨h1, by rw [h2]⟩
  | .inl _, .inr (.inl _), _, _, h => cases h; exact vAny_ok _
  | .inr (.inl _), .inl _, _, _, h => cases h; exact vAny_ok _
  | .inr (.inl _), .inr (.inl _), _, _, h => cases h; exact vAny_ok _
  | .inl _, .inr (.inr _), _, _, h => cases h
  | .inr (.inl _), .inr (.inr _), _, _, h => cases h
  | .inr (.inr _), .inl _, _, _, h => cases h
  | .inr (.inr _), .inr _, _, _, h => cases h
theorem vB_ints {b sa sv : Nat} {ad : List Nat} {op : Nat → Nat → Nat} {x y r : vAV} {v w : Value} (hx : vG b sa sv ad x v) (hy : vG b sa sv ad y w) (h : vB op x y = some r) : (∃ X : Int32, v = .int X) ∧ ∃ Y : Int32, w = .int Y := by
  match x, y, hx, hy, h with
  | .inl u, .inl w, hx, hy, _ => exact ⟨⟨_, hx.2⟩, ⟨_, hy.2⟩⟩
  | .inl _, .inr (.inl _), hx, hy, _ => exact ⟨⟨_, hx.2⟩, ⟨_, hy.choose_spec.1⟩⟩
  | .inr (.inl _), .inl _, hx, hy, _ => exact ⟨⟨_, hx.choose_spec.1⟩, ⟨_, hy.2⟩⟩
  | .inr (.inl _), .inr (.inl _), hx, hy, _ => exact ⟨⟨_, hx.choose_spec.1⟩, ⟨_, hy.choose_spec.1⟩⟩
  | .inl _, .inr (.inr _), _, _, h => cases h
  | .inr (.inl _), .inr (.inr _), _, _, h => cases h
  | .inr (.inr _), .inl _, _, _, h => cases h
  | .inr (.inr _), .inr _, _, _, h => cases h
/-- more objects: what was said stays -/
def vSub2 (ad ad' : List Nat) : Prop := ∀ (k a : Nat), ad[k]? = some a → ad'[k]? = some a
theorem vG_mono {b sa sv : Nat} {ad ad' : List Nat} (hs : vSub2 ad ad') {c : vAV} {v : Value} (h : vG b sa sv ad c v) : vG b sa sv ad' c v := by
  match c, h with
  | .inl _, h => exact h
  | .inr (.inl _), h => exact h
  | .inr (.inr (.inl _)), h => exact h
  | .inr (.inr (.inr (.inl none))), h => exact h
  | .inr (.inr (.inr (.inl (some k)))), h =>
    obtain ⟨a, h1, h2⟩ := h
    exact ⟨a, hs k a h1, h2⟩
  | .inr (.inr (.inr (.inr _))), h => exact h
end
section
/-! ===== the machine's state and the JVM's ===== -/
abbrev vAd (ws : va_W) : List Nat := ws.map (fun q => q.1)
def vT (b sa sv : Nat) (ad : List Nat) : List vAV → List Value → Prop
  | [], [] => True
  | c :: cs, v :: vs => vG b sa sv ad c v ∧ vT b sa sv ad cs vs
  | [], _ :: _ => False
  | _ :: _, [] => False
def vC (cl : List vw_C) (b sa sv : Nat) (ad : List Nat) (tys : List (ClassId × FieldType)) (o : vOb) (e : va_E) : Prop := match o.1 % 8 with
  | 0 => ∃ fs : List Value, e = .inr (o.1 / 8, fs) ∧ fs.length = o.2.length ∧ ∀ (j : Nat) (c : vAV), o.2[j]? = some c → ∃ v, fs[j]? = some v ∧ vG b sa sv ad c v
  | 1 => ∃ (cA : ClassId) (f : Nat → Int32) (t0 : Nat), e = .inl (cA, o.2.length, .inl f) ∧ tys[t0]? = some (cA, .int) ∧ ∀ (j : Nat) (c : vAV), o.2[j]? = some c → vG b sa sv ad c (.int (f j))
  | 2 => ∃ (cA : ClassId) (f : Nat → Int32) (t0 : Nat), e = .inl (cA, o.2.length, .inl f) ∧ tys[t0]? = some (cA, .byte) ∧ ∀ (j : Nat) (c : vAV), o.2[j]? = some c → vG b sa sv ad c (.int (f j))
  | 3 => ∃ (cA : ClassId) (f : Nat → Int32) (t0 : Nat), e = .inl (cA, o.2.length, .inl f) ∧ tys[t0]? = some (cA, .boolean) ∧ ∀ (j : Nat) (c : vAV), o.2[j]? = some c → vG b sa sv ad c (.int (f j))
  | 4 => ∃ (cA : ClassId) (f : Nat → Int64) (t0 : Nat), e = .inl (cA, o.2.length, .inr (.inl f)) ∧ tys[t0]? = some (cA, .long) ∧ ∀ (j : Nat) (c : vAV), o.2[j]? = some c → vG b sa sv ad c (.long (f j))
  | 5 => ∃ (cA : ClassId) (f : Nat → Option Nat) (t0 : Nat) (r : vw_C), e = .inl (cA, o.2.length, .inr (.inr (.inr (.inr f)))) ∧ cl[o.1 / 8]? = some r ∧ tys[t0]? = some (cA, .object r.1) ∧ ∀ (j : Nat) (c : vAV), o.2[j]? = some c → vG b sa sv ad c (va_rf (f j))
  | _ => False
def vH (cl : List vw_C) (b sa sv : Nat) (tys : List (ClassId × FieldType)) (hp : List vOb) (ws : va_W) : Prop :=
  ws.length = hp.length ∧ ∀ (k : Nat) (o : vOb), hp[k]? = some o → ∃ (a : Nat) (e : va_E), ws[k]? = some (a, e) ∧ vC cl b sa sv (vAd ws) tys o e
def vL (b sa sv : Nat) (ad : List Nat) (nL : Nat) (ls : vLs) (lsA : Array Slot) : Prop :=
  ∃ lv : List (Nat × Value), lv_has lsA nL lv ∧ ls.length = nL ∧ ∀ (i : Nat) (c : vAV), ls[i]? = some (some c) → ∃ v, (i, v) ∈ lv ∧ vG b sa sv ad c v
/-- the objects, the heap, the tables: 'D A s cl' of the method, 'hp' the machine's, 'ws tys H locs' the JVM's -/
def vW (cl : List vw_C) (D : va_G) (A : Nat → Prop) (s : State) (b sa sv : Nat) (hp : List vOb) (ws : va_W) (tys : List (ClassId × FieldType)) (H : Heap) (locs : List Loc) : Prop :=
  va_P D cl ws H ∧ va_D A ws ∧ va_S A s.heap H locs ∧ va_K D cl tys s ∧ vH cl b sa sv tys hp ws
theorem vC_mono {cl : List vw_C} {b sa sv : Nat} {ad ad' : List Nat} {tys : List (ClassId × FieldType)} (hs : vSub2 ad ad') {o : vOb} {e : va_E} (h : vC cl b sa sv ad tys o e) : vC cl b sa sv ad' tys o e := by
  unfold vC at h ⊢
  split at h
  · obtain ⟨fs, h1, h2, h3⟩ := h
    exact ⟨fs, h1, h2, fun j c hc => by obtain ⟨v, q1, q2⟩ := h3 j c hc; exact ⟨v, q1, vG_mono hs q2⟩⟩
  · obtain ⟨cA, f, t0, h1, h2, h3⟩ := h
    exact ⟨cA, f, t0, h1, h2, fun j c hc => vG_mono hs (h3 j c hc)⟩
  · obtain ⟨cA, f, t0, h1, h2, h3⟩ := h
    exact ⟨cA, f, t0, h1, h2, fun j c hc => vG_mono hs (h3 j c hc)⟩
  · obtain ⟨cA, f, t0, h1, h2, h3⟩ := h
    exact ⟨cA, f, t0, h1, h2, fun j c hc => vG_mono hs (h3 j c hc)⟩
  · obtain ⟨cA, f, t0, h1, h2, h3⟩ := h
    exact ⟨cA, f, t0, h1, h2, fun j c hc => vG_mono hs (h3 j c hc)⟩
  · obtain ⟨cA, f, t0, r, h1, h2, h3, h4⟩ := h
    exact ⟨cA, f, t0, r, h1, h2, h3, fun j c hc => vG_mono hs (h4 j c hc)⟩
  · exact h
theorem vT_mono {b sa sv : Nat} {ad ad' : List Nat} (hs : vSub2 ad ad') : ∀ {st : List vAV} {vs : List Value}, vT b sa sv ad st vs → vT b sa sv ad' st vs
  | [], [], _ => trivial
  | c :: cs, v :: vs, h => ⟨vG_mono hs h.1, vT_mono hs h.2⟩
  | [], _ :: _, h => h.elim
  | _ :: _, [], h => h.elim
theorem vL_mono {b sa sv : Nat} {ad ad' : List Nat} (hs : vSub2 ad ad') {nL : Nat} {ls : vLs} {lsA : Array Slot} (h : vL b sa sv ad nL ls lsA) : vL b sa sv ad' nL ls lsA := by
  obtain ⟨lv, h1, h2, h3⟩ := h
  exact ⟨lv, h1, h2, fun i c hc => by obtain ⟨v, q1, q2⟩ := h3 i c hc; exact ⟨v, q1, vG_mono hs q2⟩⟩
theorem vSub2.rf (ad : List Nat) : vSub2 ad ad := fun _ _ h => h
theorem vSub2.tr {a b c : List Nat} (h1 : vSub2 a b) (h2 : vSub2 b c) : vSub2 a c := fun k x h => h2 k x (h1 k x h)
theorem vAd_set {ws : va_W} {k a : Nat} {e0 e : va_E} (h : ws[k]? = some (a, e0)) : vAd (ws.set k (a, e)) = vAd ws := by
  apply List.ext_getElem?
  intro j
  simp only [vAd, List.getElem?_map, List.getElem?_set]
  by_cases hj : k = j
  · subst hj
    obtain ⟨hl, he⟩ := List.getElem?_eq_some_iff.mp h
    simp [hl, he]
  · simp [hj]
theorem vAd_at {ws : va_W} {k a : Nat} {e : va_E} (h : ws[k]? = some (a, e)) : (vAd ws)[k]? = some a := by
  simp [vAd, List.getElem?_map, h]
/-- the cell of an object -/
theorem vH_at {cl : List vw_C} {b sa sv : Nat} {tys : List (ClassId × FieldType)} {hp : List vOb} {ws : va_W} (h : vH cl b sa sv tys hp ws) {k : Nat} {o : vOb} (ho : hp[k]? = some o) {v : Value} (hv : vG b sa sv (vAd ws) (.inr (.inr (.inr (.inl (some k))))) v) :
    ∃ (a : Nat) (e : va_E), v = .ref a ∧ ws[k]? = some (a, e) ∧ vC cl b sa sv (vAd ws) tys o e := by
  obtain ⟨a, e, h1, h2⟩ := h.2 k o ho
  obtain ⟨a', h3, h4⟩ := hv
  rw [vAd_at h1] at h3
  cases h3
  exact ⟨a, e, h4, h1, h2⟩
/-- one cell anew -/
theorem vH_set {cl : List vw_C} {b sa sv : Nat} {tys : List (ClassId × FieldType)} {hp : List vOb} {ws : va_W} (h : vH cl b sa sv tys hp ws) {k a : Nat} {e0 e : va_E} {o : vOb} (hw : ws[k]? = some (a, e0)) (hc : vC cl b sa sv (vAd ws) tys o e) : vH cl b sa sv tys (hp.set k o) (ws.set k (a, e)) := by
  refine ⟨by simpa using h.1, fun j o' hj => ?_⟩
  rw [vAd_set hw]
  by_cases hjk : k = j
  · subst hjk
    have hl := (List.getElem?_eq_some_iff.mp hw).1
    have hl2 : k < hp.length := by rw [← h.1]; exact hl
    rw [List.getElem?_set_self hl2] at hj
    cases hj
    exact ⟨a, e, by rw [List.getElem?_set_self hl], hc⟩
  · rw [List.getElem?_set_ne hjk] at hj
    obtain ⟨a', e', h1, h2⟩ := h.2 j o' hj
    exact ⟨a', e', by rw [List.getElem?_set_ne hjk]; exact h1, h2⟩
end
section
/-! ===== a step of the machine is a step of the JVM: what the pieces say ===== -/
/-- what is left to show behind a step -/
def vK (p : Program) (l : Launch) (e : Env) (R : Room) (s : State) (m : MethodId) (args : Array Value) (below : List Frame) (meth : Method) (c : Code) (Q : State → Prop) (cl : List vw_C) (D : va_G) (A : Nat → Prop) (b sa sv nL : Nat) (ws0 : va_W) (pc' : Nat) (ls' : vLs) (st' : List vAV) (hp' : List vOb) (cells slots : Nat) : Prop :=
  ∀ (ws' : va_W) (tys' : List (ClassId × FieldType)) (H' : Heap) (locs' : List Loc) (lsA' : Array Slot) (stV' : List Value), vW cl D A s b sa sv hp' ws' tys' H' locs' → vL b sa sv (vAd ws') nL ls' lsA' → vT b sa sv (vAd ws') st' stV' → vSub2 (vAd ws0) (vAd ws') →
    W p l e R s m args below meth c H' locs' cells slots Q (F0 m pc' lsA' stV')
theorem vL_at {b sa sv : Nat} {ad : List Nat} {nL : Nat} {ls : vLs} {lsA : Array Slot} (h : vL b sa sv ad nL ls lsA) {i : Nat} {c : vAV} (hi : ls[i]? = some (some c)) : ∃ v, lsA[i]? = some (.val v) ∧ vG b sa sv ad c v := by
  obtain ⟨lv, h1, h2, h3⟩ := h
  obtain ⟨v, q1, q2⟩ := h3 i c hi
  exact ⟨v, h1.2.2 (i, v) q1, q2⟩
theorem vSet1_len (ls : vLs) (a : Nat) (v : vAV) : (vSet1 ls a v).length = ls.length := by
  unfold vSet1
  split
  · simp
  · split <;> simp
theorem vSet1_at {ls : vLs} {a : Nat} {v : vAV} (h : a < ls.length) : (vSet1 ls a v)[a]? = some (some v) := by
  unfold vSet1
  split
  · simp [h]
  · split <;> simp [h]
theorem vSet1_ne {ls : vLs} {a i : Nat} {v c : vAV} (hi : i ≠ a) (h : (vSet1 ls a v)[i]? = some (some c)) : ls[i]? = some (some c) ∧ (i + 1 = a → Nat.beq (vKd c) 1 = false) := by
  unfold vSet1 at h
  split at h
  · rw [List.getElem?_set_ne (fun e => hi e.symm)] at h
    exact ⟨h, fun e => by omega⟩
  · next a' =>
    split at h
    · next w hw =>
      rw [List.getElem?_set_ne (fun e => hi e.symm)] at h
      by_cases e : a' = i
      · subst e
        rw [List.getElem?_set] at h
        split at h
        · split at h <;> cases h
        · next hn => exact absurd rfl hn
      · rw [List.getElem?_set_ne e] at h
        exact ⟨h, fun q => by omega⟩
    · next hw =>
      rw [List.getElem?_set_ne (fun e => hi e.symm)] at h
      refine ⟨h, fun e => ?_⟩
      have e : i = a' := by omega
      subst e
      have hg : ls.getD i none = some c := by rw [List.getD_eq_getElem?_getD, h]; rfl
      match c, hg with
      | .inl _, _ => rfl
      | .inr (.inl _), _ => rfl
      | .inr (.inr (.inl w)), hg => exact absurd hg (hw w)
      | .inr (.inr (.inr (.inl none))), _ => rfl
      | .inr (.inr (.inr (.inl (some _)))), _ => rfl
      | .inr (.inr (.inr (.inr _))), _ => rfl
theorem vL_st1 {b sa sv : Nat} {ad : List Nat} {nL a : Nat} {ls : vLs} {lsA : Array Slot} {lv : List (Nat × Value)} {c0 : vAV} {v0 : Value} (hlen : ls.length = nL) (h1 : ∀ (i : Nat) (c : vAV), ls[i]? = some (some c) → ∃ v, (i, v) ∈ lv ∧ vG b sa sv ad c v)
    (hv : vG b sa sv ad c0 v0) (ha : a < nL) (h2 : lv_has lsA nL ((a, v0) :: lv.filter (fun q => !(q.1 == a) && !(q.1 + 1 == a && q.2.category == 2)))) : vL b sa sv ad nL (vSet1 ls a c0) lsA := by
  refine ⟨_, h2, by rw [vSet1_len]; exact hlen, fun i c hc => ?_⟩
  by_cases e : i = a
  · subst e
    rw [vSet1_at (by omega)] at hc
    cases hc
    exact ⟨v0, List.mem_cons_self, hv⟩
  · obtain ⟨q1, q2⟩ := vSet1_ne e hc
    obtain ⟨v, q3, q4⟩ := h1 i c q1
    refine ⟨v, List.mem_cons_of_mem _ (List.mem_filter.mpr ⟨q3, ?_⟩), q4⟩
    by_cases e2 : i + 1 = a
    · have hc1 := vKd_cat q4 (q2 e2)
      simp [e, hc1]
    · simp [e, e2]
theorem vL_st2 {b sa sv : Nat} {ad : List Nat} {nL a : Nat} {ls : vLs} {lsA : Array Slot} {lv : List (Nat × Value)} {c0 : vAV} {v0 : Value} (hlen : ls.length = nL) (h1 : ∀ (i : Nat) (c : vAV), ls[i]? = some (some c) → ∃ v, (i, v) ∈ lv ∧ vG b sa sv ad c v)
    (hv : vG b sa sv ad c0 v0) (ha : a + 1 < nL) (h2 : lv_has lsA nL ((a, v0) :: lv.filter (fun q => !(q.1 == a) && (!(q.1 == a + 1) && !(q.1 + 1 == a && q.2.category == 2))))) : vL b sa sv ad nL (vSet2 ls a c0) lsA := by
  refine ⟨_, h2, by rw [vSet2, List.length_set, vSet1_len]; exact hlen, fun i c hc => ?_⟩
  unfold vSet2 at hc
  by_cases e1 : i = a + 1
  · subst e1
    rw [List.getElem?_set] at hc
    split at hc
    · split at hc <;> cases hc
    · next hn => exact absurd rfl hn
  · rw [List.getElem?_set_ne (fun q => e1 q.symm)] at hc
    by_cases e : i = a
    · subst e
      rw [vSet1_at (by omega)] at hc
      cases hc
      exact ⟨v0, List.mem_cons_self, hv⟩
    · obtain ⟨q1, q2⟩ := vSet1_ne e hc
      obtain ⟨v, q3, q4⟩ := h1 i c q1
      refine ⟨v, List.mem_cons_of_mem _ (List.mem_filter.mpr ⟨q3, ?_⟩), q4⟩
      by_cases e2 : i + 1 = a
      · have hc1 := vKd_cat q4 (q2 e2)
        simp [e, e1, hc1]
      · simp [e, e1, e2]
theorem vLd_ok {kd a pc1 pc' : Nat} {ls ls' : vLs} {st st' : List vAV} {hp hp' : List vOb} (h : vLd kd a pc1 ls st hp = some (pc', ls', st', hp')) : ∃ v, ls[a]? = some (some v) ∧ Nat.beq (vKd v) kd = true ∧ pc' = pc1 ∧ ls' = ls ∧ st' = v :: st ∧ hp' = hp := by
  unfold vLd at h
  split at h
  · next v hv =>
    rw [vNth_eq] at hv
    cases hk : Nat.beq (vKd v) kd with
    | true =>
      rw [hk] at h
      cases h
      exact ⟨v, hv, hk, rfl, rfl, rfl, rfl⟩
    | false =>
      rw [hk] at h
      cases h
  · cases h
theorem vSt1_ok {kd a pc1 pc' : Nat} {ls ls' : vLs} {st st' : List vAV} {hp hp' : List vOb} (h : vSt1 kd a pc1 ls st hp = some (pc', ls', st', hp')) : ∃ v, st = v :: st' ∧ Nat.beq (vKd v) kd = true ∧ a < ls.length ∧ pc' = pc1 ∧ ls' = vSet1 ls a v ∧ hp' = hp := by
  unfold vSt1 at h
  split at h
  · next v r =>
    cases hk : (Nat.beq (vKd v) kd && Nat.blt a ls.length) with
    | true =>
      rw [hk] at h
      cases h
      rw [Bool.and_eq_true] at hk
      exact ⟨v, rfl, hk.1, Nat.blt_eq.mp hk.2, rfl, rfl, rfl⟩
    | false =>
      rw [hk] at h
      cases h
  · cases h
theorem vSt2_ok {a pc1 pc' : Nat} {ls ls' : vLs} {st st' : List vAV} {hp hp' : List vOb} (h : vSt2 a pc1 ls st hp = some (pc', ls', st', hp')) : ∃ v, st = v :: st' ∧ Nat.beq (vKd v) 1 = true ∧ a + 1 < ls.length ∧ pc' = pc1 ∧ ls' = vSet2 ls a v ∧ hp' = hp := by
  unfold vSt2 at h
  split at h
  · next v r =>
    cases hk : (Nat.beq (vKd v) 1 && Nat.blt (a + 1) ls.length) with
    | true =>
      rw [hk] at h
      cases h
      rw [Bool.and_eq_true] at hk
      exact ⟨v, rfl, hk.1, Nat.blt_eq.mp hk.2, rfl, rfl, rfl⟩
    | false =>
      rw [hk] at h
      cases h
  · cases h
theorem v2_ok {op : Nat → Nat → Nat} {pc1 pc' : Nat} {ls ls' : vLs} {st st' : List vAV} {hp hp' : List vOb} (h : v2 op pc1 ls st hp = some (pc', ls', st', hp')) : ∃ x y r st0, st = y :: x :: st0 ∧ vB op x y = some r ∧ pc' = pc1 ∧ ls' = ls ∧ st' = r :: st0 ∧ hp' = hp := by
  unfold v2 at h
  split at h
  · next y x st0 =>
    split at h
    · next r hr =>
      cases h
      exact ⟨x, y, r, st0, rfl, hr, rfl, rfl, rfl, rfl⟩
    · cases h
  · cases h
theorem vBr_ok {o : Option Bool} {pc1 a pc' : Nat} {ls ls' : vLs} {st st' : List vAV} {hp hp' : List vOb} (h : vBr o pc1 a ls st hp = some (pc', ls', st', hp')) : ls' = ls ∧ st' = st ∧ hp' = hp ∧ ((o = some true ∧ pc' = a) ∨ (o = some false ∧ pc' = pc1)) := by
  unfold vBr at h
  split at h
  · cases h
    exact ⟨rfl, rfl, rfl, Or.inl ⟨rfl, rfl⟩⟩
  · cases h
    exact ⟨rfl, rfl, rfl, Or.inr ⟨rfl, rfl⟩⟩
  · cases h
theorem vIf_ok {f : Nat × Nat → Nat × Nat → Option Bool} {pc1 a pc' : Nat} {ls ls' : vLs} {st st' : List vAV} {hp hp' : List vOb} (h : vIf f pc1 a ls st hp = some (pc', ls', st', hp')) : ∃ x q, st = x :: st' ∧ vIv x = some q ∧ ls' = ls ∧ hp' = hp ∧ ((f q (2147483648, 2147483648) = some true ∧ pc' = a) ∨ (f q (2147483648, 2147483648) = some false ∧ pc' = pc1)) := by
  unfold vIf at h
  split at h
  · next x st0 =>
    split at h
    · next q hq =>
      obtain ⟨h1, h2, h3, h4⟩ := vBr_ok h
      exact ⟨x, q, by rw [h2], hq, h1, h3, h4⟩
    · cases h
  · cases h
theorem vIc_ok {f : Nat × Nat → Nat × Nat → Option Bool} {pc1 a pc' : Nat} {ls ls' : vLs} {st st' : List vAV} {hp hp' : List vOb} (h : vIc f pc1 a ls st hp = some (pc', ls', st', hp')) : ∃ x y q r, st = y :: x :: st' ∧ vIv x = some q ∧ vIv y = some r ∧ ls' = ls ∧ hp' = hp ∧ ((f q r = some true ∧ pc' = a) ∨ (f q r = some false ∧ pc' = pc1)) := by
  unfold vIc at h
  split at h
  · next y x st0 =>
    split at h
    · next q r hq hr =>
      obtain ⟨h1, h2, h3, h4⟩ := vBr_ok h
      exact ⟨x, y, q, r, by rw [h2], hq, hr, h1, h3, h4⟩
    · cases h
  · cases h
end
section
/-! ===== a step of the machine is a step of the JVM: locals, numbers, branches ===== -/
section VS1
variable {p : Program} {l : Launch} {e : Env} {R : Room} {s : State} {m : MethodId} {args : Array Value} {below : List Frame} {meth : Method} {c : Code} {H : Heap} {locs : List Loc} {cells slots : Nat} {Q : State → Prop}
variable {cc : ByteArray} {pc : Nat} {lsA : Array Slot} {stV : List Value} {D : va_G} {cl : List vw_C} {A : Nat → Prop} {ws : va_W} {tys : List (ClassId × FieldType)}
variable {b sa sv nL : Nat} {ls ls' : vLs} {st st' : List vAV} {hp hp' : List vOb} {pc' : Nat}

theorem vs_iconst (hx : p.tables.exec = Jvm.exec) (hb : c.code = cc) (hW : vW cl D A s b sa sv hp ws tys H locs) (hL : vL b sa sv (vAd ws) nL ls lsA) (hT : vT b sa sv (vAd ws) st stV) {n : Int} {a : Nat} (hdg : decode cc pc = .ok (.iconst n, 1)) (ha : a < 4294967296) (hv : Int32.ofInt n = nI a) (h : (some (pc + 1, ls, .inl a :: st, hp) : vR) = some (pc', ls', st', hp')) (kk : vK p l e R s m args below meth c Q cl D A b sa sv nL ws pc' ls' st' hp' cells slots) : W p l e R s m args below meth c H locs cells slots Q (F0 m pc lsA stV) := by
  cases h
  exact lv_iconst hx hb hdg hv (kk ws tys H locs lsA _ hW hL ⟨⟨ha, rfl⟩, hT⟩ (vSub2.rf _))

theorem vs_bipush (hx : p.tables.exec = Jvm.exec) (hb : c.code = cc) (hW : vW cl D A s b sa sv hp ws tys H locs) (hL : vL b sa sv (vAd ws) nL ls lsA) (hT : vT b sa sv (vAd ws) st stV) {n : Int} {a : Nat} (hdg : decode cc pc = .ok (.bipush n, 2)) (ha : a < 4294967296) (hv : (Int8.ofInt n).toInt32 = nI a) (h : (some (pc + 2, ls, .inl a :: st, hp) : vR) = some (pc', ls', st', hp')) (kk : vK p l e R s m args below meth c Q cl D A b sa sv nL ws pc' ls' st' hp' cells slots) : W p l e R s m args below meth c H locs cells slots Q (F0 m pc lsA stV) := by
  cases h
  exact lv_bipush hx hb hdg hv (kk ws tys H locs lsA _ hW hL ⟨⟨ha, rfl⟩, hT⟩ (vSub2.rf _))

theorem vs_sipush (hx : p.tables.exec = Jvm.exec) (hb : c.code = cc) (hW : vW cl D A s b sa sv hp ws tys H locs) (hL : vL b sa sv (vAd ws) nL ls lsA) (hT : vT b sa sv (vAd ws) st stV) {n : Int} {a : Nat} (hdg : decode cc pc = .ok (.sipush n, 3)) (ha : a < 4294967296) (hv : (Int16.ofInt n).toInt32 = nI a) (h : (some (pc + 3, ls, .inl a :: st, hp) : vR) = some (pc', ls', st', hp')) (kk : vK p l e R s m args below meth c Q cl D A b sa sv nL ws pc' ls' st' hp' cells slots) : W p l e R s m args below meth c H locs cells slots Q (F0 m pc lsA stV) := by
  cases h
  exact lv_sipush hx hb hdg hv (kk ws tys H locs lsA _ hW hL ⟨⟨ha, rfl⟩, hT⟩ (vSub2.rf _))

theorem vs_lconst (hx : p.tables.exec = Jvm.exec) (hb : c.code = cc) (hW : vW cl D A s b sa sv hp ws tys H locs) (hL : vL b sa sv (vAd ws) nL ls lsA) (hT : vT b sa sv (vAd ws) st stV) {n : Fin 2} {a : Nat} (hdg : decode cc pc = .ok (.lconst n, 1)) (ha : a < 18446744073709551616) (hv : Int64.ofNat (n : Nat) = lN a) (h : (some (pc + 1, ls, .inr (.inr (.inl a)) :: st, hp) : vR) = some (pc', ls', st', hp')) (kk : vK p l e R s m args below meth c Q cl D A b sa sv nL ws pc' ls' st' hp' cells slots) : W p l e R s m args below meth c H locs cells slots Q (F0 m pc lsA stV) := by
  cases h
  exact lv_lconst hx hb hdg hv (kk ws tys H locs lsA _ hW hL ⟨⟨ha, rfl⟩, hT⟩ (vSub2.rf _))

theorem vs_ldc (hx : p.tables.exec = Jvm.exec) (hb : c.code = cc) (hW : vW cl D A s b sa sv hp ws tys H locs) (hL : vL b sa sv (vAd ws) nL ls lsA) (hT : vT b sa sv (vAd ws) st stV) {own : String} {index a : Nat} (hown : s.vm.findClass own = some m.cls) (hc : (Jvm.Cond.constant own index (nI a)).before args s = true) (hdg : decode cc pc = .ok (.ldc index, 2)) (ha : a < 4294967296) (h : (some (pc + 2, ls, .inl a :: st, hp) : vR) = some (pc', ls', st', hp')) (kk : vK p l e R s m args below meth c Q cl D A b sa sv nL ws pc' ls' st' hp' cells slots) : W p l e R s m args below meth c H locs cells slots Q (F0 m pc lsA stV) := by
  cases h
  exact lv_ldc hx hb hown hc hdg (kk ws tys H locs lsA _ hW hL ⟨⟨ha, rfl⟩, hT⟩ (vSub2.rf _))

theorem vs_ldc2_w (hx : p.tables.exec = Jvm.exec) (hb : c.code = cc) (hW : vW cl D A s b sa sv hp ws tys H locs) (hL : vL b sa sv (vAd ws) nL ls lsA) (hT : vT b sa sv (vAd ws) st stV) {own : String} {index a : Nat} (hown : s.vm.findClass own = some m.cls) (hc : (Jvm.Cond.constantLong own index (lN a)).before args s = true) (hdg : decode cc pc = .ok (.ldc2_w index, 3)) (ha : a < 18446744073709551616) (h : (some (pc + 3, ls, .inr (.inr (.inl a)) :: st, hp) : vR) = some (pc', ls', st', hp')) (kk : vK p l e R s m args below meth c Q cl D A b sa sv nL ws pc' ls' st' hp' cells slots) : W p l e R s m args below meth c H locs cells slots Q (F0 m pc lsA stV) := by
  cases h
  exact lv_ldc2 hx hb hown hc hdg (kk ws tys H locs lsA _ hW hL ⟨⟨ha, rfl⟩, hT⟩ (vSub2.rf _))

theorem vs_iload_n (hx : p.tables.exec = Jvm.exec) (hb : c.code = cc) (hW : vW cl D A s b sa sv hp ws tys H locs) (hL : vL b sa sv (vAd ws) nL ls lsA) (hT : vT b sa sv (vAd ws) st stV) {k : Fin 4} {a : Nat} (hdg : decode cc pc = .ok (.iload_n k, 1)) (hk : (k : Nat) = a) (h : vLd 0 a (pc + 1) ls st hp = some (pc', ls', st', hp')) (kk : vK p l e R s m args below meth c Q cl D A b sa sv nL ws pc' ls' st' hp' cells slots) : W p l e R s m args below meth c H locs cells slots Q (F0 m pc lsA stV) := by
  obtain ⟨v, h1, h2, rfl, rfl, rfl, rfl⟩ := vLd_ok h
  obtain ⟨x, q1, q2⟩ := vL_at hL h1
  obtain ⟨X, rfl⟩ := vKd0 q2 h2
  exact lv_iload_n hx hb hdg hk q1 (kk ws tys H locs lsA _ hW hL ⟨q2, hT⟩ (vSub2.rf _))

theorem vs_iload (hx : p.tables.exec = Jvm.exec) (hb : c.code = cc) (hW : vW cl D A s b sa sv hp ws tys H locs) (hL : vL b sa sv (vAd ws) nL ls lsA) (hT : vT b sa sv (vAd ws) st stV) {a : Nat} (hdg : decode cc pc = .ok (.iload a, 2)) (h : vLd 0 a (pc + 2) ls st hp = some (pc', ls', st', hp')) (kk : vK p l e R s m args below meth c Q cl D A b sa sv nL ws pc' ls' st' hp' cells slots) : W p l e R s m args below meth c H locs cells slots Q (F0 m pc lsA stV) := by
  obtain ⟨v, h1, h2, rfl, rfl, rfl, rfl⟩ := vLd_ok h
  obtain ⟨x, q1, q2⟩ := vL_at hL h1
  obtain ⟨X, rfl⟩ := vKd0 q2 h2
  exact lv_iload hx hb hdg q1 (kk ws tys H locs lsA _ hW hL ⟨q2, hT⟩ (vSub2.rf _))

theorem vs_lload_n (hx : p.tables.exec = Jvm.exec) (hb : c.code = cc) (hW : vW cl D A s b sa sv hp ws tys H locs) (hL : vL b sa sv (vAd ws) nL ls lsA) (hT : vT b sa sv (vAd ws) st stV) {k : Fin 4} {a : Nat} (hdg : decode cc pc = .ok (.lload_n k, 1)) (hk : (k : Nat) = a) (h : vLd 1 a (pc + 1) ls st hp = some (pc', ls', st', hp')) (kk : vK p l e R s m args below meth c Q cl D A b sa sv nL ws pc' ls' st' hp' cells slots) : W p l e R s m args below meth c H locs cells slots Q (F0 m pc lsA stV) := by
  obtain ⟨v, h1, h2, rfl, rfl, rfl, rfl⟩ := vLd_ok h
  obtain ⟨x, q1, q2⟩ := vL_at hL h1
  obtain ⟨X, rfl⟩ := vKd1 q2 h2
  exact lv_lload_n hx hb hdg hk q1 (kk ws tys H locs lsA _ hW hL ⟨q2, hT⟩ (vSub2.rf _))

theorem vs_lload (hx : p.tables.exec = Jvm.exec) (hb : c.code = cc) (hW : vW cl D A s b sa sv hp ws tys H locs) (hL : vL b sa sv (vAd ws) nL ls lsA) (hT : vT b sa sv (vAd ws) st stV) {a : Nat} (hdg : decode cc pc = .ok (.lload a, 2)) (h : vLd 1 a (pc + 2) ls st hp = some (pc', ls', st', hp')) (kk : vK p l e R s m args below meth c Q cl D A b sa sv nL ws pc' ls' st' hp' cells slots) : W p l e R s m args below meth c H locs cells slots Q (F0 m pc lsA stV) := by
  obtain ⟨v, h1, h2, rfl, rfl, rfl, rfl⟩ := vLd_ok h
  obtain ⟨x, q1, q2⟩ := vL_at hL h1
  obtain ⟨X, rfl⟩ := vKd1 q2 h2
  exact lv_lload hx hb hdg q1 (kk ws tys H locs lsA _ hW hL ⟨q2, hT⟩ (vSub2.rf _))

theorem vs_aload_n (hx : p.tables.exec = Jvm.exec) (hb : c.code = cc) (hW : vW cl D A s b sa sv hp ws tys H locs) (hL : vL b sa sv (vAd ws) nL ls lsA) (hT : vT b sa sv (vAd ws) st stV) {k : Fin 4} {a : Nat} (hdg : decode cc pc = .ok (.aload_n k, 1)) (hk : (k : Nat) = a) (h : vLd 3 a (pc + 1) ls st hp = some (pc', ls', st', hp')) (kk : vK p l e R s m args below meth c Q cl D A b sa sv nL ws pc' ls' st' hp' cells slots) : W p l e R s m args below meth c H locs cells slots Q (F0 m pc lsA stV) := by
  obtain ⟨v, h1, h2, rfl, rfl, rfl, rfl⟩ := vLd_ok h
  obtain ⟨x, q1, q2⟩ := vL_at hL h1
  obtain ⟨X, rfl⟩ := vKd3 q2 h2
  exact lv_aload_n hx hb hdg hk q1 (kk ws tys H locs lsA _ hW hL ⟨q2, hT⟩ (vSub2.rf _))

theorem vs_aload (hx : p.tables.exec = Jvm.exec) (hb : c.code = cc) (hW : vW cl D A s b sa sv hp ws tys H locs) (hL : vL b sa sv (vAd ws) nL ls lsA) (hT : vT b sa sv (vAd ws) st stV) {a : Nat} (hdg : decode cc pc = .ok (.aload a, 2)) (h : vLd 3 a (pc + 2) ls st hp = some (pc', ls', st', hp')) (kk : vK p l e R s m args below meth c Q cl D A b sa sv nL ws pc' ls' st' hp' cells slots) : W p l e R s m args below meth c H locs cells slots Q (F0 m pc lsA stV) := by
  obtain ⟨v, h1, h2, rfl, rfl, rfl, rfl⟩ := vLd_ok h
  obtain ⟨x, q1, q2⟩ := vL_at hL h1
  obtain ⟨X, rfl⟩ := vKd3 q2 h2
  exact lv_aload hx hb hdg q1 (kk ws tys H locs lsA _ hW hL ⟨q2, hT⟩ (vSub2.rf _))

theorem vs_istore_n (hx : p.tables.exec = Jvm.exec) (hb : c.code = cc) (hW : vW cl D A s b sa sv hp ws tys H locs) (hL : vL b sa sv (vAd ws) nL ls lsA) (hT : vT b sa sv (vAd ws) st stV) {k : Fin 4} {a : Nat} (hdg : decode cc pc = .ok (.istore_n k, 1)) (hk : (k : Nat) = a) (h : vSt1 0 a (pc + 1) ls st hp = some (pc', ls', st', hp')) (kk : vK p l e R s m args below meth c Q cl D A b sa sv nL ws pc' ls' st' hp' cells slots) : W p l e R s m args below meth c H locs cells slots Q (F0 m pc lsA stV) := by
  obtain ⟨v, rfl, h2, h3, rfl, rfl, rfl⟩ := vSt1_ok h
  match stV, hT with
  | x :: stV, hT =>
    obtain ⟨X, rfl⟩ := vKd0 hT.1 h2
    obtain ⟨lv, q1, q2, q3⟩ := hL
    exact lv_istore_n hx hb hdg hk q1 (by omega) rfl (fun lsB hB => kk ws tys H locs lsB stV hW (vL_st1 q2 q3 hT.1 (by omega) hB) hT.2 (vSub2.rf _))

theorem vs_istore (hx : p.tables.exec = Jvm.exec) (hb : c.code = cc) (hW : vW cl D A s b sa sv hp ws tys H locs) (hL : vL b sa sv (vAd ws) nL ls lsA) (hT : vT b sa sv (vAd ws) st stV) {a : Nat} (hdg : decode cc pc = .ok (.istore a, 2)) (h : vSt1 0 a (pc + 2) ls st hp = some (pc', ls', st', hp')) (kk : vK p l e R s m args below meth c Q cl D A b sa sv nL ws pc' ls' st' hp' cells slots) : W p l e R s m args below meth c H locs cells slots Q (F0 m pc lsA stV) := by
  obtain ⟨v, rfl, h2, h3, rfl, rfl, rfl⟩ := vSt1_ok h
  match stV, hT with
  | x :: stV, hT =>
    obtain ⟨X, rfl⟩ := vKd0 hT.1 h2
    obtain ⟨lv, q1, q2, q3⟩ := hL
    exact lv_istore hx hb hdg q1 (by omega) rfl (fun lsB hB => kk ws tys H locs lsB stV hW (vL_st1 q2 q3 hT.1 (by omega) hB) hT.2 (vSub2.rf _))

theorem vs_astore_n (hx : p.tables.exec = Jvm.exec) (hb : c.code = cc) (hW : vW cl D A s b sa sv hp ws tys H locs) (hL : vL b sa sv (vAd ws) nL ls lsA) (hT : vT b sa sv (vAd ws) st stV) {k : Fin 4} {a : Nat} (hdg : decode cc pc = .ok (.astore_n k, 1)) (hk : (k : Nat) = a) (h : vSt1 3 a (pc + 1) ls st hp = some (pc', ls', st', hp')) (kk : vK p l e R s m args below meth c Q cl D A b sa sv nL ws pc' ls' st' hp' cells slots) : W p l e R s m args below meth c H locs cells slots Q (F0 m pc lsA stV) := by
  obtain ⟨v, rfl, h2, h3, rfl, rfl, rfl⟩ := vSt1_ok h
  match stV, hT with
  | x :: stV, hT =>
    obtain ⟨X, rfl⟩ := vKd3 hT.1 h2
    obtain ⟨lv, q1, q2, q3⟩ := hL
    exact lv_astore_n hx hb hdg hk q1 (by omega) rfl (fun lsB hB => kk ws tys H locs lsB stV hW (vL_st1 q2 q3 hT.1 (by omega) hB) hT.2 (vSub2.rf _))

theorem vs_astore (hx : p.tables.exec = Jvm.exec) (hb : c.code = cc) (hW : vW cl D A s b sa sv hp ws tys H locs) (hL : vL b sa sv (vAd ws) nL ls lsA) (hT : vT b sa sv (vAd ws) st stV) {a : Nat} (hdg : decode cc pc = .ok (.astore a, 2)) (h : vSt1 3 a (pc + 2) ls st hp = some (pc', ls', st', hp')) (kk : vK p l e R s m args below meth c Q cl D A b sa sv nL ws pc' ls' st' hp' cells slots) : W p l e R s m args below meth c H locs cells slots Q (F0 m pc lsA stV) := by
  obtain ⟨v, rfl, h2, h3, rfl, rfl, rfl⟩ := vSt1_ok h
  match stV, hT with
  | x :: stV, hT =>
    obtain ⟨X, rfl⟩ := vKd3 hT.1 h2
    obtain ⟨lv, q1, q2, q3⟩ := hL
    exact lv_astore hx hb hdg q1 (by omega) rfl (fun lsB hB => kk ws tys H locs lsB stV hW (vL_st1 q2 q3 hT.1 (by omega) hB) hT.2 (vSub2.rf _))

theorem vs_lstore_n (hx : p.tables.exec = Jvm.exec) (hb : c.code = cc) (hW : vW cl D A s b sa sv hp ws tys H locs) (hL : vL b sa sv (vAd ws) nL ls lsA) (hT : vT b sa sv (vAd ws) st stV) {k : Fin 4} {a : Nat} (hdg : decode cc pc = .ok (.lstore_n k, 1)) (hk : (k : Nat) = a) (h : vSt2 a (pc + 1) ls st hp = some (pc', ls', st', hp')) (kk : vK p l e R s m args below meth c Q cl D A b sa sv nL ws pc' ls' st' hp' cells slots) : W p l e R s m args below meth c H locs cells slots Q (F0 m pc lsA stV) := by
  obtain ⟨v, rfl, h2, h3, rfl, rfl, rfl⟩ := vSt2_ok h
  match stV, hT with
  | x :: stV, hT =>
    obtain ⟨X, rfl⟩ := vKd1 hT.1 h2
    obtain ⟨lv, q1, q2, q3⟩ := hL
    exact lv_lstore_n hx hb hdg hk q1 (by omega) rfl (fun lsB hB => kk ws tys H locs lsB stV hW (vL_st2 q2 q3 hT.1 (by omega) hB) hT.2 (vSub2.rf _))

theorem vs_lstore (hx : p.tables.exec = Jvm.exec) (hb : c.code = cc) (hW : vW cl D A s b sa sv hp ws tys H locs) (hL : vL b sa sv (vAd ws) nL ls lsA) (hT : vT b sa sv (vAd ws) st stV) {a : Nat} (hdg : decode cc pc = .ok (.lstore a, 2)) (h : vSt2 a (pc + 2) ls st hp = some (pc', ls', st', hp')) (kk : vK p l e R s m args below meth c Q cl D A b sa sv nL ws pc' ls' st' hp' cells slots) : W p l e R s m args below meth c H locs cells slots Q (F0 m pc lsA stV) := by
  obtain ⟨v, rfl, h2, h3, rfl, rfl, rfl⟩ := vSt2_ok h
  match stV, hT with
  | x :: stV, hT =>
    obtain ⟨X, rfl⟩ := vKd1 hT.1 h2
    obtain ⟨lv, q1, q2, q3⟩ := hL
    exact lv_lstore hx hb hdg q1 (by omega) rfl (fun lsB hB => kk ws tys H locs lsB stV hW (vL_st2 q2 q3 hT.1 (by omega) hB) hT.2 (vSub2.rf _))

theorem vs_iinc (hx : p.tables.exec = Jvm.exec) (hb : c.code = cc) (hW : vW cl D A s b sa sv hp ws tys H locs) (hL : vL b sa sv (vAd ws) nL ls lsA) (hT : vT b sa sv (vAd ws) st stV) {n : Int} {a b1 : Nat} (hdg : decode cc pc = .ok (.iinc a n, 3)) (hb1 : b1 < 4294967296) (hn : Int32.ofInt n = nI b1) (h : vInc a b1 (pc + 3) ls st hp = some (pc', ls', st', hp')) (kk : vK p l e R s m args below meth c Q cl D A b sa sv nL ws pc' ls' st' hp' cells slots) : W p l e R s m args below meth c H locs cells slots Q (F0 m pc lsA stV) := by
  unfold vInc at h
  split at h
  · next v hv =>
    rw [vNth_eq] at hv
    split at h
    · next r hr =>
      cases h
      obtain ⟨lv, q1, q2, q3⟩ := hL
      obtain ⟨w, q4, q5⟩ := q3 a v hv
      obtain ⟨⟨X, rfl⟩, -⟩ := vB_ints q5 (show vG b sa sv (vAd ws) (.inl b1) (.int (nI b1)) from ⟨hb1, rfl⟩) hr
      have q6 := vB_ok (f := fun x y => x + y) (fun u w hu hw => ⟨Nat.mod_lt _ (by decide), vn_add⟩) q5 (show vG b sa sv (vAd ws) (.inl b1) (.int (nI b1)) from ⟨hb1, rfl⟩) hr
      obtain ⟨k, hk⟩ := List.getElem?_of_mem q4
      have ha : a < ls.length := (List.getElem?_eq_some_iff.mp hv).1
      exact lv_iinc hx hb hdg q1 hk (by rw [hn]) (by omega) rfl (fun lsB hB => kk ws tys H locs lsB stV hW (vL_st1 q2 q3 q6 (by omega) hB) hT (vSub2.rf _))
    · cases h
  · cases h

theorem vs_iadd (hx : p.tables.exec = Jvm.exec) (hb : c.code = cc) (hW : vW cl D A s b sa sv hp ws tys H locs) (hL : vL b sa sv (vAd ws) nL ls lsA) (hT : vT b sa sv (vAd ws) st stV) (hdg : decode cc pc = .ok (.iadd, 1)) (h : v2 vAdd (pc + 1) ls st hp = some (pc', ls', st', hp')) (kk : vK p l e R s m args below meth c Q cl D A b sa sv nL ws pc' ls' st' hp' cells slots) : W p l e R s m args below meth c H locs cells slots Q (F0 m pc lsA stV) := by
  obtain ⟨x, y, r, st0, rfl, hr, rfl, rfl, rfl, rfl⟩ := v2_ok h
  match stV, hT with
  | v :: [], hT => exact hT.2.elim
  | v :: w :: stV, hT =>
    obtain ⟨hy, hx1, hT⟩ := hT
    obtain ⟨⟨X, rfl⟩, Y, rfl⟩ := vB_ints hx1 hy hr
    have q6 := vB_ok (f := fun x y : Int32 => x + y) (fun u w hu hw => ⟨Nat.mod_lt _ (by decide), vn_add⟩) hx1 hy hr
    exact lv_iadd hx hb hdg (kk ws tys H locs lsA _ hW hL ⟨q6, hT⟩ (vSub2.rf _))

theorem vs_isub (hx : p.tables.exec = Jvm.exec) (hb : c.code = cc) (hW : vW cl D A s b sa sv hp ws tys H locs) (hL : vL b sa sv (vAd ws) nL ls lsA) (hT : vT b sa sv (vAd ws) st stV) (hdg : decode cc pc = .ok (.isub, 1)) (h : v2 vSub (pc + 1) ls st hp = some (pc', ls', st', hp')) (kk : vK p l e R s m args below meth c Q cl D A b sa sv nL ws pc' ls' st' hp' cells slots) : W p l e R s m args below meth c H locs cells slots Q (F0 m pc lsA stV) := by
  obtain ⟨x, y, r, st0, rfl, hr, rfl, rfl, rfl, rfl⟩ := v2_ok h
  match stV, hT with
  | v :: [], hT => exact hT.2.elim
  | v :: w :: stV, hT =>
    obtain ⟨hy, hx1, hT⟩ := hT
    obtain ⟨⟨X, rfl⟩, Y, rfl⟩ := vB_ints hx1 hy hr
    have q6 := vB_ok (f := fun x y : Int32 => x - y) (fun u w hu hw => ⟨Nat.mod_lt _ (by decide), vn_sub hu hw⟩) hx1 hy hr
    exact lv_isub hx hb hdg (kk ws tys H locs lsA _ hW hL ⟨q6, hT⟩ (vSub2.rf _))

theorem vs_imul (hx : p.tables.exec = Jvm.exec) (hb : c.code = cc) (hW : vW cl D A s b sa sv hp ws tys H locs) (hL : vL b sa sv (vAd ws) nL ls lsA) (hT : vT b sa sv (vAd ws) st stV) (hdg : decode cc pc = .ok (.imul, 1)) (h : v2 vMul (pc + 1) ls st hp = some (pc', ls', st', hp')) (kk : vK p l e R s m args below meth c Q cl D A b sa sv nL ws pc' ls' st' hp' cells slots) : W p l e R s m args below meth c H locs cells slots Q (F0 m pc lsA stV) := by
  obtain ⟨x, y, r, st0, rfl, hr, rfl, rfl, rfl, rfl⟩ := v2_ok h
  match stV, hT with
  | v :: [], hT => exact hT.2.elim
  | v :: w :: stV, hT =>
    obtain ⟨hy, hx1, hT⟩ := hT
    obtain ⟨⟨X, rfl⟩, Y, rfl⟩ := vB_ints hx1 hy hr
    have q6 := vB_ok (f := fun x y : Int32 => x * y) (fun u w hu hw => ⟨Nat.mod_lt _ (by decide), vn_mul⟩) hx1 hy hr
    exact lv_imul hx hb hdg (kk ws tys H locs lsA _ hW hL ⟨q6, hT⟩ (vSub2.rf _))

theorem vs_iand (hx : p.tables.exec = Jvm.exec) (hb : c.code = cc) (hW : vW cl D A s b sa sv hp ws tys H locs) (hL : vL b sa sv (vAd ws) nL ls lsA) (hT : vT b sa sv (vAd ws) st stV) (hdg : decode cc pc = .ok (.iand, 1)) (h : v2 Nat.land (pc + 1) ls st hp = some (pc', ls', st', hp')) (kk : vK p l e R s m args below meth c Q cl D A b sa sv nL ws pc' ls' st' hp' cells slots) : W p l e R s m args below meth c H locs cells slots Q (F0 m pc lsA stV) := by
  obtain ⟨x, y, r, st0, rfl, hr, rfl, rfl, rfl, rfl⟩ := v2_ok h
  match stV, hT with
  | v :: [], hT => exact hT.2.elim
  | v :: w :: stV, hT =>
    obtain ⟨hy, hx1, hT⟩ := hT
    obtain ⟨⟨X, rfl⟩, Y, rfl⟩ := vB_ints hx1 hy hr
    have q6 := vB_ok (f := fun x y : Int32 => x &&& y) (fun u w hu hw => ⟨Nat.and_lt_two_pow (n := 32) u hw, vn_and hu hw⟩) hx1 hy hr
    exact lv_iand hx hb hdg (kk ws tys H locs lsA _ hW hL ⟨q6, hT⟩ (vSub2.rf _))

theorem vs_ior (hx : p.tables.exec = Jvm.exec) (hb : c.code = cc) (hW : vW cl D A s b sa sv hp ws tys H locs) (hL : vL b sa sv (vAd ws) nL ls lsA) (hT : vT b sa sv (vAd ws) st stV) (hdg : decode cc pc = .ok (.ior, 1)) (h : v2 Nat.lor (pc + 1) ls st hp = some (pc', ls', st', hp')) (kk : vK p l e R s m args below meth c Q cl D A b sa sv nL ws pc' ls' st' hp' cells slots) : W p l e R s m args below meth c H locs cells slots Q (F0 m pc lsA stV) := by
  obtain ⟨x, y, r, st0, rfl, hr, rfl, rfl, rfl, rfl⟩ := v2_ok h
  match stV, hT with
  | v :: [], hT => exact hT.2.elim
  | v :: w :: stV, hT =>
    obtain ⟨hy, hx1, hT⟩ := hT
    obtain ⟨⟨X, rfl⟩, Y, rfl⟩ := vB_ints hx1 hy hr
    have q6 := vB_ok (f := fun x y : Int32 => x ||| y) (fun u w hu hw => ⟨Nat.or_lt_two_pow (n := 32) hu hw, vn_or hu hw⟩) hx1 hy hr
    exact lv_ior hx hb hdg (kk ws tys H locs lsA _ hW hL ⟨q6, hT⟩ (vSub2.rf _))

theorem vs_ixor (hx : p.tables.exec = Jvm.exec) (hb : c.code = cc) (hW : vW cl D A s b sa sv hp ws tys H locs) (hL : vL b sa sv (vAd ws) nL ls lsA) (hT : vT b sa sv (vAd ws) st stV) (hdg : decode cc pc = .ok (.ixor, 1)) (h : v2 Nat.xor (pc + 1) ls st hp = some (pc', ls', st', hp')) (kk : vK p l e R s m args below meth c Q cl D A b sa sv nL ws pc' ls' st' hp' cells slots) : W p l e R s m args below meth c H locs cells slots Q (F0 m pc lsA stV) := by
  obtain ⟨x, y, r, st0, rfl, hr, rfl, rfl, rfl, rfl⟩ := v2_ok h
  match stV, hT with
  | v :: [], hT => exact hT.2.elim
  | v :: w :: stV, hT =>
    obtain ⟨hy, hx1, hT⟩ := hT
    obtain ⟨⟨X, rfl⟩, Y, rfl⟩ := vB_ints hx1 hy hr
    have q6 := vB_ok (f := fun x y : Int32 => x ^^^ y) (fun u w hu hw => ⟨Nat.xor_lt_two_pow (n := 32) hu hw, vn_xor hu hw⟩) hx1 hy hr
    exact lv_ixor hx hb hdg (kk ws tys H locs lsA _ hW hL ⟨q6, hT⟩ (vSub2.rf _))

theorem vs_ishl (hx : p.tables.exec = Jvm.exec) (hb : c.code = cc) (hW : vW cl D A s b sa sv hp ws tys H locs) (hL : vL b sa sv (vAd ws) nL ls lsA) (hT : vT b sa sv (vAd ws) st stV) (hdg : decode cc pc = .ok (.ishl, 1)) (h : v2 vShl (pc + 1) ls st hp = some (pc', ls', st', hp')) (kk : vK p l e R s m args below meth c Q cl D A b sa sv nL ws pc' ls' st' hp' cells slots) : W p l e R s m args below meth c H locs cells slots Q (F0 m pc lsA stV) := by
  obtain ⟨x, y, r, st0, rfl, hr, rfl, rfl, rfl, rfl⟩ := v2_ok h
  match stV, hT with
  | v :: [], hT => exact hT.2.elim
  | v :: w :: stV, hT =>
    obtain ⟨hy, hx1, hT⟩ := hT
    obtain ⟨⟨X, rfl⟩, Y, rfl⟩ := vB_ints hx1 hy hr
    have q6 := vB_ok (f := fun x y : Int32 => x <<< (y &&& 31)) (fun u w hu hw => ⟨Nat.mod_lt _ (by decide), vn_shl hu hw⟩) hx1 hy hr
    exact lv_ishl hx hb hdg (kk ws tys H locs lsA _ hW hL ⟨q6, hT⟩ (vSub2.rf _))

theorem vs_iushr (hx : p.tables.exec = Jvm.exec) (hb : c.code = cc) (hW : vW cl D A s b sa sv hp ws tys H locs) (hL : vL b sa sv (vAd ws) nL ls lsA) (hT : vT b sa sv (vAd ws) st stV) (hdg : decode cc pc = .ok (.iushr, 1)) (h : v2 vUsh (pc + 1) ls st hp = some (pc', ls', st', hp')) (kk : vK p l e R s m args below meth c Q cl D A b sa sv nL ws pc' ls' st' hp' cells slots) : W p l e R s m args below meth c H locs cells slots Q (F0 m pc lsA stV) := by
  obtain ⟨x, y, r, st0, rfl, hr, rfl, rfl, rfl, rfl⟩ := v2_ok h
  match stV, hT with
  | v :: [], hT => exact hT.2.elim
  | v :: w :: stV, hT =>
    obtain ⟨hy, hx1, hT⟩ := hT
    obtain ⟨⟨X, rfl⟩, Y, rfl⟩ := vB_ints hx1 hy hr
    have q6 := vB_ok (f := fun x y : Int32 => (x.toUInt32 >>> (y.toUInt32 &&& Int32.toUInt32 31)).toInt32) (fun u w hu hw => ⟨Nat.lt_of_le_of_lt (Nat.div_le_self _ _) hu, vn_ush hu hw⟩) hx1 hy hr
    exact lv_iushr hx hb hdg rfl (kk ws tys H locs lsA _ hW hL ⟨q6, hT⟩ (vSub2.rf _))

theorem vs_idiv (hx : p.tables.exec = Jvm.exec) (hb : c.code = cc) (hW : vW cl D A s b sa sv hp ws tys H locs) (hL : vL b sa sv (vAd ws) nL ls lsA) (hT : vT b sa sv (vAd ws) st stV) (hdg : decode cc pc = .ok (.idiv, 1)) (h : v2d Nat.div (pc + 1) ls st hp = some (pc', ls', st', hp')) (kk : vK p l e R s m args below meth c Q cl D A b sa sv nL ws pc' ls' st' hp' cells slots) : W p l e R s m args below meth c H locs cells slots Q (F0 m pc lsA stV) := by
  unfold v2d at h
  split at h
  · next w u st0 =>
    cases hk : (Nat.blt u 2147483648 && Nat.blt w 2147483648 && Nat.blt 0 w) with
    | false =>
      rw [hk] at h
      cases h
    | true =>
      rw [hk, cond_true, vF_eq] at h
      cases h
      rw [Bool.and_eq_true, Bool.and_eq_true] at hk
      have hu : u < 2 ^ 31 := Nat.blt_eq.mp hk.1.1
      have hw : w < 2 ^ 31 := Nat.blt_eq.mp hk.1.2
      have hw0 : 0 < w := Nat.blt_eq.mp hk.2
      match stV, hT with
      | v :: [], hT => exact hT.2.elim
      | v :: v2 :: stV, hT =>
        obtain ⟨⟨-, rfl⟩, ⟨-, rfl⟩, hT⟩ := hT
        refine lv_idiv hx hb hdg (nI_ne0 hw0 hw) ?_
        rw [pk_div hu hw0 hw]
        exact kk ws tys H locs lsA _ hW hL ⟨⟨Nat.lt_of_le_of_lt (Nat.div_le_self _ _) (by omega), rfl⟩, hT⟩ (vSub2.rf _)
  · cases h

theorem vs_irem (hx : p.tables.exec = Jvm.exec) (hb : c.code = cc) (hW : vW cl D A s b sa sv hp ws tys H locs) (hL : vL b sa sv (vAd ws) nL ls lsA) (hT : vT b sa sv (vAd ws) st stV) (hdg : decode cc pc = .ok (.irem, 1)) (h : v2d Nat.mod (pc + 1) ls st hp = some (pc', ls', st', hp')) (kk : vK p l e R s m args below meth c Q cl D A b sa sv nL ws pc' ls' st' hp' cells slots) : W p l e R s m args below meth c H locs cells slots Q (F0 m pc lsA stV) := by
  unfold v2d at h
  split at h
  · next w u st0 =>
    cases hk : (Nat.blt u 2147483648 && Nat.blt w 2147483648 && Nat.blt 0 w) with
    | false =>
      rw [hk] at h
      cases h
    | true =>
      rw [hk, cond_true, vF_eq] at h
      cases h
      rw [Bool.and_eq_true, Bool.and_eq_true] at hk
      have hu : u < 2 ^ 31 := Nat.blt_eq.mp hk.1.1
      have hw : w < 2 ^ 31 := Nat.blt_eq.mp hk.1.2
      have hw0 : 0 < w := Nat.blt_eq.mp hk.2
      match stV, hT with
      | v :: [], hT => exact hT.2.elim
      | v :: v2 :: stV, hT =>
        obtain ⟨⟨-, rfl⟩, ⟨-, rfl⟩, hT⟩ := hT
        refine lv_irem hx hb hdg (nI_ne0 hw0 hw) ?_
        rw [pk_rem hu hw0 hw]
        exact kk ws tys H locs lsA _ hW hL ⟨⟨Nat.lt_of_le_of_lt (Nat.mod_le _ _) (by omega), rfl⟩, hT⟩ (vSub2.rf _)
  · cases h

theorem vs_goto (hx : p.tables.exec = Jvm.exec) (hb : c.code = cc) (hW : vW cl D A s b sa sv hp ws tys H locs) (hL : vL b sa sv (vAd ws) nL ls lsA) (hT : vT b sa sv (vAd ws) st stV) {off : Int} {a : Nat} (hdg : decode cc pc = .ok (.goto off, 3)) (ht : (pc : Int) + off = (a : Int)) (h : (some (a, ls, st, hp) : vR) = some (pc', ls', st', hp')) (kk : vK p l e R s m args below meth c Q cl D A b sa sv nL ws pc' ls' st' hp' cells slots) : W p l e R s m args below meth c H locs cells slots Q (F0 m pc lsA stV) := by
  cases h
  exact lv_goto hx hb hdg ht (kk ws tys H locs lsA stV hW hL hT (vSub2.rf _))

theorem vs_if_eq (hx : p.tables.exec = Jvm.exec) (hb : c.code = cc) (hW : vW cl D A s b sa sv hp ws tys H locs) (hL : vL b sa sv (vAd ws) nL ls lsA) (hT : vT b sa sv (vAd ws) st stV) {off : Int} {a : Nat} (hdg : decode cc pc = .ok (.ifCond .eq off, 3)) (ht : (pc : Int) + off = (a : Int)) (h : vIf vEq (pc + 3) a ls st hp = some (pc', ls', st', hp')) (kk : vK p l e R s m args below meth c Q cl D A b sa sv nL ws pc' ls' st' hp' cells slots) : W p l e R s m args below meth c H locs cells slots Q (F0 m pc lsA stV) := by
  obtain ⟨x, q, rfl, hq, rfl, rfl, hf⟩ := vIf_ok h
  match stV, hT with
  | v :: stV, hT =>
    obtain ⟨hx1, hT⟩ := hT
    obtain ⟨X, rfl, x1, x2⟩ := vIv_ok hx1 hq
    have z0 : (0 : Int32).toInt = 0 := rfl
    have K := kk ws tys H locs lsA stV hW hL hT (vSub2.rf _)
    rcases hf with ⟨hf, rfl⟩ | ⟨hf, rfl⟩
    · have hf := vEq_t hf
      have hc : X = 0 := by
        rw [← Int32.toInt_inj]
        simp only [z0] at *
        omega
      exact lv_if_eq hx hb hdg ht (fun _ => K) (fun z => absurd hc z)
    · have hf := vEq_f hf
      have hc : ¬ X = 0 := by
        intro z
        rw [← Int32.toInt_inj] at z
        simp only [z0] at *
        omega
      exact lv_if_eq hx hb hdg ht (fun z => absurd z hc) (fun _ => K)

theorem vs_if_ne (hx : p.tables.exec = Jvm.exec) (hb : c.code = cc) (hW : vW cl D A s b sa sv hp ws tys H locs) (hL : vL b sa sv (vAd ws) nL ls lsA) (hT : vT b sa sv (vAd ws) st stV) {off : Int} {a : Nat} (hdg : decode cc pc = .ok (.ifCond .ne off, 3)) (ht : (pc : Int) + off = (a : Int)) (h : vIf (fun x y => vNot (vEq x y)) (pc + 3) a ls st hp = some (pc', ls', st', hp')) (kk : vK p l e R s m args below meth c Q cl D A b sa sv nL ws pc' ls' st' hp' cells slots) : W p l e R s m args below meth c H locs cells slots Q (F0 m pc lsA stV) := by
  obtain ⟨x, q, rfl, hq, rfl, rfl, hf⟩ := vIf_ok h
  match stV, hT with
  | v :: stV, hT =>
    obtain ⟨hx1, hT⟩ := hT
    obtain ⟨X, rfl, x1, x2⟩ := vIv_ok hx1 hq
    have z0 : (0 : Int32).toInt = 0 := rfl
    have K := kk ws tys H locs lsA stV hW hL hT (vSub2.rf _)
    rcases hf with ⟨hf, rfl⟩ | ⟨hf, rfl⟩
    · have hf := vEq_f (vNot_t hf)
      have hc : ¬ X = 0 := by
        intro z
        rw [← Int32.toInt_inj] at z
        simp only [z0] at *
        omega
      exact lv_if_ne hx hb hdg ht (fun _ => K) (fun z => absurd z hc)
    · have hf := vEq_t (vNot_f hf)
      have hc : X = 0 := by
        rw [← Int32.toInt_inj]
        simp only [z0] at *
        omega
      exact lv_if_ne hx hb hdg ht (fun z => absurd hc z) (fun _ => K)

theorem vs_if_lt (hx : p.tables.exec = Jvm.exec) (hb : c.code = cc) (hW : vW cl D A s b sa sv hp ws tys H locs) (hL : vL b sa sv (vAd ws) nL ls lsA) (hT : vT b sa sv (vAd ws) st stV) {off : Int} {a : Nat} (hdg : decode cc pc = .ok (.ifCond .lt off, 3)) (ht : (pc : Int) + off = (a : Int)) (h : vIf vLt (pc + 3) a ls st hp = some (pc', ls', st', hp')) (kk : vK p l e R s m args below meth c Q cl D A b sa sv nL ws pc' ls' st' hp' cells slots) : W p l e R s m args below meth c H locs cells slots Q (F0 m pc lsA stV) := by
  obtain ⟨x, q, rfl, hq, rfl, rfl, hf⟩ := vIf_ok h
  match stV, hT with
  | v :: stV, hT =>
    obtain ⟨hx1, hT⟩ := hT
    obtain ⟨X, rfl, x1, x2⟩ := vIv_ok hx1 hq
    have z0 : (0 : Int32).toInt = 0 := rfl
    have K := kk ws tys H locs lsA stV hW hL hT (vSub2.rf _)
    rcases hf with ⟨hf, rfl⟩ | ⟨hf, rfl⟩
    · have hf := vLt_t hf
      have hc : X < 0 := by
        rw [Int32.lt_iff_toInt_lt]
        simp only [z0] at *
        omega
      exact lv_if_lt hx hb hdg ht (fun _ => K) (fun z => absurd hc z)
    · have hf := vLt_f hf
      have hc : ¬ X < 0 := by
        intro z
        rw [Int32.lt_iff_toInt_lt] at z
        simp only [z0] at *
        omega
      exact lv_if_lt hx hb hdg ht (fun z => absurd z hc) (fun _ => K)

theorem vs_if_ge (hx : p.tables.exec = Jvm.exec) (hb : c.code = cc) (hW : vW cl D A s b sa sv hp ws tys H locs) (hL : vL b sa sv (vAd ws) nL ls lsA) (hT : vT b sa sv (vAd ws) st stV) {off : Int} {a : Nat} (hdg : decode cc pc = .ok (.ifCond .ge off, 3)) (ht : (pc : Int) + off = (a : Int)) (h : vIf (fun x y => vNot (vLt x y)) (pc + 3) a ls st hp = some (pc', ls', st', hp')) (kk : vK p l e R s m args below meth c Q cl D A b sa sv nL ws pc' ls' st' hp' cells slots) : W p l e R s m args below meth c H locs cells slots Q (F0 m pc lsA stV) := by
  obtain ⟨x, q, rfl, hq, rfl, rfl, hf⟩ := vIf_ok h
  match stV, hT with
  | v :: stV, hT =>
    obtain ⟨hx1, hT⟩ := hT
    obtain ⟨X, rfl, x1, x2⟩ := vIv_ok hx1 hq
    have z0 : (0 : Int32).toInt = 0 := rfl
    have K := kk ws tys H locs lsA stV hW hL hT (vSub2.rf _)
    rcases hf with ⟨hf, rfl⟩ | ⟨hf, rfl⟩
    · have hf := vLt_f (vNot_t hf)
      have hc : 0 ≤ X := by
        rw [Int32.le_iff_toInt_le]
        simp only [z0] at *
        omega
      exact lv_if_ge hx hb hdg ht (fun _ => K) (fun z => absurd hc z)
    · have hf := vLt_t (vNot_f hf)
      have hc : ¬ 0 ≤ X := by
        intro z
        rw [Int32.le_iff_toInt_le] at z
        simp only [z0] at *
        omega
      exact lv_if_ge hx hb hdg ht (fun z => absurd z hc) (fun _ => K)

theorem vs_if_gt (hx : p.tables.exec = Jvm.exec) (hb : c.code = cc) (hW : vW cl D A s b sa sv hp ws tys H locs) (hL : vL b sa sv (vAd ws) nL ls lsA) (hT : vT b sa sv (vAd ws) st stV) {off : Int} {a : Nat} (hdg : decode cc pc = .ok (.ifCond .gt off, 3)) (ht : (pc : Int) + off = (a : Int)) (h : vIf (fun x y => vLt y x) (pc + 3) a ls st hp = some (pc', ls', st', hp')) (kk : vK p l e R s m args below meth c Q cl D A b sa sv nL ws pc' ls' st' hp' cells slots) : W p l e R s m args below meth c H locs cells slots Q (F0 m pc lsA stV) := by
  obtain ⟨x, q, rfl, hq, rfl, rfl, hf⟩ := vIf_ok h
  match stV, hT with
  | v :: stV, hT =>
    obtain ⟨hx1, hT⟩ := hT
    obtain ⟨X, rfl, x1, x2⟩ := vIv_ok hx1 hq
    have z0 : (0 : Int32).toInt = 0 := rfl
    have K := kk ws tys H locs lsA stV hW hL hT (vSub2.rf _)
    rcases hf with ⟨hf, rfl⟩ | ⟨hf, rfl⟩
    · have hf := vLt_t hf
      have hc : 0 < X := by
        rw [Int32.lt_iff_toInt_lt]
        simp only [z0] at *
        omega
      exact lv_if_gt hx hb hdg ht (fun _ => K) (fun z => absurd hc z)
    · have hf := vLt_f hf
      have hc : ¬ 0 < X := by
        intro z
        rw [Int32.lt_iff_toInt_lt] at z
        simp only [z0] at *
        omega
      exact lv_if_gt hx hb hdg ht (fun z => absurd z hc) (fun _ => K)

theorem vs_if_le (hx : p.tables.exec = Jvm.exec) (hb : c.code = cc) (hW : vW cl D A s b sa sv hp ws tys H locs) (hL : vL b sa sv (vAd ws) nL ls lsA) (hT : vT b sa sv (vAd ws) st stV) {off : Int} {a : Nat} (hdg : decode cc pc = .ok (.ifCond .le off, 3)) (ht : (pc : Int) + off = (a : Int)) (h : vIf (fun x y => vNot (vLt y x)) (pc + 3) a ls st hp = some (pc', ls', st', hp')) (kk : vK p l e R s m args below meth c Q cl D A b sa sv nL ws pc' ls' st' hp' cells slots) : W p l e R s m args below meth c H locs cells slots Q (F0 m pc lsA stV) := by
  obtain ⟨x, q, rfl, hq, rfl, rfl, hf⟩ := vIf_ok h
  match stV, hT with
  | v :: stV, hT =>
    obtain ⟨hx1, hT⟩ := hT
    obtain ⟨X, rfl, x1, x2⟩ := vIv_ok hx1 hq
    have z0 : (0 : Int32).toInt = 0 := rfl
    have K := kk ws tys H locs lsA stV hW hL hT (vSub2.rf _)
    rcases hf with ⟨hf, rfl⟩ | ⟨hf, rfl⟩
    · have hf := vLt_f (vNot_t hf)
      have hc : X ≤ 0 := by
        rw [Int32.le_iff_toInt_le]
        simp only [z0] at *
        omega
      exact lv_if_le hx hb hdg ht (fun _ => K) (fun z => absurd hc z)
    · have hf := vLt_t (vNot_f hf)
      have hc : ¬ X ≤ 0 := by
        intro z
        rw [Int32.le_iff_toInt_le] at z
        simp only [z0] at *
        omega
      exact lv_if_le hx hb hdg ht (fun z => absurd z hc) (fun _ => K)

theorem vs_ic_eq (hx : p.tables.exec = Jvm.exec) (hb : c.code = cc) (hW : vW cl D A s b sa sv hp ws tys H locs) (hL : vL b sa sv (vAd ws) nL ls lsA) (hT : vT b sa sv (vAd ws) st stV) {off : Int} {a : Nat} (hdg : decode cc pc = .ok (.if_icmp .eq off, 3)) (ht : (pc : Int) + off = (a : Int)) (h : vIc vEq (pc + 3) a ls st hp = some (pc', ls', st', hp')) (kk : vK p l e R s m args below meth c Q cl D A b sa sv nL ws pc' ls' st' hp' cells slots) : W p l e R s m args below meth c H locs cells slots Q (F0 m pc lsA stV) := by
  obtain ⟨x, y, q, q', rfl, hq, hq', rfl, rfl, hf⟩ := vIc_ok h
  match stV, hT with
  | v :: [], hT => exact hT.2.elim
  | v :: w :: stV, hT =>
    obtain ⟨hy1, hx1, hT⟩ := hT
    obtain ⟨X, rfl, x1, x2⟩ := vIv_ok hx1 hq
    obtain ⟨Y, rfl, y1, y2⟩ := vIv_ok hy1 hq'
    have z0 : (0 : Int32).toInt = 0 := rfl
    have K := kk ws tys H locs lsA stV hW hL hT (vSub2.rf _)
    rcases hf with ⟨hf, rfl⟩ | ⟨hf, rfl⟩
    · have hf := vEq_t hf
      have hc : X = Y := by
        rw [← Int32.toInt_inj]
        simp only [z0] at *
        omega
      exact lv_icmp_eq hx hb hdg ht (fun _ => K) (fun z => absurd hc z)
    · have hf := vEq_f hf
      have hc : ¬ X = Y := by
        intro z
        rw [← Int32.toInt_inj] at z
        simp only [z0] at *
        omega
      exact lv_icmp_eq hx hb hdg ht (fun z => absurd z hc) (fun _ => K)

theorem vs_ic_ne (hx : p.tables.exec = Jvm.exec) (hb : c.code = cc) (hW : vW cl D A s b sa sv hp ws tys H locs) (hL : vL b sa sv (vAd ws) nL ls lsA) (hT : vT b sa sv (vAd ws) st stV) {off : Int} {a : Nat} (hdg : decode cc pc = .ok (.if_icmp .ne off, 3)) (ht : (pc : Int) + off = (a : Int)) (h : vIc (fun x y => vNot (vEq x y)) (pc + 3) a ls st hp = some (pc', ls', st', hp')) (kk : vK p l e R s m args below meth c Q cl D A b sa sv nL ws pc' ls' st' hp' cells slots) : W p l e R s m args below meth c H locs cells slots Q (F0 m pc lsA stV) := by
  obtain ⟨x, y, q, q', rfl, hq, hq', rfl, rfl, hf⟩ := vIc_ok h
  match stV, hT with
  | v :: [], hT => exact hT.2.elim
  | v :: w :: stV, hT =>
    obtain ⟨hy1, hx1, hT⟩ := hT
    obtain ⟨X, rfl, x1, x2⟩ := vIv_ok hx1 hq
    obtain ⟨Y, rfl, y1, y2⟩ := vIv_ok hy1 hq'
    have z0 : (0 : Int32).toInt = 0 := rfl
    have K := kk ws tys H locs lsA stV hW hL hT (vSub2.rf _)
    rcases hf with ⟨hf, rfl⟩ | ⟨hf, rfl⟩
    · have hf := vEq_f (vNot_t hf)
      have hc : ¬ X = Y := by
        intro z
        rw [← Int32.toInt_inj] at z
        simp only [z0] at *
        omega
      exact lv_icmp_ne hx hb hdg ht (fun _ => K) (fun z => absurd z hc)
    · have hf := vEq_t (vNot_f hf)
      have hc : X = Y := by
        rw [← Int32.toInt_inj]
        simp only [z0] at *
        omega
      exact lv_icmp_ne hx hb hdg ht (fun z => absurd hc z) (fun _ => K)

theorem vs_ic_lt (hx : p.tables.exec = Jvm.exec) (hb : c.code = cc) (hW : vW cl D A s b sa sv hp ws tys H locs) (hL : vL b sa sv (vAd ws) nL ls lsA) (hT : vT b sa sv (vAd ws) st stV) {off : Int} {a : Nat} (hdg : decode cc pc = .ok (.if_icmp .lt off, 3)) (ht : (pc : Int) + off = (a : Int)) (h : vIc vLt (pc + 3) a ls st hp = some (pc', ls', st', hp')) (kk : vK p l e R s m args below meth c Q cl D A b sa sv nL ws pc' ls' st' hp' cells slots) : W p l e R s m args below meth c H locs cells slots Q (F0 m pc lsA stV) := by
  obtain ⟨x, y, q, q', rfl, hq, hq', rfl, rfl, hf⟩ := vIc_ok h
  match stV, hT with
  | v :: [], hT => exact hT.2.elim
  | v :: w :: stV, hT =>
    obtain ⟨hy1, hx1, hT⟩ := hT
    obtain ⟨X, rfl, x1, x2⟩ := vIv_ok hx1 hq
    obtain ⟨Y, rfl, y1, y2⟩ := vIv_ok hy1 hq'
    have z0 : (0 : Int32).toInt = 0 := rfl
    have K := kk ws tys H locs lsA stV hW hL hT (vSub2.rf _)
    rcases hf with ⟨hf, rfl⟩ | ⟨hf, rfl⟩
    · have hf := vLt_t hf
      have hc : X < Y := by
        rw [Int32.lt_iff_toInt_lt]
        simp only [z0] at *
        omega
      exact lv_icmp_lt hx hb hdg ht (fun _ => K) (fun z => absurd hc z)
    · have hf := vLt_f hf
      have hc : ¬ X < Y := by
        intro z
        rw [Int32.lt_iff_toInt_lt] at z
        simp only [z0] at *
        omega
      exact lv_icmp_lt hx hb hdg ht (fun z => absurd z hc) (fun _ => K)

theorem vs_ic_ge (hx : p.tables.exec = Jvm.exec) (hb : c.code = cc) (hW : vW cl D A s b sa sv hp ws tys H locs) (hL : vL b sa sv (vAd ws) nL ls lsA) (hT : vT b sa sv (vAd ws) st stV) {off : Int} {a : Nat} (hdg : decode cc pc = .ok (.if_icmp .ge off, 3)) (ht : (pc : Int) + off = (a : Int)) (h : vIc (fun x y => vNot (vLt x y)) (pc + 3) a ls st hp = some (pc', ls', st', hp')) (kk : vK p l e R s m args below meth c Q cl D A b sa sv nL ws pc' ls' st' hp' cells slots) : W p l e R s m args below meth c H locs cells slots Q (F0 m pc lsA stV) := by
  obtain ⟨x, y, q, q', rfl, hq, hq', rfl, rfl, hf⟩ := vIc_ok h
  match stV, hT with
  | v :: [], hT => exact hT.2.elim
  | v :: w :: stV, hT =>
    obtain ⟨hy1, hx1, hT⟩ := hT
    obtain ⟨X, rfl, x1, x2⟩ := vIv_ok hx1 hq
    obtain ⟨Y, rfl, y1, y2⟩ := vIv_ok hy1 hq'
    have z0 : (0 : Int32).toInt = 0 := rfl
    have K := kk ws tys H locs lsA stV hW hL hT (vSub2.rf _)
    rcases hf with ⟨hf, rfl⟩ | ⟨hf, rfl⟩
    · have hf := vLt_f (vNot_t hf)
      have hc : Y ≤ X := by
        rw [Int32.le_iff_toInt_le]
        simp only [z0] at *
        omega
      exact lv_icmp_ge hx hb hdg ht (fun _ => K) (fun z => absurd hc z)
    · have hf := vLt_t (vNot_f hf)
      have hc : ¬ Y ≤ X := by
        intro z
        rw [Int32.le_iff_toInt_le] at z
        simp only [z0] at *
        omega
      exact lv_icmp_ge hx hb hdg ht (fun z => absurd z hc) (fun _ => K)

theorem vs_ic_gt (hx : p.tables.exec = Jvm.exec) (hb : c.code = cc) (hW : vW cl D A s b sa sv hp ws tys H locs) (hL : vL b sa sv (vAd ws) nL ls lsA) (hT : vT b sa sv (vAd ws) st stV) {off : Int} {a : Nat} (hdg : decode cc pc = .ok (.if_icmp .gt off, 3)) (ht : (pc : Int) + off = (a : Int)) (h : vIc (fun x y => vLt y x) (pc + 3) a ls st hp = some (pc', ls', st', hp')) (kk : vK p l e R s m args below meth c Q cl D A b sa sv nL ws pc' ls' st' hp' cells slots) : W p l e R s m args below meth c H locs cells slots Q (F0 m pc lsA stV) := by
  obtain ⟨x, y, q, q', rfl, hq, hq', rfl, rfl, hf⟩ := vIc_ok h
  match stV, hT with
  | v :: [], hT => exact hT.2.elim
  | v :: w :: stV, hT =>
    obtain ⟨hy1, hx1, hT⟩ := hT
    obtain ⟨X, rfl, x1, x2⟩ := vIv_ok hx1 hq
    obtain ⟨Y, rfl, y1, y2⟩ := vIv_ok hy1 hq'
    have z0 : (0 : Int32).toInt = 0 := rfl
    have K := kk ws tys H locs lsA stV hW hL hT (vSub2.rf _)
    rcases hf with ⟨hf, rfl⟩ | ⟨hf, rfl⟩
    · have hf := vLt_t hf
      have hc : Y < X := by
        rw [Int32.lt_iff_toInt_lt]
        simp only [z0] at *
        omega
      exact lv_icmp_gt hx hb hdg ht (fun _ => K) (fun z => absurd hc z)
    · have hf := vLt_f hf
      have hc : ¬ Y < X := by
        intro z
        rw [Int32.lt_iff_toInt_lt] at z
        simp only [z0] at *
        omega
      exact lv_icmp_gt hx hb hdg ht (fun z => absurd z hc) (fun _ => K)

theorem vs_ic_le (hx : p.tables.exec = Jvm.exec) (hb : c.code = cc) (hW : vW cl D A s b sa sv hp ws tys H locs) (hL : vL b sa sv (vAd ws) nL ls lsA) (hT : vT b sa sv (vAd ws) st stV) {off : Int} {a : Nat} (hdg : decode cc pc = .ok (.if_icmp .le off, 3)) (ht : (pc : Int) + off = (a : Int)) (h : vIc (fun x y => vNot (vLt y x)) (pc + 3) a ls st hp = some (pc', ls', st', hp')) (kk : vK p l e R s m args below meth c Q cl D A b sa sv nL ws pc' ls' st' hp' cells slots) : W p l e R s m args below meth c H locs cells slots Q (F0 m pc lsA stV) := by
  obtain ⟨x, y, q, q', rfl, hq, hq', rfl, rfl, hf⟩ := vIc_ok h
  match stV, hT with
  | v :: [], hT => exact hT.2.elim
  | v :: w :: stV, hT =>
    obtain ⟨hy1, hx1, hT⟩ := hT
    obtain ⟨X, rfl, x1, x2⟩ := vIv_ok hx1 hq
    obtain ⟨Y, rfl, y1, y2⟩ := vIv_ok hy1 hq'
    have z0 : (0 : Int32).toInt = 0 := rfl
    have K := kk ws tys H locs lsA stV hW hL hT (vSub2.rf _)
    rcases hf with ⟨hf, rfl⟩ | ⟨hf, rfl⟩
    · have hf := vLt_f (vNot_t hf)
      have hc : X ≤ Y := by
        rw [Int32.le_iff_toInt_le]
        simp only [z0] at *
        omega
      exact lv_icmp_le hx hb hdg ht (fun _ => K) (fun z => absurd hc z)
    · have hf := vLt_t (vNot_f hf)
      have hc : ¬ X ≤ Y := by
        intro z
        rw [Int32.le_iff_toInt_le] at z
        simp only [z0] at *
        omega
      exact lv_icmp_le hx hb hdg ht (fun z => absurd z hc) (fun _ => K)

end VS1
end
section
/-! ===== a step of the machine is a step of the JVM: objects, arrays ===== -/
theorem vin {u n : Nat} (h : u < n) (hu : u < 65536) : vp_in (nI u) n := by
  rintro (h1 | h1)
  · exact nI_pos (by omega) h1
  · rw [nI_clamp (by omega)] at h1
    omega
theorem vCl {u : Nat} (hu : u < 65536) : (nI u).toNatClampNeg = u := nI_clamp (by omega)
section VCx
variable {cl : List vw_C} {b sa sv : Nat} {ad : List Nat} {tys : List (ClassId × FieldType)} {o : vOb} {e : va_E}
theorem vC_0 (h : vC cl b sa sv ad tys o e) (h0 : o.1 % 8 = 0) : ∃ fs : List Value, e = .inr (o.1 / 8, fs) ∧ fs.length = o.2.length ∧ ∀ (j : Nat) (c : vAV), o.2[j]? = some c → ∃ v, fs[j]? = some v ∧ vG b sa sv ad c v := by
  unfold vC at h
  rw [h0] at h
  exact h
theorem vC_0i (h0 : o.1 % 8 = 0) (h : ∃ fs : List Value, e = .inr (o.1 / 8, fs) ∧ fs.length = o.2.length ∧ ∀ (j : Nat) (c : vAV), o.2[j]? = some c → ∃ v, fs[j]? = some v ∧ vG b sa sv ad c v) : vC cl b sa sv ad tys o e := by
  unfold vC
  rw [h0]
  exact h

theorem vC_1 (h : vC cl b sa sv ad tys o e) (h0 : o.1 % 8 = 1) : ∃ (cA : ClassId) (f : Nat → Int32) (t0 : Nat), e = .inl (cA, o.2.length, .inl f) ∧ tys[t0]? = some (cA, .int) ∧ ∀ (j : Nat) (c : vAV), o.2[j]? = some c → vG b sa sv ad c (.int (f j)) := by
  unfold vC at h
  rw [h0] at h
  exact h
theorem vC_1i (h0 : o.1 % 8 = 1) (h : ∃ (cA : ClassId) (f : Nat → Int32) (t0 : Nat), e = .inl (cA, o.2.length, .inl f) ∧ tys[t0]? = some (cA, .int) ∧ ∀ (j : Nat) (c : vAV), o.2[j]? = some c → vG b sa sv ad c (.int (f j))) : vC cl b sa sv ad tys o e := by
  unfold vC
  rw [h0]
  exact h

theorem vC_2 (h : vC cl b sa sv ad tys o e) (h0 : o.1 % 8 = 2) : ∃ (cA : ClassId) (f : Nat → Int32) (t0 : Nat), e = .inl (cA, o.2.length, .inl f) ∧ tys[t0]? = some (cA, .byte) ∧ ∀ (j : Nat) (c : vAV), o.2[j]? = some c → vG b sa sv ad c (.int (f j)) := by
  unfold vC at h
  rw [h0] at h
  exact h
theorem vC_2i (h0 : o.1 % 8 = 2) (h : ∃ (cA : ClassId) (f : Nat → Int32) (t0 : Nat), e = .inl (cA, o.2.length, .inl f) ∧ tys[t0]? = some (cA, .byte) ∧ ∀ (j : Nat) (c : vAV), o.2[j]? = some c → vG b sa sv ad c (.int (f j))) : vC cl b sa sv ad tys o e := by
  unfold vC
  rw [h0]
  exact h

theorem vC_3 (h : vC cl b sa sv ad tys o e) (h0 : o.1 % 8 = 3) : ∃ (cA : ClassId) (f : Nat → Int32) (t0 : Nat), e = .inl (cA, o.2.length, .inl f) ∧ tys[t0]? = some (cA, .boolean) ∧ ∀ (j : Nat) (c : vAV), o.2[j]? = some c → vG b sa sv ad c (.int (f j)) := by
  unfold vC at h
  rw [h0] at h
  exact h
theorem vC_3i (h0 : o.1 % 8 = 3) (h : ∃ (cA : ClassId) (f : Nat → Int32) (t0 : Nat), e = .inl (cA, o.2.length, .inl f) ∧ tys[t0]? = some (cA, .boolean) ∧ ∀ (j : Nat) (c : vAV), o.2[j]? = some c → vG b sa sv ad c (.int (f j))) : vC cl b sa sv ad tys o e := by
  unfold vC
  rw [h0]
  exact h

theorem vC_4 (h : vC cl b sa sv ad tys o e) (h0 : o.1 % 8 = 4) : ∃ (cA : ClassId) (f : Nat → Int64) (t0 : Nat), e = .inl (cA, o.2.length, .inr (.inl f)) ∧ tys[t0]? = some (cA, .long) ∧ ∀ (j : Nat) (c : vAV), o.2[j]? = some c → vG b sa sv ad c (.long (f j)) := by
  unfold vC at h
  rw [h0] at h
  exact h
theorem vC_4i (h0 : o.1 % 8 = 4) (h : ∃ (cA : ClassId) (f : Nat → Int64) (t0 : Nat), e = .inl (cA, o.2.length, .inr (.inl f)) ∧ tys[t0]? = some (cA, .long) ∧ ∀ (j : Nat) (c : vAV), o.2[j]? = some c → vG b sa sv ad c (.long (f j))) : vC cl b sa sv ad tys o e := by
  unfold vC
  rw [h0]
  exact h

theorem vC_5 (h : vC cl b sa sv ad tys o e) (h0 : o.1 % 8 = 5) : ∃ (cA : ClassId) (f : Nat → Option Nat) (t0 : Nat) (r : vw_C), e = .inl (cA, o.2.length, .inr (.inr (.inr (.inr f)))) ∧ cl[o.1 / 8]? = some r ∧ tys[t0]? = some (cA, .object r.1) ∧ ∀ (j : Nat) (c : vAV), o.2[j]? = some c → vG b sa sv ad c (va_rf (f j)) := by
  unfold vC at h
  rw [h0] at h
  exact h
theorem vC_5i (h0 : o.1 % 8 = 5) (h : ∃ (cA : ClassId) (f : Nat → Option Nat) (t0 : Nat) (r : vw_C), e = .inl (cA, o.2.length, .inr (.inr (.inr (.inr f)))) ∧ cl[o.1 / 8]? = some r ∧ tys[t0]? = some (cA, .object r.1) ∧ ∀ (j : Nat) (c : vAV), o.2[j]? = some c → vG b sa sv ad c (va_rf (f j))) : vC cl b sa sv ad tys o e := by
  unfold vC
  rw [h0]
  exact h

end VCx
theorem vBx {a b : Bool} (h : (a && b) = true) : a = true ∧ b = true := by rw [Bool.and_eq_true] at h; exact h
theorem vGf_ok {a b t pc1 pc' : Nat} {ls ls' : vLs} {st st' : List vAV} {hp hp' : List vOb} (ht : t < 7) (h : vGf a b t pc1 ls st hp = some (pc', ls', st', hp')) : ∃ k st0 o v, st = .inr (.inr (.inr (.inl (some k)))) :: st0 ∧ hp[k]? = some o ∧ o.1 = 8 * a ∧ o.2[b]? = some v ∧ pc' = pc1 ∧ ls' = ls ∧ st' = v :: st0 ∧ hp' = hp := by
  unfold vGf at h
  split at h
  · next k st0 =>
    split at h
    · next o ho =>
      rw [vNth_eq] at ho
      cases hk : (Nat.beq o.1 (8 * a) && Nat.blt t 7) with
      | false =>
        rw [hk] at h
        cases h
      | true =>
        rw [hk] at h
        have hk := vBx hk
        rw [cond_true] at h
        split at h
        · next v hv =>
          rw [vNth_eq] at hv
          cases h
          exact ⟨k, st0, o, v, rfl, ho, Nat.eq_of_beq_eq_true hk.1, hv, rfl, rfl, rfl, rfl⟩
        · cases h
    · cases h
  · next st0 =>
    cases h1 : Nat.beq t 7 with
    | true => have := Nat.eq_of_beq_eq_true h1; omega
    | false =>
      cases h2 : Nat.beq t 8 with
      | true => have := Nat.eq_of_beq_eq_true h2; omega
      | false =>
        rw [h1, h2] at h
        cases h
  · cases h
theorem vGf_t {a b t pc1 pc' : Nat} {ls ls' : vLs} {st st' : List vAV} {hp hp' : List vOb} (ht : 7 ≤ t) (h : vGf a b t pc1 ls st hp = some (pc', ls', st', hp')) : ∃ st0, st = .inr (.inr (.inr (.inr 1))) :: st0 ∧ pc' = pc1 ∧ ls' = ls ∧ hp' = hp ∧ ((t = 7 ∧ st' = .inl 0 :: st0) ∨ (t = 8 ∧ st' = .inr (.inr (.inr (.inr 2))) :: st0)) := by
  unfold vGf at h
  split at h
  · next k st0 =>
    split at h
    · next o ho =>
      have h7 : Nat.blt t 7 = false := by
        cases hh : Nat.blt t 7 with
        | false => rfl
        | true => have := Nat.blt_eq.mp hh; omega
      rw [h7, Bool.and_false] at h
      cases h
    · cases h
  · next st0 =>
    cases h1 : Nat.beq t 7 with
    | true =>
      rw [h1] at h
      cases h
      exact ⟨st0, rfl, rfl, rfl, rfl, Or.inl ⟨Nat.eq_of_beq_eq_true h1, rfl⟩⟩
    | false =>
      cases h2 : Nat.beq t 8 with
      | true =>
        rw [h1, h2] at h
        cases h
        exact ⟨st0, rfl, rfl, rfl, rfl, Or.inr ⟨Nat.eq_of_beq_eq_true h2, rfl⟩⟩
      | false =>
        rw [h1, h2] at h
        cases h
  · cases h
theorem vPf_ok {a b t pc1 pc' : Nat} {ls ls' : vLs} {st st' : List vAV} {hp hp' : List vOb} (h : vPf a b t pc1 ls st hp = some (pc', ls', st', hp')) : ∃ k o v, st = v :: .inr (.inr (.inr (.inl (some k)))) :: st' ∧ hp[k]? = some o ∧ o.1 = 8 * a ∧ vFit t v = true ∧ b < o.2.length ∧ pc' = pc1 ∧ ls' = ls ∧ hp' = hp.set k (o.1, o.2.set b v) := by
  unfold vPf at h
  split at h
  · next v k st0 =>
    split at h
    · next o ho =>
      rw [vNth_eq] at ho
      cases hk : (Nat.beq o.1 (8 * a) && vFit t v) with
      | false =>
        rw [hk] at h
        cases h
      | true =>
        rw [hk] at h
        have hk := vBx hk
        rw [cond_true] at h
        split at h
        · next v0 hv =>
          rw [vNth_eq] at hv
          cases h
          exact ⟨k, o, v, rfl, ho, Nat.eq_of_beq_eq_true hk.1, hk.2, (List.getElem?_eq_some_iff.mp hv).1, rfl, rfl, rfl⟩
        · cases h
    · cases h
  · cases h
/-- field types by number -/
def vTy (t : Nat) (ty : FieldType) : Bool := match t, ty with
  | 0, .int => true
  | 1, .boolean => true
  | 2, .long => true
  | 3, .object _ => true
  | 3, .array _ => true
  | _, _ => false
theorem vFit_ok {t : Nat} {ty : FieldType} {c : vAV} {v : Value} {b sa sv : Nat} {ad : List Nat} (ht : vTy t ty = true) (hf : vFit t c = true) (hv : vG b sa sv ad c v) : narrow ty v = v ∧ fits ty v = true := by
  unfold vTy at ht
  split at ht
  · obtain ⟨x, rfl⟩ := vKd0 hv hf
    exact ⟨rfl, rfl⟩
  · rcases c with u | c1
    · have hf : Nat.ble u 1 = true := hf
      obtain ⟨-, rfl⟩ := hv
      have h1 : u ≤ 1 := Nat.le_of_ble_eq_true hf
      have : ∀ n, n < 2 → narrow .boolean (.int (nI n)) = .int (nI n) ∧ fits .boolean (.int (nI n)) = true := by decide +kernel
      exact this u (by omega)
    · have hf : false = true := hf
      cases hf
  · obtain ⟨x, rfl⟩ := vKd1 hv hf
    exact ⟨rfl, rfl⟩
  · rcases c with u | q' | u | r | z
    · cases hf
    · cases hf
    · cases hf
    · rcases r with - | k
      · have hv : v = .null := hv
        rw [hv]; exact ⟨rfl, rfl⟩
      · obtain ⟨a, -, rfl⟩ := hv
        exact ⟨rfl, rfl⟩
    · rcases hv with ⟨-, rfl⟩ | ⟨-, rfl⟩ | ⟨-, rfl⟩ <;> exact ⟨rfl, rfl⟩
  · rcases c with u | q' | u | r | z
    · cases hf
    · cases hf
    · cases hf
    · rcases r with - | k
      · have hv : v = .null := hv
        rw [hv]; exact ⟨rfl, rfl⟩
      · obtain ⟨a, -, rfl⟩ := hv
        exact ⟨rfl, rfl⟩
    · rcases hv with ⟨-, rfl⟩ | ⟨-, rfl⟩ | ⟨-, rfl⟩ <;> exact ⟨rfl, rfl⟩
  · cases ht
theorem vAld_ok {kd1 kd2 pc1 pc' : Nat} {sc : List vAV} {tx : List Nat} {ls ls' : vLs} {st st' : List vAV} {hp hp' : List vOb} (h : vAld kd1 kd2 pc1 sc tx ls st hp = some (pc', ls', st', hp')) :
    ∃ u st0, u < 65536 ∧ pc' = pc1 ∧ ls' = ls ∧ hp' = hp ∧ ((∃ k o v, st = .inl u :: .inr (.inr (.inr (.inl (some k)))) :: st0 ∧ hp[k]? = some o ∧ (o.1 % 8 = kd1 ∨ o.1 % 8 = kd2) ∧ o.2[u]? = some v ∧ st' = v :: st0) ∨
      (∃ v, st = .inl u :: .inr (.inr (.inr (.inr 0))) :: st0 ∧ kd1 = 1 ∧ sc[u]? = some v ∧ st' = v :: st0) ∨ (∃ v, st = .inl u :: .inr (.inr (.inr (.inr 2))) :: st0 ∧ kd1 = 2 ∧ tx[u]? = some v ∧ st' = .inl v :: st0)) := by
  unfold vAld at h
  split at h
  · next u k st0 =>
    split at h
    · next o ho =>
      rw [vNth_eq] at ho
      cases hk : ((Nat.beq (o.1 % 8) kd1 || Nat.beq (o.1 % 8) kd2) && Nat.blt u 65536) with
      | false =>
        rw [hk] at h
        cases h
      | true =>
        rw [hk] at h
        have hk := vBx hk
        rw [cond_true] at h
        split at h
        · next v hv =>
          rw [vNth_eq] at hv
          cases h
          refine ⟨u, st0, Nat.blt_eq.mp hk.2, rfl, rfl, rfl, Or.inl ⟨k, o, v, rfl, ho, ?_, hv, rfl⟩⟩
          have hk1 := hk.1
          rw [Bool.or_eq_true] at hk1
          exact hk1.imp Nat.eq_of_beq_eq_true Nat.eq_of_beq_eq_true
        · cases h
    · cases h
  · next u st0 =>
    cases hk : (Nat.beq kd1 1 && Nat.blt u 65536) with
    | false =>
      rw [hk] at h
      cases h
    | true =>
      rw [hk] at h
      have hk := vBx hk
      rw [cond_true] at h
      split at h
      · next v hv =>
        rw [vNth_eq] at hv
        cases h
        exact ⟨u, st0, Nat.blt_eq.mp hk.2, rfl, rfl, rfl, Or.inr (Or.inl ⟨v, rfl, Nat.eq_of_beq_eq_true hk.1, hv, rfl⟩)⟩
      · cases h
  · next u st0 =>
    cases hk : (Nat.beq kd1 2 && Nat.blt u 65536) with
    | false =>
      rw [hk] at h
      cases h
    | true =>
      rw [hk] at h
      have hk := vBx hk
      rw [cond_true] at h
      split at h
      · next v hv =>
        rw [vNth_eq] at hv
        cases h
        exact ⟨u, st0, Nat.blt_eq.mp hk.2, rfl, rfl, rfl, Or.inr (Or.inr ⟨v, rfl, Nat.eq_of_beq_eq_true hk.1, hv, rfl⟩)⟩
      · cases h
  · cases h
theorem vAst_ok {kd1 kd2 pc1 pc' : Nat} {ls ls' : vLs} {st st' : List vAV} {hp hp' : List vOb} (h : vAst kd1 kd2 pc1 ls st hp = some (pc', ls', st', hp')) :
    ∃ u k o v w, u < 65536 ∧ pc' = pc1 ∧ ls' = ls ∧ st = v :: .inl u :: .inr (.inr (.inr (.inl (some k)))) :: st' ∧ hp[k]? = some o ∧ (o.1 % 8 = kd1 ∨ o.1 % 8 = kd2) ∧ u < o.2.length ∧ vNar (o.1 % 8) v = some w ∧ hp' = hp.set k (o.1, o.2.set u w) := by
  unfold vAst at h
  split at h
  · next v u k st0 =>
    split at h
    · next o ho =>
      rw [vNth_eq] at ho
      cases hk : ((Nat.beq (o.1 % 8) kd1 || Nat.beq (o.1 % 8) kd2) && Nat.blt u 65536) with
      | false =>
        rw [hk] at h
        cases h
      | true =>
        rw [hk] at h
        have hk := vBx hk
        rw [cond_true] at h
        split at h
        · next v0 w hv hw =>
          rw [vNth_eq] at hv
          cases h
          have hk1 := hk.1
          rw [Bool.or_eq_true] at hk1
          exact ⟨u, k, o, v, w, Nat.blt_eq.mp hk.2, rfl, rfl, rfl, ho, hk1.imp Nat.eq_of_beq_eq_true Nat.eq_of_beq_eq_true, (List.getElem?_eq_some_iff.mp hv).1, hw, rfl⟩
        · cases h
    · cases h
  · cases h
theorem vAstR_ok {pc1 pc' : Nat} {ls ls' : vLs} {st st' : List vAV} {hp hp' : List vOb} (h : vAstR pc1 ls st hp = some (pc', ls', st', hp')) :
    ∃ u k j o o2, u < 65536 ∧ pc' = pc1 ∧ ls' = ls ∧ st = .inr (.inr (.inr (.inl (some j)))) :: .inl u :: .inr (.inr (.inr (.inl (some k)))) :: st' ∧ hp[k]? = some o ∧ hp[j]? = some o2 ∧ o.1 % 8 = 5 ∧ o2.1 % 8 = 0 ∧ o2.1 / 8 = o.1 / 8 ∧ u < o.2.length ∧ hp' = hp.set k (o.1, o.2.set u (.inr (.inr (.inr (.inl (some j)))))) := by
  unfold vAstR at h
  split at h
  · next j u k st0 =>
    split at h
    · next o o2 ho ho2 =>
      rw [vNth_eq] at ho ho2
      cases hk : (Nat.beq (o.1 % 8) 5 && Nat.beq (o2.1 % 8) 0 && Nat.beq (o2.1 / 8) (o.1 / 8) && Nat.blt u 65536) with
      | false =>
        rw [hk] at h
        cases h
      | true =>
        rw [hk] at h
        obtain ⟨hk, hk4⟩ := vBx hk
        obtain ⟨hk, hk3⟩ := vBx hk
        obtain ⟨hk1, hk2⟩ := vBx hk
        rw [cond_true] at h
        split at h
        · next v0 hv =>
          rw [vNth_eq] at hv
          cases h
          exact ⟨u, k, j, o, o2, Nat.blt_eq.mp hk4, rfl, rfl, rfl, ho, ho2, Nat.eq_of_beq_eq_true hk1, Nat.eq_of_beq_eq_true hk2, Nat.eq_of_beq_eq_true hk3, (List.getElem?_eq_some_iff.mp hv).1, rfl⟩
        · cases h
    · cases h
  · cases h

section VS2
variable {p : Program} {l : Launch} {e : Env} {R : Room} {s : State} {m : MethodId} {args : Array Value} {below : List Frame} {meth : Method} {c : Code} {H : Heap} {locs : List Loc} {cells slots : Nat} {Q : State → Prop}
variable {cc : ByteArray} {pc : Nat} {lsA : Array Slot} {stV : List Value} {D : va_G} {cl : List vw_C} {A : Nat → Prop} {ws : va_W} {tys : List (ClassId × FieldType)}
variable {b sa sv nL : Nat} {ls ls' : vLs} {st st' : List vAV} {hp hp' : List vOb} {pc' : Nat}

theorem vs_getf (hx : p.tables.exec = Jvm.exec) (hb : c.code = cc) (hW : vW cl D A s b sa sv hp ws tys H locs) (hL : vL b sa sv (vAd ws) nL ls lsA) (hT : vT b sa sv (vAd ws) st stV) {own C : String} {T : u_T} {N index a b1 t : Nat} {Ts : List Cond} (hts : ∀ w ∈ Ts, w.before args s = true) (hin : ∀ w ∈ u_ws C T N, w ∈ Ts) (hown : s.vm.findClass own = some m.cls) (hc : cl[a]? = some (C, T, N)) (hk : b1 < N) (hlink : (Cond.fieldLink own index (T b1).1 (T b1).2.1 (T b1).2.2.1).before args s = true) (ht : t < 7) (hdg : decode cc pc = .ok (.getfield index, 3)) (h : vGf a b1 t (pc + 3) ls st hp = some (pc', ls', st', hp')) (kk : vK p l e R s m args below meth c Q cl D A b sa sv nL ws pc' ls' st' hp' cells slots) : W p l e R s m args below meth c H locs cells slots Q (F0 m pc lsA stV) := by
  obtain ⟨k, st0, o, v, rfl, ho, ho1, hv, rfl, rfl, rfl, rfl⟩ := vGf_ok ht h
  match stV, hT with
  | x :: stV, hT =>
    obtain ⟨hP, hD, hS, hK, hH⟩ := hW
    obtain ⟨ad, ce, rfl, hw, hC⟩ := vH_at hH ho hT.1
    obtain ⟨fs, rfl, hl, hf⟩ := vC_0 hC (by omega)
    obtain ⟨y, hy1, hy2⟩ := hf b1 v hv
    have hd : o.1 / 8 = a := by omega
    rw [hd] at hw
    exact va_get (C := C) (T := T) (N := N) hx hb hts hin hown hK hP k hw hc b1 hk hlink (fun _ q => q) hy1 hdg (kk ws tys H locs lsA _ ⟨hP, hD, hS, hK, hH⟩ hL ⟨hy2, hT.2⟩ (vSub2.rf _))

theorem vs_putf (hx : p.tables.exec = Jvm.exec) (hb : c.code = cc) (hW : vW cl D A s b sa sv hp ws tys H locs) (hL : vL b sa sv (vAd ws) nL ls lsA) (hT : vT b sa sv (vAd ws) st stV) {own C : String} {T : u_T} {N index a b1 t : Nat} {Ts : List Cond} (hts : ∀ w ∈ Ts, w.before args s = true) (hin : ∀ w ∈ u_ws C T N, w ∈ Ts) (hown : s.vm.findClass own = some m.cls) (hc : cl[a]? = some (C, T, N)) (hk : b1 < N) (hlink : (Cond.fieldLink own index (T b1).1 (T b1).2.1 (T b1).2.2.1).before args s = true) (ty0 : Nat → FieldType) (hty : ∀ k, k < N → parseFieldDescriptor (T k).2.2.1 = some (ty0 k)) (hnm : ∀ a, a < N → ∀ b, b < N → a ≠ b → (T a).2.1 ≠ (T b).2.1) (hfin : (T b1).2.2.2 = false ∨ ((T b1).2.2.2 = true ∧ meth.name = "<init>" ∧ (T b1).1 = own)) (htt : vTy t (ty0 b1) = true) (hdg : decode cc pc = .ok (.putfield index, 3)) (h : vPf a b1 t (pc + 3) ls st hp = some (pc', ls', st', hp')) (kk : vK p l e R s m args below meth c Q cl D A b sa sv nL ws pc' ls' st' hp' cells slots) : W p l e R s m args below meth c H locs cells slots Q (F0 m pc lsA stV) := by
  obtain ⟨k, o, v, rfl, ho, ho1, hf, hbl, rfl, rfl, rfl⟩ := vPf_ok h
  match stV, hT with
  | y :: [], hT => exact hT.2.elim
  | y :: x :: stV, hT =>
    obtain ⟨hP, hD, hS, hK, hH⟩ := hW
    obtain ⟨hy, hxx, hT⟩ := hT
    obtain ⟨ad, ce, rfl, hw, hC⟩ := vH_at hH ho hxx
    obtain ⟨fs, rfl, hl, hfs⟩ := vC_0 hC (by omega)
    have hd : o.1 / 8 = a := by omega
    obtain ⟨n1, n2⟩ := vFit_ok htt hf hy
    have hC2 : vC cl b sa sv (vAd ws) tys (o.1, o.2.set b1 v) (.inr (a, fs.set b1 y)) := by
      refine vC_0i (o := (o.1, o.2.set b1 v)) (show o.1 % 8 = 0 by omega) ⟨fs.set b1 y, by rw [show (o.1, o.2.set b1 v).1 / 8 = a from hd], by simpa using hl, fun j c2 hj => ?_⟩
      have hj : (o.2.set b1 v)[j]? = some c2 := hj
      by_cases e1 : b1 = j
      · subst e1
        rw [List.getElem?_set_self hbl] at hj
        cases hj
        exact ⟨y, List.getElem?_set_self (by omega), hy⟩
      · rw [List.getElem?_set_ne e1] at hj
        obtain ⟨z, z1, z2⟩ := hfs j c2 hj
        exact ⟨z, by rw [List.getElem?_set_ne e1]; exact z1, z2⟩
    rw [hd] at hw
    have fin : ∀ (H1 : Heap) (locs1 : List Loc), va_P D cl (ws.set k (ad, .inr (a, fs.set b1 y))) H1 → va_D A (ws.set k (ad, .inr (a, fs.set b1 y))) → va_S A s.heap H1 locs1 → W p l e R s m args below meth c H1 locs1 cells slots Q (F0 m (pc + 3) lsA stV) :=
      fun H1 locs1 a1 a2 a3 => kk _ tys H1 locs1 lsA stV ⟨a1, a2, a3, hK, vH_set hH hw hC2⟩ (by rw [vAd_set hw]; exact hL) (by rw [vAd_set hw]; exact hT) (by rw [vAd_set hw]; exact vSub2.rf _)
    rcases hfin with h0 | ⟨h0, h1, h2⟩
    · exact va_put (C := C) (T := T) (N := N) hx hb hts hin ty0 hty hnm hown hK hP hD hS k hw hc b1 hk hlink (fun _ q => q) h0 (hty b1 hk) n1 n2 (by omega) hdg fin
    · exact va_putF (C := C) (T := T) (N := N) hx hb hts hin ty0 hty hnm hown hK hP hD hS k hw hc b1 hk hlink (fun _ q => q) h0 h1 h2 (hty b1 hk) n1 n2 (by omega) hdg fin

theorem vs_ald1 (hx : p.tables.exec = Jvm.exec) (hb : c.code = cc) (hW : vW cl D A s b sa sv hp ws tys H locs) (hL : vL b sa sv (vAd ws) nL ls lsA) (hT : vT b sa sv (vAd ws) st stV) {u k : Nat} {o : vOb} {v : vAV} {st0 : List vAV} (hu : u < 65536) (hst : st = .inl u :: .inr (.inr (.inr (.inl (some k)))) :: st0) (ho : hp[k]? = some o) (hk : o.1 % 8 = 1) (hv : o.2[u]? = some v) (hls : ls' = ls) (hhp : hp' = hp) (hst' : st' = v :: st0) (hpc : pc' = pc + 1) (hdg : decode cc pc = .ok (.iaload, 1)) (kk : vK p l e R s m args below meth c Q cl D A b sa sv nL ws pc' ls' st' hp' cells slots) : W p l e R s m args below meth c H locs cells slots Q (F0 m pc lsA stV) := by
  subst hst hls hhp hst' hpc
  match stV, hT with
  | y :: [], hT => exact hT.2.elim
  | y :: x :: stV, hT =>
    obtain ⟨hP, hD, hS, hK, hH⟩ := hW
    obtain ⟨⟨-, rfl⟩, hxx, hT⟩ := hT
    obtain ⟨ad, ce, rfl, hw, hC⟩ := vH_at hH ho hxx
    obtain ⟨cA, f, t0, rfl, ht0, hf⟩ := vC_1 hC hk
    have hlt : u < o.2.length := (List.getElem?_eq_some_iff.mp hv).1
    refine va_iald hx hb hK hP k t0 hw ht0 (vin hlt hu) hdg ?_
    rw [vCl hu]
    exact kk ws tys H locs lsA _ ⟨hP, hD, hS, hK, hH⟩ hL ⟨hf u v hv, hT⟩ (vSub2.rf _)

theorem vs_ald2 (hx : p.tables.exec = Jvm.exec) (hb : c.code = cc) (hW : vW cl D A s b sa sv hp ws tys H locs) (hL : vL b sa sv (vAd ws) nL ls lsA) (hT : vT b sa sv (vAd ws) st stV) {u k : Nat} {o : vOb} {v : vAV} {st0 : List vAV} (hu : u < 65536) (hst : st = .inl u :: .inr (.inr (.inr (.inl (some k)))) :: st0) (ho : hp[k]? = some o) (hk : o.1 % 8 = 2) (hv : o.2[u]? = some v) (hls : ls' = ls) (hhp : hp' = hp) (hst' : st' = v :: st0) (hpc : pc' = pc + 1) (hdg : decode cc pc = .ok (.baload, 1)) (kk : vK p l e R s m args below meth c Q cl D A b sa sv nL ws pc' ls' st' hp' cells slots) : W p l e R s m args below meth c H locs cells slots Q (F0 m pc lsA stV) := by
  subst hst hls hhp hst' hpc
  match stV, hT with
  | y :: [], hT => exact hT.2.elim
  | y :: x :: stV, hT =>
    obtain ⟨hP, hD, hS, hK, hH⟩ := hW
    obtain ⟨⟨-, rfl⟩, hxx, hT⟩ := hT
    obtain ⟨ad, ce, rfl, hw, hC⟩ := vH_at hH ho hxx
    obtain ⟨cA, f, t0, rfl, ht0, hf⟩ := vC_2 hC hk
    have hlt : u < o.2.length := (List.getElem?_eq_some_iff.mp hv).1
    refine va_bald hx hb hK hP k t0 hw ht0 (vin hlt hu) hdg ?_
    rw [vCl hu]
    exact kk ws tys H locs lsA _ ⟨hP, hD, hS, hK, hH⟩ hL ⟨hf u v hv, hT⟩ (vSub2.rf _)

theorem vs_ald3 (hx : p.tables.exec = Jvm.exec) (hb : c.code = cc) (hW : vW cl D A s b sa sv hp ws tys H locs) (hL : vL b sa sv (vAd ws) nL ls lsA) (hT : vT b sa sv (vAd ws) st stV) {u k : Nat} {o : vOb} {v : vAV} {st0 : List vAV} (hu : u < 65536) (hst : st = .inl u :: .inr (.inr (.inr (.inl (some k)))) :: st0) (ho : hp[k]? = some o) (hk : o.1 % 8 = 3) (hv : o.2[u]? = some v) (hls : ls' = ls) (hhp : hp' = hp) (hst' : st' = v :: st0) (hpc : pc' = pc + 1) (hdg : decode cc pc = .ok (.baload, 1)) (kk : vK p l e R s m args below meth c Q cl D A b sa sv nL ws pc' ls' st' hp' cells slots) : W p l e R s m args below meth c H locs cells slots Q (F0 m pc lsA stV) := by
  subst hst hls hhp hst' hpc
  match stV, hT with
  | y :: [], hT => exact hT.2.elim
  | y :: x :: stV, hT =>
    obtain ⟨hP, hD, hS, hK, hH⟩ := hW
    obtain ⟨⟨-, rfl⟩, hxx, hT⟩ := hT
    obtain ⟨ad, ce, rfl, hw, hC⟩ := vH_at hH ho hxx
    obtain ⟨cA, f, t0, rfl, ht0, hf⟩ := vC_3 hC hk
    have hlt : u < o.2.length := (List.getElem?_eq_some_iff.mp hv).1
    refine va_zald hx hb hK hP k t0 hw ht0 (vin hlt hu) hdg ?_
    rw [vCl hu]
    exact kk ws tys H locs lsA _ ⟨hP, hD, hS, hK, hH⟩ hL ⟨hf u v hv, hT⟩ (vSub2.rf _)

theorem vs_ald4 (hx : p.tables.exec = Jvm.exec) (hb : c.code = cc) (hW : vW cl D A s b sa sv hp ws tys H locs) (hL : vL b sa sv (vAd ws) nL ls lsA) (hT : vT b sa sv (vAd ws) st stV) {u k : Nat} {o : vOb} {v : vAV} {st0 : List vAV} (hu : u < 65536) (hst : st = .inl u :: .inr (.inr (.inr (.inl (some k)))) :: st0) (ho : hp[k]? = some o) (hk : o.1 % 8 = 4) (hv : o.2[u]? = some v) (hls : ls' = ls) (hhp : hp' = hp) (hst' : st' = v :: st0) (hpc : pc' = pc + 1) (hdg : decode cc pc = .ok (.laload, 1)) (kk : vK p l e R s m args below meth c Q cl D A b sa sv nL ws pc' ls' st' hp' cells slots) : W p l e R s m args below meth c H locs cells slots Q (F0 m pc lsA stV) := by
  subst hst hls hhp hst' hpc
  match stV, hT with
  | y :: [], hT => exact hT.2.elim
  | y :: x :: stV, hT =>
    obtain ⟨hP, hD, hS, hK, hH⟩ := hW
    obtain ⟨⟨-, rfl⟩, hxx, hT⟩ := hT
    obtain ⟨ad, ce, rfl, hw, hC⟩ := vH_at hH ho hxx
    obtain ⟨cA, f, t0, rfl, ht0, hf⟩ := vC_4 hC hk
    have hlt : u < o.2.length := (List.getElem?_eq_some_iff.mp hv).1
    refine va_lald hx hb hK hP k t0 hw ht0 (vin hlt hu) hdg ?_
    rw [vCl hu]
    exact kk ws tys H locs lsA _ ⟨hP, hD, hS, hK, hH⟩ hL ⟨hf u v hv, hT⟩ (vSub2.rf _)

theorem vs_ald5 (hx : p.tables.exec = Jvm.exec) (hb : c.code = cc) (hW : vW cl D A s b sa sv hp ws tys H locs) (hL : vL b sa sv (vAd ws) nL ls lsA) (hT : vT b sa sv (vAd ws) st stV) {u k : Nat} {o : vOb} {v : vAV} {st0 : List vAV} (hu : u < 65536) (hst : st = .inl u :: .inr (.inr (.inr (.inl (some k)))) :: st0) (ho : hp[k]? = some o) (hk : o.1 % 8 = 5) (hv : o.2[u]? = some v) (hls : ls' = ls) (hhp : hp' = hp) (hst' : st' = v :: st0) (hpc : pc' = pc + 1) (hdg : decode cc pc = .ok (.aaload, 1)) (kk : vK p l e R s m args below meth c Q cl D A b sa sv nL ws pc' ls' st' hp' cells slots) : W p l e R s m args below meth c H locs cells slots Q (F0 m pc lsA stV) := by
  subst hst hls hhp hst' hpc
  match stV, hT with
  | y :: [], hT => exact hT.2.elim
  | y :: x :: stV, hT =>
    obtain ⟨hP, hD, hS, hK, hH⟩ := hW
    obtain ⟨⟨-, rfl⟩, hxx, hT⟩ := hT
    obtain ⟨ad, ce, rfl, hw, hC⟩ := vH_at hH ho hxx
    obtain ⟨cA, f, t0, r, rfl, hr, ht0, hf⟩ := vC_5 hC hk
    have hlt : u < o.2.length := (List.getElem?_eq_some_iff.mp hv).1
    refine va_aldq hx hb hK hP k t0 hw ht0 (vin hlt hu) hdg ?_
    rw [vCl hu]
    exact kk ws tys H locs lsA _ ⟨hP, hD, hS, hK, hH⟩ hL ⟨hf u v hv, hT⟩ (vSub2.rf _)

theorem vs_ast1 (hx : p.tables.exec = Jvm.exec) (hb : c.code = cc) (hW : vW cl D A s b sa sv hp ws tys H locs) (hL : vL b sa sv (vAd ws) nL ls lsA) (hT : vT b sa sv (vAd ws) st stV) {u k : Nat} {o : vOb} {v w : vAV} (hu : u < 65536) (hst : st = v :: .inl u :: .inr (.inr (.inr (.inl (some k)))) :: st') (ho : hp[k]? = some o) (hk : o.1 % 8 = 1) (hul : u < o.2.length) (hn : vNar (o.1 % 8) v = some w) (hls : ls' = ls) (hhp : hp' = hp.set k (o.1, o.2.set u w)) (hpc : pc' = pc + 1) (hdg : decode cc pc = .ok (.iastore, 1)) (kk : vK p l e R s m args below meth c Q cl D A b sa sv nL ws pc' ls' st' hp' cells slots) : W p l e R s m args below meth c H locs cells slots Q (F0 m pc lsA stV) := by
  subst hst hls hhp hpc
  match stV, hT with
  | y :: [], hT => exact hT.2.elim
  | y :: x :: [], hT => exact hT.2.2.elim
  | y :: x :: z :: stV, hT =>
    obtain ⟨hP, hD, hS, hK, hH⟩ := hW
    obtain ⟨hy, ⟨-, rfl⟩, hxx, hT9⟩ := hT
    obtain ⟨ad, ce, rfl, hw, hC⟩ := vH_at hH ho hxx
    obtain ⟨cA, f, t0, rfl, ht0, hf⟩ := vC_1 hC hk
    rw [hk] at hn
    have hn : (bif Nat.beq (vKd v) 0 then some v else none) = some w := hn
    cases hk0 : Nat.beq (vKd v) 0 with
    | false => rw [hk0] at hn; cases hn
    | true =>
      rw [hk0] at hn
      cases hn
      obtain ⟨X, rfl⟩ := vKd0 hy hk0
      refine va_iast hx hb hK hP hD hS k t0 hw ht0 (vin hul hu) hdg (fun H1 locs1 a1 a2 a3 => ?_)
      have hC2 : vC cl b sa sv (vAd ws) tys (o.1, o.2.set u v) (.inl (cA, o.2.length, .inl (upd f (nI u).toNatClampNeg X))) := by
        refine vC_1i (o := (o.1, o.2.set u v)) hk ⟨cA, upd f (nI u).toNatClampNeg X, t0, by simp only [List.length_set], ht0, fun j c2 hj => ?_⟩
        have hj : (o.2.set u v)[j]? = some c2 := hj
        rw [vCl hu]
        by_cases e1 : u = j
        · subst e1
          rw [List.getElem?_set_self hul] at hj
          cases hj
          rw [pk_us]
          exact hy
        · rw [List.getElem?_set_ne e1] at hj
          rw [pk_un (fun q => e1 q.symm)]
          exact hf j c2 hj
      exact kk _ tys H1 locs1 lsA stV ⟨a1, a2, a3, hK, vH_set hH hw hC2⟩ (by rw [vAd_set hw]; exact hL) (by rw [vAd_set hw]; exact hT9) (by rw [vAd_set hw]; exact vSub2.rf _)

theorem vs_ast2 (hx : p.tables.exec = Jvm.exec) (hb : c.code = cc) (hW : vW cl D A s b sa sv hp ws tys H locs) (hL : vL b sa sv (vAd ws) nL ls lsA) (hT : vT b sa sv (vAd ws) st stV) {u k : Nat} {o : vOb} {v w : vAV} (hu : u < 65536) (hst : st = v :: .inl u :: .inr (.inr (.inr (.inl (some k)))) :: st') (ho : hp[k]? = some o) (hk : o.1 % 8 = 2) (hul : u < o.2.length) (hn : vNar (o.1 % 8) v = some w) (hls : ls' = ls) (hhp : hp' = hp.set k (o.1, o.2.set u w)) (hpc : pc' = pc + 1) (hdg : decode cc pc = .ok (.bastore, 1)) (kk : vK p l e R s m args below meth c Q cl D A b sa sv nL ws pc' ls' st' hp' cells slots) : W p l e R s m args below meth c H locs cells slots Q (F0 m pc lsA stV) := by
  subst hst hls hhp hpc
  match stV, hT with
  | y :: [], hT => exact hT.2.elim
  | y :: x :: [], hT => exact hT.2.2.elim
  | y :: x :: z :: stV, hT =>
    obtain ⟨hP, hD, hS, hK, hH⟩ := hW
    obtain ⟨hy, ⟨-, rfl⟩, hxx, hT9⟩ := hT
    obtain ⟨ad, ce, rfl, hw, hC⟩ := vH_at hH ho hxx
    obtain ⟨cA, f, t0, rfl, ht0, hf⟩ := vC_2 hC hk
    rw [hk] at hn
    have hn : (bif Nat.beq (vKd v) 0 then some vAny else none) = some w := hn
    cases hk0 : Nat.beq (vKd v) 0 with
    | false => rw [hk0] at hn; cases hn
    | true =>
      rw [hk0] at hn
      cases hn
      obtain ⟨X, rfl⟩ := vKd0 hy hk0
      refine va_bast hx hb hK hP hD hS k t0 hw ht0 (vin hul hu) hdg (fun H1 locs1 a1 a2 a3 => ?_)
      have hC2 : vC cl b sa sv (vAd ws) tys (o.1, o.2.set u vAny) (.inl (cA, o.2.length, .inl (upd f (nI u).toNatClampNeg (vp_nar .byte X)))) := by
        refine vC_2i (o := (o.1, o.2.set u vAny)) hk ⟨cA, upd f (nI u).toNatClampNeg (vp_nar .byte X), t0, by simp only [List.length_set], ht0, fun j c2 hj => ?_⟩
        have hj : (o.2.set u vAny)[j]? = some c2 := hj
        rw [vCl hu]
        by_cases e1 : u = j
        · subst e1
          rw [List.getElem?_set_self hul] at hj
          cases hj
          rw [pk_us]
          exact vAny_ok _
        · rw [List.getElem?_set_ne e1] at hj
          rw [pk_un (fun q => e1 q.symm)]
          exact hf j c2 hj
      exact kk _ tys H1 locs1 lsA stV ⟨a1, a2, a3, hK, vH_set hH hw hC2⟩ (by rw [vAd_set hw]; exact hL) (by rw [vAd_set hw]; exact hT9) (by rw [vAd_set hw]; exact vSub2.rf _)

theorem vs_ast3 (hx : p.tables.exec = Jvm.exec) (hb : c.code = cc) (hW : vW cl D A s b sa sv hp ws tys H locs) (hL : vL b sa sv (vAd ws) nL ls lsA) (hT : vT b sa sv (vAd ws) st stV) {u k : Nat} {o : vOb} {v w : vAV} (hu : u < 65536) (hst : st = v :: .inl u :: .inr (.inr (.inr (.inl (some k)))) :: st') (ho : hp[k]? = some o) (hk : o.1 % 8 = 3) (hul : u < o.2.length) (hn : vNar (o.1 % 8) v = some w) (hls : ls' = ls) (hhp : hp' = hp.set k (o.1, o.2.set u w)) (hpc : pc' = pc + 1) (hdg : decode cc pc = .ok (.bastore, 1)) (kk : vK p l e R s m args below meth c Q cl D A b sa sv nL ws pc' ls' st' hp' cells slots) : W p l e R s m args below meth c H locs cells slots Q (F0 m pc lsA stV) := by
  subst hst hls hhp hpc
  match stV, hT with
  | y :: [], hT => exact hT.2.elim
  | y :: x :: [], hT => exact hT.2.2.elim
  | y :: x :: z :: stV, hT =>
    obtain ⟨hP, hD, hS, hK, hH⟩ := hW
    obtain ⟨hy, ⟨-, rfl⟩, hxx, hT9⟩ := hT
    obtain ⟨ad, ce, rfl, hw, hC⟩ := vH_at hH ho hxx
    obtain ⟨cA, f, t0, rfl, ht0, hf⟩ := vC_3 hC hk
    rw [hk] at hn
    rcases v with u1 | v1
    · have hn : (bif Nat.ble u1 1 then some (.inl u1 : vAV) else none) = some w := hn
      cases hk0 : Nat.ble u1 1 with
      | false => rw [hk0] at hn; cases hn
      | true =>
      rw [hk0] at hn
      cases hn
      obtain ⟨hu1, rfl⟩ := hy
      have hb1 : vp_nar .boolean (nI u1) = nI u1 := (show ∀ n, n < 2 → vp_nar .boolean (nI n) = nI n by decide +kernel) u1 (by have := Nat.le_of_ble_eq_true hk0; omega)
      refine va_zast hx hb hK hP hD hS k t0 hw ht0 (vin hul hu) hdg (fun H1 locs1 a1 a2 a3 => ?_)
      have hC2 : vC cl b sa sv (vAd ws) tys (o.1, o.2.set u (.inl u1)) (.inl (cA, o.2.length, .inl (upd f (nI u).toNatClampNeg (vp_nar .boolean (nI u1))))) := by
        refine vC_3i (o := (o.1, o.2.set u (.inl u1))) hk ⟨cA, upd f (nI u).toNatClampNeg (vp_nar .boolean (nI u1)), t0, by simp only [List.length_set], ht0, fun j c2 hj => ?_⟩
        have hj : (o.2.set u (.inl u1))[j]? = some c2 := hj
        rw [vCl hu]
        by_cases e1 : u = j
        · subst e1
          rw [List.getElem?_set_self hul] at hj
          cases hj
          rw [pk_us]
          rw [hb1]; exact ⟨hu1, rfl⟩
        · rw [List.getElem?_set_ne e1] at hj
          rw [pk_un (fun q => e1 q.symm)]
          exact hf j c2 hj
      exact kk _ tys H1 locs1 lsA stV ⟨a1, a2, a3, hK, vH_set hH hw hC2⟩ (by rw [vAd_set hw]; exact hL) (by rw [vAd_set hw]; exact hT9) (by rw [vAd_set hw]; exact vSub2.rf _)
    · have hn : (none : Option vAV) = some w := hn
      cases hn

theorem vs_ast4 (hx : p.tables.exec = Jvm.exec) (hb : c.code = cc) (hW : vW cl D A s b sa sv hp ws tys H locs) (hL : vL b sa sv (vAd ws) nL ls lsA) (hT : vT b sa sv (vAd ws) st stV) {u k : Nat} {o : vOb} {v w : vAV} (hu : u < 65536) (hst : st = v :: .inl u :: .inr (.inr (.inr (.inl (some k)))) :: st') (ho : hp[k]? = some o) (hk : o.1 % 8 = 4) (hul : u < o.2.length) (hn : vNar (o.1 % 8) v = some w) (hls : ls' = ls) (hhp : hp' = hp.set k (o.1, o.2.set u w)) (hpc : pc' = pc + 1) (hdg : decode cc pc = .ok (.lastore, 1)) (kk : vK p l e R s m args below meth c Q cl D A b sa sv nL ws pc' ls' st' hp' cells slots) : W p l e R s m args below meth c H locs cells slots Q (F0 m pc lsA stV) := by
  subst hst hls hhp hpc
  match stV, hT with
  | y :: [], hT => exact hT.2.elim
  | y :: x :: [], hT => exact hT.2.2.elim
  | y :: x :: z :: stV, hT =>
    obtain ⟨hP, hD, hS, hK, hH⟩ := hW
    obtain ⟨hy, ⟨-, rfl⟩, hxx, hT9⟩ := hT
    obtain ⟨ad, ce, rfl, hw, hC⟩ := vH_at hH ho hxx
    obtain ⟨cA, f, t0, rfl, ht0, hf⟩ := vC_4 hC hk
    rw [hk] at hn
    have hn : (bif Nat.beq (vKd v) 1 then some v else none) = some w := hn
    cases hk0 : Nat.beq (vKd v) 1 with
    | false => rw [hk0] at hn; cases hn
    | true =>
      rw [hk0] at hn
      cases hn
      obtain ⟨X, rfl⟩ := vKd1 hy hk0
      refine va_last hx hb hK hP hD hS k t0 hw ht0 (vin hul hu) hdg (fun H1 locs1 a1 a2 a3 => ?_)
      have hC2 : vC cl b sa sv (vAd ws) tys (o.1, o.2.set u v) (.inl (cA, o.2.length, .inr (.inl (vp_updL f (nI u).toNatClampNeg X)))) := by
        refine vC_4i (o := (o.1, o.2.set u v)) hk ⟨cA, vp_updL f (nI u).toNatClampNeg X, t0, by simp only [List.length_set], ht0, fun j c2 hj => ?_⟩
        have hj : (o.2.set u v)[j]? = some c2 := hj
        rw [vCl hu]
        by_cases e1 : u = j
        · subst e1
          rw [List.getElem?_set_self hul] at hj
          cases hj
          rw [pk_uLs]
          exact hy
        · rw [List.getElem?_set_ne e1] at hj
          rw [pk_uLn (fun q => e1 q.symm)]
          exact hf j c2 hj
      exact kk _ tys H1 locs1 lsA stV ⟨a1, a2, a3, hK, vH_set hH hw hC2⟩ (by rw [vAd_set hw]; exact hL) (by rw [vAd_set hw]; exact hT9) (by rw [vAd_set hw]; exact vSub2.rf _)

theorem vs_ast5 (hx : p.tables.exec = Jvm.exec) (hb : c.code = cc) (hW : vW cl D A s b sa sv hp ws tys H locs) (hL : vL b sa sv (vAd ws) nL ls lsA) (hT : vT b sa sv (vAd ws) st stV) {u k j : Nat} {o o2 : vOb} (hu : u < 65536) (hst : st = .inr (.inr (.inr (.inl (some j)))) :: .inl u :: .inr (.inr (.inr (.inl (some k)))) :: st') (ho : hp[k]? = some o) (ho2 : hp[j]? = some o2) (hk : o.1 % 8 = 5) (hk2 : o2.1 % 8 = 0) (hkk : o2.1 / 8 = o.1 / 8) (hul : u < o.2.length) (hls : ls' = ls) (hhp : hp' = hp.set k (o.1, o.2.set u (.inr (.inr (.inr (.inl (some j))))))) (hpc : pc' = pc + 1) (hdg : decode cc pc = .ok (.aastore, 1)) (kk : vK p l e R s m args below meth c Q cl D A b sa sv nL ws pc' ls' st' hp' cells slots) : W p l e R s m args below meth c H locs cells slots Q (F0 m pc lsA stV) := by
  subst hst hls hhp hpc
  match stV, hT with
  | y :: [], hT => exact hT.2.elim
  | y :: x :: [], hT => exact hT.2.2.elim
  | y :: x :: z :: stV, hT =>
    obtain ⟨hP, hD, hS, hK, hH⟩ := hW
    obtain ⟨hy, ⟨-, rfl⟩, hxx, hT⟩ := hT
    obtain ⟨ad, ce, rfl, hw, hC⟩ := vH_at hH ho hxx
    obtain ⟨ad2, ce2, rfl, hw2, hC2⟩ := vH_at hH ho2 hy
    obtain ⟨cA, f, t0, r, rfl, hr, ht0, hf⟩ := vC_5 hC hk
    obtain ⟨fs, rfl, -, -⟩ := vC_0 hC2 hk2
    rw [hkk] at hw2
    refine va_astq hx hb hK hP hD hS k t0 j (o.1 / 8) hw ht0 hw2 hr (vin hul hu) hdg (fun H1 locs1 a1 a2 a3 => ?_)
    have hC3 : vC cl b sa sv (vAd ws) tys (o.1, o.2.set u (.inr (.inr (.inr (.inl (some j)))))) (.inl (cA, o.2.length, .inr (.inr (.inr (.inr (va_up f (nI u).toNatClampNeg (some ad2))))))) := by
      refine vC_5i (o := (o.1, o.2.set u (.inr (.inr (.inr (.inl (some j))))))) hk ⟨cA, va_up f (nI u).toNatClampNeg (some ad2), t0, r, by simp only [List.length_set], hr, ht0, fun i c2 hj => ?_⟩
      have hj : (o.2.set u (.inr (.inr (.inr (.inl (some j))))))[i]? = some c2 := hj
      rw [vCl hu]
      by_cases e1 : u = i
      · subst e1
        rw [List.getElem?_set_self hul] at hj
        cases hj
        rw [va_up_self]
        exact hy
      · rw [List.getElem?_set_ne e1] at hj
        rw [va_up_ne f (some ad2) (fun q => e1 q.symm)]
        exact hf i c2 hj
    exact kk _ tys H1 locs1 lsA stV ⟨a1, a2, a3, hK, vH_set hH hw hC3⟩ (by rw [vAd_set hw]; exact hL) (by rw [vAd_set hw]; exact hT) (by rw [vAd_set hw]; exact vSub2.rf _)

end VS2
end
section
/-! ===== a step of the machine is a step of the JVM: the script, the text, longs, the stack, switches ===== -/
theorem vl_mod (n : Nat) : lN (n % 18446744073709551616) = lN n := by
  show Int64.ofNat _ = Int64.ofNat _
  apply Int64.toBitVec_inj.mp
  apply BitVec.eq_of_toNat_eq
  show (BitVec.ofNat 64 _).toNat = (BitVec.ofNat 64 _).toNat
  rw [BitVec.toNat_ofNat, BitVec.toNat_ofNat]
  omega
theorem vl_tn {n : Nat} (h : n < 18446744073709551616) : (lN n).toBitVec.toNat = n := by
  show (BitVec.ofNat 64 n).toNat = n
  rw [BitVec.toNat_ofNat]
  omega
theorem vl_toInt {u : Nat} (hu : u < 18446744073709551616) : (lN u).toInt = if 2 * u < 18446744073709551616 then (u : Int) else (u : Int) - 18446744073709551616 := by
  show (lN u).toBitVec.toInt = _
  rw [BitVec.toInt_eq_toNat_cond, vl_tn hu]
  rfl
theorem vl_bias {u : Nat} (hu : u < 18446744073709551616) : (lN u).toInt + 9223372036854775808 = (((u + 9223372036854775808) % 18446744073709551616 : Nat) : Int) := by
  rw [vl_toInt hu]
  split <;> omega
theorem vl_ext {x : Int64} {n : Nat} (hn : n < 18446744073709551616) (h : x.toInt = (lN n).toInt) : x = lN n := Int64.toInt_inj.mp h
theorem vl_i2l {u : Nat} (hu : u < 4294967296) : (nI u).toInt64 = lN (if u < 2147483648 then u else u + 18446744069414584320) := by
  apply vl_ext (by split <;> omega)
  rw [Int32.toInt_toInt64, vn_toInt hu, vl_toInt (by split <;> omega)]
  split <;> split <;> split <;> omega
theorem vl_l2i {u : Nat} (hu : u < 18446744073709551616) : (lN u).toInt32 = nI (u % 4294967296) := by
  rw [vn_mod]
  exact lN_i u
theorem vl_cmp {u w : Nat} (hu : u < 18446744073709551616) (hw : w < 18446744073709551616) : lg_cmp (lN u) (lN w) = if (u + 9223372036854775808) % 18446744073709551616 < (w + 9223372036854775808) % 18446744073709551616 then -1 else if (u + 9223372036854775808) % 18446744073709551616 = (w + 9223372036854775808) % 18446744073709551616 then 0 else 1 := by
  have h1 := vl_bias hu
  have h2 := vl_bias hw
  unfold lg_cmp
  simp only [gt_iff_lt, Int64.lt_iff_toInt_lt, ← Int64.toInt_inj]
  generalize (u + 9223372036854775808) % 18446744073709551616 = U at *
  generalize (w + 9223372036854775808) % 18446744073709551616 = V at *
  rcases Nat.lt_trichotomy U V with h | h | h
  · rw [if_neg (by omega), if_neg (by omega), if_pos h]
  · rw [if_neg (by omega), if_pos (by omega), if_neg (by omega), if_pos h]
  · rw [if_pos (by omega), if_neg (by omega), if_neg (by omega)]

section VS3
variable {p : Program} {l : Launch} {e : Env} {R : Room} {s : State} {m : MethodId} {args : Array Value} {below : List Frame} {meth : Method} {c : Code} {H : Heap} {locs : List Loc} {cells slots : Nat} {Q : State → Prop}
variable {cc : ByteArray} {pc : Nat} {lsA : Array Slot} {stV : List Value} {D : va_G} {cl : List vw_C} {A : Nat → Prop} {ws : va_W} {tys : List (ClassId × FieldType)}
variable {b sa sv nL : Nat} {ls ls' : vLs} {st st' : List vAV} {hp hp' : List vOb} {pc' : Nat}
/-- the script, as the law sees it: nothing of it in other methods -/
def vScr (b sa sv : Nat) (A : Nat → Prop) (s : State) (sc : List vAV) : Prop := sc = [] ∨ ∃ (xs : Nat → Int32), va_X b sc.length xs s s.heap ∧ b < s.heap.size ∧ ¬ A b ∧ ∀ (j : Nat) (c : vAV), sc[j]? = some c → vG b sa sv [] c (.int (xs j))
/-- the text -/
def vTxt (sa sv : Nat) (A : Nat → Prop) (s : State) (tx : List Nat) : Prop := vk_S 1 [tx.length] [tx.map nI] (fun _ => sa) (fun _ => sv) A s s.heap ∧ ∀ (j u : Nat), tx[j]? = some u → u < 4294967296

theorem vs_aldS (hx : p.tables.exec = Jvm.exec) (hb : c.code = cc) (hW : vW cl D A s b sa sv hp ws tys H locs) (hL : vL b sa sv (vAd ws) nL ls lsA) (hT : vT b sa sv (vAd ws) st stV) {sc : List vAV} (hsc : vScr b sa sv A s sc) {u : Nat} {v : vAV} {st0 : List vAV} (hu : u < 65536) (hst : st = .inl u :: .inr (.inr (.inr (.inr 0))) :: st0) (hv : sc[u]? = some v) (hls : ls' = ls) (hhp : hp' = hp) (hst' : st' = v :: st0) (hpc : pc' = pc + 1) (hdg : decode cc pc = .ok (.iaload, 1)) (kk : vK p l e R s m args below meth c Q cl D A b sa sv nL ws pc' ls' st' hp' cells slots) : W p l e R s m args below meth c H locs cells slots Q (F0 m pc lsA stV) := by
  subst hst hls hhp hst' hpc
  match stV, hT with
  | y :: [], hT => exact hT.2.elim
  | y :: x :: stV, hT =>
    obtain ⟨⟨-, rfl⟩, hxx, hT9⟩ := hT
    rcases hxx with ⟨-, rfl⟩ | ⟨h9, -⟩ | ⟨h9, -⟩
    · rcases hsc with rfl | ⟨xs, hX, hbl, hbA, hs⟩
      · simp at hv
      · have hlt : u < sc.length := (List.getElem?_eq_some_iff.mp hv).1
        refine va_sld hx hb hX hbl hbA hW.2.2.1 (vin hlt hu) hdg ?_
        rw [vCl hu]
        exact kk ws tys H locs lsA _ hW hL ⟨vG_mono (fun k a h => by simp at h) (hs u v hv), hT9⟩ (vSub2.rf _)
    · omega
    · omega

theorem vs_aldT (hx : p.tables.exec = Jvm.exec) (hb : c.code = cc) (hW : vW cl D A s b sa sv hp ws tys H locs) (hL : vL b sa sv (vAd ws) nL ls lsA) (hT : vT b sa sv (vAd ws) st stV) {tx : List Nat} (htx : vTxt sa sv A s tx) {u v : Nat} {st0 : List vAV} (hu : u < 65536) (hst : st = .inl u :: .inr (.inr (.inr (.inr 2))) :: st0) (hv : tx[u]? = some v) (hls : ls' = ls) (hhp : hp' = hp) (hst' : st' = .inl v :: st0) (hpc : pc' = pc + 1) (hdg : decode cc pc = .ok (.baload, 1)) (kk : vK p l e R s m args below meth c Q cl D A b sa sv nL ws pc' ls' st' hp' cells slots) : W p l e R s m args below meth c H locs cells slots Q (F0 m pc lsA stV) := by
  subst hst hls hhp hst' hpc
  match stV, hT with
  | y :: [], hT => exact hT.2.elim
  | y :: x :: stV, hT =>
    obtain ⟨⟨-, rfl⟩, hxx, hT9⟩ := hT
    rcases hxx with ⟨h9, -⟩ | ⟨h9, -⟩ | ⟨-, rfl⟩
    · omega
    · omega
    · have hlt : u < tx.length := (List.getElem?_eq_some_iff.mp hv).1
      refine va_tb (v := .int (nI v)) hx hb ((htx.1.1 0 (by omega)).2.2.2) hW.2.2.1 (vin hlt hu) ?_ hdg (kk ws tys H locs lsA _ hW hL ⟨⟨htx.2 u v hv, rfl⟩, hT9⟩ (vSub2.rf _))
      rw [vCl hu]
      simp [hv]

theorem vs_aln (hx : p.tables.exec = Jvm.exec) (hb : c.code = cc) (hW : vW cl D A s b sa sv hp ws tys H locs) (hL : vL b sa sv (vAd ws) nL ls lsA) (hT : vT b sa sv (vAd ws) st stV) {k : Nat} {o : vOb} {st0 : List vAV} (hst : st = .inr (.inr (.inr (.inl (some k)))) :: st0) (ho : hp[k]? = some o) (hk0 : o.1 % 8 ≠ 0) (hk6 : o.1 % 8 < 6) (hu : o.2.length < 65536) (hls : ls' = ls) (hhp : hp' = hp) (hst' : st' = .inl o.2.length :: st0) (hpc : pc' = pc + 1) (hdg : decode cc pc = .ok (.arraylength, 1)) (kk : vK p l e R s m args below meth c Q cl D A b sa sv nL ws pc' ls' st' hp' cells slots) : W p l e R s m args below meth c H locs cells slots Q (F0 m pc lsA stV) := by
  subst hst hls hhp hst' hpc
  match stV, hT with
  | x :: stV, hT =>
    obtain ⟨hP, hD, hS, hK, hH⟩ := hW
    obtain ⟨hxx, hT9⟩ := hT
    obtain ⟨ad, ce, rfl, hw, hC⟩ := vH_at hH ho hxx
    have K := kk ws tys H locs lsA (.int (nI o.2.length) :: stV) ⟨hP, hD, hS, hK, hH⟩ hL ⟨⟨by omega, rfl⟩, hT9⟩ (vSub2.rf _)
    have hcs : o.1 % 8 = 1 ∨ o.1 % 8 = 2 ∨ o.1 % 8 = 3 ∨ o.1 % 8 = 4 ∨ o.1 % 8 = 5 := by omega
    rcases hcs with h | h | h | h | h
    · obtain ⟨cA, f, t0, rfl, ht0, -⟩ := vC_1 hC h
      exact va_alen hx hb hK hP k t0 hw ht0 rfl hdg K
    · obtain ⟨cA, f, t0, rfl, ht0, -⟩ := vC_2 hC h
      exact va_alen hx hb hK hP k t0 hw ht0 rfl hdg K
    · obtain ⟨cA, f, t0, rfl, ht0, -⟩ := vC_3 hC h
      exact va_alen hx hb hK hP k t0 hw ht0 rfl hdg K
    · obtain ⟨cA, f, t0, rfl, ht0, -⟩ := vC_4 hC h
      exact va_alen hx hb hK hP k t0 hw ht0 rfl hdg K
    · obtain ⟨cA, f, t0, r, rfl, hr, ht0, -⟩ := vC_5 hC h
      exact va_alen hx hb hK hP k t0 hw ht0 rfl hdg K

theorem vs_arraylength (hx : p.tables.exec = Jvm.exec) (hb : c.code = cc) (hW : vW cl D A s b sa sv hp ws tys H locs) (hL : vL b sa sv (vAd ws) nL ls lsA) (hT : vT b sa sv (vAd ws) st stV) {sc : List vAV} {tx : List Nat} (hsc : vScr b sa sv A s sc) (htx : vTxt sa sv A s tx) (hdg : decode cc pc = .ok (.arraylength, 1)) (h : vAln (pc + 1) sc tx ls st hp = some (pc', ls', st', hp')) (kk : vK p l e R s m args below meth c Q cl D A b sa sv nL ws pc' ls' st' hp' cells slots) : W p l e R s m args below meth c H locs cells slots Q (F0 m pc lsA stV) := by
  unfold vAln at h
  split at h
  · next k st0 =>
    split at h
    · next o ho =>
      rw [vNth_eq] at ho
      cases h1 : (Nat.beq (o.1 % 8) 0 || Nat.ble 6 (o.1 % 8)) with
      | true => rw [h1] at h; cases h
      | false =>
        rw [h1] at h
        cases h2 : Nat.blt o.2.length 65536 with
        | false => rw [h2] at h; cases h
        | true =>
          rw [h2] at h
          cases h
          rw [Bool.or_eq_false_iff] at h1
          exact vs_aln hx hb hW hL hT rfl ho (fun e => by rw [e] at h1; cases h1.1) (by
            rcases Nat.lt_or_ge (o.1 % 8) 6 with q | q
            · exact q
            · have := Nat.ble_eq.mpr q
              rw [this] at h1; cases h1.2) (Nat.blt_eq.mp h2) rfl rfl rfl rfl hdg kk
    · cases h
  · next st0 =>
    cases h2 : (Nat.blt 0 sc.length && Nat.blt sc.length 65536) with
    | false => rw [h2] at h; cases h
    | true =>
      rw [h2] at h
      cases h
      have h2 := vBx h2
      match stV, hT with
      | x :: stV, hT =>
        obtain ⟨hxx, hT9⟩ := hT
        rcases hxx with ⟨-, rfl⟩ | ⟨h9, -⟩ | ⟨h9, -⟩
        · rcases hsc with rfl | ⟨xs, hX, hbl, hbA, hs⟩
          · have := Nat.blt_eq.mp h2.1
            simp at this
          · exact va_slen hx hb hX hbl hbA hW.2.2.1 hdg (kk ws tys H locs lsA _ hW hL ⟨⟨by have := Nat.blt_eq.mp h2.2; omega, rfl⟩, hT9⟩ (vSub2.rf _))
        · omega
        · omega
  · next st0 =>
    cases h2 : Nat.blt tx.length 65536 with
    | false => rw [h2] at h; cases h
    | true =>
      rw [h2] at h
      cases h
      match stV, hT with
      | x :: stV, hT =>
        obtain ⟨hxx, hT9⟩ := hT
        rcases hxx with ⟨h9, -⟩ | ⟨h9, -⟩ | ⟨-, rfl⟩
        · omega
        · omega
        · exact va_tlen hx hb ((htx.1.1 0 (by omega)).2.2.2) hW.2.2.1 rfl hdg (kk ws tys H locs lsA _ hW hL ⟨⟨by have := Nat.blt_eq.mp h2; omega, rfl⟩, hT9⟩ (vSub2.rf _))
  · cases h

theorem vs_getT (hx : p.tables.exec = Jvm.exec) (hb : c.code = cc) (hW : vW cl D A s b sa sv hp ws tys H locs) (hL : vL b sa sv (vAd ws) nL ls lsA) (hT : vT b sa sv (vAd ws) st stV) {tx : List Nat} (htx : vTxt sa sv A s tx) {own : String} {index a b1 t : Nat} (hown : s.vm.findClass own = some m.cls) (ht : 7 ≤ t) (hlink : t = 7 → (Cond.fieldLink own index "java/lang/String" "coder" "B").before args s = true) (hlink2 : t = 8 → (Cond.fieldLink own index "java/lang/String" "value" "[B").before args s = true) (hdg : decode cc pc = .ok (.getfield index, 3)) (h : vGf a b1 t (pc + 3) ls st hp = some (pc', ls', st', hp')) (kk : vK p l e R s m args below meth c Q cl D A b sa sv nL ws pc' ls' st' hp' cells slots) : W p l e R s m args below meth c H locs cells slots Q (F0 m pc lsA stV) := by
  obtain ⟨st0, rfl, rfl, rfl, rfl, h5⟩ := vGf_t ht h
  match stV, hT with
  | x :: stV, hT =>
    obtain ⟨hxx, hT9⟩ := hT
    rcases hxx with ⟨h9, -⟩ | ⟨-, rfl⟩ | ⟨h9, -⟩
    · omega
    · rcases h5 with ⟨h1, rfl⟩ | ⟨h1, rfl⟩
      · exact vk_getf hx hb ((htx.1.1 0 (by omega)).2.1) hW.2.2.1 hown (hlink h1) (fun _ q => q) hdg (kk ws tys H locs lsA _ hW hL ⟨⟨by omega, rfl⟩, hT9⟩ (vSub2.rf _))
      · exact vk_getf hx hb ((htx.1.1 0 (by omega)).2.2.1) hW.2.2.1 hown (hlink2 h1) (fun _ q => q) hdg (kk ws tys H locs lsA _ hW hL ⟨Or.inr (Or.inr ⟨rfl, rfl⟩), hT9⟩ (vSub2.rf _))
    · omega

theorem vs_ldcT (hx : p.tables.exec = Jvm.exec) (hb : c.code = cc) (hW : vW cl D A s b sa sv hp ws tys H locs) (hL : vL b sa sv (vAd ws) nL ls lsA) (hT : vT b sa sv (vAd ws) st stV) {own tx : String} {index : Nat} (hown : s.vm.findClass own = some m.cls) (hZ : vk_R own index tx sa s) (hdg : decode cc pc = .ok (.ldc index, 2)) (h : (some (pc + 2, ls, .inr (.inr (.inr (.inr 1))) :: st, hp) : vR) = some (pc', ls', st', hp')) (kk : vK p l e R s m args below meth c Q cl D A b sa sv nL ws pc' ls' st' hp' cells slots) : W p l e R s m args below meth c H locs cells slots Q (F0 m pc lsA stV) := by
  cases h
  exact va_ldcS hx hb hown hZ hdg (kk ws tys H locs lsA _ hW hL ⟨Or.inr (Or.inl ⟨rfl, rfl⟩), hT⟩ (vSub2.rf _))

theorem vs_ldcw (hx : p.tables.exec = Jvm.exec) (hb : c.code = cc) (hW : vW cl D A s b sa sv hp ws tys H locs) (hL : vL b sa sv (vAd ws) nL ls lsA) (hT : vT b sa sv (vAd ws) st stV) {own : String} {index a : Nat} (hown : s.vm.findClass own = some m.cls) (hc : (Jvm.Cond.constant own index (nI a)).before args s = true) (hdg : decode cc pc = .ok (.ldc_w index, 3)) (ha : a < 4294967296) (h : (some (pc + 3, ls, .inl a :: st, hp) : vR) = some (pc', ls', st', hp')) (kk : vK p l e R s m args below meth c Q cl D A b sa sv nL ws pc' ls' st' hp' cells slots) : W p l e R s m args below meth c H locs cells slots Q (F0 m pc lsA stV) := by
  cases h
  exact lv_ldcw hx hb hown hc hdg (kk ws tys H locs lsA _ hW hL ⟨⟨ha, rfl⟩, hT⟩ (vSub2.rf _))

theorem vs_getstatic (hx : p.tables.exec = Jvm.exec) (hb : c.code = cc) (hW : vW cl D A s b sa sv hp ws tys H locs) (hL : vL b sa sv (vAd ws) nL ls lsA) (hT : vT b sa sv (vAd ws) st stV) {C n d own : String} {index : Nat} (hZ : va_Z C n d (.int 1) A s s.heap) (hown : s.vm.findClass own = some m.cls) (hlink : (Cond.fieldLink own index C n d).before args s = true) (hdg : decode cc pc = .ok (.getstatic index, 3)) (h : (some (pc + 3, ls, .inl 1 :: st, hp) : vR) = some (pc', ls', st', hp')) (kk : vK p l e R s m args below meth c Q cl D A b sa sv nL ws pc' ls' st' hp' cells slots) : W p l e R s m args below meth c H locs cells slots Q (F0 m pc lsA stV) := by
  cases h
  exact va_gets hx hb hZ hW.2.2.1 hown hlink (fun _ q => q) hdg (kk ws tys H locs lsA _ hW hL ⟨⟨by omega, by decide⟩, hT⟩ (vSub2.rf _))

theorem vs_ladd (hx : p.tables.exec = Jvm.exec) (hb : c.code = cc) (hW : vW cl D A s b sa sv hp ws tys H locs) (hL : vL b sa sv (vAd ws) nL ls lsA) (hT : vT b sa sv (vAd ws) st stV) (hdg : decode cc pc = .ok (.ladd, 1)) (h : vL2 (fun u w => (u + w) % 18446744073709551616) (pc + 1) ls st hp = some (pc', ls', st', hp')) (kk : vK p l e R s m args below meth c Q cl D A b sa sv nL ws pc' ls' st' hp' cells slots) : W p l e R s m args below meth c H locs cells slots Q (F0 m pc lsA stV) := by
  unfold vL2 at h
  split at h
  · next w u st0 =>
    rw [vF_eq] at h
    cases h
    match stV, hT with
    | y :: [], hT => exact hT.2.elim
    | y :: x :: stV, hT =>
      obtain ⟨⟨-, rfl⟩, ⟨-, rfl⟩, hT9⟩ := hT
      refine lv_ladd hx hb hdg ?_
      rw [lN_add, ← vl_mod]
      exact kk ws tys H locs lsA _ hW hL ⟨⟨Nat.mod_lt _ (by decide), rfl⟩, hT9⟩ (vSub2.rf _)
  · cases h

theorem vs_lmul (hx : p.tables.exec = Jvm.exec) (hb : c.code = cc) (hW : vW cl D A s b sa sv hp ws tys H locs) (hL : vL b sa sv (vAd ws) nL ls lsA) (hT : vT b sa sv (vAd ws) st stV) (hdg : decode cc pc = .ok (.lmul, 1)) (h : vL2 (fun u w => (u * w) % 18446744073709551616) (pc + 1) ls st hp = some (pc', ls', st', hp')) (kk : vK p l e R s m args below meth c Q cl D A b sa sv nL ws pc' ls' st' hp' cells slots) : W p l e R s m args below meth c H locs cells slots Q (F0 m pc lsA stV) := by
  unfold vL2 at h
  split at h
  · next w u st0 =>
    rw [vF_eq] at h
    cases h
    match stV, hT with
    | y :: [], hT => exact hT.2.elim
    | y :: x :: stV, hT =>
      obtain ⟨⟨-, rfl⟩, ⟨-, rfl⟩, hT9⟩ := hT
      refine lv_lmul hx hb hdg ?_
      rw [lN_mul, ← vl_mod]
      exact kk ws tys H locs lsA _ hW hL ⟨⟨Nat.mod_lt _ (by decide), rfl⟩, hT9⟩ (vSub2.rf _)
  · cases h

theorem vs_ldiv (hx : p.tables.exec = Jvm.exec) (hb : c.code = cc) (hW : vW cl D A s b sa sv hp ws tys H locs) (hL : vL b sa sv (vAd ws) nL ls lsA) (hT : vT b sa sv (vAd ws) st stV) (hdg : decode cc pc = .ok (.ldiv, 1)) (h : vL2d Nat.div (pc + 1) ls st hp = some (pc', ls', st', hp')) (kk : vK p l e R s m args below meth c Q cl D A b sa sv nL ws pc' ls' st' hp' cells slots) : W p l e R s m args below meth c H locs cells slots Q (F0 m pc lsA stV) := by
  unfold vL2d at h
  split at h
  · next w u st0 =>
    cases hk : (Nat.blt u 9223372036854775808 && Nat.blt w 9223372036854775808 && Nat.blt 0 w) with
    | false => rw [hk] at h; cases h
    | true =>
      rw [hk, cond_true, vF_eq] at h
      cases h
      obtain ⟨hk, hk3⟩ := vBx hk
      obtain ⟨hk1, hk2⟩ := vBx hk
      have hu : u < 2 ^ 63 := Nat.blt_eq.mp hk1
      have hw : w < 2 ^ 63 := Nat.blt_eq.mp hk2
      have hw0 : 0 < w := Nat.blt_eq.mp hk3
      match stV, hT with
      | y :: [], hT => exact hT.2.elim
      | y :: x :: stV, hT =>
        obtain ⟨⟨-, rfl⟩, ⟨-, rfl⟩, hT9⟩ := hT
        refine lv_ldiv hx hb hdg (fun e => ?_) ?_
        · have h0 : (0 : Int64) = lN 0 := rfl
          rw [h0, pk_lEQ hw (by omega)] at e
          omega
        · rw [pk_lDiv hu hw0 hw]
          exact kk ws tys H locs lsA _ hW hL ⟨⟨Nat.lt_of_le_of_lt (Nat.div_le_self _ _) (by omega), rfl⟩, hT9⟩ (vSub2.rf _)
  · cases h

theorem vs_lrem (hx : p.tables.exec = Jvm.exec) (hb : c.code = cc) (hW : vW cl D A s b sa sv hp ws tys H locs) (hL : vL b sa sv (vAd ws) nL ls lsA) (hT : vT b sa sv (vAd ws) st stV) (hdg : decode cc pc = .ok (.lrem, 1)) (h : vL2d Nat.mod (pc + 1) ls st hp = some (pc', ls', st', hp')) (kk : vK p l e R s m args below meth c Q cl D A b sa sv nL ws pc' ls' st' hp' cells slots) : W p l e R s m args below meth c H locs cells slots Q (F0 m pc lsA stV) := by
  unfold vL2d at h
  split at h
  · next w u st0 =>
    cases hk : (Nat.blt u 9223372036854775808 && Nat.blt w 9223372036854775808 && Nat.blt 0 w) with
    | false => rw [hk] at h; cases h
    | true =>
      rw [hk, cond_true, vF_eq] at h
      cases h
      obtain ⟨hk, hk3⟩ := vBx hk
      obtain ⟨hk1, hk2⟩ := vBx hk
      have hu : u < 2 ^ 63 := Nat.blt_eq.mp hk1
      have hw : w < 2 ^ 63 := Nat.blt_eq.mp hk2
      have hw0 : 0 < w := Nat.blt_eq.mp hk3
      match stV, hT with
      | y :: [], hT => exact hT.2.elim
      | y :: x :: stV, hT =>
        obtain ⟨⟨-, rfl⟩, ⟨-, rfl⟩, hT9⟩ := hT
        refine lv_lrem hx hb hdg (fun e => ?_) ?_
        · have h0 : (0 : Int64) = lN 0 := rfl
          rw [h0, pk_lEQ hw (by omega)] at e
          omega
        · rw [pk_lRem hu hw0 hw]
          exact kk ws tys H locs lsA _ hW hL ⟨⟨Nat.lt_of_le_of_lt (Nat.mod_le _ _) (by omega), rfl⟩, hT9⟩ (vSub2.rf _)
  · cases h

theorem vs_lcmp (hx : p.tables.exec = Jvm.exec) (hb : c.code = cc) (hW : vW cl D A s b sa sv hp ws tys H locs) (hL : vL b sa sv (vAd ws) nL ls lsA) (hT : vT b sa sv (vAd ws) st stV) (hdg : decode cc pc = .ok (.lcmp, 1)) (h : vLc (pc + 1) ls st hp = some (pc', ls', st', hp')) (kk : vK p l e R s m args below meth c Q cl D A b sa sv nL ws pc' ls' st' hp' cells slots) : W p l e R s m args below meth c H locs cells slots Q (F0 m pc lsA stV) := by
  unfold vLc at h
  split at h
  · next w u st0 =>
    rw [vF_eq, vF_eq] at h
    match stV, hT with
    | y :: [], hT => exact hT.2.elim
    | y :: x :: stV, hT =>
      obtain ⟨⟨hw, rfl⟩, ⟨hu, rfl⟩, hT9⟩ := hT
      refine W.lcmp hx hb hdg ?_
      rw [vl_cmp hu hw]
      generalize (u + 9223372036854775808) % 18446744073709551616 = U at h ⊢
      generalize (w + 9223372036854775808) % 18446744073709551616 = V at h ⊢
      cases h1 : Nat.blt U V with
      | true =>
        rw [h1] at h
        cases h
        rw [if_pos (Nat.blt_eq.mp h1)]
        exact kk ws tys H locs lsA _ hW hL ⟨⟨by omega, by decide⟩, hT9⟩ (vSub2.rf _)
      | false =>
        rw [h1] at h
        have h1 : ¬ U < V := fun q => by rw [Nat.blt_eq.mpr q] at h1; cases h1
        rw [if_neg h1]
        cases h2 : Nat.beq U V with
        | true =>
          rw [h2] at h
          cases h
          rw [if_pos (Nat.eq_of_beq_eq_true h2)]
          exact kk ws tys H locs lsA _ hW hL ⟨⟨by omega, by decide⟩, hT9⟩ (vSub2.rf _)
        | false =>
          rw [h2] at h
          cases h
          rw [if_neg (fun q => by rw [q, Nat.beq_refl] at h2; cases h2)]
          exact kk ws tys H locs lsA _ hW hL ⟨⟨by omega, by decide⟩, hT9⟩ (vSub2.rf _)
  · cases h

theorem vs_i2b (hx : p.tables.exec = Jvm.exec) (hb : c.code = cc) (hW : vW cl D A s b sa sv hp ws tys H locs) (hL : vL b sa sv (vAd ws) nL ls lsA) (hT : vT b sa sv (vAd ws) st stV) (hdg : decode cc pc = .ok (.i2b, 1)) (h : vI2b (pc + 1) ls st hp = some (pc', ls', st', hp')) (kk : vK p l e R s m args below meth c Q cl D A b sa sv nL ws pc' ls' st' hp' cells slots) : W p l e R s m args below meth c H locs cells slots Q (F0 m pc lsA stV) := by
  unfold vI2b at h
  split at h
  · next v st0 =>
    cases hk : Nat.beq (vKd v) 0 with
    | false => rw [hk] at h; cases h
    | true =>
      rw [hk] at h
      cases h
      match stV, hT with
      | y :: stV, hT =>
        obtain ⟨X, rfl⟩ := vKd0 hT.1 hk
        exact lv_i2b hx hb hdg rfl (kk ws tys H locs lsA _ hW hL ⟨vAny_ok _, hT.2⟩ (vSub2.rf _))
  · cases h

theorem vs_i2c (hx : p.tables.exec = Jvm.exec) (hb : c.code = cc) (hW : vW cl D A s b sa sv hp ws tys H locs) (hL : vL b sa sv (vAd ws) nL ls lsA) (hT : vT b sa sv (vAd ws) st stV) (hdg : decode cc pc = .ok (.i2c, 1)) (h : vI2c (pc + 1) ls st hp = some (pc', ls', st', hp')) (kk : vK p l e R s m args below meth c Q cl D A b sa sv nL ws pc' ls' st' hp' cells slots) : W p l e R s m args below meth c H locs cells slots Q (F0 m pc lsA stV) := by
  unfold vI2c at h
  split at h
  · next u st0 =>
    rw [vF_eq] at h
    cases h
    match stV, hT with
    | y :: stV, hT =>
      obtain ⟨⟨hu, rfl⟩, hT9⟩ := hT
      refine lv_i2c hx hb hdg (v := nI (u % 65536)) ?_ (kk ws tys H locs lsA _ hW hL ⟨⟨by omega, rfl⟩, hT9⟩ (vSub2.rf _))
      rw [pk_char, pk_tn (by omega)]
  · cases h

theorem vs_i2l (hx : p.tables.exec = Jvm.exec) (hb : c.code = cc) (hW : vW cl D A s b sa sv hp ws tys H locs) (hL : vL b sa sv (vAd ws) nL ls lsA) (hT : vT b sa sv (vAd ws) st stV) (hdg : decode cc pc = .ok (.i2l, 1)) (h : vI2l (pc + 1) ls st hp = some (pc', ls', st', hp')) (kk : vK p l e R s m args below meth c Q cl D A b sa sv nL ws pc' ls' st' hp' cells slots) : W p l e R s m args below meth c H locs cells slots Q (F0 m pc lsA stV) := by
  unfold vI2l at h
  split at h
  · next u st0 =>
    rw [vF_eq] at h
    match stV, hT with
    | y :: stV, hT =>
      obtain ⟨⟨hu, rfl⟩, hT9⟩ := hT
      refine lv_i2l hx hb hdg (vl_i2l hu) ?_
      cases h1 : Nat.blt u 2147483648 with
      | true =>
        rw [h1] at h
        cases h
        rw [if_pos (Nat.blt_eq.mp h1)]
        exact kk ws tys H locs lsA _ hW hL ⟨⟨by omega, rfl⟩, hT9⟩ (vSub2.rf _)
      | false =>
        rw [h1] at h
        cases h
        have h1 : ¬ u < 2147483648 := fun q => by rw [Nat.blt_eq.mpr q] at h1; cases h1
        rw [if_neg h1]
        exact kk ws tys H locs lsA _ hW hL ⟨⟨by omega, rfl⟩, hT9⟩ (vSub2.rf _)
  · cases h

theorem vs_l2i (hx : p.tables.exec = Jvm.exec) (hb : c.code = cc) (hW : vW cl D A s b sa sv hp ws tys H locs) (hL : vL b sa sv (vAd ws) nL ls lsA) (hT : vT b sa sv (vAd ws) st stV) (hdg : decode cc pc = .ok (.l2i, 1)) (h : vL2i (pc + 1) ls st hp = some (pc', ls', st', hp')) (kk : vK p l e R s m args below meth c Q cl D A b sa sv nL ws pc' ls' st' hp' cells slots) : W p l e R s m args below meth c H locs cells slots Q (F0 m pc lsA stV) := by
  unfold vL2i at h
  split at h
  · next u st0 =>
    rw [vF_eq] at h
    cases h
    match stV, hT with
    | y :: stV, hT =>
      obtain ⟨⟨hu, rfl⟩, hT9⟩ := hT
      exact lv_l2i hx hb hdg (vl_l2i hu) (kk ws tys H locs lsA _ hW hL ⟨⟨Nat.mod_lt _ (by decide), rfl⟩, hT9⟩ (vSub2.rf _))
  · cases h

theorem vs_dup (hx : p.tables.exec = Jvm.exec) (hb : c.code = cc) (hW : vW cl D A s b sa sv hp ws tys H locs) (hL : vL b sa sv (vAd ws) nL ls lsA) (hT : vT b sa sv (vAd ws) st stV) (hdg : decode cc pc = .ok (.dup, 1)) (h : vDup (pc + 1) ls st hp = some (pc', ls', st', hp')) (kk : vK p l e R s m args below meth c Q cl D A b sa sv nL ws pc' ls' st' hp' cells slots) : W p l e R s m args below meth c H locs cells slots Q (F0 m pc lsA stV) := by
  unfold vDup at h
  split at h
  · next v st0 =>
    cases hk : Nat.beq (vKd v) 1 with
    | true => rw [hk] at h; cases h
    | false =>
      rw [hk] at h
      cases h
      match stV, hT with
      | y :: stV, hT => exact lv_dup hx hb hdg (vKd_cat hT.1 hk) (kk ws tys H locs lsA _ hW hL ⟨hT.1, hT⟩ (vSub2.rf _))
  · cases h

theorem vs_dup2 (hx : p.tables.exec = Jvm.exec) (hb : c.code = cc) (hW : vW cl D A s b sa sv hp ws tys H locs) (hL : vL b sa sv (vAd ws) nL ls lsA) (hT : vT b sa sv (vAd ws) st stV) (hdg : decode cc pc = .ok (.dup2, 1)) (h : vDup2 (pc + 1) ls st hp = some (pc', ls', st', hp')) (kk : vK p l e R s m args below meth c Q cl D A b sa sv nL ws pc' ls' st' hp' cells slots) : W p l e R s m args below meth c H locs cells slots Q (F0 m pc lsA stV) := by
  unfold vDup2 at h
  split at h
  · next v w st0 =>
    cases hk : (Nat.beq (vKd v) 1 || Nat.beq (vKd w) 1) with
    | true => rw [hk] at h; cases h
    | false =>
      rw [hk] at h
      cases h
      rw [Bool.or_eq_false_iff] at hk
      match stV, hT with
      | y :: [], hT => exact hT.2.elim
      | y :: x :: stV, hT => exact lv_dup2_11 hx hb hdg (vKd_cat hT.1 hk.1) (vKd_cat hT.2.1 hk.2) (kk ws tys H locs lsA _ hW hL ⟨hT.1, hT.2.1, hT⟩ (vSub2.rf _))
  · cases h

theorem vs_pop (hx : p.tables.exec = Jvm.exec) (hb : c.code = cc) (hW : vW cl D A s b sa sv hp ws tys H locs) (hL : vL b sa sv (vAd ws) nL ls lsA) (hT : vT b sa sv (vAd ws) st stV) (hdg : decode cc pc = .ok (.pop, 1)) (h : vPop (pc + 1) ls st hp = some (pc', ls', st', hp')) (kk : vK p l e R s m args below meth c Q cl D A b sa sv nL ws pc' ls' st' hp' cells slots) : W p l e R s m args below meth c H locs cells slots Q (F0 m pc lsA stV) := by
  unfold vPop at h
  split at h
  · next v st0 =>
    cases hk : Nat.beq (vKd v) 1 with
    | true => rw [hk] at h; cases h
    | false =>
      rw [hk] at h
      cases h
      match stV, hT with
      | y :: stV, hT => exact lv_pop hx hb hdg (vKd_cat hT.1 hk) (kk ws tys H locs lsA _ hW hL hT.2 (vSub2.rf _))
  · cases h

theorem vs_tableswitch (hx : p.tables.exec = Jvm.exec) (hb : c.code = cc) (hW : vW cl D A s b sa sv hp ws tys H locs) (hL : vL b sa sv (vAd ws) nL ls lsA) (hT : vT b sa sv (vAd ws) st stV) {dflt lo hi : Int} {offs : Array Int} {len : Nat} (hdg : decode cc pc = .ok (.tableswitch dflt lo hi offs, len)) (h : vTab pc dflt lo hi offs ls st hp = some (pc', ls', st', hp')) (kk : vK p l e R s m args below meth c Q cl D A b sa sv nL ws pc' ls' st' hp' cells slots) : W p l e R s m args below meth c H locs cells slots Q (F0 m pc lsA stV) := by
  unfold vTab at h
  split at h
  · next x0 st0 =>
    split at h
    · next q hq =>
      match stV, hT with
      | y :: stV, hT =>
        obtain ⟨X, rfl, x1, x2⟩ := vIv_ok hT.1 hq
        split at h
        · next hd =>
          split at h
          · next h0 =>
            cases h
            exact lv_tableOut hx hb hdg (by omega) (by omega) (kk ws tys H locs lsA _ hW hL hT.2 (vSub2.rf _))
          · cases h
        · split at h
          · next hd2 =>
            split at h
            · next off ho =>
              split at h
              · next h0 =>
                cases h
                have hX : X.toInt = (q.1 : Int) - 2147483648 := by omega
                exact lv_tableIn hx hb hdg (by omega) (by omega) (by rw [hX]; exact ho) (by omega) (kk ws tys H locs lsA _ hW hL hT.2 (vSub2.rf _))
              · cases h
            · cases h
          · cases h
    · cases h
  · cases h

end VS3
end
