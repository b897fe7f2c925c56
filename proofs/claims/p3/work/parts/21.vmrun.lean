/-! ===== a run of the machine ===== -/
def vIt (a : Nat) : Int := bif Nat.blt a 2147483648 then Int.ofNat a else Int.negSucc (4294967295 - a)
/-- the instruction by its number here -/
def vOp (sp : List Instr) (op x a b pc : Nat) : Option Instr := bif Nat.blt op 1 then none else bif Nat.blt 81 op then none else (bif Nat.blt op 41 then (bif Nat.blt op 21 then (bif Nat.blt op 11 then (bif Nat.blt op 6 then (bif Nat.blt op 3 then (bif Nat.blt op 2 then some (.iconst (vIt a)) else some (.bipush (vIt a))) else (bif Nat.blt op 4 then some (.sipush (vIt a)) else (bif Nat.blt op 5 then some (.ldc x) else some (.ldc_w x)))) else (bif Nat.blt op 8 then (bif Nat.blt op 7 then some (.lconst ⟨a % 2, Nat.mod_lt _ (by decide)⟩) else some (.ldc2_w x)) else (bif Nat.blt op 9 then some (.iload_n ⟨a % 4, Nat.mod_lt _ (by decide)⟩) else (bif Nat.blt op 10 then some (.lload_n ⟨a % 4, Nat.mod_lt _ (by decide)⟩) else some (.aload_n ⟨a % 4, Nat.mod_lt _ (by decide)⟩))))) else (bif Nat.blt op 16 then (bif Nat.blt op 13 then (bif Nat.blt op 12 then some (.istore_n ⟨a % 4, Nat.mod_lt _ (by decide)⟩) else some (.astore_n ⟨a % 4, Nat.mod_lt _ (by decide)⟩)) else (bif Nat.blt op 14 then some (.lstore_n ⟨a % 4, Nat.mod_lt _ (by decide)⟩) else (bif Nat.blt op 15 then some (.iload a) else some (.lload a)))) else (bif Nat.blt op 18 then (bif Nat.blt op 17 then some (.aload a) else some (.istore a)) else (bif Nat.blt op 19 then some (.astore a) else (bif Nat.blt op 20 then some (.lstore a) else some (.iinc a (vIt b))))))) else (bif Nat.blt op 31 then (bif Nat.blt op 26 then (bif Nat.blt op 23 then (bif Nat.blt op 22 then some (.ifCond .eq ((a : Int) - (pc : Int))) else some (.ifCond .ne ((a : Int) - (pc : Int)))) else (bif Nat.blt op 24 then some (.ifCond .lt ((a : Int) - (pc : Int))) else (bif Nat.blt op 25 then some (.ifCond .ge ((a : Int) - (pc : Int))) else some (.ifCond .gt ((a : Int) - (pc : Int)))))) else (bif Nat.blt op 28 then (bif Nat.blt op 27 then some (.ifCond .le ((a : Int) - (pc : Int))) else some (.if_icmp .eq ((a : Int) - (pc : Int)))) else (bif Nat.blt op 29 then some (.if_icmp .ne ((a : Int) - (pc : Int))) else (bif Nat.blt op 30 then some (.if_icmp .lt ((a : Int) - (pc : Int))) else some (.if_icmp .ge ((a : Int) - (pc : Int))))))) else (bif Nat.blt op 36 then (bif Nat.blt op 33 then (bif Nat.blt op 32 then some (.if_icmp .gt ((a : Int) - (pc : Int))) else some (.if_icmp .le ((a : Int) - (pc : Int)))) else (bif Nat.blt op 34 then some (.goto ((a : Int) - (pc : Int))) else (bif Nat.blt op 35 then some (.getfield x) else some (.putfield x)))) else (bif Nat.blt op 38 then (bif Nat.blt op 37 then some (.getstatic x) else some (.new x)) else (bif Nat.blt op 39 then some (.newarray .int) else (bif Nat.blt op 40 then some (.newarray .byte) else some (.newarray .boolean))))))) else (bif Nat.blt op 61 then (bif Nat.blt op 51 then (bif Nat.blt op 46 then (bif Nat.blt op 43 then (bif Nat.blt op 42 then some (.newarray .long) else some (.anewarray x)) else (bif Nat.blt op 44 then some (.invokevirtual x) else (bif Nat.blt op 45 then some (.invokestatic x) else some (.invokespecial x)))) else (bif Nat.blt op 48 then (bif Nat.blt op 47 then vNth sp x else some .iadd) else (bif Nat.blt op 49 then some .isub else (bif Nat.blt op 50 then some .imul else some .iand)))) else (bif Nat.blt op 56 then (bif Nat.blt op 53 then (bif Nat.blt op 52 then some .ior else some .ixor) else (bif Nat.blt op 54 then some .ishl else (bif Nat.blt op 55 then some .ishr else some .iushr))) else (bif Nat.blt op 58 then (bif Nat.blt op 57 then some .idiv else some .irem) else (bif Nat.blt op 59 then some .iaload else (bif Nat.blt op 60 then some .baload else some .laload))))) else (bif Nat.blt op 71 then (bif Nat.blt op 66 then (bif Nat.blt op 63 then (bif Nat.blt op 62 then some .aaload else some .iastore) else (bif Nat.blt op 64 then some .bastore else (bif Nat.blt op 65 then some .lastore else some .aastore))) else (bif Nat.blt op 68 then (bif Nat.blt op 67 then some .arraylength else some .ladd) else (bif Nat.blt op 69 then some .lmul else (bif Nat.blt op 70 then some .ldiv else some .lrem)))) else (bif Nat.blt op 76 then (bif Nat.blt op 73 then (bif Nat.blt op 72 then some .lcmp else some .i2b) else (bif Nat.blt op 74 then some .i2c else (bif Nat.blt op 75 then some .i2l else some .l2i))) else (bif Nat.blt op 79 then (bif Nat.blt op 77 then some .dup else (bif Nat.blt op 78 then some .dup2 else some .pop)) else (bif Nat.blt op 80 then some .ireturn else (bif Nat.blt op 81 then some .lreturn else some .return_)))))))
noncomputable def vDe (sp : List Instr) (pc : Nat) (n : Nat) : Option vIn := vF n (fun n => vF (n % 256) (fun op => vF (n / 65536 % 65536) (fun x => vF (n / 4294967296 % 18446744073709551616) (fun a => vF (n / 79228162514264337593543950336 % 4294967296) (fun b => match vOp sp op x a b pc with
  | some i => vF (n / 256 % 256) (fun len => vF (n / 340282366920938463463374607431768211456) (fun t => some (i, len, a, b, t)))
  | none => none)))))
noncomputable def vGet (tbl : vTbl) (pc : Nat) : Option vIn := bif Nat.blt pc tbl.2.1 then vDe tbl.2.2 pc (tbl.1 / 2 ^ (136 * pc) % 87112285931760246646623899502532662132736) else none
/-- is the receiver of this class -/
def vRc (t : Nat) (rv : vAV) (hp : List vOb) : Bool := match rv with
  | .inr (.inr (.inr (.inl (some k)))) => match vNth hp k with
    | some o => Nat.beq o.1 (8 * t) && Nat.blt t 99
    | none => false
  | .inr (.inr (.inr (.inr 1))) => Nat.beq t 99
  | _ => false
abbrev vCal : Type := Nat → List vAV → List vOb → Option (Option vAV × List vOb × Nat × Nat)
def vInv (cal : vCal) (i : Instr) (a b t : Nat) (st : List vAV) (hp : List vOb) : Option (List vAV × List vOb × Nat × Nat) := match i with
  | .invokevirtual _ => match vTk b [] st with
    | some (as, rv :: rest) => bif vRc t rv hp && Nat.ble (vCs rest) 8 then match cal a (rv :: as) hp with
      | some (r, hp', c1, s1) => some (r.toList ++ rest, hp', c1, s1)
      | none => none
      else none
    | _ => none
  | .invokestatic _ => bif Nat.beq a 1001 then match vCp st hp with
      | some (rest, hp') => bif Nat.ble (vCs rest) 8 then some (rest, hp', 0, 0) else none
      | none => none
    else match vTk b [] st with
    | some (as, rest) => bif Nat.ble (vCs rest) 8 then match cal a as hp with
      | some (r, hp', c1, s1) => some (r.toList ++ rest, hp', c1, s1)
      | none => none
      else none
    | none => none
  | .invokespecial _ => bif Nat.beq a 1000 then match st with
      | .inr (.inr (.inr (.inl (some _)))) :: rest => bif Nat.ble (vCs rest) 8 then some (rest, hp, 0, 0) else none
      | _ => none
    else match vTk b [] st with
    | some (as, .inr (.inr (.inr (.inl (some k)))) :: rest) => bif Nat.ble (vCs rest) 8 then match cal a (vOj k :: as) hp with
      | some (r, hp', c1, s1) => some (r.toList ++ rest, hp', c1, s1)
      | none => none
      else none
    | _ => none
  | _ => none
/-- where a run stops: at an answer, and at an object that the machine can't make -/
def vEnd (i : Instr) : Bool := match i with
  | .ireturn => true
  | .lreturn => true
  | .return_ => true
  | .new _ => true
  | .invokestatic _ => true
  | .arraylength => true
  | .tableswitch _ _ _ _ => true
  | _ => false
abbrev vRes : Type := Option (Nat × vLs × List vAV × List vOb × Nat × Nat)
noncomputable def vRun (cal : vCal) (df : List (List vAV)) (tbl : vTbl) (sc : List vAV) (tx : List Nat) (mc ms : Nat) : Nat → Nat → vLs → List vAV → List vOb → Nat → Nat → vRes
  | 0, _, _, _, _, _, _ => none
  | f + 1, pc, ls, st, hp, ce, sl => match vGet tbl pc with
    | none => none
    | some (i, len, a, b, t) => match vStep sc tx i len a b t pc ls st hp with
      | some (pc', ls', st', hp') => vF pc' (fun q => vRun cal df tbl sc tx mc ms f q ls' st' hp' ce sl)
      | none => match vAl df i a t st hp with
        | some (st', hp', n) => bif Nat.ble (ce + 1) mc && Nat.ble (sl + n) ms then vF (pc + len) (fun q => vF (ce + 1) (fun ce' => vF (sl + n) (fun sl' => vRun cal df tbl sc tx mc ms f q ls st' hp' ce' sl'))) else none
        | none => match vInv cal i a b t st hp with
          | some (st', hp', c1, s1) => bif Nat.ble (ce + c1) mc && Nat.ble (sl + s1) ms then vF (pc + 3) (fun q => vF (ce + c1) (fun ce' => vF (sl + s1) (fun sl' => vRun cal df tbl sc tx mc ms f q ls st' hp' ce' sl'))) else none
          | none => bif vEnd i then some (pc, ls, st, hp, ce, sl) else none
/-- the words that the classes' fields need, and what a new object holds -/
def vClsOK (df : List (List vAV)) : Prop := ∀ (a : Nat) (r : vw_C), vwCl[a]? = some r → (∀ w ∈ u_ws r.1 r.2.1 r.2.2, w ∈ WT) ∧ ∃ ty0 : Nat → FieldType, (∀ k, k < r.2.2 → parseFieldDescriptor (r.2.1 k).2.2.1 = some (ty0 k)) ∧ (∀ a, a < r.2.2 → ∀ b, b < r.2.2 → a ≠ b → (r.2.1 a).2.1 ≠ (r.2.1 b).2.1) ∧
  ∀ d, df[a]? = some d → d.length = r.2.2 ∧ ∀ (j : Nat) (x : vAV), d[j]? = some x → ∀ b sa sv, vG b sa sv [] x (defaultValue (ty0 j))
/-- what the tables must say of an instruction -/
def vFacts (vms : List vMt) (df : List (List vAV)) (R : Room) (own : String) (ini : Bool) (pc : Nat) (i : Instr) (len a b t : Nat) : Prop := match i with
  | .iconst n => len = 1 ∧ a < 4294967296 ∧ Int32.ofInt n = nI a
  | .bipush n => len = 2 ∧ a < 4294967296 ∧ (Int8.ofInt n).toInt32 = nI a
  | .sipush n => len = 3 ∧ a < 4294967296 ∧ (Int16.ofInt n).toInt32 = nI a
  | .ldc idx => len = 2 ∧ ((t = 1 ∧ own = RX6 ∧ idx = 19) ∨ (t ≠ 1 ∧ a < 4294967296 ∧ Cond.constant own idx (nI a) ∈ WT))
  | .ldc_w idx => len = 3 ∧ a < 4294967296 ∧ Cond.constant own idx (nI a) ∈ WT
  | .lconst n => len = 1 ∧ a < 18446744073709551616 ∧ Int64.ofNat (n : Nat) = lN a
  | .ldc2_w idx => len = 3 ∧ a < 18446744073709551616 ∧ Cond.constantLong own idx (lN a) ∈ WT
  | .iload_n k => len = 1 ∧ (k : Nat) = a
  | .lload_n k => len = 1 ∧ (k : Nat) = a
  | .aload_n k => len = 1 ∧ (k : Nat) = a
  | .istore_n k => len = 1 ∧ (k : Nat) = a
  | .astore_n k => len = 1 ∧ (k : Nat) = a
  | .lstore_n k => len = 1 ∧ (k : Nat) = a
  | .iload k => len = 2 ∧ k = a
  | .lload k => len = 2 ∧ k = a
  | .aload k => len = 2 ∧ k = a
  | .istore k => len = 2 ∧ k = a
  | .astore k => len = 2 ∧ k = a
  | .lstore k => len = 2 ∧ k = a
  | .iinc k n => len = 3 ∧ k = a ∧ b < 4294967296 ∧ Int32.ofInt n = nI b
  | .ifCond _ off => len = 3 ∧ (pc : Int) + off = (a : Int)
  | .if_icmp _ off => len = 3 ∧ (pc : Int) + off = (a : Int)
  | .goto off => len = 3 ∧ (pc : Int) + off = (a : Int)
  | .getfield idx => len = 3 ∧ ((t < 7 ∧ ∃ r : vw_C, vwCl[a]? = some r ∧ b < r.2.2 ∧ Cond.fieldLink own idx (r.2.1 b).1 (r.2.1 b).2.1 (r.2.1 b).2.2.1 ∈ WT) ∨ (t = 7 ∧ Cond.fieldLink own idx "java/lang/String" "coder" "B" ∈ WT) ∨ (t = 8 ∧ Cond.fieldLink own idx "java/lang/String" "value" "[B" ∈ WT))
  | .putfield idx => len = 3 ∧ ∃ r : vw_C, vwCl[a]? = some r ∧ b < r.2.2 ∧ Cond.fieldLink own idx (r.2.1 b).1 (r.2.1 b).2.1 (r.2.1 b).2.2.1 ∈ WT ∧ ((r.2.1 b).2.2.2 = false ∨ ((r.2.1 b).2.2.2 = true ∧ ini = true ∧ (r.2.1 b).1 = own)) ∧ ∃ ty, parseFieldDescriptor (r.2.1 b).2.2.1 = some ty ∧ vTy t ty = true
  | .getstatic idx => len = 3 ∧ (t = 9 → Cond.fieldLink own idx "java/lang/String" "COMPACT_STRINGS" "Z" ∈ WT) ∧ (t = 10 → Cond.fieldLink own idx "jdk/internal/util/Preconditions" "SIOOBE_FORMATTER" "Ljava/util/function/BiFunction;" ∈ WT)
  | .new idx => len = 3 ∧ ∀ r : vw_C, vwCl[a]? = some r → Cond.classLink own idx r.1 ∈ WT ∧ Cond.instantiable r.1 r.2.2 ∈ WT ∧ Cond.initialized r.1 ∈ WT
  | .newarray at_ => len = 2 ∧ Cond.arrayClass (newarray.typeOf at_) ∈ WT ∧ vAT t (newarray.typeOf at_) = true
  | .anewarray idx => len = 3 ∧ ∃ r : vw_C, vwCl[a]? = some r ∧ Cond.classLink own idx r.1 ∈ WT ∧ r.1 ∈ vOver
  | .invokevirtual idx => len = 3 ∧ ∃ M, vms[a]? = some M ∧ vCb R M b ∧ Cond.methodLink own idx M.1 ∈ WT ∧ Cond.instanceMethod M.1 ∈ WT ∧ Cond.selects M.1.cls M.1 M.1 ∈ WT ∧ ((t ≠ 99 ∧ ∃ q : vw_C, vwCl[t]? = some q ∧ q.1 = M.1.cls) ∨ (t = 99 ∧ M.1.cls = "java/lang/String"))
  | .invokestatic idx => len = 3 ∧ ((a = 1001 ∧ Cond.methodLink own idx arraycopyName ∈ WT ∧ 1 ≤ R.frames ∧ 8 + (nativeFrameWords "java/lang/System" "arraycopy" 5 + 11) ≤ R.locals) ∨ (a ≠ 1001 ∧ ∃ M, vms[a]? = some M ∧ vCb R M b ∧ Cond.methodLink own idx M.1 ∈ WT ∧ Cond.static M.1 ∈ WT))
  | .invokespecial idx => len = 3 ∧ ((a = 1000 ∧ Cond.methodLink own idx Lib.objectInit ∈ WT ∧ 1 ≤ R.frames ∧ 20 ≤ R.locals) ∨ (a ≠ 1000 ∧ ∃ M, vms[a]? = some M ∧ vCb R M b ∧ M.2.2.2.1 = none ∧ M.1.name = "<init>" ∧ Cond.instanceMethod M.1 ∈ WT ∧ (Cond.methodLink own idx M.1 ∈ WT ∨ ∃ host, Cond.methodLinkNest own idx M.1 host ∈ vNest)))
  | .tableswitch _ _ _ _ => True
  | .lookupswitch _ _ => True
  | _ => len = 1
/-- the words that all methods use -/
def vCommon (Ts : List Cond) : Prop := Cond.instanceMethod Lib.objectInit ∈ WT ∧ Cond.code Lib.objectInit ⟨#[0xb1]⟩ 1 none ∈ WT ∧ Cond.native arraycopyName ∈ Ts ∧ Cond.static arraycopyName ∈ WT ∧ Cond.initialized "java/lang/System" ∈ WT
def vCalOK (l : Launch) (vms : List vMt) (cal : vCal) : Prop := ∀ (j : Nat) (av : List vAV) (hp : List vOb) (r : Option vAV) (hp' : List vOb) (c1 s1 : Nat), cal j av hp = some (r, hp', c1, s1) → ∃ M, vms[j]? = some M ∧ c1 = (mRm M).cells ∧ s1 = (mRm M).slots ∧ vMet l M av hp r hp'
section VALL
variable {p : Program} {l : Launch} {e : Env} {R : Room} {s : State} {m : MethodId} {args : Array Value} {below : List Frame} {meth : Method} {c : Code} {H : Heap} {locs : List Loc} {cells slots : Nat} {Q : State → Prop}
variable {cc : ByteArray} {D : va_G} {A : Nat → Prop} {ws : va_W} {tys : List (ClassId × FieldType)}
variable {b sa sv nL : Nat} {own : String} {Ts : List Cond} {vms : List vMt} {df : List (List vAV)} {ini : Bool} {sc : List vAV}
set_option maxHeartbeats 4000000 in
set_option maxRecDepth 100000 in
theorem vStep_ok {pc pc' : Nat} {lsA : Array Slot} {stV : List Value} {ls ls' : vLs} {st st' : List vAV} {hp hp' : List vOb} (hx : p.tables.exec = Jvm.exec) (hb : c.code = cc) (hown : s.vm.findClass own = some m.cls) (hts : ∀ w ∈ Ts, w.before args s = true) (hsub : ∀ w ∈ WT, w ∈ Ts) (hini : ini = true → meth.name = "<init>") (hcl : vClsOK df)
    (hsc : vScr b sa sv A s sc) (hX : vX sa sv A s s.heap) (hW : vW vwCl D A s b sa sv hp ws tys H locs) (hL : vL b sa sv (vAd ws) nL ls lsA) (hT : vT b sa sv (vAd ws) st stV)
    {i : Instr} {len a b1 t : Nat} (hdg : decode cc pc = .ok (i, len)) (hF : vFacts vms df R own ini pc i len a b1 t) (h : vStep sc vTx i len a b1 t pc ls st hp = some (pc', ls', st', hp'))
    (kk : vK p l e R s m args below meth c Q vwCl D A b sa sv nL ws pc' ls' st' hp' cells slots) : W p l e R s m args below meth c H locs cells slots Q (F0 m pc lsA stV) := by
  cases i

  case iconst n =>
    obtain ⟨rfl, ha, hv⟩ := hF
    exact vs_iconst hx hb hW hL hT hdg ha hv h kk
  case bipush n =>
    obtain ⟨rfl, ha, hv⟩ := hF
    exact vs_bipush hx hb hW hL hT hdg ha hv h kk
  case sipush n =>
    obtain ⟨rfl, ha, hv⟩ := hF
    exact vs_sipush hx hb hW hL hT hdg ha hv h kk
  case lconst n =>
    obtain ⟨rfl, ha, hv⟩ := hF
    exact vs_lconst hx hb hW hL hT hdg ha hv h kk
  case ldc idx =>
    obtain ⟨rfl, hF⟩ := hF
    rcases hF with ⟨rfl, rfl, rfl⟩ | ⟨h1, ha, hc⟩
    · exact vs_ldcT hx hb hW hL hT hown hX.2.2.1 hdg h kk
    · have h0 : Nat.beq t 1 = false := by
        cases hh : Nat.beq t 1 with
        | false => rfl
        | true => exact absurd (Nat.eq_of_beq_eq_true hh) h1
      have h : (bif Nat.beq t 1 then some (pc + 2, ls, .inr (.inr (.inr (.inr 1))) :: st, hp) else some (pc + 2, ls, .inl a :: st, hp) : vR) = some (pc', ls', st', hp') := h
      rw [h0] at h
      exact vs_ldc hx hb hW hL hT hown (hts _ (hsub _ hc)) hdg ha h kk
  case ldc_w idx =>
    obtain ⟨rfl, ha, hc⟩ := hF
    exact vs_ldcw hx hb hW hL hT hown (hts _ (hsub _ hc)) hdg ha h kk
  case ldc2_w idx =>
    obtain ⟨rfl, ha, hc⟩ := hF
    exact vs_ldc2_w hx hb hW hL hT hown (hts _ (hsub _ hc)) hdg ha h kk
  case iload_n k =>
    obtain ⟨rfl, hk⟩ := hF
    exact vs_iload_n hx hb hW hL hT hdg hk h kk
  case lload_n k =>
    obtain ⟨rfl, hk⟩ := hF
    exact vs_lload_n hx hb hW hL hT hdg hk h kk
  case aload_n k =>
    obtain ⟨rfl, hk⟩ := hF
    exact vs_aload_n hx hb hW hL hT hdg hk h kk
  case istore_n k =>
    obtain ⟨rfl, hk⟩ := hF
    exact vs_istore_n hx hb hW hL hT hdg hk h kk
  case astore_n k =>
    obtain ⟨rfl, hk⟩ := hF
    exact vs_astore_n hx hb hW hL hT hdg hk h kk
  case lstore_n k =>
    obtain ⟨rfl, hk⟩ := hF
    exact vs_lstore_n hx hb hW hL hT hdg hk h kk
  case iload k =>
    obtain ⟨rfl, rfl⟩ := hF
    exact vs_iload hx hb hW hL hT hdg h kk
  case lload k =>
    obtain ⟨rfl, rfl⟩ := hF
    exact vs_lload hx hb hW hL hT hdg h kk
  case aload k =>
    obtain ⟨rfl, rfl⟩ := hF
    exact vs_aload hx hb hW hL hT hdg h kk
  case istore k =>
    obtain ⟨rfl, rfl⟩ := hF
    exact vs_istore hx hb hW hL hT hdg h kk
  case astore k =>
    obtain ⟨rfl, rfl⟩ := hF
    exact vs_astore hx hb hW hL hT hdg h kk
  case lstore k =>
    obtain ⟨rfl, rfl⟩ := hF
    exact vs_lstore hx hb hW hL hT hdg h kk
  case iinc k n =>
    obtain ⟨rfl, rfl, hb1, hn⟩ := hF
    exact vs_iinc hx hb hW hL hT hdg hb1 hn h kk
  case iadd =>
    have hF : len = 1 := hF
    subst hF
    exact vs_iadd hx hb hW hL hT hdg h kk
  case isub =>
    have hF : len = 1 := hF
    subst hF
    exact vs_isub hx hb hW hL hT hdg h kk
  case imul =>
    have hF : len = 1 := hF
    subst hF
    exact vs_imul hx hb hW hL hT hdg h kk
  case iand =>
    have hF : len = 1 := hF
    subst hF
    exact vs_iand hx hb hW hL hT hdg h kk
  case ior =>
    have hF : len = 1 := hF
    subst hF
    exact vs_ior hx hb hW hL hT hdg h kk
  case ixor =>
    have hF : len = 1 := hF
    subst hF
    exact vs_ixor hx hb hW hL hT hdg h kk
  case ishl =>
    have hF : len = 1 := hF
    subst hF
    exact vs_ishl hx hb hW hL hT hdg h kk
  case iushr =>
    have hF : len = 1 := hF
    subst hF
    exact vs_iushr hx hb hW hL hT hdg h kk
  case ishr =>
    have hF : len = 1 := hF
    subst hF
    exact vs_ishr hx hb hW hL hT hdg h kk
  case idiv =>
    have hF : len = 1 := hF
    subst hF
    exact vs_idiv hx hb hW hL hT hdg h kk
  case irem =>
    have hF : len = 1 := hF
    subst hF
    exact vs_irem hx hb hW hL hT hdg h kk
  case ladd =>
    have hF : len = 1 := hF
    subst hF
    exact vs_ladd hx hb hW hL hT hdg h kk
  case lmul =>
    have hF : len = 1 := hF
    subst hF
    exact vs_lmul hx hb hW hL hT hdg h kk
  case ldiv =>
    have hF : len = 1 := hF
    subst hF
    exact vs_ldiv hx hb hW hL hT hdg h kk
  case lrem =>
    have hF : len = 1 := hF
    subst hF
    exact vs_lrem hx hb hW hL hT hdg h kk
  case lcmp =>
    have hF : len = 1 := hF
    subst hF
    exact vs_lcmp hx hb hW hL hT hdg h kk
  case i2b =>
    have hF : len = 1 := hF
    subst hF
    exact vs_i2b hx hb hW hL hT hdg h kk
  case i2c =>
    have hF : len = 1 := hF
    subst hF
    exact vs_i2c hx hb hW hL hT hdg h kk
  case i2l =>
    have hF : len = 1 := hF
    subst hF
    exact vs_i2l hx hb hW hL hT hdg h kk
  case l2i =>
    have hF : len = 1 := hF
    subst hF
    exact vs_l2i hx hb hW hL hT hdg h kk
  case dup =>
    have hF : len = 1 := hF
    subst hF
    exact vs_dup hx hb hW hL hT hdg h kk
  case dup2 =>
    have hF : len = 1 := hF
    subst hF
    exact vs_dup2 hx hb hW hL hT hdg h kk
  case pop =>
    have hF : len = 1 := hF
    subst hF
    exact vs_pop hx hb hW hL hT hdg h kk
  case ifCond cnd off =>
    obtain ⟨rfl, ht⟩ := hF
    cases cnd
    · exact vs_if_eq hx hb hW hL hT hdg ht h kk
    · exact vs_if_ne hx hb hW hL hT hdg ht h kk
    · exact vs_if_lt hx hb hW hL hT hdg ht h kk
    · exact vs_if_ge hx hb hW hL hT hdg ht h kk
    · exact vs_if_gt hx hb hW hL hT hdg ht h kk
    · exact vs_if_le hx hb hW hL hT hdg ht h kk
  case if_icmp cnd off =>
    obtain ⟨rfl, ht⟩ := hF
    cases cnd
    · exact vs_ic_eq hx hb hW hL hT hdg ht h kk
    · exact vs_ic_ne hx hb hW hL hT hdg ht h kk
    · exact vs_ic_lt hx hb hW hL hT hdg ht h kk
    · exact vs_ic_ge hx hb hW hL hT hdg ht h kk
    · exact vs_ic_gt hx hb hW hL hT hdg ht h kk
    · exact vs_ic_le hx hb hW hL hT hdg ht h kk
  case goto off =>
    obtain ⟨rfl, ht⟩ := hF
    exact vs_goto hx hb hW hL hT hdg ht h kk
  case tableswitch d lo hi offs =>
    exact vs_tableswitch hx hb hW hL hT hdg h kk
  case lookupswitch d ps =>
    exact vs_look hx hb hW hL hT hdg h kk
  case lshl =>
    have hF : len = 1 := hF
    subst hF
    exact vs_lshl hx hb hW hL hT hdg h kk
  case lor =>
    have hF : len = 1 := hF
    subst hF
    exact vs_lor hx hb hW hL hT hdg h kk
  case getfield idx =>
    obtain ⟨rfl, hF⟩ := hF
    rcases hF with ⟨ht, r, hr, hk, hl⟩ | ⟨ht, hl⟩ | ⟨ht, hl⟩
    · exact vs_getf (C := r.1) (T := r.2.1) (N := r.2.2) hx hb hW hL hT hts (fun w hw => hsub w ((hcl a r hr).1 w hw)) hown hr hk (hts _ (hsub _ hl)) ht hdg h kk
    · exact vs_getT hx hb hW hL hT hX.txt hown (by omega) (fun _ => hts _ (hsub _ hl)) (fun q => by omega) hdg h kk
    · exact vs_getT hx hb hW hL hT hX.txt hown (by omega) (fun q => by omega) (fun _ => hts _ (hsub _ hl)) hdg h kk
  case putfield idx =>
    obtain ⟨rfl, r, hr, hk, hl, hf, ty, hty, htt⟩ := hF
    obtain ⟨hws, ty0, h1, h2, -⟩ := hcl a r hr
    have e : ty0 b1 = ty := Option.some.inj ((h1 b1 hk).symm.trans hty)
    exact vs_putf (C := r.1) (T := r.2.1) (N := r.2.2) hx hb hW hL hT hts (fun w hw => hsub w (hws w hw)) hown hr hk (hts _ (hsub _ hl)) ty0 h1 h2 (hf.imp id (fun q => ⟨q.1, hini q.2.1, q.2.2⟩)) (by rw [e]; exact htt) hdg h kk
  case getstatic idx =>
    obtain ⟨rfl, hl, hl2⟩ := hF
    have h : (bif Nat.beq t 9 then some (pc + 3, ls, .inl 1 :: st, hp) else bif Nat.beq t 10 then some (pc + 3, ls, .inr (.inr (.inr (.inr 3))) :: st, hp) else none : vR) = some (pc', ls', st', hp') := h
    cases hh : Nat.beq t 9 with
    | false =>
      rw [hh, cond_false] at h
      cases hh2 : Nat.beq t 10 with
      | false => rw [hh2] at h; cases h
      | true =>
        rw [hh2] at h
        exact vs_getstaticR hx hb hW hL hT hX.2.2.2.2.2.1 hown (hts _ (hsub _ (hl2 (Nat.eq_of_beq_eq_true hh2)))) hdg h kk
    | true =>
      rw [hh] at h
      exact vs_getstatic hx hb hW hL hT hX.2.2.2.2.1 hown (hts _ (hsub _ (hl (Nat.eq_of_beq_eq_true hh)))) hdg h kk
  case iaload =>
    have hF : len = 1 := hF
    subst hF
    obtain ⟨u, st0, hu, e1, e2, e3, hh⟩ := vAld_ok h
    rcases hh with ⟨k, o, v, e4, ho, hk, hv, e5⟩ | ⟨v, e4, hk, hv, e5⟩ | ⟨v, e4, hk, hv, e5⟩
    · rcases hk with hk | hk
      · exact vs_ald1 hx hb hW hL hT hu e4 ho hk hv e2 e3 e5 e1 hdg kk
      · exact vs_ald1 hx hb hW hL hT hu e4 ho hk hv e2 e3 e5 e1 hdg kk
    · exact vs_aldS hx hb hW hL hT hsc hu e4 hv e2 e3 e5 e1 hdg kk
    · omega
  case baload =>
    have hF : len = 1 := hF
    subst hF
    obtain ⟨u, st0, hu, e1, e2, e3, hh⟩ := vAld_ok h
    rcases hh with ⟨k, o, v, e4, ho, hk, hv, e5⟩ | ⟨v, e4, hk, hv, e5⟩ | ⟨v, e4, hk, hv, e5⟩
    · rcases hk with hk | hk
      · exact vs_ald2 hx hb hW hL hT hu e4 ho hk hv e2 e3 e5 e1 hdg kk
      · exact vs_ald3 hx hb hW hL hT hu e4 ho hk hv e2 e3 e5 e1 hdg kk
    · omega
    · exact vs_aldT hx hb hW hL hT hX.txt hu e4 hv e2 e3 e5 e1 hdg kk
  case laload =>
    have hF : len = 1 := hF
    subst hF
    obtain ⟨u, st0, hu, e1, e2, e3, hh⟩ := vAld_ok h
    rcases hh with ⟨k, o, v, e4, ho, hk, hv, e5⟩ | ⟨v, e4, hk, hv, e5⟩ | ⟨v, e4, hk, hv, e5⟩
    · rcases hk with hk | hk
      · exact vs_ald4 hx hb hW hL hT hu e4 ho hk hv e2 e3 e5 e1 hdg kk
      · exact vs_ald4 hx hb hW hL hT hu e4 ho hk hv e2 e3 e5 e1 hdg kk
    · omega
    · omega
  case aaload =>
    have hF : len = 1 := hF
    subst hF
    obtain ⟨u, st0, hu, e1, e2, e3, hh⟩ := vAld_ok h
    rcases hh with ⟨k, o, v, e4, ho, hk, hv, e5⟩ | ⟨v, e4, hk, hv, e5⟩ | ⟨v, e4, hk, hv, e5⟩
    · rcases hk with hk | hk
      · exact vs_ald5 hx hb hW hL hT hu e4 ho hk hv e2 e3 e5 e1 hdg kk
      · exact vs_ald5 hx hb hW hL hT hu e4 ho hk hv e2 e3 e5 e1 hdg kk
    · omega
    · omega
  case iastore =>
    have hF : len = 1 := hF
    subst hF
    obtain ⟨u, k, o, v, w, hu, e1, e2, e4, ho, hk, hul, hn, e3⟩ := vAst_ok h
    rcases hk with hk | hk
    · exact vs_ast1 hx hb hW hL hT hu e4 ho hk hul hn e2 e3 e1 hdg kk
    · exact vs_ast1 hx hb hW hL hT hu e4 ho hk hul hn e2 e3 e1 hdg kk
  case bastore =>
    have hF : len = 1 := hF
    subst hF
    obtain ⟨u, k, o, v, w, hu, e1, e2, e4, ho, hk, hul, hn, e3⟩ := vAst_ok h
    rcases hk with hk | hk
    · exact vs_ast2 hx hb hW hL hT hu e4 ho hk hul hn e2 e3 e1 hdg kk
    · exact vs_ast3 hx hb hW hL hT hu e4 ho hk hul hn e2 e3 e1 hdg kk
  case lastore =>
    have hF : len = 1 := hF
    subst hF
    obtain ⟨u, k, o, v, w, hu, e1, e2, e4, ho, hk, hul, hn, e3⟩ := vAst_ok h
    rcases hk with hk | hk
    · exact vs_ast4 hx hb hW hL hT hu e4 ho hk hul hn e2 e3 e1 hdg kk
    · exact vs_ast4 hx hb hW hL hT hu e4 ho hk hul hn e2 e3 e1 hdg kk
  case aastore =>
    have hF : len = 1 := hF
    subst hF
    obtain ⟨u, k, j, o, o2, hu, e1, e2, e4, ho, ho2, hk, hk2, hkk, hul, e3⟩ := vAstR_ok h
    exact vs_ast5 hx hb hW hL hT hu e4 ho ho2 hk hk2 hkk hul e2 e3 e1 hdg kk
  case arraylength =>
    have hF : len = 1 := hF
    subst hF
    exact vs_arraylength hx hb hW hL hT hsc hX.txt hdg h kk
  all_goals exact absurd h (fun q => by cases q)
end VALL
