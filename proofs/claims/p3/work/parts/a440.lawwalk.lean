/-! ===== the law's walk, piece by piece ===== -/
/-- what holds all along -/
def lCx (p : Program) (s : State) (m : MethodId) (meth : Method) (c : Code) (b sa sv : Nat) : Prop :=
  p.tables.exec = Jvm.exec ∧ c.code = cL_law ∧ c.maxLocals = 7 ∧ s.vm.findClass RL = some m.cls ∧ (∀ w ∈ lw_tbl, w.before #[Value.ref b] s = true) ∧ vX sa sv (fun q => s.heap.size ≤ q) s s.heap ∧ meth.sig.returnType = ret ∧ meth.locks = false
/-- from this state of the machine the law comes to its end -/
def LW (p : Program) (l : Launch) (e : Env) (s : State) (m : MethodId) (below : List Frame) (meth : Method) (c : Code) (b sa sv : Nat) (D : va_G) (pc : Nat) (ls : vLs) (st : List vAV) (hp : List vOb) (ce sl : Nat) : Prop :=
  ∀ (ws : va_W) (tys : List (ClassId × FieldType)) (H : Heap) (locs : List Loc) (lsA : Array Slot) (stV : List Value), vW vwCl D (fun q => s.heap.size ≤ q) s b sa sv hp ws tys H locs → vL b sa sv (vAd ws) 7 ls lsA → vT b sa sv (vAd ws) st stV → W p l e room_1 s m #[Value.ref b] below meth c H locs ce sl (lw_Z below #[Value.ref b] s) (F0 m pc lsA stV)
section LAWW
variable {p : Program} {l : Launch} {e : Env} {s : State} {m : MethodId} {below : List Frame} {meth : Method} {c : Code} {b sa sv : Nat} {D : va_G}
theorem lFacts {pc : Nat} {i : Instr} {len a b1 t : Nat} (hg : vGet vt_law2 pc = some (i, len, a, b1, t)) : decode cL_law pc = .ok (i, len) ∧ vFacts vms vdf room_1 RL false pc i len a b1 t := ⟨(vlaw_get hg).1, vChk_ok (R := room_1) vlk_RL_ok vkn (vlaw_get hg).2⟩
theorem LW_steps (K : lCx p s m meth c b sa sv) {sc : List vAV} (hsc : vScr b sa sv (fun q => s.heap.size ≤ q) s sc) {κ κ' : kSt} (h : lRe sc κ κ') {ce sl : Nat} (k : LW p l e s m below meth c b sa sv D κ'.1 κ'.2.1 κ'.2.2.1 κ'.2.2.2 ce sl) : LW p l e s m below meth c b sa sv D κ.1 κ.2.1 κ.2.2.1 κ.2.2.2 ce sl := by
  intro ws tys H locs lsA stV hW hL hT
  obtain ⟨hx, hb, hml, hown, hts, hX, -, -⟩ := K
  obtain ⟨n, hn⟩ := h
  exact vGoN_ok (R := room_1) (Ts := lw_tbl) (own := RL) hx hb hown hts (fun w h => (WT_in h).1) hsc hX (fun pc i len a b t hg => lFacts hg) n _ _ _ _ ce sl (hn ce sl) ws tys H locs lsA stV hW hL hT (fun ws2 tys2 H2 locs2 lsA2 stV2 hW2 hL2 hT2 _ => k ws2 tys2 H2 locs2 lsA2 stV2 hW2 hL2 hT2)
theorem LW_call (K : lCx p s m meth c b sa sv) {pc : Nat} {i : Instr} {len a b1 t fuel : Nat} {ls : vLs} {st st' : List vAV} {hp hp' : List vOb} {ce sl : Nat} (hg : vGet vt_law2 pc = some (i, len, a, b1, t)) (h : vInv (vcal fuel) i a b1 t st hp = some (st', hp', 0, 0)) (hce : ce ≤ 601024) (hsl : sl ≤ 7293034) (k : LW p l e s m below meth c b sa sv D (pc + 3) ls st' hp' ce sl) : LW p l e s m below meth c b sa sv D pc ls st hp ce sl := by
  intro ws tys H locs lsA stV hW hL hT
  obtain ⟨hx, hb, hml, hown, hts, hX, -, -⟩ := K
  exact vInv_ok (R := room_1) (Ts := lw_tbl) (own := RL) (ini := false) (vms := vms) (df := vdf) hx hb hml hown hts (fun w h => (WT_in h).1) hX (fun q h => h) ⟨vcm.1, vcm.2.1, (WT_in vcm.2.2.1).1, vcm.2.2.2.1, vcm.2.2.2.2⟩ (vcal_ok l fuel) hW hL hT (lFacts hg).1 (lFacts hg).2 h hce hsl (fun ws2 tys2 H2 locs2 lsA2 stV2 hW2 hL2 hT2 _ => k ws2 tys2 H2 locs2 lsA2 stV2 hW2 hL2 hT2)
theorem vd_1405 : decode code 1405 = .ok (.ireturn, 1) := by decide +kernel
theorem LW_end (K : lCx p s m meth c b sa sv) {ls : vLs} {hp : List vOb} {ce sl : Nat} (hce : ce ≤ 601024) (hsl : sl ≤ 7293034) : LW p l e s m below meth c b sa sv D 1405 ls [.inl 1] hp ce sl := by
  intro ws tys H locs lsA stV hW hL hT
  obtain ⟨hx, hb, -, -, -, -, hr, hlocks⟩ := K
  match stV, hT with
  | [v], hT =>
    obtain ⟨-, rfl⟩ := hT.1
    refine va_forget hW.2.2.1.2.2 ?_
    refine W.widen hce hsl ?_
    exact lw_ret hx hb hr hlocks vd_1405
  | v :: w :: r, hT => exact hT.2.elim
/-- a call by a contract: its places and its arguments are there -/
theorem LW_virt (K : lCx p s m meth c b sa sv) {pc : Nat} {len a b1 t : Nat} {ls : vLs} {st kas : List vAV} {rv : vAV} {hp hp' : List vOb} {ce sl : Nat} {i : Instr} {r : Option vAV} (hg : vGet vt_law2 pc = some (i, len, a, b1, t)) (hi : ∃ x, i = .invokevirtual x) (htk : vTk b1 [] st = some (kas, [rv])) (hrc : vRc t rv hp = true) (hc : ∃ N, ∀ fuel, N ≤ fuel → vCalD vms vdf fuel 60 a (rv :: kas) hp = some (r, hp', 0, 0)) (hce : ce ≤ 601024) (hsl : sl ≤ 7293034) (k : LW p l e s m below meth c b sa sv D (pc + 3) ls r.toList hp' ce sl) : LW p l e s m below meth c b sa sv D pc ls st hp ce sl := by
  obtain ⟨N, hc⟩ := hc
  obtain ⟨x, rfl⟩ := hi
  refine LW_call (fuel := N) K hg ?_ hce hsl k
  have hc := hc N (Nat.le_refl _)
  unfold vInv vcal
  simp only [htk, hrc, hc, vCs, Bool.true_and, List.append_nil]
  rfl
end LAWW
