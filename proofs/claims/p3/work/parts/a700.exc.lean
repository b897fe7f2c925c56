/-! ===== what goes along with a call that may throw ===== -/
def mRx (M : vMt) : Room := { frames := M.2.2.2.2.2.2.1.1, cells := 1, slots := 6, locals := M.2.2.2.2.2.2.1.2 }
def vHrm : Room := { frames := 7, cells := 1, slots := 6, locals := 110 }
def vHW (y : MethodName) (cc : ByteArray) : List Cond := Cond.codeWith y cc 5 (some .int) [(0, 10, 13, 13)] :: WT
def vPreX (D : va_G) (ws : va_W) (tys : List (ClassId × FieldType)) (sa sv sz : Nat) (U : State) : Prop := vPre D ws tys sa sv sz U ∧ vFw U
theorem vPreX.blind {D : va_G} {ws : va_W} {tys : List (ClassId × FieldType)} {sa sv sz : Nat} {as : List Value} : FrameBlind (va_Pc as (vPreX D ws tys sa sv sz)) := by
  intro a U g mk q
  obtain ⟨q0, ⟨q1, qP, qK, qD, qX⟩, qF⟩ := q
  exact ⟨q0, ⟨q1, qP, va_K.moved (u := U) (U := U.calling g mk a) (Vm.Alike.refl U.vm) qK, qD, qX.calling⟩, vFw.moved (s := U) (U := U.calling g mk a) (Vm.Alike.refl U.vm) qF⟩
theorem vPreX.at {s : State} {D : va_G} {A : Nat → Prop} {b sa sv : Nat} {hp : List vOb} {ws : va_W} {tys : List (ClassId × FieldType)} {H : Heap} {locs : List Loc} (hW : vW vwCl D A s b sa sv hp ws tys H locs) (hA : ∀ q, s.heap.size ≤ q → A q) (hX : vX sa sv A s s.heap) (hf : vFw s) {U : State} (hU : U.heap = H) (hw : s.WarmedH U.vm) : vPreX D ws tys sa sv H.size U := ⟨vPre.at hW hA hX hU hw, hf.moved hw.alike⟩
def vNoQ : Array Value → State → Outcome → State → Prop := va_Qi (fun (_ : Int32) (_ : Unit) => False) (fun (_ : Unit) (_ : State) => True) (fun _ => False)
def vXc (D : va_G) (ws : va_W) (sz b sa sv : Nat) (hp : List vOb) : String → State → State → Prop := vx_X (vPo ws b sa sv hp) (fun E u t => E = vNSE ∧ vPt D ws sz u t) (va_A ws sz)
/-- a method of the class, where the machine comes to its throw -/
def vXMet (l : Launch) (M : vMt) (av : List vAV) (hp hp' : List vOb) : Prop :=
  ∀ (D : va_G) (b sa sv : Nat) (ws : va_W) (tys : List (ClassId × FieldType)) (sz : Nat) (as : List Value), vT b sa sv (vAd ws) av as → vH vwCl b sa sv tys hp ws →
    vx_Met l M.1 (mW M) (mRx M) (va_Pc as (vPreX D ws tys sa sv sz)) vNoQ (vXc D ws sz b sa sv hp') 1 6 (va_A ws sz)
set_option maxHeartbeats 1000000 in
theorem vThr_ok (l : Launch) (hl9 : l.stackTraces = false) {M : vMt} (hcls : M.1.cls = RX11) (hpl : plainName M.1.cls = true)
    (hF : ∀ pc i len a b t, vGet M.2.2.2.2.1 pc = some (i, len, a, b, t) → decode M.2.1 pc = .ok (i, len) ∧ vFacts vms vdf (mRx M) M.1.cls false pc i len a b t) (h6 : 6 ≤ M.2.2.2.2.2.2.1.1) (h81 : 81 ≤ M.2.2.2.2.2.2.1.2)
    {av : List vAV} {hp hp' : List vOb} {pc' fuel f9 : Nat} {ls' : vLs} (hal : (vArgs av).length ≤ M.2.2.1) (hrun : vRun (vCalD vms vdf fuel 59) vdf M.2.2.2.2.1 [] vTx 1 6 f9 0 (vEnt av M.2.2.1) [] hp 0 0 = some (pc', ls', [], hp', 0, 0))
    (d0 : decode M.2.1 pc' = .ok (.new 148, 3)) (d3 : decode M.2.1 (pc' + 3) = .ok (.dup, 1)) (d4 : decode M.2.1 (pc' + 4) = .ok (.invokespecial 150, 3)) (d7 : decode M.2.1 (pc' + 7) = .ok (.athrow, 1)) : vXMet l M av hp hp' := by
  intro D b sa sv ws tys sz as hT hH
  refine vx_ofW (cc := M.2.1) (maxL := M.2.2.1) (ret := M.2.2.2.1) hpl rfl ?_
  intro p e s m args below meth c s₁ B hml htab hv
  obtain ⟨rfl, ⟨hsz, hP, hK, hD0, hX⟩, hfw⟩ := hv
  have hx := B.exec
  have hb := B.bytes
  have hts := atoms_spec (ws := mW M) B.pre
  have hown : s.vm.findClass M.1.cls = some m.cls := findClass_of_methodNamed B.named
  have hlocks := B.notSynchronized
  subst hsz
  have hD := hD0.self (sz := s.heap.size)
  have hA : ∀ q : Nat, s.heap.size ≤ q → va_A ws s.heap.size q := fun q h => Or.inr h
  have hsub : ∀ w ∈ WT, w ∈ mW M := fun w h => List.mem_cons_of_mem _ h
  rw [lg_entry_eq]
  refine vRun_ok (D := D) (A := va_A ws s.heap.size) (b := b) (sa := sa) (sv := sv) (ini := false) (R := (headSpec (mW M) (mRx M)).room) hx hb hml hown hts hsub (fun h => by cases h) vcls (by decide) (Or.inl rfl) hX hA ⟨vcm.1, vcm.2.1, hsub _ vcm.2.2.1, vcm.2.2.2.1, vcm.2.2.2.2⟩ (vCalD_ok l vcls (by decide) vcm vall fuel 59) rfl rfl hF f9 0 _ _ _ _ _ hrun ws tys s.heap [] _ [] ⟨hP, hD, va_S.rf, hK, hH⟩ (vEnt_ok hT hal) trivial ?_
  intro ws' tys' H' locs' lsA' stV' hW' hL' hT' hsb
  obtain ⟨hP', hD', hS', hK', hH'⟩ := hW'
  match stV', hT' with
  | v :: w, hT' => exact hT'.elim
  | [], _ =>
    have hat : ∀ w ∈ vAtw, w.before as.toArray s = true := fun w hw => (vAtw_in w hw).elim (fun h => hts w (hsub w h)) (fun h => hfw.at w h)
    refine vx_throw0 (own := RX11) (cls := vNSE) (names := vNms) (ik := 148) (ic := 150) (A := va_A ws s.heap.size) hx hb hl9 (by rw [← hcls]; exact hown) (by decide) (by decide) (hat _ List.mem_cons_self) (hat _ (List.mem_cons_of_mem _ List.mem_cons_self)) (fun w hw => hat w (List.mem_cons_of_mem _ (List.mem_cons_of_mem _ hw))) vAtw_ot hX.2.2.2.2.2.2.1 hX.2.2.2.2.2.2.2 hS' (by rw [hml]; exact hL'.choose_spec.1.1) d0 d3 d4 d7 (fun x hx => (htab x hx).elim) ?_ ?_ (Nat.le_refl _) (Nat.le_refl _) hlocks ?_ hS'.2.2 (Nat.le_refl _) (Nat.le_refl _)
    · show 2 + 3 < M.2.2.2.2.2.2.1.1
      omega
    · show 0 + (13 * (2 + 1) + 42) ≤ M.2.2.2.2.2.2.1.2
      omega
    · intro t hvm hz hk
      refine ⟨(ws', tys'), ⟨hH', hsb⟩, ⟨rfl, hP'.kept (fun k q hq => hk _ (vx_lt hP' hq)), va_K.moved hvm hK', hD'⟩, Nat.le_trans hS'.1 hz, fun q h1 h2 => ?_⟩
      rw [hk q (Nat.lt_of_lt_of_le h1 hS'.1)]
      exact hS'.2.1 q h1 h2
/-- the end of a method that answers an int -/
theorem vRetI {p : Program} {l : Launch} {e : Env} {R : Room} {s : State} {m : MethodId} {below : List Frame} {meth : Method} {c : Code} {cc : ByteArray} {D : va_G} {b sa sv : Nat} {ws ws' : va_W} {tys' : List (ClassId × FieldType)} {H' : Heap} {locs' : List Loc} {lsA' : Array Slot} {hp' : List vOb} {as : List Value} {mc ms pc : Nat} {u : Nat}
    (hx : p.tables.exec = Jvm.exec) (hb : c.code = cc) (hr : meth.sig.returnType = some .int) (hlocks : meth.locks = false) (hW : vW vwCl D (va_A ws s.heap.size) s b sa sv hp' ws' tys' H' locs') (hsb : vSub2 (vAd ws) (vAd ws')) (hu : u < 4294967296) (hd : decode cc pc = .ok (.ireturn, 1)) :
    W p l e R s m as.toArray below meth c H' locs' mc ms (MQ below (vQ D ws s.heap.size b sa sv (some (.inl u)) hp') as.toArray s mc ms (va_A ws s.heap.size)) (F0 m pc lsA' [.int (nI u)]) := by
  obtain ⟨hP', hD', hS', hK', hH'⟩ := hW
  have hq : vQ D ws s.heap.size b sa sv (some (.inl u)) hp' = va_Qi (fun x w => vG b sa sv (vAd w.1) (.inl u) (.int x) ∧ vPo ws b sa sv hp' w) (vPt D ws s.heap.size) (va_A ws s.heap.size) := rfl
  rw [hq]
  exact W.zret (ty := .int) hx hb hr rfl (fun t ht hw => ⟨⟨nI u, (ws', tys'), rfl, ⟨⟨hu, rfl⟩, hH', hsb⟩, by rw [ht]; exact hP', va_K.moved hw.alike hK', hD'⟩, hS'.F ht⟩) hS'.2.2 hd
/-- what the law knows of its own method -/
def vHMet (l : Launch) (y : MethodName) (cc : ByteArray) (av : List vAV) (hp : List vOb) (r : Nat) (hp' : List vOb) : Prop :=
  ∀ (D : va_G) (b sa sv : Nat) (ws : va_W) (tys : List (ClassId × FieldType)) (sz : Nat) (as : List Value), vT b sa sv (vAd ws) av as → vH vwCl b sa sv tys hp ws →
    Met l y (vHW y cc) vHrm (va_Pc as (vPreX D ws tys sa sv sz)) (vQ D ws sz b sa sv (some (.inl r)) hp') 1 6 (va_A ws sz)
def vHF (cc : ByteArray) (tbl : vTbl) : Prop := ∀ pc i len a b t, vGet tbl pc = some (i, len, a, b, t) → decode cc pc = .ok (i, len) ∧ vFacts vms vdf vHrm RL false pc i len a b t
set_option maxHeartbeats 1000000 in
theorem vHlp_ret (l : Launch) {y : MethodName} {cc : ByteArray} {idx j fuel : Nat} {tbl : vTbl} (hy : plainName y.cls = true) (hyc : y.cls = RL) (hF : vHF cc tbl) (hg5 : vGet tbl 5 = some (.invokevirtual idx, 3, j, 2, 11)) {c1 c2 : vAV} {u : Nat} {hp hp1 hp2 : List vOb} {ls5 : vLs} (hal : (vArgs [vOj 0, c1, c2, vOj 248]).length ≤ 5) (hgo : vGoN tbl [] 5 0 (vEnt [vOj 0, c1, c2, vOj 248] 5) [] hp 0 0 = some (5, ls5, [c2, c1, vOj 0, .inl 0, vOj 248], hp, 0, 0))
    (hcal : vInv (vcal fuel) (.invokevirtual idx) j 2 11 [c2, c1, vOj 0, .inl 0, vOj 248] hp = some ([.inl u, .inl 0, vOj 248], hp1, 0, 0)) (hgo2 : vGoN tbl [] 4 8 ls5 [.inl u, .inl 0, vOj 248] hp1 0 0 = some (18, ls5, [.inl 0], hp2, 0, 0)) (d18 : decode cc 18 = .ok (.ireturn, 1)) : vHMet l y cc [vOj 0, c1, c2, vOj 248] hp 0 hp2 := by
  intro D b sa sv ws tys sz as hT hH
  refine va_MetW (cc := cc) (maxL := 5) (ret := some .int) hy rfl ?_
  intro p e s m args below meth c s₁ B hml hv
  obtain ⟨rfl, ⟨hsz, hP, hK, hD0, hX⟩, hfw⟩ := hv
  have hx := B.exec
  have hb := B.bytes
  have hr := B.returns
  have hts := atoms_spec (ws := vHW y cc) B.pre
  have hown : s.vm.findClass RL = some m.cls := by rw [← hyc]; exact findClass_of_methodNamed B.named
  have hlocks := B.notSynchronized
  subst hsz
  have hD := hD0.self (sz := s.heap.size)
  have hA : ∀ q : Nat, s.heap.size ≤ q → va_A ws s.heap.size q := fun q h => Or.inr h
  have hsub : ∀ w ∈ WT, w ∈ vHW y cc := fun w h => List.mem_cons_of_mem _ h
  rw [lg_entry_eq]
  refine vGoN_ok (D := D) (A := va_A ws s.heap.size) (b := b) (sa := sa) (sv := sv) (R := (headSpec (vHW y cc) vHrm).room) hx hb hown hts hsub (Or.inl rfl) hX hF 5 0 _ _ _ _ _ hgo ws tys s.heap [] _ [] ⟨hP, hD, va_S.rf, hK, hH⟩ (vEnt_ok hT hal) trivial ?_
  intro ws5 tys5 H5 locs5 lsA5 stV5 hW5 hL5 hT5 hsb5
  refine vInv_ok (R := (headSpec (vHW y cc) vHrm).room) (Ts := vHW y cc) (own := RL) (ini := false) (vms := vms) (df := vdf) hx hb hml hown hts hsub hX hA ⟨vcm.1, vcm.2.1, hsub _ vcm.2.2.1, vcm.2.2.2.1, vcm.2.2.2.2⟩ (vcal_ok l fuel) hW5 hL5 hT5 (hF _ _ _ _ _ _ hg5).1 (hF _ _ _ _ _ _ hg5).2 hcal (Nat.zero_le _) (Nat.zero_le _) ?_
  intro ws6 tys6 H6 locs6 lsA6 stV6 hW6 hL6 hT6 hsb6
  refine vGoN_ok (D := D) (A := va_A ws s.heap.size) (b := b) (sa := sa) (sv := sv) (R := (headSpec (vHW y cc) vHrm).room) hx hb hown hts hsub (Or.inl rfl) hX hF 4 8 _ _ _ 0 0 hgo2 ws6 tys6 H6 locs6 _ _ hW6 hL6 hT6 ?_
  intro ws7 tys7 H7 locs7 lsA7 stV7 hW7 hL7 hT7 hsb7
  match stV7, hT7 with
  | [v], hT7 =>
    obtain ⟨hu, rfl⟩ := hT7.1
    exact W.widen (Nat.zero_le _) (Nat.zero_le _) (vRetI hx hb hr hlocks hW7 ((hsb5.tr hsb6).tr hsb7) hu d18)
  | v :: w :: r9, hT7 => exact hT7.2.elim
set_option maxHeartbeats 1000000 in
theorem vHlp_thr (l : Launch) {y : MethodName} {cc : ByteArray} {idx : Nat} {M : vMt} {tbl : vTbl} (hy : plainName y.cls = true) (hyc : y.cls = RL) (hF : vHF cc tbl) (d5 : decode cc 5 = .ok (.invokevirtual idx, 3)) (d13 : decode cc 13 = .ok (.astore 4, 2)) (d15 : decode cc 15 = .ok (.iconst 1, 1)) (d16 : decode cc 16 = .ok (.ireturn, 1))
    (hcb : vCb vHrm M 2) (hlink : Cond.methodLink RL idx M.1 ∈ WT) (hinst : Cond.instanceMethod M.1 ∈ WT) (hsel : Cond.selects M.1.cls M.1 M.1 ∈ WT) (hMc : M.1.cls = RX11)
    {c1 c2 : vAV} {hp hp5 hp' : List vOb} {ls5 : vLs} {o : vOb} (hal : (vArgs [vOj 0, c1, c2, vOj 248]).length ≤ 5) (hgo : vGoN tbl [] 5 0 (vEnt [vOj 0, c1, c2, vOj 248] 5) [] hp 0 0 = some (5, ls5, [c2, c1, vOj 0, .inl 0, vOj 248], hp5, 0, 0)) (ho : hp5[0]? = some o) (ho1 : o.1 = 88)
    (hM : vXMet l M [vOj 0, c1, c2] hp5 hp') : vHMet l y cc [vOj 0, c1, c2, vOj 248] hp 1 hp' := by
  intro D b sa sv ws tys sz as hT hH
  refine va_MetW (cc := cc) (maxL := 5) (ret := some .int) hy rfl ?_
  intro p e s m args below meth c s₁ B hml hv
  obtain ⟨rfl, ⟨hsz, hP, hK, hD0, hX⟩, hfw⟩ := hv
  have hx := B.exec
  have hb := B.bytes
  have hr := B.returns
  have hts := atoms_spec (ws := vHW y cc) B.pre
  have hown : s.vm.findClass RL = some m.cls := by rw [← hyc]; exact findClass_of_methodNamed B.named
  have hlocks := B.notSynchronized
  have htab := vx_table (x := y) B (hts _ List.mem_cons_self)
  subst hsz
  have hD := hD0.self (sz := s.heap.size)
  have hA : ∀ q : Nat, s.heap.size ≤ q → va_A ws s.heap.size q := fun q h => Or.inr h
  have hsub : ∀ w ∈ WT, w ∈ vHW y cc := fun w h => List.mem_cons_of_mem _ h
  rw [lg_entry_eq]
  refine vGoN_ok (D := D) (A := va_A ws s.heap.size) (b := b) (sa := sa) (sv := sv) (R := (headSpec (vHW y cc) vHrm).room) hx hb hown hts hsub (Or.inl rfl) hX hF 5 0 _ _ _ _ _ hgo ws tys s.heap [] _ [] ⟨hP, hD, va_S.rf, hK, hH⟩ (vEnt_ok hT hal) trivial ?_
  intro ws5 tys5 H5 locs5 lsA5 stV5 hW5 hL5 hT5 hsb5
  have hin := vA_in hW5 hA
  match stV5, hT5 with
  | [], hT5 => exact hT5.elim
  | [_], hT5 => exact hT5.2.elim
  | [_, _], hT5 => exact hT5.2.2.elim
  | [_, _, _], hT5 => exact hT5.2.2.2.elim
  | [_, _, _, _], hT5 => exact hT5.2.2.2.2.elim
  | _ :: _ :: _ :: _ :: _ :: _ :: _, hT5 => exact hT5.2.2.2.2.2.elim
  | [v2, v1, v0, vz, va], hT5 =>
    obtain ⟨g2, g1, g0, gz, ga, -⟩ := hT5
    obtain ⟨ad, ce, rfl, hw, hC⟩ := vH_at hW5.2.2.2.2 ho g0
    obtain ⟨fs, rfl, -, -⟩ := vC_0 hC (by rw [ho1])
    have hcell : ∃ cell : Cell, H5[ad]? = some cell ∧ cell.vm.isStatics = false ∧ s.vm.findClass M.1.cls = some cell.cls := by
      rw [hMc]
      refine va_recv (q := (RX11, TX11, 19)) hW5.2.2.2.1 hW5.1 ?_ hw
      rw [ho1]
      rfl
    have hS5 := hW5.2.2.1
    refine vx_calli (A0 := va_A ws s.heap.size) (H0 := s.heap) (rest := [vz, va]) (vx_runV (As := [v1, v2]) (b := ad) (C := M.1.cls) ⟨hx, hb, hml, hown, hts⟩ (hM D b sa sv ws5 tys5 H5.size [.ref ad, v1, v2] ⟨g0, g1, g2, trivial⟩ hW5.2.2.2.2)
      ⟨callB_of 2 hts (vGood hsub hcb.1) rfl rfl rfl (hts _ (hsub _ hcb.2.1)) (hts _ (hsub _ hlink)) hcb.2.2.1 hcb.2.2.2, hts _ (hsub _ hinst), hts _ (hsub _ hsel)⟩ ⟨vPreX.blind, hcell, fun U hU hw => ⟨rfl, vPreX.at hW5 hA hX hfw hU hw⟩⟩ rfl rfl hL5.choose_spec.1.1 rfl (lv_room ?_) d5 ⟨Nat.le_refl _, Nat.le_refl _⟩) hS5 (fun q _ h => h.elim) hin (fun q _ h => hin q h) ?_ ?_
    · rw [vCs_ok [.inl 0, vOj 248] [vz, va] ⟨gz, ga, trivial⟩]
      decide
    · intro E ce9 q9 u t H1 locs1 ht hvm hpo hBX hz1 hk1 hS1 hq9 hcv hcl
      obtain ⟨rfl, w1, w2, w3⟩ := hBX
      rw [ht] at w1
      have hW1 : vW vwCl D (va_A ws s.heap.size) s b sa sv hp' u.1 u.2 H1 locs1 := ⟨w1, w3.weaken (fun k q hk h => hin q.1 h), hS1, va_K.moved hvm.symm w2, hpo.1⟩
      have hL1 := hL5
      obtain ⟨lv, q1, q2, q3⟩ := hL1
      refine vq_catch (own := RL) (name := vNSE) (E := vNSE) hown _ htab rfl (by decide) (hts _ (hsub _ (vHw_a _ List.mem_cons_self))) (hfw.at _ List.mem_cons_self) hq9 hcv hcl ?_
      refine lv_astore hx hb d13 q1 (by omega) rfl (fun lsB hB => ?_)
      have hLB : vL b sa sv (vAd u.1) 5 [none, none, none, none, none] lsB := ⟨_, hB, rfl, fun i c hi => by
        match i, hi with
        | 0, hi => cases hi
        | 1, hi => cases hi
        | 2, hi => cases hi
        | 3, hi => cases hi
        | 4, hi => cases hi
        | n + 5, hi => simp at hi⟩
      refine vStep_ok (R := (headSpec (vHW y cc) vHrm).room) (ini := false) (vms := vms) (df := vdf) (sc := []) (i := .iconst 1) (len := 1) (a := 1) (b1 := 0) (t := 0) (pc' := 16) (ls' := [none, none, none, none, none]) (st := []) (st' := [.inl 1]) hx hb hown hts hsub (fun h => by cases h) vcls (Or.inl rfl) hX hW1 hLB trivial d15 ⟨rfl, by decide, by decide⟩ rfl ?_
      intro ws6 tys6 H6 locs6 lsA6 stV6 hW6 hL6 hT6 hsb6
      match stV6, hT6 with
      | [v], hT6 =>
        obtain ⟨hu, rfl⟩ := hT6.1
        exact vRetI hx hb hr hlocks hW6 ((hsb5.tr hpo.2).tr hsb6) hu d16
      | v :: w :: r9, hT6 => exact hT6.2.elim
    · intro r u t H1 locs1 ht hvm hpo
      exact hpo.elim
