section
/-! ===== caught by the one row of a table whose class is linked there for the first time ===== -/
/-- where the one row of the table leads; the class is noted as resolved -/
theorem vq_found {e : Env} {S : State} {f : JFrame} {a : Addr} {mt : Method} {cd : Code} {x : ExceptionTableEntry} {cT : ClassId} {cell : Cell} (hm : S.vm.method? f.method = some mt) (hcd : mt.code = some cd) (htab : cd.exceptionTable.toList = [x]) (hx : covers x f.pc = true) (h0 : x.catchType ≠ 0)
    (hl : S.vm.ClassLinks e.platform f.method.cls x.catchType cT) (hcell : S.heap[a]? = some cell) (hobj : ∀ k, cell.vm ≠ .statics k) (hk : ∃ k, S.vm.classes[cell.cls]? = some k) (hc : ∃ k, S.vm.classes[cT]? = some k) (hfit : S.vm.assignable cell.cls cT = true)
    (Q : Handler → Pre) (E : CtlPost) (d : Bool) (acts : List Action) : wp (findHandler f a) Q E e d acts S ↔ Q (.found x.handlerPc) d acts (S.setVm (S.vm.noted f.method.cls x.catchType (.cls cT))) := by
  rw [W.findHandler_eq hm hcd, htab]
  obtain ⟨r1, r2⟩ := (resolveClass_links e.toSetting hl).op (op := VmOp.resolveClass f.method.cls x.catchType) rfl
  have al : S.vm.Alike (S.vm.noted f.method.cls x.catchType (.cls cT)) := (Vm.Alike.refl S.vm).noted _ _ _
  obtain ⟨ka, hka⟩ := hk
  obtain ⟨kb, hkb⟩ := hc
  obtain ⟨ka', hka', -⟩ := al.2.2 _ _ hka
  obtain ⟨kb', hkb', -⟩ := al.2.2 _ _ hkb
  have fit' : (S.vm.noted f.method.cls x.catchType (.cls cT)).assignable cell.cls cT = true := by rw [al.assignable]; exact hfit
  simp only [covers] at hx
  simp [findHandler.go, hx, h0, r1, r2, hcell, hobj, hka', hkb', fit', VmOp.dirties, VmOp.acts]
theorem vq_caught {tb : Tables} {e : Env} {S target : State} {g : JFrame} {cd : Code} {below : List Frame} {a : Addr} (h : At S g.method cd below) {pc : Nat} {vm' : Vm}
    (hfind : ∀ (Q : Handler → Pre) (E : CtlPost) (d : Bool) (acts : List Action), wp (findHandler g a) Q E e d acts ((S.setTop g).pushFrame (.throwing a)) ↔ Q (.found pc) d acts (((S.setTop g).pushFrame (.throwing a)).setVm vm'))
    (hrest : Steps tb e below ((S.setVm vm').setTop { g with pc := pc, stack := [.ref a] }) target) : Steps tb e below ((S.setTop g).pushFrame (.throwing a)) target := by
  obtain ⟨hgo, hw⟩ := h.throwing a
  refine Steps.head hgo hw ?_
  have hone : (stepThrowing e ((S.setTop g).pushFrame (.throwing a)) a (.java g :: ((S.setTop g).frames.tail))).Is ((((S.setTop g).pushFrame (.throwing a)).setVm vm').setFrames (.java { g with pc := pc, stack := [.ref a] } :: ((S.setTop g).frames.tail))) [] := by
    simp only [stepThrowing, searchFrame, vmDo]
    generalize hr : Sem.go _ e false [] ((S.setTop g).pushFrame (.throwing a)) = res
    obtain ⟨as, rfl, ha⟩ := Sem.eq_ok_of hr (a := Handler.found pc) (s' := ((S.setTop g).pushFrame (.throwing a)).setVm vm') (acts' := []) (by simp [hfind _ _ _ _])
    exact ⟨rfl, ha⟩
  obtain ⟨g₀, hg⟩ := Option.isSome_iff_exists.mp h.top
  obtain ⟨r, hr⟩ := State.topJava?_eq_some.mp hg
  have hr' : (S.setVm vm').frames = .java g₀ :: r := hr
  have key : ∀ (u : State) (F G : List Frame), ((u.setFrames F).setVm vm').setFrames G = (u.setVm vm').setFrames G := fun u F G => by
    show ((u.setVm vm').setFrames F).setFrames G = _
    rw [State.setFrames_setFrames]
  have htail : (S.setTop g).frames.tail = r := by
    rw [State.setTop_of_frames _ hr, State.frames_setFrames _ (State.cur_lt_of_top h.top)]
    rfl
  rw [htail] at hone
  rw [stepThread_throwing (frames_entered h.top _), hr, List.tail_cons, hone.1]
  rw [State.setTop_of_frames _ hr'] at hrest
  rw [State.pushFrame, key, State.setTop_of_frames _ hr, key]
  exact hrest
section VQ
variable {p : Program} {l : Launch} {e : Env} {R : Room} {s : State} {m : MethodId} {args : Array Value} {below : List Frame} {meth : Method} {c : Code} {H : Heap} {locs : List Loc} {cells slots : Nat} {Q : State → Prop}
/-- caught here, the table having this row alone -/
theorem vq_catch {pc : Nat} {ls : Array Slot} {rest : List Value} {own name E : String} {ce : Cell} {q : Addr} (hown : s.vm.findClass own = some m.cls) (x : ExceptionTableEntry) (htab : c.exceptionTable.toList = [x]) (hx : covers x pc = true) (h0 : x.catchType ≠ 0)
    (hlink : (Cond.classLink own x.catchType name).before args s = true) (hcast : (Cond.castable E name).before args s = true) (hcell : H[q]? = some ce) (hv : ce.vm = .none) (hcl : s.vm.findClass E = some ce.cls)
    (kk : W p l e R s m args below meth c H locs cells slots Q (F0 m x.handlerPc ls [.ref q])) : vx_W p l e R s m args below meth c H locs cells slots Q (F0 m pc ls rest) q := by
  intro T hT X
  have hpl : e.platform.magicAccessors = ({} : Platform).magicAccessors := by rw [X.admits.platform]
  obtain ⟨c3, c4, hc3, hc4, hasg⟩ := Cond.castable_spec hcast
  cases Option.some.inj (hc3.symm.trans hcl)
  obtain ⟨c5, hc5, hcl5⟩ := Cond.classLink_spec hown hlink e.platform hpl
  cases Option.some.inj (hc4.symm.trans hc5)
  obtain ⟨dk, _, _, kt, hd, _, _, _, _, hkt, _, hopen⟩ := hcl5.here
  obtain ⟨k9, h9, -⟩ := Vm.findClass_spec hcl
  obtain ⟨k9', h9', -⟩ := X.warmed.alike.2.2 _ _ h9
  obtain ⟨kt', hkt', -⟩ := X.warmed.alike.2.2 _ _ hkt
  have hfind := fun (Q : Handler → Pre) (E : CtlPost) (d : Bool) (acts : List Action) => vq_found (e := e) (S := (T.setTop (F0 m pc ls rest)).pushFrame (.throwing q)) (f := F0 m pc ls rest) (a := q) (cell := ce) (mt := meth) (cd := c) (x := x) (cT := c4)
    (by rw [Stand.throwing_vm]; exact X.method') X.code htab hx h0 (by rw [Stand.throwing_vm]; exact X.warmed.classLinks hcl5) (by rw [Stand.throwing_heap, hT]; exact hcell) (fun k h => by rw [hv] at h; cases h) (by rw [Stand.throwing_vm]; exact ⟨k9', h9'⟩) (by rw [Stand.throwing_vm]; exact ⟨kt', hkt'⟩) (by rw [Stand.throwing_vm, X.warmed.alike.assignable]; exact hasg) Q E d acts
  simp only [Stand.throwing_vm] at hfind
  obtain ⟨t, a1, b1⟩ := kk (T.setVm (T.vm.noted m.cls x.catchType (.cls c4))) hT (X.noted (X.warmed.noted hd hopen (State.rightAt_cls hcl5)))
  exact ⟨t, vq_caught X.here hfind a1, b1⟩
end VQ
/-! ===== throw new NoSuchElementException() ===== -/
def vNSE : String := "java/util/NoSuchElementException"
def vNms : List String := ["java/lang/RuntimeException", "java/lang/Exception"]
def vAtw : List Cond := Cond.classLink RX11 148 vNSE :: Cond.initialized vNSE :: vx_at0 RX11 150 vNSE vNms
set_option maxRecDepth 100000 in
theorem vAtw_ot : ∀ w ∈ vAtw, vx_ot w = true := by decide +kernel
/-! ===== words for the throw and the catch ===== -/
def vFc : List Cond := [.castable vNSE vNSE, .declares (Bundle.init0 "java/lang/RuntimeException"), .declares (Bundle.init0 "java/lang/Exception"), .declares (Bundle.init0 Bundle.tN)]
theorem vFc_face : ∀ w ∈ vFc, w.faceAtom = true ∧ w.onTables = true := by decide
def vFw (U : State) : Prop := ∀ w ∈ vFc, w.before #[] U = true
theorem vFw.of {args : Array Value} {s : State} (h : ∀ w ∈ vFc, w.before args s = true) : vFw s := fun w hw => by
  have h1 : w.before args (s.setVm s.vm) = true := h w hw
  rw [Cond.onTables_vm (A' := #[]) (U' := s) s.vm w (vFc_face w hw).2] at h1
  exact h1
theorem vFw.at {args : Array Value} {s : State} (hf : vFw s) : ∀ w ∈ vFc, w.before args s = true := fun w hw => by
  have h1 : w.before #[] (s.setVm s.vm) = true := hf w hw
  rw [Cond.onTables_vm (A' := args) (U' := s) s.vm w (vFc_face w hw).2] at h1
  exact h1
theorem vFw.moved {s U : State} (h : s.vm.Alike U.vm) (hf : vFw s) : vFw U := fun w hw => by
  have h1 := Cond.faceAtom_setVm (args := #[]) h w (vFc_face w hw).1 (hf w hw)
  rw [Cond.onTables_vm (A' := #[]) (U' := U) U.vm w (vFc_face w hw).2] at h1
  exact h1
def vAt2 (ps : List Nat) (ws : List Cond) : Bool := match ps, ws with
  | [], [] => true
  | i :: ps, w :: ws => (decide (w ∈ vFc) || (decide (lw_tbl[i]? = some w) && goodWord w)) && vAt2 ps ws
  | _, _ => false
theorem vAt2_ok : ∀ (ps : List Nat) (ws : List Cond), vAt2 ps ws = true → ∀ w ∈ ws, w ∈ WT ∨ w ∈ vFc
  | [], [], _, w, h => by cases h
  | [], _ :: _, h, _, _ => by cases h
  | _ :: _, [], h, _, _ => by cases h
  | i :: ps, w0 :: ws, h, w, hw => by
    obtain ⟨h1, h3⟩ := vBx h
    rcases List.mem_cons.mp hw with e | e
    · rw [e]
      rw [Bool.or_eq_true] at h1
      rcases h1 with h1 | h1
      · exact Or.inr (of_decide_eq_true h1)
      · obtain ⟨h1, h2⟩ := vBx h1
        exact Or.inl (WT_of (List.mem_of_getElem? (of_decide_eq_true h1)) h2)
    · exact vAt2_ok ps ws h3 w e
set_option maxRecDepth 100000 in
theorem vAtw_in : ∀ w ∈ vAtw, w ∈ WT ∨ w ∈ vFc := vAt2_ok [1349, 143, 140, 1371, 1380, 1382, 1385, 1387, 1372, 1373, 152, 153, 1374, 1379, 1383, 1399, 1361, 1400, 1363, 1401, 1365, 1375, 1377, 1367, 1389, 1390, 1391, 1392, 1352, 1392, 1393, 1394, 1395, 1354, 1395, 1396, 1397, 1372, 1356, 1388, 1350, 1351, 1358, 1359, 1360, 1362, 1364, 1366, 1370, 1369, 1368] _ (by decide +kernel)
set_option maxRecDepth 100000 in
theorem vFc_in : ∀ w ∈ vFc, w ∈ lw_tbl := vAtL_ok [1351, 1352, 1354, 1356] _ (by decide +kernel)
set_option maxRecDepth 100000 in
theorem vHw_a : ∀ w ∈ [Cond.classLink RL 13 vNSE, Cond.initialized RL], w ∈ WT := vAt_ok [1344, 121] _ (by decide +kernel)
def vlk_H : List (Nat × Cond) := [(7, .methodLink RL 7 yX11_pain), (15, .methodLink RL 15 yX11_porter), (18, .methodLink RL 18 yX11_unharmed)]
set_option maxRecDepth 100000 in
theorem vlk_H_ok : ∀ q ∈ vlk_H, q.2 ∈ WT := vlk_ok [1345, 1413, 1425] (by decide +kernel)
set_option maxRecDepth 100000 in
theorem vHw_pain : ∀ w ∈ [Cond.methodLink RL 44 yL_pain, Cond.static yL_pain], w ∈ WT := vAt_ok [1341, 1342] _ (by decide +kernel)
set_option maxRecDepth 100000 in
theorem vHw_pain_c : Cond.codeWith yL_pain cL_pain 5 (some .int) [(0, 10, 13, 13)] ∈ WT := WT_of (tin_6 (List.mem_of_getElem? (i := 22) rfl)) rfl
def vt_Hpain : vTbl := (0x14f0000000000000000000000000000000101000000000000000000000000000000014f0000000000000000000000000100000101000000000000000000000000000000000000000000000000000000000004000002120000000000000000000000000000000000000000000000000000000000000000000000000000000000000000000011000003210000000000000000000000000000000140000000000000000000000000000000014a000000000000000000000000000000000000000000000000000000000000000000000b00000002000000000000011f0007032b00000000000000000000000002000001080000000000000000000000000100000108000000000000000000000000000000010a0000000000000000000000000000000101000000000000000000000000030000010a, 19, [])
set_option maxRecDepth 100000 in
theorem vtb_Hpain : vTb cL_pain vms vkinds 7 110 RL false vlk_H vt_Hpain 19 = true := by decide +kernel
set_option maxRecDepth 100000 in
theorem vtb_Xpain : vTb cX11_pain vms vkinds 6 81 RX11 false vlk_RX11 vt_X11_pain vt_X11_pain.2.1 = true := by decide +kernel
set_option maxRecDepth 100000 in
theorem vHw_porter : ∀ w ∈ [Cond.methodLink RL 54 yL_porter, Cond.static yL_porter], w ∈ WT := vAt_ok [1410, 1411] _ (by decide +kernel)
set_option maxRecDepth 100000 in
theorem vHw_porter_c : Cond.codeWith yL_porter cL_porter 5 (some .int) [(0, 10, 13, 13)] ∈ WT := WT_of (tin_6 (List.mem_of_getElem? (i := 91) rfl)) rfl
def vt_Hporter : vTbl := (0x14f0000000000000000000000000000000101000000000000000000000000000000014f0000000000000000000000000100000101000000000000000000000000000000000000000000000000000000000004000002120000000000000000000000000000000000000000000000000000000000000000000000000000000000000000000011000003210000000000000000000000000000000140000000000000000000000000000000014a000000000000000000000000000000000000000000000000000000000000000000000b000000020000000000000121000f032b00000000000000000000000002000001080000000000000000000000000100000108000000000000000000000000000000010a0000000000000000000000000000000101000000000000000000000000030000010a, 19, [])
set_option maxRecDepth 100000 in
theorem vtb_Hporter : vTb cL_porter vms vkinds 7 110 RL false vlk_H vt_Hporter 19 = true := by decide +kernel
set_option maxRecDepth 100000 in
theorem vtb_Xporter : vTb cX11_porter vms vkinds 6 81 RX11 false vlk_RX11 vt_X11_porter vt_X11_porter.2.1 = true := by decide +kernel
set_option maxRecDepth 100000 in
theorem vHw_unharmed : ∀ w ∈ [Cond.methodLink RL 135 yL_unharmed, Cond.static yL_unharmed], w ∈ WT := vAt_ok [1422, 1423] _ (by decide +kernel)
set_option maxRecDepth 100000 in
theorem vHw_unharmed_c : Cond.codeWith yL_unharmed cL_unharmed 5 (some .int) [(0, 10, 13, 13)] ∈ WT := WT_of (tin_6 (List.mem_of_getElem? (i := 103) rfl)) rfl
def vt_Hunharmed : vTbl := (0x14f0000000000000000000000000000000101000000000000000000000000000000014f0000000000000000000000000100000101000000000000000000000000000000000000000000000000000000000004000002120000000000000000000000000000000000000000000000000000000000000000000000000000000000000000000011000003210000000000000000000000000000000140000000000000000000000000000000014a000000000000000000000000000000000000000000000000000000000000000000000b0000000200000000000001220012032b00000000000000000000000002000001080000000000000000000000000100000108000000000000000000000000000000010a0000000000000000000000000000000101000000000000000000000000030000010a, 19, [])
set_option maxRecDepth 100000 in
theorem vtb_Hunharmed : vTb cL_unharmed vms vkinds 7 110 RL false vlk_H vt_Hunharmed 19 = true := by decide +kernel
set_option maxRecDepth 100000 in
theorem vtb_Xunharmed : vTb cX11_unharmed vms vkinds 6 81 RX11 false vlk_RX11 vt_X11_unharmed vt_X11_unharmed.2.1 = true := by decide +kernel
end
section
/-! ===== what goes along with a call that may throw ===== -/
def mRx (M : vMt) : Room := { frames := M.2.2.2.2.2.2.1.1, cells := 1, slots := 6, locals := M.2.2.2.2.2.2.1.2 }
def vHrm : Room := { frames := 7, cells := 1, slots := 6, locals := 110 }
def vHW (y : MethodName) (cc : ByteArray) : List Cond := Cond.codeWith y cc 5 (some .int) [(0, 10, 13, 13)] :: WT
def vPreX (D : va_G) (ws : va_W) (tys : List (ClassId × FieldType)) (sa sv sz : Nat) (U : State) : Prop := vPre D ws tys sa sv sz U ∧ vFw U
theorem vPreX.blind {D : va_G} {ws : va_W} {tys : List (ClassId × FieldType)} {sa sv sz : Nat} {as : List Value} : FrameBlind (va_Pc as (vPreX D ws tys sa sv sz)) := by
  intro a U g mk q
  obtain ⟨q0, ⟨q1, qP, qK, qD, qX⟩, qF⟩ := q
  exact ⟨q0, ⟨q1, qP, va_K.moved (u := U) (U := U.calling g mk a) (Vm.Alike.refl U.vm) qK, qD, qX.calling⟩, vFw.moved (s := U) (U := U.calling g mk a) (Vm.Alike.refl U.vm) qF⟩
theorem vPreX.at {s : State} {D : va_G} {A : Nat → Prop} {b sa sv : Nat} {hp : List vOb} {ws : va_W} {tys : List (ClassId × FieldType)} {H : Heap} {locs : List Loc} (hW : vW vwCl D A s b sa sv hp ws tys H locs) (hA : ∀ q, s.heap.size ≤ q → A q) (hX : vX sa sv A s s.heap) (hf : vFw s) {U : State} (hU : U.heap = H) (hw : s.WarmedH U.vm) : vPreX D ws tys sa sv H.size U := ⟨vPre.at hW hA hX hU hw, hf.moved hw.alike⟩
def vNoQ : Array Value → State → Outcome → State → Prop := va_Qi (fun (_ : Int32) (_ : Unit) => False) (fun (_ : Unit) (_ : State) => True) (fun _ => False)
def vXc (D : va_G) (ws : va_W) (sz b sa sv : Nat) (hp : List vOb) : String → State → State → Prop := vx_X (vPo ws b sa sv hp) (fun E u t => E = vNSE ∧ vPt D ws sz u t) (va_A ws sz)
/-- a method of the class, where the machine comes to its throw -/
def vXMet (l : Launch) (M : vMt) (av : List vAV) (hp hp' : List vOb) : Prop :=
  ∀ (D : va_G) (b sa sv : Nat) (ws : va_W) (tys : List (ClassId × FieldType)) (sz : Nat) (as : List Value), vT b sa sv (vAd ws) av as → vH vwCl b sa sv tys hp ws →
    vx_Met l M.1 (mW M) (mRx M) (va_Pc as (vPreX D ws tys sa sv sz)) vNoQ (vXc D ws sz b sa sv hp') 1 6 (va_A ws sz)
set_option maxHeartbeats 1000000 in
theorem vThr_ok (l : Launch) (hl9 : l.stackTraces = false) {M : vMt} (hcls : M.1.cls = RX11) (hpl : plainName M.1.cls = true)
    (hF : ∀ pc i len a b t, vGet M.2.2.2.2.1 pc = some (i, len, a, b, t) → decode M.2.1 pc = .ok (i, len) ∧ vFacts vms vdf (mRx M) M.1.cls false pc i len a b t) (h6 : 6 ≤ M.2.2.2.2.2.2.1.1) (h81 : 81 ≤ M.2.2.2.2.2.2.1.2)
    {av : List vAV} {hp hp' : List vOb} {pc' fuel f9 : Nat} {ls' : vLs} (hal : (vArgs av).length ≤ M.2.2.1) (hrun : vRun (vCalD vms vdf fuel 59) vdf M.2.2.2.2.1 [] vTx 1 6 f9 0 (vEnt av M.2.2.1) [] hp 0 0 = some (pc', ls', [], hp', 0, 0))
    (d0 : decode M.2.1 pc' = .ok (.new 148, 3)) (d3 : decode M.2.1 (pc' + 3) = .ok (.dup, 1)) (d4 : decode M.2.1 (pc' + 4) = .ok (.invokespecial 150, 3)) (d7 : decode M.2.1 (pc' + 7) = .ok (.athrow, 1)) : vXMet l M av hp hp' := by
  intro D b sa sv ws tys sz as hT hH
  refine vx_ofW (cc := M.2.1) (maxL := M.2.2.1) (ret := M.2.2.2.1) hpl rfl ?_
  intro p e s m args below meth c s₁ B hml htab hv
  obtain ⟨rfl, ⟨hsz, hP, hK, hD0, hX⟩, hfw⟩ := hv
  have hx := B.exec
  have hb := B.bytes
  have hts := atoms_spec (ws := mW M) B.pre
  have hown : s.vm.findClass M.1.cls = some m.cls := findClass_of_methodNamed B.named
  have hlocks := B.notSynchronized
  subst hsz
  have hD := hD0.self (sz := s.heap.size)
  have hA : ∀ q : Nat, s.heap.size ≤ q → va_A ws s.heap.size q := fun q h => Or.inr h
  have hsub : ∀ w ∈ WT, w ∈ mW M := fun w h => List.mem_cons_of_mem _ h
  rw [lg_entry_eq]
  refine vRun_ok (D := D) (A := va_A ws s.heap.size) (b := b) (sa := sa) (sv := sv) (ini := false) (R := (headSpec (mW M) (mRx M)).room) hx hb hml hown hts hsub (fun h => by cases h) vcls (by decide) (Or.inl rfl) hX hA ⟨vcm.1, vcm.2.1, hsub _ vcm.2.2.1, vcm.2.2.2.1, vcm.2.2.2.2⟩ (vCalD_ok l vcls (by decide) vcm vall fuel 59) rfl rfl hF f9 0 _ _ _ _ _ hrun ws tys s.heap [] _ [] ⟨hP, hD, va_S.rf, hK, hH⟩ (vEnt_ok hT hal) trivial ?_
  intro ws' tys' H' locs' lsA' stV' hW' hL' hT' hsb
  obtain ⟨hP', hD', hS', hK', hH'⟩ := hW'
  match stV', hT' with
  | v :: w, hT' => exact hT'.elim
  | [], _ =>
    have hat : ∀ w ∈ vAtw, w.before as.toArray s = true := fun w hw => (vAtw_in w hw).elim (fun h => hts w (hsub w h)) (fun h => hfw.at w h)
    refine vx_throw0 (own := RX11) (cls := vNSE) (names := vNms) (ik := 148) (ic := 150) (A := va_A ws s.heap.size) hx hb hl9 (by rw [← hcls]; exact hown) (by decide) (by decide) (hat _ List.mem_cons_self) (hat _ (List.mem_cons_of_mem _ List.mem_cons_self)) (fun w hw => hat w (List.mem_cons_of_mem _ (List.mem_cons_of_mem _ hw))) vAtw_ot hX.2.2.2.2.2.2.1 hX.2.2.2.2.2.2.2 hS' (by rw [hml]; exact hL'.choose_spec.1.1) d0 d3 d4 d7 (fun x hx => (htab x hx).elim) ?_ ?_ (Nat.le_refl _) (Nat.le_refl _) hlocks ?_ hS'.2.2 (Nat.le_refl _) (Nat.le_refl _)
    · show 2 + 3 < M.2.2.2.2.2.2.1.1
      omega
    · show 0 + (13 * (2 + 1) + 42) ≤ M.2.2.2.2.2.2.1.2
      omega
    · intro t hvm hz hk
      refine ⟨(ws', tys'), ⟨hH', hsb⟩, ⟨rfl, hP'.kept (fun k q hq => hk _ (vx_lt hP' hq)), va_K.moved hvm hK', hD'⟩, Nat.le_trans hS'.1 hz, fun q h1 h2 => ?_⟩
      rw [hk q (Nat.lt_of_lt_of_le h1 hS'.1)]
      exact hS'.2.1 q h1 h2
/-- the end of a method that answers an int -/
theorem vRetI {p : Program} {l : Launch} {e : Env} {R : Room} {s : State} {m : MethodId} {below : List Frame} {meth : Method} {c : Code} {cc : ByteArray} {D : va_G} {b sa sv : Nat} {ws ws' : va_W} {tys' : List (ClassId × FieldType)} {H' : Heap} {locs' : List Loc} {lsA' : Array Slot} {hp' : List vOb} {as : List Value} {mc ms pc : Nat} {u : Nat}
    (hx : p.tables.exec = Jvm.exec) (hb : c.code = cc) (hr : meth.sig.returnType = some .int) (hlocks : meth.locks = false) (hW : vW vwCl D (va_A ws s.heap.size) s b sa sv hp' ws' tys' H' locs') (hsb : vSub2 (vAd ws) (vAd ws')) (hu : u < 4294967296) (hd : decode cc pc = .ok (.ireturn, 1)) :
    W p l e R s m as.toArray below meth c H' locs' mc ms (MQ below (vQ D ws s.heap.size b sa sv (some (.inl u)) hp') as.toArray s mc ms (va_A ws s.heap.size)) (F0 m pc lsA' [.int (nI u)]) := by
  obtain ⟨hP', hD', hS', hK', hH'⟩ := hW
  have hq : vQ D ws s.heap.size b sa sv (some (.inl u)) hp' = va_Qi (fun x w => vG b sa sv (vAd w.1) (.inl u) (.int x) ∧ vPo ws b sa sv hp' w) (vPt D ws s.heap.size) (va_A ws s.heap.size) := rfl
  rw [hq]
  exact W.zret (ty := .int) hx hb hr rfl (fun t ht hw => ⟨⟨nI u, (ws', tys'), rfl, ⟨⟨hu, rfl⟩, hH', hsb⟩, by rw [ht]; exact hP', va_K.moved hw.alike hK', hD'⟩, hS'.F ht⟩) hS'.2.2 hd
/-- what the law knows of its own method -/
def vHMet (l : Launch) (y : MethodName) (cc : ByteArray) (av : List vAV) (hp : List vOb) (r : Nat) (hp' : List vOb) : Prop :=
  ∀ (D : va_G) (b sa sv : Nat) (ws : va_W) (tys : List (ClassId × FieldType)) (sz : Nat) (as : List Value), vT b sa sv (vAd ws) av as → vH vwCl b sa sv tys hp ws →
    Met l y (vHW y cc) vHrm (va_Pc as (vPreX D ws tys sa sv sz)) (vQ D ws sz b sa sv (some (.inl r)) hp') 1 6 (va_A ws sz)
def vHF (cc : ByteArray) (tbl : vTbl) : Prop := ∀ pc i len a b t, vGet tbl pc = some (i, len, a, b, t) → decode cc pc = .ok (i, len) ∧ vFacts vms vdf vHrm RL false pc i len a b t
set_option maxHeartbeats 1000000 in
theorem vHlp_ret (l : Launch) {y : MethodName} {cc : ByteArray} {idx j fuel : Nat} {tbl : vTbl} (hy : plainName y.cls = true) (hyc : y.cls = RL) (hF : vHF cc tbl) (hg5 : vGet tbl 5 = some (.invokevirtual idx, 3, j, 2, 11)) {c1 c2 : vAV} {u : Nat} {hp hp1 hp2 : List vOb} {ls5 : vLs} (hal : (vArgs [vOj 0, c1, c2, vOj 248]).length ≤ 5) (hgo : vGoN tbl [] 5 0 (vEnt [vOj 0, c1, c2, vOj 248] 5) [] hp 0 0 = some (5, ls5, [c2, c1, vOj 0, .inl 0, vOj 248], hp, 0, 0))
    (hcal : vInv (vcal fuel) (.invokevirtual idx) j 2 11 [c2, c1, vOj 0, .inl 0, vOj 248] hp = some ([.inl u, .inl 0, vOj 248], hp1, 0, 0)) (hgo2 : vGoN tbl [] 4 8 ls5 [.inl u, .inl 0, vOj 248] hp1 0 0 = some (18, ls5, [.inl 0], hp2, 0, 0)) (d18 : decode cc 18 = .ok (.ireturn, 1)) : vHMet l y cc [vOj 0, c1, c2, vOj 248] hp 0 hp2 := by
  intro D b sa sv ws tys sz as hT hH
  refine va_MetW (cc := cc) (maxL := 5) (ret := some .int) hy rfl ?_
  intro p e s m args below meth c s₁ B hml hv
  obtain ⟨rfl, ⟨hsz, hP, hK, hD0, hX⟩, hfw⟩ := hv
  have hx := B.exec
  have hb := B.bytes
  have hr := B.returns
  have hts := atoms_spec (ws := vHW y cc) B.pre
  have hown : s.vm.findClass RL = some m.cls := by rw [← hyc]; exact findClass_of_methodNamed B.named
  have hlocks := B.notSynchronized
  subst hsz
  have hD := hD0.self (sz := s.heap.size)
  have hA : ∀ q : Nat, s.heap.size ≤ q → va_A ws s.heap.size q := fun q h => Or.inr h
  have hsub : ∀ w ∈ WT, w ∈ vHW y cc := fun w h => List.mem_cons_of_mem _ h
  rw [lg_entry_eq]
  refine vGoN_ok (D := D) (A := va_A ws s.heap.size) (b := b) (sa := sa) (sv := sv) (R := (headSpec (vHW y cc) vHrm).room) hx hb hown hts hsub (Or.inl rfl) hX hF 5 0 _ _ _ _ _ hgo ws tys s.heap [] _ [] ⟨hP, hD, va_S.rf, hK, hH⟩ (vEnt_ok hT hal) trivial ?_
  intro ws5 tys5 H5 locs5 lsA5 stV5 hW5 hL5 hT5 hsb5
  refine vInv_ok (R := (headSpec (vHW y cc) vHrm).room) (Ts := vHW y cc) (own := RL) (ini := false) (vms := vms) (df := vdf) hx hb hml hown hts hsub hX hA ⟨vcm.1, vcm.2.1, hsub _ vcm.2.2.1, vcm.2.2.2.1, vcm.2.2.2.2⟩ (vcal_ok l fuel) hW5 hL5 hT5 (hF _ _ _ _ _ _ hg5).1 (hF _ _ _ _ _ _ hg5).2 hcal (Nat.zero_le _) (Nat.zero_le _) ?_
  intro ws6 tys6 H6 locs6 lsA6 stV6 hW6 hL6 hT6 hsb6
  refine vGoN_ok (D := D) (A := va_A ws s.heap.size) (b := b) (sa := sa) (sv := sv) (R := (headSpec (vHW y cc) vHrm).room) hx hb hown hts hsub (Or.inl rfl) hX hF 4 8 _ _ _ 0 0 hgo2 ws6 tys6 H6 locs6 _ _ hW6 hL6 hT6 ?_
  intro ws7 tys7 H7 locs7 lsA7 stV7 hW7 hL7 hT7 hsb7
  match stV7, hT7 with
  | [v], hT7 =>
    obtain ⟨hu, rfl⟩ := hT7.1
    exact W.widen (Nat.zero_le _) (Nat.zero_le _) (vRetI hx hb hr hlocks hW7 ((hsb5.tr hsb6).tr hsb7) hu d18)
  | v :: w :: r9, hT7 => exact hT7.2.elim
set_option maxHeartbeats 1000000 in
theorem vHlp_thr (l : Launch) {y : MethodName} {cc : ByteArray} {idx : Nat} {M : vMt} {tbl : vTbl} (hy : plainName y.cls = true) (hyc : y.cls = RL) (hF : vHF cc tbl) (d5 : decode cc 5 = .ok (.invokevirtual idx, 3)) (d13 : decode cc 13 = .ok (.astore 4, 2)) (d15 : decode cc 15 = .ok (.iconst 1, 1)) (d16 : decode cc 16 = .ok (.ireturn, 1))
    (hcb : vCb vHrm M 2) (hlink : Cond.methodLink RL idx M.1 ∈ WT) (hinst : Cond.instanceMethod M.1 ∈ WT) (hsel : Cond.selects M.1.cls M.1 M.1 ∈ WT) (hMc : M.1.cls = RX11)
    {c1 c2 : vAV} {hp hp5 hp' : List vOb} {ls5 : vLs} {o : vOb} (hal : (vArgs [vOj 0, c1, c2, vOj 248]).length ≤ 5) (hgo : vGoN tbl [] 5 0 (vEnt [vOj 0, c1, c2, vOj 248] 5) [] hp 0 0 = some (5, ls5, [c2, c1, vOj 0, .inl 0, vOj 248], hp5, 0, 0)) (ho : hp5[0]? = some o) (ho1 : o.1 = 88)
    (hM : vXMet l M [vOj 0, c1, c2] hp5 hp') : vHMet l y cc [vOj 0, c1, c2, vOj 248] hp 1 hp' := by
  intro D b sa sv ws tys sz as hT hH
  refine va_MetW (cc := cc) (maxL := 5) (ret := some .int) hy rfl ?_
  intro p e s m args below meth c s₁ B hml hv
  obtain ⟨rfl, ⟨hsz, hP, hK, hD0, hX⟩, hfw⟩ := hv
  have hx := B.exec
  have hb := B.bytes
  have hr := B.returns
  have hts := atoms_spec (ws := vHW y cc) B.pre
  have hown : s.vm.findClass RL = some m.cls := by rw [← hyc]; exact findClass_of_methodNamed B.named
  have hlocks := B.notSynchronized
  have htab := vx_table (x := y) B (hts _ List.mem_cons_self)
  subst hsz
  have hD := hD0.self (sz := s.heap.size)
  have hA : ∀ q : Nat, s.heap.size ≤ q → va_A ws s.heap.size q := fun q h => Or.inr h
  have hsub : ∀ w ∈ WT, w ∈ vHW y cc := fun w h => List.mem_cons_of_mem _ h
  rw [lg_entry_eq]
  refine vGoN_ok (D := D) (A := va_A ws s.heap.size) (b := b) (sa := sa) (sv := sv) (R := (headSpec (vHW y cc) vHrm).room) hx hb hown hts hsub (Or.inl rfl) hX hF 5 0 _ _ _ _ _ hgo ws tys s.heap [] _ [] ⟨hP, hD, va_S.rf, hK, hH⟩ (vEnt_ok hT hal) trivial ?_
  intro ws5 tys5 H5 locs5 lsA5 stV5 hW5 hL5 hT5 hsb5
  have hin := vA_in hW5 hA
  match stV5, hT5 with
  | [], hT5 => exact hT5.elim
  | [_], hT5 => exact hT5.2.elim
  | [_, _], hT5 => exact hT5.2.2.elim
  | [_, _, _], hT5 => exact hT5.2.2.2.elim
  | [_, _, _, _], hT5 => exact hT5.2.2.2.2.elim
  | _ :: _ :: _ :: _ :: _ :: _ :: _, hT5 => exact hT5.2.2.2.2.2.elim
  | [v2, v1, v0, vz, va], hT5 =>
    obtain ⟨g2, g1, g0, gz, ga, -⟩ := hT5
    obtain ⟨ad, ce, rfl, hw, hC⟩ := vH_at hW5.2.2.2.2 ho g0
    obtain ⟨fs, rfl, -, -⟩ := vC_0 hC (by rw [ho1])
    have hcell : ∃ cell : Cell, H5[ad]? = some cell ∧ cell.vm.isStatics = false ∧ s.vm.findClass M.1.cls = some cell.cls := by
      rw [hMc]
      refine va_recv (q := (RX11, TX11, 19)) hW5.2.2.2.1 hW5.1 ?_ hw
      rw [ho1]
      rfl
    have hS5 := hW5.2.2.1
    refine vx_calli (A0 := va_A ws s.heap.size) (H0 := s.heap) (rest := [vz, va]) (vx_runV (As := [v1, v2]) (b := ad) (C := M.1.cls) ⟨hx, hb, hml, hown, hts⟩ (hM D b sa sv ws5 tys5 H5.size [.ref ad, v1, v2] ⟨g0, g1, g2, trivial⟩ hW5.2.2.2.2)
      ⟨callB_of 2 hts (vGood hsub hcb.1) rfl rfl rfl (hts _ (hsub _ hcb.2.1)) (hts _ (hsub _ hlink)) hcb.2.2.1 hcb.2.2.2, hts _ (hsub _ hinst), hts _ (hsub _ hsel)⟩ ⟨vPreX.blind, hcell, fun U hU hw => ⟨rfl, vPreX.at hW5 hA hX hfw hU hw⟩⟩ rfl rfl hL5.choose_spec.1.1 rfl (lv_room ?_) d5 ⟨Nat.le_refl _, Nat.le_refl _⟩) hS5 (fun q _ h => h.elim) hin (fun q _ h => hin q h) ?_ ?_
    · rw [vCs_ok [.inl 0, vOj 248] [vz, va] ⟨gz, ga, trivial⟩]
      decide
    · intro E ce9 q9 u t H1 locs1 ht hvm hpo hBX hz1 hk1 hS1 hq9 hcv hcl
      obtain ⟨rfl, w1, w2, w3⟩ := hBX
      rw [ht] at w1
      have hW1 : vW vwCl D (va_A ws s.heap.size) s b sa sv hp' u.1 u.2 H1 locs1 := ⟨w1, w3.weaken (fun k q hk h => hin q.1 h), hS1, va_K.moved hvm.symm w2, hpo.1⟩
      have hL1 := hL5
      obtain ⟨lv, q1, q2, q3⟩ := hL1
      refine vq_catch (own := RL) (name := vNSE) (E := vNSE) hown _ htab rfl (by decide) (hts _ (hsub _ (vHw_a _ List.mem_cons_self))) (hfw.at _ List.mem_cons_self) hq9 hcv hcl ?_
      refine lv_astore hx hb d13 q1 (by omega) rfl (fun lsB hB => ?_)
      have hLB : vL b sa sv (vAd u.1) 5 [none, none, none, none, none] lsB := ⟨_, hB, rfl, fun i c hi => by
        match i, hi with
        | 0, hi => cases hi
        | 1, hi => cases hi
        | 2, hi => cases hi
        | 3, hi => cases hi
        | 4, hi => cases hi
        | n + 5, hi => simp at hi⟩
      refine vStep_ok (R := (headSpec (vHW y cc) vHrm).room) (ini := false) (vms := vms) (df := vdf) (sc := []) (i := .iconst 1) (len := 1) (a := 1) (b1 := 0) (t := 0) (pc' := 16) (ls' := [none, none, none, none, none]) (st := []) (st' := [.inl 1]) hx hb hown hts hsub (fun h => by cases h) vcls (Or.inl rfl) hX hW1 hLB trivial d15 ⟨rfl, by decide, by decide⟩ rfl ?_
      intro ws6 tys6 H6 locs6 lsA6 stV6 hW6 hL6 hT6 hsb6
      match stV6, hT6 with
      | [v], hT6 =>
        obtain ⟨hu, rfl⟩ := hT6.1
        exact vRetI hx hb hr hlocks hW6 ((hsb5.tr hpo.2).tr hsb6) hu d16
      | v :: w :: r9, hT6 => exact hT6.2.elim
    · intro r u t H1 locs1 ht hvm hpo
      exact hpo.elim
end
section
/-! ===== learntBy of the class ===== -/
def cc_State_learntBy_25_e : sCtE := (288, [.inl (.inr (.inr (.inr (.inl (some 31))))), .inl (.inr (.inr (.inr (.inl (some 4))))), .inr [(2147483648, 2147483652)]], [4, 31, 35], some (.inr [(2147483648, 2147483711)]), [])
def cc_State_learntBy_25_c : List sCut := [((5, [some (.inr (.inr (.inr (.inl (some 31))))), some (.inr (.inr (.inr (.inl (some 4))))), some (.inr (.inl (0, 0))), some (.inr (.inl (1, 0))), some (.inr (.inl (2, 0)))], [], [(4, (72, [(1, .inl (.inr (.inl (3, 0)))), (2, .inr [(2147483648, 2147483653)]), (1, .inr [(2147483648, 2147483656)]), (1, .inr [(2147483648, 2147483660)]), (1, .inr [(2147483648, 2147483711)]), (1, .inl (.inr (.inr (.inr (.inl (some 5)))))), (1, .inl (.inr (.inr (.inr (.inl (some 6)))))), (1, .inl (.inr (.inr (.inr (.inl (some 7)))))), (1, .inl (.inr (.inr (.inr (.inl (some 8)))))), (1, .inl (.inr (.inr (.inr (.inl (some 9)))))), (1, .inl (.inr (.inr (.inr (.inl (some 10)))))), (1, .inl (.inr (.inr (.inr (.inl (some 11)))))), (1, .inl (.inr (.inr (.inr (.inl (some 12)))))), (1, .inl (.inr (.inr (.inr (.inl (some 13)))))), (1, .inl (.inr (.inr (.inr (.inl (some 14)))))), (1, .inl (.inr (.inr (.inr (.inl (some 15)))))), (1, .inl (.inr (.inr (.inr (.inl (some 16)))))), (1, .inr [(2147483648, 2147483672)])], [])), (31, (64, [(1, .inr [(0, 4294967295)]), (1, .inl (.inr (.inr (.inr (.inl (some 32)))))), (1, .inl (.inr (.inr (.inr (.inl (some 33)))))), (1, .inl (.inr (.inr (.inr (.inl (some 34)))))), (1, .inl (.inr (.inr (.inr (.inl (some 35)))))), (1, .inl (.inr (.inr (.inr (.inl (some 36)))))), (1, .inl (.inr (.inr (.inr (.inl (some 37)))))), (1, .inl (.inr (.inr (.inr (.inl (some 38)))))), (1, .inl (.inr (.inr (.inr (.inl (some 39))))))], [])), (35, (1, [(30, .inr [(0, 4294967295)])], []))], (4, [(0, [(2147483648, 2147483652)]), (1, [(2147483648, 2147483711)]), (2, [(2147483648, 2147483654)]), (3, [(2147483648, 2147483654)])], [])), [(0, 2, 0), (0, 3, 0), (0, 4, 0), (1, 4, 0)], [(true, .inl 900), (true, .inr 2)])]
set_option maxRecDepth 1000000 in
theorem cc_State_learntBy_25_k : cChk vms hT (sCalI vms (sCt hT cc_State_learntBy_25_e.2.2.2.2 []) cc_State_learntBy_25_e.2.2.2.2 3000 6) 3000 cc_State_learntBy_25_e ([], [], []) [] cc_State_learntBy_25_c = true := by decide +kernel
theorem cc_State_learntBy_25_ok (d : Nat) (hd : 7 ≤ d) : cOK vms vdf d hT cc_State_learntBy_25_e := by
  obtain ⟨d', rfl⟩ : ∃ d', d = d' + 1 := ⟨d - 1, by omega⟩
  exact cOK_of (fun hp0 => sCalI_ok (d0 := 0) (fun m hm => sCt_ok (T := hT) (cs_nil)) 6 d' (by omega)) cc_State_learntBy_25_k

def cc_State_learntBy_252_e : sCtE := (288, [.inl (.inr (.inr (.inr (.inl (some 31))))), .inl (.inr (.inr (.inr (.inl (some 17))))), .inr [(2147483648, 2147483652)]], [17, 31, 35], some (.inr [(2147483648, 2147483711)]), [])
def cc_State_learntBy_252_c : List sCut := [((5, [some (.inr (.inr (.inr (.inl (some 31))))), some (.inr (.inr (.inr (.inl (some 17))))), some (.inr (.inl (0, 0))), some (.inr (.inl (1, 0))), some (.inr (.inl (2, 0)))], [], [(17, (72, [(1, .inl (.inr (.inl (3, 0)))), (2, .inr [(2147483648, 2147483653)]), (1, .inr [(2147483648, 2147483656)]), (1, .inr [(2147483648, 2147483660)]), (1, .inr [(2147483648, 2147483711)]), (1, .inl (.inr (.inr (.inr (.inl (some 18)))))), (1, .inl (.inr (.inr (.inr (.inl (some 19)))))), (1, .inl (.inr (.inr (.inr (.inl (some 20)))))), (1, .inl (.inr (.inr (.inr (.inl (some 21)))))), (1, .inl (.inr (.inr (.inr (.inl (some 22)))))), (1, .inl (.inr (.inr (.inr (.inl (some 23)))))), (1, .inl (.inr (.inr (.inr (.inl (some 24)))))), (1, .inl (.inr (.inr (.inr (.inl (some 25)))))), (1, .inl (.inr (.inr (.inr (.inl (some 26)))))), (1, .inl (.inr (.inr (.inr (.inl (some 27)))))), (1, .inl (.inr (.inr (.inr (.inl (some 28)))))), (1, .inl (.inr (.inr (.inr (.inl (some 29)))))), (1, .inr [(2147483648, 2147483672)])], [])), (31, (64, [(1, .inr [(0, 4294967295)]), (1, .inl (.inr (.inr (.inr (.inl (some 32)))))), (1, .inl (.inr (.inr (.inr (.inl (some 33)))))), (1, .inl (.inr (.inr (.inr (.inl (some 34)))))), (1, .inl (.inr (.inr (.inr (.inl (some 35)))))), (1, .inl (.inr (.inr (.inr (.inl (some 36)))))), (1, .inl (.inr (.inr (.inr (.inl (some 37)))))), (1, .inl (.inr (.inr (.inr (.inl (some 38)))))), (1, .inl (.inr (.inr (.inr (.inl (some 39))))))], [])), (35, (1, [(30, .inr [(0, 4294967295)])], []))], (4, [(0, [(2147483648, 2147483652)]), (1, [(2147483648, 2147483711)]), (2, [(2147483648, 2147483654)]), (3, [(2147483648, 2147483654)])], [])), [(0, 2, 0), (0, 3, 0), (0, 4, 0), (1, 17, 0)], [(true, .inl 900), (true, .inr 2)])]
set_option maxRecDepth 1000000 in
theorem cc_State_learntBy_252_k : cChk vms hT (sCalI vms (sCt hT cc_State_learntBy_252_e.2.2.2.2 []) cc_State_learntBy_252_e.2.2.2.2 3000 6) 3000 cc_State_learntBy_252_e ([], [], []) [] cc_State_learntBy_252_c = true := by decide +kernel
theorem cc_State_learntBy_252_ok (d : Nat) (hd : 7 ≤ d) : cOK vms vdf d hT cc_State_learntBy_252_e := by
  obtain ⟨d', rfl⟩ : ∃ d', d = d' + 1 := ⟨d - 1, by omega⟩
  exact cOK_of (fun hp0 => sCalI_ok (d0 := 0) (fun m hm => sCt_ok (T := hT) (cs_nil)) 6 d' (by omega)) cc_State_learntBy_252_k
end
section
/-! ===== pain, porter, unharmed of the class: up to the throw, or to the end ===== -/
def x3P (tw : Nat) : List Nat := 0 :: ((List.range 13).map (fun k => k + tw) ++ (List.range 9).map (fun k => k + 31))
theorem x3P_4 : ∀ k ∈ x3P 4, k ∈ plC := by decide +kernel
theorem x3P_17 : ∀ k ∈ x3P 17, k ∈ plC := by decide +kernel
noncomputable def x3S (T : sHp) (es : List sCtE) : sCal := sCalI vms (sCt T [] es) [] 3000 6
def x3B (pcN nl : Nat) (rs : List Nat) : List nN := (pcN, List.replicate nl none, [], []) :: rs.map (fun r => (r, List.replicate nl none, [zF], []))
def x3OK (j : Nat) (M : vMt) (pcN : Nat) (c : Nat) : Prop := ∀ (hp : List vOb) (w1 w2 : Nat), kTy (hTcN c) plC hp → w1 < 4294967296 → w2 < 4294967296 →
  (∃ ls', kRe vms vdf 59 M.2.2.2.2.1 0 0 (0, vEnt [vOj 0, .inl w1, .inl w2] M.2.2.1, [], hp) (pcN, ls', [], hp)) ∨ (∃ u, u < 4294967296 ∧ ∃ N, ∀ fuel, N ≤ fuel → vCalD vms vdf fuel 60 j [vOj 0, .inl w1, .inl w2] hp = some (some (.inl u), hp, 0, 0))
theorem x3OK_of {j : Nat} {M : vMt} {pcN c nl : Nat} {pl rs : List Nat} {scal : sCal} {la : List (Option sC)} (hM : vms[j]? = some M) (hal : ∀ w1 w2 : Nat, (vArgs [vOj 0, .inl w1, .inl w2]).length ≤ M.2.2.1) (hcl : (mRm M).cells = 0) (hsl : (mRm M).slots = 0) (hpl : ∀ k ∈ pl, k ∈ plC) (hs : ∀ hp0, sCalOK vms vdf 59 [] hp0 scal)
    (hent : ∀ w1 w2 : Nat, w1 < 4294967296 → w2 < 4294967296 → nLr [] la (vEnt [vOj 0, .inl w1, .inl w2] M.2.2.1))
    (hk : nChk0 M (hTcN c) pl scal [] [pcN] 3000 (0, la, [], []) (x3B pcN nl rs) = true) (hr : rs.all (fun r => nRet M (r, List.replicate nl none, [zF], []) (some zF)) = true) : x3OK j M pcN c := by
  intro hp w1 w2 hty hw1 hw2
  have hA : nSat (hTcN c) pl [] (0, la, [], []) (0, vEnt [vOj 0, .inl w1, .inl w2] M.2.2.1, [], hp) := ⟨rfl, hent w1 w2 hw1 hw2, trivial, kTy_sub hpl hty, fun c hc => by cases hc⟩
  obtain ⟨⟨pc', ls', st', hp'⟩, B, b1, b2, b3, b4⟩ := n_ok0 hs hk hA
  have e := sFr_eq b3
  dsimp only at e
  rw [e] at b2 b4
  rcases List.mem_cons.mp b1 with h | h
  · subst h
    obtain ⟨q1, -, q3, -, -⟩ := b4
    dsimp only at q1 q3
    subst q1
    match st', q3 with
    | [], _ => exact Or.inl ⟨ls', b2⟩
    | _ :: _, q3 => exact q3.elim
  · obtain ⟨r, r1, r2⟩ := List.mem_map.mp h
    subst r2
    have hend : kEnd vms vdf 59 M (0, vEnt [vOj 0, .inl w1, .inl w2] M.2.2.1, [], hp) (fun kr hp9 => hp9 = hp ∧ ∃ u, u < 4294967296 ∧ kr = some (.inl u)) :=
      kEnd.of b2 (n_ret (List.all_eq_true.mp hr r r1) b4 (fun kr hkr => ⟨rfl, sRt_int hkr⟩))
    obtain ⟨kr, hp9, h1, h2, u, u1, u2⟩ := kEnd_cal hM (hal w1 w2) hcl hsl hend
    subst h2 u2
    exact Or.inr ⟨u, u1, h1⟩
theorem x3_in {w : Nat} (hw : w < 4294967296) : ∀ c, some zF = some c → ∃ y, some (.inl w : vAV) = some y ∧ sCr [] c y := fun c hc => by
  cases hc
  exact ⟨_, rfl, w, hw, sIn_full (sBi_lt w), rfl⟩
theorem x3_o : ∀ c, some (yO 0) = some c → ∃ y, some (vOj 0) = some y ∧ sCr [] c y := fun c hc => by
  cases hc
  exact ⟨_, rfl, rfl⟩
theorem x3_n {v : Option vAV} : ∀ c : sC, none = some c → ∃ y, v = some y ∧ sCr [] c y := fun c hc => by cases hc
def x3L3 : List (Option sC) := [some (yO 0), some zF, some zF]
def x3L8 : List (Option sC) := [some (yO 0), some zF, some zF, none, none, none, none, none]
theorem x3_e3 (w1 w2 : Nat) (h1 : w1 < 4294967296) (h2 : w2 < 4294967296) : nLr [] x3L3 (vEnt [vOj 0, .inl w1, .inl w2] 3) := ⟨x3_o, x3_in h1, x3_in h2, trivial⟩
theorem x3_e8 (w1 w2 : Nat) (h1 : w1 < 4294967296) (h2 : w2 < 4294967296) : nLr [] x3L8 (vEnt [vOj 0, .inl w1, .inl w2] 8) := ⟨x3_o, x3_in h1, x3_in h2, x3_n, x3_n, x3_n, x3_n, x3_n, trivial⟩
theorem x3_S0 {T : sHp} (hp0 : List vOb) : sCalOK vms vdf 59 [] hp0 (x3S T []) := sCalI_ok (d0 := 0) (fun m hm => sCt_ok (T := T) cs_nil) 6 59 (by decide)
theorem x3r_pain : ([73, 83, 93, 103, 113, 123, 133] : List Nat).all (fun r => nRet m_X11_pain (r, List.replicate 3 none, [zF], []) (some zF)) = true := by decide +kernel
set_option maxRecDepth 1000000 in
theorem x3k_pain_0 : nChk0 m_X11_pain hTc0 (x3P 4) (x3S hTc0 []) [] [18] 3000 (0, x3L3, [], []) (x3B 18 3 [73, 83, 93, 103, 113, 123, 133]) = true := by decide +kernel
theorem x3_pain_0 : x3OK 287 m_X11_pain 18 0 := x3OK_of (c := 0) (pl := x3P 4) (scal := x3S hTc0 []) (la := x3L3) (nl := 3) (rs := [73, 83, 93, 103, 113, 123, 133]) rfl (fun _ _ => (by decide : 3 ≤ 3)) rfl rfl x3P_4 (fun hp0 => x3_S0 hp0) x3_e3 x3k_pain_0 x3r_pain
set_option maxRecDepth 1000000 in
theorem x3k_pain_1 : nChk0 m_X11_pain hTc1 (x3P 17) (x3S hTc1 []) [] [18] 3000 (0, x3L3, [], []) (x3B 18 3 [73, 83, 93, 103, 113, 123, 133]) = true := by decide +kernel
theorem x3_pain_1 : x3OK 287 m_X11_pain 18 1 := x3OK_of (c := 1) (pl := x3P 17) (scal := x3S hTc1 []) (la := x3L3) (nl := 3) (rs := [73, 83, 93, 103, 113, 123, 133]) rfl (fun _ _ => (by decide : 3 ≤ 3)) rfl rfl x3P_17 (fun hp0 => x3_S0 hp0) x3_e3 x3k_pain_1 x3r_pain
set_option maxRecDepth 1000000 in
theorem x3k_pain_2 : nChk0 m_X11_pain hTc2 (x3P 4) (x3S hTc2 []) [] [18] 3000 (0, x3L3, [], []) (x3B 18 3 [73, 83, 93, 103, 113, 123, 133]) = true := by decide +kernel
theorem x3_pain_2 : x3OK 287 m_X11_pain 18 2 := x3OK_of (c := 2) (pl := x3P 4) (scal := x3S hTc2 []) (la := x3L3) (nl := 3) (rs := [73, 83, 93, 103, 113, 123, 133]) rfl (fun _ _ => (by decide : 3 ≤ 3)) rfl rfl x3P_4 (fun hp0 => x3_S0 hp0) x3_e3 x3k_pain_2 x3r_pain
set_option maxRecDepth 1000000 in
theorem x3k_pain_3 : nChk0 m_X11_pain hTc3 (x3P 17) (x3S hTc3 []) [] [18] 3000 (0, x3L3, [], []) (x3B 18 3 [73, 83, 93, 103, 113, 123, 133]) = true := by decide +kernel
theorem x3_pain_3 : x3OK 287 m_X11_pain 18 3 := x3OK_of (c := 3) (pl := x3P 17) (scal := x3S hTc3 []) (la := x3L3) (nl := 3) (rs := [73, 83, 93, 103, 113, 123, 133]) rfl (fun _ _ => (by decide : 3 ≤ 3)) rfl rfl x3P_17 (fun hp0 => x3_S0 hp0) x3_e3 x3k_pain_3 x3r_pain
end
section
/-! ===== porter of the class ===== -/
theorem x3r_porter : ([73, 83, 99, 127, 137, 150, 160] : List Nat).all (fun r => nRet m_X11_porter (r, List.replicate 3 none, [zF], []) (some zF)) = true := by decide +kernel
set_option maxRecDepth 1000000 in
theorem x3k_porter_0 : nChk0 m_X11_porter hTc0 (x3P 4) (x3S hTc0 [cc_State_learntBy_25_e, cc_State_painsAt_26_e, cc_State_heaveOf_27_e]) [] [18] 3000 (0, x3L3, [], []) (x3B 18 3 [73, 83, 99, 127, 137, 150, 160]) = true := by decide +kernel
theorem x3_porter_0 : x3OK 289 m_X11_porter 18 0 := x3OK_of (c := 0) (pl := x3P 4) (scal := x3S hTc0 [cc_State_learntBy_25_e, cc_State_painsAt_26_e, cc_State_heaveOf_27_e]) (la := x3L3) (nl := 3) (rs := [73, 83, 99, 127, 137, 150, 160]) rfl (fun _ _ => (by decide : 3 ≤ 3)) rfl rfl x3P_4 (fun hp0 => sCalI_ok (d0 := 7) (fun m hm => sCt_ok (T := hTc0) (cs_cons (cOK_cons (by decide +kernel) (cc_State_learntBy_25_ok m (by omega))) (cs_cons (cOK_cons (by decide +kernel) (cc_State_painsAt_26_ok m (by omega))) (cs_cons (cOK_cons (by decide +kernel) (cc_State_heaveOf_27_ok m (by omega))) (cs_nil))))) 6 59 (by decide)) x3_e3 x3k_porter_0 x3r_porter
set_option maxRecDepth 1000000 in
theorem x3k_porter_1 : nChk0 m_X11_porter hTc1 (x3P 17) (x3S hTc1 [cc_State_learntBy_252_e, cc_State_painsAt_253_e, cc_State_heaveOf_254_e]) [] [18] 3000 (0, x3L3, [], []) (x3B 18 3 [73, 83, 99, 127, 137, 150, 160]) = true := by decide +kernel
theorem x3_porter_1 : x3OK 289 m_X11_porter 18 1 := x3OK_of (c := 1) (pl := x3P 17) (scal := x3S hTc1 [cc_State_learntBy_252_e, cc_State_painsAt_253_e, cc_State_heaveOf_254_e]) (la := x3L3) (nl := 3) (rs := [73, 83, 99, 127, 137, 150, 160]) rfl (fun _ _ => (by decide : 3 ≤ 3)) rfl rfl x3P_17 (fun hp0 => sCalI_ok (d0 := 7) (fun m hm => sCt_ok (T := hTc1) (cs_cons (cOK_cons (by decide +kernel) (cc_State_learntBy_252_ok m (by omega))) (cs_cons (cOK_cons (by decide +kernel) (cc_State_painsAt_253_ok m (by omega))) (cs_cons (cOK_cons (by decide +kernel) (cc_State_heaveOf_254_ok m (by omega))) (cs_nil))))) 6 59 (by decide)) x3_e3 x3k_porter_1 x3r_porter
set_option maxRecDepth 1000000 in
theorem x3k_porter_2 : nChk0 m_X11_porter hTc2 (x3P 4) (x3S hTc2 [cc_State_learntBy_25_e, cc_State_painsAt_26_e, cc_State_heaveOf_27_e]) [] [18] 3000 (0, x3L3, [], []) (x3B 18 3 [73, 83, 99, 127, 137, 150, 160]) = true := by decide +kernel
theorem x3_porter_2 : x3OK 289 m_X11_porter 18 2 := x3OK_of (c := 2) (pl := x3P 4) (scal := x3S hTc2 [cc_State_learntBy_25_e, cc_State_painsAt_26_e, cc_State_heaveOf_27_e]) (la := x3L3) (nl := 3) (rs := [73, 83, 99, 127, 137, 150, 160]) rfl (fun _ _ => (by decide : 3 ≤ 3)) rfl rfl x3P_4 (fun hp0 => sCalI_ok (d0 := 7) (fun m hm => sCt_ok (T := hTc2) (cs_cons (cOK_cons (by decide +kernel) (cc_State_learntBy_25_ok m (by omega))) (cs_cons (cOK_cons (by decide +kernel) (cc_State_painsAt_26_ok m (by omega))) (cs_cons (cOK_cons (by decide +kernel) (cc_State_heaveOf_27_ok m (by omega))) (cs_nil))))) 6 59 (by decide)) x3_e3 x3k_porter_2 x3r_porter
set_option maxRecDepth 1000000 in
theorem x3k_porter_3 : nChk0 m_X11_porter hTc3 (x3P 17) (x3S hTc3 [cc_State_learntBy_252_e, cc_State_painsAt_253_e, cc_State_heaveOf_254_e]) [] [18] 3000 (0, x3L3, [], []) (x3B 18 3 [73, 83, 99, 127, 137, 150, 160]) = true := by decide +kernel
theorem x3_porter_3 : x3OK 289 m_X11_porter 18 3 := x3OK_of (c := 3) (pl := x3P 17) (scal := x3S hTc3 [cc_State_learntBy_252_e, cc_State_painsAt_253_e, cc_State_heaveOf_254_e]) (la := x3L3) (nl := 3) (rs := [73, 83, 99, 127, 137, 150, 160]) rfl (fun _ _ => (by decide : 3 ≤ 3)) rfl rfl x3P_17 (fun hp0 => sCalI_ok (d0 := 7) (fun m hm => sCt_ok (T := hTc3) (cs_cons (cOK_cons (by decide +kernel) (cc_State_learntBy_252_ok m (by omega))) (cs_cons (cOK_cons (by decide +kernel) (cc_State_painsAt_253_ok m (by omega))) (cs_cons (cOK_cons (by decide +kernel) (cc_State_heaveOf_254_ok m (by omega))) (cs_nil))))) 6 59 (by decide)) x3_e3 x3k_porter_3 x3r_porter
end
section
/-! ===== unharmed of the class: piece by piece ===== -/
def uN8 : List (Option sC) := List.replicate 8 none
def uA : nN := (38, [none, some (zS 0 6), some (zS 0 1), some (zS 0 12), none, none, none, none], [], [])
def uC (k : Nat) : nN := (42, [none, some (zS 0 6), some (zS 0 1), some (zS 0 12), some (zK k), none, none, none], [], [])
def uD (j : Nat) : nN := (90, [none, some (zS 0 6), none, none, none, some zF, some zF, some (zK j)], [], [])
def uR : nN := (111, uN8, [zF], [])
def uT : nN := (19, uN8, [], [])
noncomputable def uK (stops : List Nat) (A : nN) (Bs : List nN) : Bool := nChk0 m_X11_unharmed hT [] sNo [] stops 3000 A Bs
set_option maxRecDepth 1000000 in
theorem u_a : uK [42] uA [uC 12] = true := by decide +kernel
set_option maxRecDepth 1000000 in
theorem u_c1 : uK [42, 90] (uC 1) [uD 0] = true := by decide +kernel
set_option maxRecDepth 1000000 in
theorem u_ck : (List.range 11).all (fun k => uK [42, 90] (uC (k + 2)) [uC (k + 1), uD 0]) = true := by decide +kernel
set_option maxRecDepth 1000000 in
theorem u_d6 : uK [90] (uD 6) [uR] = true := by decide +kernel
set_option maxRecDepth 1000000 in
theorem u_dj : (List.range 6).all (fun j => uK [90] (uD j) [uD (j + 1), uR]) = true := by decide +kernel
def uGo (A B : nN) : Prop := ∀ κ, nSat hT [] [] A κ → ∃ κ', kRe vms vdf 59 m_X11_unharmed.2.2.2.2.1 0 0 κ κ' ∧ κ'.2.2.2 = κ.2.2.2 ∧ nSat hT [] [] B κ'
theorem uGo.tr {A B C : nN} (h1 : uGo A B) (h2 : uGo B C) : uGo A C := fun κ h => by
  obtain ⟨κ1, a1, a2, a3⟩ := h1 κ h
  obtain ⟨κ2, b1, b2, b3⟩ := h2 κ1 a3
  exact ⟨κ2, a1.tr b1, b2.trans a2, b3⟩
theorem uGo_1 {stops : List Nat} {A B : nN} (h : uK stops A [B] = true) : uGo A B := fun κ hA => by
  obtain ⟨κ', b1, b2, b3⟩ := n_one (fun hp0 => sNo_ok) h hA
  exact ⟨κ', b1, sFr_eq b2, b3⟩
theorem uGo_2 {stops : List Nat} {A B C E : nN} (h : uK stops A [B, C] = true) (hB : uGo B E) (hC : uGo C E) : uGo A E := fun κ hA => by
  obtain ⟨κ', B', b0, b1, b2, b3⟩ := n_ok0 (fun hp0 => sNo_ok) h hA
  have e := sFr_eq b2
  simp only [List.mem_cons, List.not_mem_nil, or_false] at b0
  rcases b0 with b0 | b0
  · rw [b0] at b3
    obtain ⟨κ2, c1, c2, c3⟩ := hB κ' b3
    exact ⟨κ2, b1.tr c1, c2.trans e, c3⟩
  · rw [b0] at b3
    obtain ⟨κ2, c1, c2, c3⟩ := hC κ' b3
    exact ⟨κ2, b1.tr c1, c2.trans e, c3⟩
theorem uGo_rf (A : nN) : uGo A A := fun κ h => ⟨κ, kRe.rf _, rfl, h⟩
theorem uD_ok : ∀ n, n ≤ 6 → uGo (uD (6 - n)) uR
  | 0, _ => uGo_1 u_d6
  | n + 1, h => by
    have hj := List.all_eq_true.mp u_dj (6 - (n + 1)) (List.mem_range.mpr (by omega))
    have e : 6 - (n + 1) + 1 = 6 - n := by omega
    rw [e] at hj
    exact uGo_2 hj (uD_ok n (by omega)) (uGo_rf _)
theorem uC_ok : ∀ k, k ≤ 11 → uGo (uC (k + 1)) uR
  | 0, _ => (uGo_1 u_c1).tr (uD_ok 6 (by omega))
  | k + 1, h => uGo_2 (List.all_eq_true.mp u_ck k (List.mem_range.mpr (by omega))) (uC_ok k (by omega)) (uD_ok 6 (by omega))
theorem uA_ok : uGo uA uR := (uGo_1 u_a).tr (uC_ok 11 (by omega))
theorem u_ret : nRet m_X11_unharmed uR (some zF) = true := by decide +kernel
def uP (tw : Nat) : List Nat := [0, tw]
theorem x3u_of {c tw : Nat} (hpl : ∀ k ∈ uP tw, k ∈ plC) (hk : nChk0 m_X11_unharmed (hTcN c) (uP tw) sNo [] [19, 38] 3000 (0, x3L8, [], []) [uT, uA] = true) : x3OK 290 m_X11_unharmed 19 c := by
  intro hp w1 w2 hty hw1 hw2
  have hA : nSat (hTcN c) (uP tw) [] (0, x3L8, [], []) (0, vEnt [vOj 0, .inl w1, .inl w2] m_X11_unharmed.2.2.1, [], hp) := ⟨rfl, x3_e8 w1 w2 hw1 hw2, trivial, kTy_sub hpl hty, fun c hc => by cases hc⟩
  obtain ⟨⟨pc', ls', st', hp'⟩, B, b1, b2, b3, b4⟩ := n_ok0 (vms := vms) (df := vdf) (d := 59) (fun hp0 => sNo_ok) hk hA
  have e := sFr_eq b3
  dsimp only at e
  rw [e] at b2 b4
  simp only [List.mem_cons, List.not_mem_nil, or_false] at b1
  rcases b1 with h | h
  · rw [h] at b4
    obtain ⟨q1, -, q3, -, -⟩ := b4
    have q1 : pc' = 19 := q1
    have q3 : nAr [] [] st' := q3
    subst q1
    match st', q3 with
    | [], _ => exact Or.inl ⟨ls', b2⟩
    | _ :: _, q3 => exact q3.elim
  · rw [h] at b4
    obtain ⟨s1, s2, s3, s4, s5⟩ := b4
    obtain ⟨κ2, c1, c2, c3⟩ := uA_ok (pc', ls', st', hp) ⟨s1, s2, s3, (fun k hk => absurd hk List.not_mem_nil), s5⟩
    have hend : kEnd vms vdf 59 m_X11_unharmed (0, vEnt [vOj 0, .inl w1, .inl w2] m_X11_unharmed.2.2.1, [], hp) (fun kr hp9 => hp9 = hp ∧ ∃ u, u < 4294967296 ∧ kr = some (.inl u)) :=
      kEnd.of (b2.tr c1) (n_ret u_ret c3 (fun kr hkr => ⟨c2, sRt_int hkr⟩))
    obtain ⟨kr, hp9, h1, h2, u, u1, u2⟩ := kEnd_cal (j := 290) (M := m_X11_unharmed) rfl (show (vArgs [vOj 0, .inl w1, .inl w2]).length ≤ 8 from (by decide : 3 ≤ 8)) rfl rfl hend
    subst h2 u2
    exact Or.inr ⟨u, u1, h1⟩
theorem uP_4 : ∀ k ∈ uP 4, k ∈ plC := by decide +kernel
theorem uP_17 : ∀ k ∈ uP 17, k ∈ plC := by decide +kernel
set_option maxRecDepth 1000000 in
theorem x3k_unharmed_0 : nChk0 m_X11_unharmed hTc0 (uP 4) sNo [] [19, 38] 3000 (0, x3L8, [], []) [uT, uA] = true := by decide +kernel
theorem x3_unharmed_0 : x3OK 290 m_X11_unharmed 19 0 := x3u_of (c := 0) uP_4 x3k_unharmed_0
set_option maxRecDepth 1000000 in
theorem x3k_unharmed_1 : nChk0 m_X11_unharmed hTc1 (uP 17) sNo [] [19, 38] 3000 (0, x3L8, [], []) [uT, uA] = true := by decide +kernel
theorem x3_unharmed_1 : x3OK 290 m_X11_unharmed 19 1 := x3u_of (c := 1) uP_17 x3k_unharmed_1
set_option maxRecDepth 1000000 in
theorem x3k_unharmed_2 : nChk0 m_X11_unharmed hTc2 (uP 4) sNo [] [19, 38] 3000 (0, x3L8, [], []) [uT, uA] = true := by decide +kernel
theorem x3_unharmed_2 : x3OK 290 m_X11_unharmed 19 2 := x3u_of (c := 2) uP_4 x3k_unharmed_2
set_option maxRecDepth 1000000 in
theorem x3k_unharmed_3 : nChk0 m_X11_unharmed hTc3 (uP 17) sNo [] [19, 38] 3000 (0, x3L8, [], []) [uT, uA] = true := by decide +kernel
theorem x3_unharmed_3 : x3OK 290 m_X11_unharmed 19 3 := x3u_of (c := 3) uP_17 x3k_unharmed_3
end
section
/-! ===== the cases of the law that may throw ===== -/
theorem vRun_mono {cal : vCal} {df : List (List vAV)} {tbl : vTbl} {sc : List vAV} {tx : List Nat} {mc ms mc' ms' : Nat} (h1 : mc ≤ mc') (h2 : ms ≤ ms') : ∀ (f pc : Nat) (ls : vLs) (st : List vAV) (hp : List vOb) (ce sl : Nat) {r : Nat × vLs × List vAV × List vOb × Nat × Nat}, vRun cal df tbl sc tx mc ms f pc ls st hp ce sl = some r → vRun cal df tbl sc tx mc' ms' f pc ls st hp ce sl = some r := by
  have two : ∀ a b : Nat, (Nat.ble a mc && Nat.ble b ms) = true → (Nat.ble a mc' && Nat.ble b ms') = true := fun a b h => by
    rw [Bool.and_eq_true] at h ⊢
    exact ⟨Nat.ble_eq_true_of_le (Nat.le_trans (Nat.le_of_ble_eq_true h.1) h1), Nat.ble_eq_true_of_le (Nat.le_trans (Nat.le_of_ble_eq_true h.2) h2)⟩
  intro f
  induction f with
  | zero =>
    intro pc ls st hp ce sl r h
    simp only [vRun] at h
    cases h
  | succ f ih =>
    intro pc ls st hp ce sl r h
    simp only [vRun] at h ⊢
    cases hg : vGet tbl pc with
    | none => rw [hg] at h; cases h
    | some x =>
      obtain ⟨i, len, a, b, t⟩ := x
      simp only [hg] at h ⊢
      cases hs : vStep sc tx i len a b t pc ls st hp with
      | some y =>
        obtain ⟨pc2, ls2, st2, hp2⟩ := y
        simp only [hs, vF_eq] at h ⊢
        exact ih _ _ _ _ _ _ h
      | none =>
        simp only [hs] at h ⊢
        cases ha : vAl df i a t st hp with
        | some y =>
          obtain ⟨st2, hp2, n⟩ := y
          simp only [ha, vF_eq] at h ⊢
          cases hb : (Nat.ble (ce + 1) mc && Nat.ble (sl + n) ms) with
          | false => rw [hb] at h; cases h
          | true =>
            rw [hb, cond_true] at h
            rw [two _ _ hb, cond_true]
            exact ih _ _ _ _ _ _ h
        | none =>
          simp only [ha] at h ⊢
          cases hv : vInv cal i a b t st hp with
          | some y =>
            obtain ⟨st2, hp2, c1, s1⟩ := y
            simp only [hv, vF_eq] at h ⊢
            cases hb : (Nat.ble (ce + c1) mc && Nat.ble (sl + s1) ms) with
            | false => rw [hb] at h; cases h
            | true =>
              rw [hb, cond_true] at h
              rw [two _ _ hb, cond_true]
              exact ih _ _ _ _ _ _ h
          | none =>
            simp only [hv] at h ⊢
            exact h
theorem kRe_new {tbl : vTbl} {κ0 : kSt} {pcN : Nat} {ls' : vLs} {hp : List vOb} (h : kRe vms vdf 59 tbl 0 0 κ0 (pcN, ls', [], hp)) (hg : vGet tbl pcN = some (.new 148, 3, 98, 0, 0)) : ∃ fuel f, vRun (vCalD vms vdf fuel 59) vdf tbl [] vTx 1 6 f κ0.1 κ0.2.1 κ0.2.2.1 κ0.2.2.2 0 0 = some (pcN, ls', [], hp, 0, 0) := by
  obtain ⟨N, n, h⟩ := h
  refine ⟨N, n + 1, vRun_mono (mc := 0) (ms := 0) (Nat.zero_le _) (Nat.zero_le _) _ _ _ _ _ _ _ ?_⟩
  rw [h N (Nat.le_refl _) 1 0 0 (Nat.le_refl _) (Nat.le_refl _)]
  have a1 : vStep [] vTx (.new 148) 3 98 0 0 pcN ls' [] hp = none := rfl
  have a0 : vNth vdf 98 = none := by decide +kernel
  have a2 : vAl vdf (.new 148) 98 0 [] hp = none := by
    unfold vAl
    simp only [a0]
  have a3 : vInv (vCalD vms vdf N 59) (.new 148) 98 0 0 [] hp = none := rfl
  show vRun (vCalD vms vdf N 59) vdf tbl [] vTx 0 0 (0 + 1) pcN ls' [] hp 0 0 = _
  simp only [vRun, hg, a1, a2, a3]
  rfl
/-! the law's own methods, step by step -/
theorem vGoN_1 {tbl : vTbl} {sc : List vAV} {n pc pc' : Nat} {i : Instr} {len a b t : Nat} {ls ls' : vLs} {st st' : List vAV} {hp hp' : List vOb} {ce sl : Nat} (hg : vGet tbl pc = some (i, len, a, b, t)) (hs : vStep sc vTx i len a b t pc ls st hp = some (pc', ls', st', hp')) : vGoN tbl sc (n + 1) pc ls st hp ce sl = vGoN tbl sc n pc' ls' st' hp' ce sl := by
  simp only [vGoN, hg, hs, vF_eq]
def vHst (tbl : vTbl) : Prop := vGet tbl 0 = some (.aload_n 3, 1, 3, 0, 0) ∧ vGet tbl 1 = some (.iconst 0, 1, 0, 0, 0) ∧ vGet tbl 2 = some (.aload_n 0, 1, 0, 0, 0) ∧ vGet tbl 3 = some (.iload_n 1, 1, 1, 0, 0) ∧ vGet tbl 4 = some (.iload_n 2, 1, 2, 0, 0) ∧ vGet tbl 8 = some (.i2l, 1, 0, 0, 0) ∧ vGet tbl 9 = some (.lastore, 1, 0, 0, 0) ∧ vGet tbl 10 = some (.goto 7, 3, 17, 0, 0) ∧ vGet tbl 17 = some (.iconst 0, 1, 0, 0, 0)
def vHl (w1 w2 : Nat) : vLs := [some (vOj 0), some (.inl w1), some (.inl w2), some (vOj 248), none]
theorem vH_go {tbl : vTbl} (hs : vHst tbl) (w1 w2 : Nat) (hp : List vOb) : vGoN tbl [] 5 0 (vEnt [vOj 0, .inl w1, .inl w2, vOj 248] 5) [] hp 0 0 = some (5, vHl w1 w2, [.inl w2, .inl w1, vOj 0, .inl 0, vOj 248], hp, 0, 0) := by
  obtain ⟨g0, g1, g2, g3, g4, -⟩ := hs
  have s0 : vStep [] vTx (.aload_n 3) 1 3 0 0 0 (vHl w1 w2) [] hp = some (1, vHl w1 w2, [vOj 248], hp) := rfl
  have s1 : vStep [] vTx (.iconst 0) 1 0 0 0 1 (vHl w1 w2) [vOj 248] hp = some (2, vHl w1 w2, [.inl 0, vOj 248], hp) := rfl
  have s2 : vStep [] vTx (.aload_n 0) 1 0 0 0 2 (vHl w1 w2) [.inl 0, vOj 248] hp = some (3, vHl w1 w2, [vOj 0, .inl 0, vOj 248], hp) := rfl
  have s3 : vStep [] vTx (.iload_n 1) 1 1 0 0 3 (vHl w1 w2) [vOj 0, .inl 0, vOj 248] hp = some (4, vHl w1 w2, [.inl w1, vOj 0, .inl 0, vOj 248], hp) := rfl
  have s4 : vStep [] vTx (.iload_n 2) 1 2 0 0 4 (vHl w1 w2) [.inl w1, vOj 0, .inl 0, vOj 248] hp = some (5, vHl w1 w2, [.inl w2, .inl w1, vOj 0, .inl 0, vOj 248], hp) := rfl
  have e : vEnt [vOj 0, .inl w1, .inl w2, vOj 248] 5 = vHl w1 w2 := rfl
  rw [e]
  exact (vGoN_1 (n := 4) g0 s0).trans ((vGoN_1 (n := 3) g1 s1).trans ((vGoN_1 (n := 2) g2 s2).trans ((vGoN_1 (n := 1) g3 s3).trans ((vGoN_1 (n := 0) g4 s4).trans rfl))))
theorem vI2l_ex (pc : Nat) (ls : vLs) (u : Nat) (st : List vAV) (hp : List vOb) : ∃ L, vI2l pc ls (.inl u :: st) hp = some (pc, ls, .inr (.inr (.inl L)) :: st, hp) := by
  have e : vI2l pc ls (.inl u :: st) hp = (bif Nat.blt u 2147483648 then some (pc, ls, .inr (.inr (.inl u)) :: st, hp) else vF (u + 18446744069414584320) (fun r => some (pc, ls, .inr (.inr (.inl r)) :: st, hp))) := rfl
  rw [e]
  cases Nat.blt u 2147483648 with
  | true => exact ⟨u, rfl⟩
  | false => exact ⟨u + 18446744069414584320, by rw [cond_false, vF_eq]⟩
theorem vH_go2 {tbl : vTbl} (hs : vHst tbl) (w1 w2 u : Nat) {hp : List vOb} (h8 : O8 hp) : ∃ L, vGoN tbl [] 4 8 (vHl w1 w2) [.inl u, .inl 0, vOj 248] hp 0 0 = some (18, vHl w1 w2, [.inl 0], hp.set 248 (4, [.inr (.inr (.inl L))]), 0, 0) := by
  obtain ⟨-, -, -, -, -, g8, g9, g10, g17⟩ := hs
  obtain ⟨v, h8⟩ := h8
  obtain ⟨L, hL⟩ := vI2l_ex 9 (vHl w1 w2) u [.inl 0, vOj 248] hp
  have hL : vStep [] vTx .i2l 1 0 0 0 8 (vHl w1 w2) [.inl u, .inl 0, vOj 248] hp = some (9, vHl w1 w2, [.inr (.inr (.inl L)), .inl 0, vOj 248], hp) := hL
  have s9 : vStep [] vTx .lastore 1 0 0 0 9 (vHl w1 w2) [.inr (.inr (.inl L)), .inl 0, vOj 248] hp = some (10, vHl w1 w2, [], hp.set 248 (4, [.inr (.inr (.inl L))])) := by
    show vAst 4 4 (9 + 1) (vHl w1 w2) [.inr (.inr (.inl L)), .inl 0, .inr (.inr (.inr (.inl (some 248))))] hp = _
    unfold vAst
    simp only [vNth_eq, h8]
    rfl
  have s10 : vStep [] vTx (.goto 7) 3 17 0 0 10 (vHl w1 w2) [] (hp.set 248 (4, [.inr (.inr (.inl L))])) = some (17, vHl w1 w2, [], hp.set 248 (4, [.inr (.inr (.inl L))])) := rfl
  have s17 : vStep [] vTx (.iconst 0) 1 0 0 0 17 (vHl w1 w2) [] (hp.set 248 (4, [.inr (.inr (.inl L))])) = some (18, vHl w1 w2, [.inl 0], hp.set 248 (4, [.inr (.inr (.inl L))])) := rfl
  exact ⟨L, (vGoN_1 (n := 3) g8 hL).trans ((vGoN_1 (n := 2) g9 s9).trans ((vGoN_1 (n := 1) g10 s10).trans ((vGoN_1 (n := 0) g17 s17).trans rfl)))⟩
/-! the law's row of one long is written: all else stays -/
theorem O8_fr {hp : List vOb} {x : vAV} (h : O8 hp) : sFr [(248, 0, 0)] hp (hp.set 248 (4, [x])) := by
  obtain ⟨v, h⟩ := h
  have hl : 248 < hp.length := (List.getElem?_eq_some_iff.mp h).1
  refine ⟨by simp, fun k o0 ho => ?_⟩
  by_cases hk : 248 = k
  · subst hk
    rw [h] at ho
    have ho := Option.some.inj ho
    subst ho
    refine ⟨(4, [x]), by simp [hl], rfl, rfl, fun i hi => ?_⟩
    match i, hi with
    | 0, hi => exact absurd ⟨_, List.mem_singleton.mpr rfl, rfl, Nat.le_refl _, Nat.le_refl _⟩ hi
    | n + 1, _ => rfl
  · exact ⟨o0, by rw [List.getElem?_set_ne hk]; exact ho, rfl, rfl, fun i _ => rfl⟩
theorem Iv_8 {hp : List vOb} {x : vAV} (h : Iv hp) : Iv (hp.set 248 (4, [x])) := by
  obtain ⟨hX, ⟨v, v1, v2⟩, h2, h3⟩ := h
  have hf := O8_fr (x := x) hX.2
  have only : ∀ k i, sMin [(248, 0, 0)] k i → k = 248 := fun k i ⟨m, m1, m2, _, _⟩ => by
    rw [List.mem_singleton] at m1
    rw [m1] at m2
    exact m2.symm
  have hM : ∀ k ∈ plM, k < 248 := by decide
  refine ⟨XI_keep hf (fun k i hm => by have := only k i hm; omega) hX, ⟨v, v1, kTy_keep hf (fun k hk i hi => by have := only _ _ hi; have := hM k hk; omega) v2⟩, SS_keep hf (fun i _ hi => by have := only _ _ hi; omega) h2, fun k hk => ⟨KT_keep hf (fun i _ hi => by have := only _ _ hi; omega) (h3 k hk).1, KK_keep hf (fun i _ hi => by have := only _ _ hi; omega) (h3 k hk).2⟩⟩
/-- all that is wanted of one of the law's own methods -/
def vHok (y : MethodName) (cc : ByteArray) (idx vidx j : Nat) (M : vMt) (tbl : vTbl) (pc1 pcN : Nat) : Prop :=
  (plainName y.cls = true ∧ y.cls = RL ∧ vHF cc tbl ∧ vGet tbl 5 = some (.invokevirtual vidx, 3, j, 2, 11) ∧ decode cc 13 = .ok (.astore 4, 2) ∧ decode cc 15 = .ok (.iconst 1, 1) ∧ decode cc 16 = .ok (.ireturn, 1) ∧ decode cc 18 = .ok (.ireturn, 1)) ∧
  (vms[j]? = some M ∧ M.1.cls = RX11 ∧ plainName M.1.cls = true ∧ (∀ pc i len a b t, vGet M.2.2.2.2.1 pc = some (i, len, a, b, t) → decode M.2.1 pc = .ok (i, len) ∧ vFacts vms vdf (mRx M) M.1.cls false pc i len a b t) ∧ 6 ≤ M.2.2.2.2.2.2.1.1 ∧ 81 ≤ M.2.2.2.2.2.2.1.2) ∧
  (decode M.2.1 pcN = .ok (.new 148, 3) ∧ decode M.2.1 (pcN + 3) = .ok (.dup, 1) ∧ decode M.2.1 (pcN + 4) = .ok (.invokespecial 150, 3) ∧ decode M.2.1 (pcN + 7) = .ok (.athrow, 1)) ∧
  (GoodIn lw_tbl (va_wsS RL idx y (vHW y cc)) ∧ (y.cls ≠ "java/lang/invoke/MethodHandle" ∧ y.cls ≠ "java/lang/invoke/VarHandle" ∧ (parseMethodDescriptor y.desc).map (fun d => d.parameters.length) = some 4) ∧ decode cL_law pc1 = .ok (.invokestatic idx, 3))
theorem vHgood {idx : Nat} {y : MethodName} {cc : ByteArray} (h1 : Cond.methodLink RL idx y ∈ WT) (h2 : Cond.static y ∈ WT) (h3 : Cond.initialized y.cls ∈ WT) (h4 : Cond.codeWith y cc 5 (some .int) [(0, 10, 13, 13)] ∈ WT) : GoodIn lw_tbl (va_wsS RL idx y (vHW y cc)) := by
  intro w hw
  have h : w ∈ WT := by
    unfold va_wsS vHW at hw
    rcases List.mem_append.mp hw with hw | hw
    · simp only [List.mem_cons, List.not_mem_nil, or_false] at hw
      rcases hw with rfl | rfl | rfl
      · exact h1
      · exact h2
      · exact h3
    · rcases List.mem_cons.mp hw with rfl | hw
      · exact h4
      · exact hw
  exact ⟨(WT_in h).1, good_of_word (WT_in h).2⟩
section LX
variable {p : Program} {l : Launch} {e : Env} {s : State} {m : MethodId} {below : List Frame} {meth : Method} {c : Code} {b sa sv : Nat} {D : va_G} {sc : List vAV}
variable {y : MethodName} {cc : ByteArray} {idx vidx j : Nat} {M : vMt} {tbl : vTbl} {pc1 pcN : Nat}
set_option maxHeartbeats 1000000 in
/-- a call of the law's own method -/
theorem LW_H (K : lCx p s m meth c b sa sv) (hfw : vFw s) (hG : GoodIn lw_tbl (va_wsS RL idx y (vHW y cc))) (hd : y.cls ≠ "java/lang/invoke/MethodHandle" ∧ y.cls ≠ "java/lang/invoke/VarHandle" ∧ (parseMethodDescriptor y.desc).map (fun d => d.parameters.length) = some 4) (dcall : decode cL_law pc1 = .ok (.invokestatic idx, 3)) {c1 c2 : vAV} {ls : vLs} {hp1 hp2 : List vOb} {ce sl r : Nat} (hce : ce + 1 ≤ 601024) (hsl : sl + 6 ≤ 7293034) (hM : vHMet l y cc [vOj 0, c1, c2, vOj 248] hp1 r hp2)
    (k : LW p l e s m below meth c b sa sv D (pc1 + 3) ls [.inl r] hp2 (ce + 1) (sl + 6)) : LW p l e s m below meth c b sa sv D pc1 ls [vOj 248, c2, c1, vOj 0] hp1 ce sl := by
  intro ws1 tys1 H1 locs1 lsA1 stV1 hW1 hL1 hT1
  obtain ⟨hx, hb, hml, hown, hts, hX, -, -⟩ := K
  have hA : ∀ q : Nat, s.heap.size ≤ q → (fun q => s.heap.size ≤ q) q := fun q h => h
  match stV1, hT1 with
  | [], hT1 => exact hT1.elim
  | [_], hT1 => exact hT1.2.elim
  | [_, _], hT1 => exact hT1.2.2.elim
  | [_, _, _], hT1 => exact hT1.2.2.2.elim
  | _ :: _ :: _ :: _ :: _ :: _, hT1 => exact hT1.2.2.2.2.elim
  | [va, v2, v1, v0], hT1 =>
    obtain ⟨ga, g2, g1, g0, -⟩ := hT1
    refine vs_after (rest := []) (restV := []) (r := some (.inl r)) hW1 hL1 trivial hA (vx_runSW (As := [v0, v1, v2, va]) ⟨hx, hb, hml, hown, hts⟩ (hM D b sa sv ws1 tys1 H1.size [v0, v1, v2, va] ⟨g0, g1, g2, ga, trivial⟩ hW1.2.2.2.2) (vx_cwSW 4 hts hG rfl rfl rfl hd ⟨by decide, by decide⟩) ⟨vPreX.blind, fun U hU hw => ⟨rfl, vPreX.at hW1 hA hX hfw hU hw⟩⟩ rfl rfl hL1.choose_spec.1.1 rfl (lv_room (Nat.zero_le _)) dcall ⟨hce, hsl⟩) ?_
    exact fun ws3 tys3 H3 locs3 lsA3 stV3 hW3 hL3 hT3 hsb3 => k ws3 tys3 H3 locs3 lsA3 stV3 hW3 hL3 hT3
/-- the law's own method throws and catches, or comes to its end -/
theorem vH_both (hl9 : l.stackTraces = false) (O : vHok y cc idx vidx j M tbl pc1 pcN) (hst : vHst tbl) (hX : ∀ c, c < 4 → x3OK j M pcN c) (hnew : vGet M.2.2.2.2.1 pcN = some (.new 148, 3, 98, 0, 0)) (hal : ∀ w1 w2 : Nat, (vArgs [vOj 0, .inl w1, .inl w2]).length ≤ M.2.2.1) {hp : List vOb} (hI : Iv hp) {w1 w2 : Nat} (h1 : w1 < 4294967296) (h2 : w2 < 4294967296) : ∃ r hp2, r < 4294967296 ∧ Iv hp2 ∧ vHMet l y cc [vOj 0, .inl w1, .inl w2, vOj 248] hp r hp2 := by
  obtain ⟨⟨hy, hyc, hF, hg5, d13, d15, d16, d18⟩, ⟨hMj, hMc, hpl, hFM, h6, h81⟩, ⟨d0, d3, d4, d7⟩, -⟩ := O
  have hrc : vRc 11 (vOj 0) hp = true := (Iv_rc hI).1
  have ha5 : (vArgs [vOj 0, .inl w1, .inl w2, vOj 248]).length ≤ 5 := (by decide : 4 ≤ 5)
  obtain ⟨c0, q1, q2⟩ := hI.1.1
  rcases hX c0 q1 hp w1 w2 q2 h1 h2 with ⟨ls', hk⟩ | ⟨u, hu, N, hcal⟩
  · obtain ⟨fuel, f, hrun⟩ := kRe_new hk hnew
    obtain ⟨d5, -, M', hM', hcb, hlink, hinst, hsel, -⟩ := hF _ _ _ _ _ _ hg5
    cases Option.some.inj (hMj.symm.trans hM')
    have hXM := vThr_ok l hl9 hMc hpl hFM h6 h81 (hal w1 w2) hrun d0 d3 d4 d7
    rcases vRc_ok hrc with ⟨k, o, e1, e2, e3, -⟩ | ⟨-, e2⟩
    · have e : (0 : Nat) = k := Option.some.inj (Sum.inl.inj (Sum.inr.inj (Sum.inr.inj (Sum.inr.inj e1))))
      subst e
      exact ⟨1, hp, by omega, hI, vHlp_thr l hy hyc hF d5 d13 d15 d16 hcb hlink hinst hsel hMc ha5 (vH_go hst w1 w2 hp) e2 e3 hXM⟩
    · omega
  · have hc : vInv (vcal N) (.invokevirtual vidx) j 2 11 [.inl w2, .inl w1, vOj 0, .inl 0, vOj 248] hp = some ([.inl u, .inl 0, vOj 248], hp, 0, 0) := by
      refine Eq.trans (b := some ((some (.inl u) : Option vAV).toList ++ [.inl 0, vOj 248], hp, 0, 0)) ?_ rfl
      have htk : vTk 2 [] [.inl w2, .inl w1, vOj 0, .inl 0, vOj 248] = some ([.inl w1, .inl w2], [vOj 0, .inl 0, vOj 248]) := rfl
      have h8 : Nat.ble (vCs [(.inl 0 : vAV), vOj 248]) 8 = true := rfl
      have hcal := hcal N (Nat.le_refl _)
      unfold vInv vcal
      simp only [htk, hrc, hcal, h8, Bool.and_self, cond_true]
    obtain ⟨L, hgo2⟩ := vH_go2 hst w1 w2 u hI.1.2
    exact ⟨0, _, by omega, Iv_8 hI, vHlp_ret l hy hyc hF hg5 ha5 (vH_go hst w1 w2 hp) hc hgo2 d18⟩
theorem x_case (hl9 : l.stackTraces = false) (K : lCx p s m meth c b sa sv) (hsc : vScr b sa sv (fun q => s.heap.size ≤ q) s sc) (hfw : vFw s) (O : vHok y cc idx vidx j M tbl pc1 pcN) (hst : vHst tbl) (hX : ∀ c, c < 4 → x3OK j M pcN c) (hnew : vGet M.2.2.2.2.1 pcN = some (.new 148, 3, 98, 0, 0)) (hal : ∀ w1 w2 : Nat, (vArgs [vOj 0, .inl w1, .inl w2]).length ≤ M.2.2.1)
    {p0 pc2 jm : Nat} (ha : lChk lG [pc1] 3000 (p0, lL, [], []) [(pc1, lL, [yO 248, lA 2, lA 1, yO 0], [])] = true) (hb : lChk lG [pc2] 3000 (pc1 + 3, lL, [zF], []) [(pc2, lL, lArgs 2 ++ [yO 220], [])] = true) (hc : lChk lG [1398] 3000 (pc2 + 3, lL, [zF], []) [(1398, lL, [], [])] = true) (z2 : zCl pc2 jm 2 12 = true) (hM : CallOK Iv 220 jm 2) : caseOK p l e s m below meth c b sa sv D Iv sc p0 := by
  intro i w hp u v ce sl hi hw hI h1 h2 next
  have hE := lEnv_of (sc := sc) (i := i) (w := w) (by omega) hw
  have hG := lG_of (i := i) (w := w) hi
  have h0 : ∀ xs : List Nat, (lRho i w ++ xs)[0]? = some (sBi i) := fun xs => rfl
  have hρ : ∀ (xs : List Nat) (c : Nat), c < 6 → w c < 4294967296 ∧ (lRho i w ++ xs)[c + 1]? = some (sBi (w c)) := fun xs c hc => by
    obtain ⟨w', q1, q2, q3⟩ := hE.2.2 c hc
    rw [(hw c hc).2] at q2
    have e : w c = w' := Sum.inl.inj (Option.some.inj q2)
    rw [e]
    exact ⟨q1, sApp_get xs q3⟩
  obtain ⟨pc', kl', ks', B, xs, b1, b2, b3, b4, b5⟩ := l_ok (hp := hp) (ks := []) ha hE hG ⟨rfl, kL_to (u := u) (v := v) rfl (by omega), trivial⟩
  rw [List.mem_singleton] at b1
  subst b1 b3
  obtain ⟨u1, v1, e1⟩ := kL_of (δ := 0) (h0 xs) (by omega) b4
  have e2 : ks' = [vOj 248, .inl (w 2), .inl (w 1), vOj 0] := by
    match ks', b5 with
    | [], h => exact h.elim
    | [_], h => exact h.2.elim
    | [_, _], h => exact h.2.2.elim
    | [_, _, _], h => exact h.2.2.2.elim
    | _ :: _ :: _ :: _ :: _ :: _, h => exact h.2.2.2.2.elim
    | [k1, k2, k3, k4], h =>
      obtain ⟨g1, ⟨r2, q2, q3⟩, ⟨r3, q4, q5⟩, g4, -⟩ := h
      have g1 : k1 = vOj 248 := g1
      have g4 : k4 = vOj 0 := g4
      have q2 : (lRho i w ++ xs)[2 + 1]? = some r2 := q2
      rw [(hρ xs 2 (by omega)).2] at q2
      have q2 := Option.some.inj q2
      rw [← q2, sUn_bi (hρ xs 2 (by omega)).1] at q3
      have q4 : (lRho i w ++ xs)[1 + 1]? = some r3 := q4
      rw [(hρ xs 1 (by omega)).2] at q4
      have q4 := Option.some.inj q4
      rw [← q4, sUn_bi (hρ xs 1 (by omega)).1] at q5
      rw [g1, g4, q3, q5]
  subst e1 e2
  obtain ⟨r, hp2, hr, hI2, hH⟩ := vH_both hl9 O hst hX hnew hal hI (hw 1 (by omega)).1 (hw 2 (by omega)).1
  refine LW_steps K hsc b2 (LW_H K hfw O.2.2.2.1 O.2.2.2.2.1 O.2.2.2.2.2 (by omega) (by omega) hH ?_)
  obtain ⟨pc', kl', ks', B, ys, b1, b2, b3, b4, b5⟩ := l_ok (hp := hp2) (ks := [.inl r]) hb hE hG ⟨rfl, kL_to (i := i) (u := u1) (v := v1) rfl (by omega), ⟨r, hr, sIn_full (sBi_lt r), rfl⟩, trivial⟩
  rw [List.mem_singleton] at b1
  subst b1 b3
  obtain ⟨u2, v2, e1⟩ := kL_of (δ := 0) (h0 ys) (by omega) b4
  have e2 := lArgs_of (hρ ys) 2 (by omega) b5
  subst e1 e2
  refine LW_steps K hsc b2 (l_call K (fun hp h => Iv_rc h) (by omega) (by omega) (fun c hc => (hw c hc).1) (Or.inr ⟨rfl, rfl⟩) (by omega) z2 hM hI2 (fun r2 hp3 hr2 hI3 => ?_))
  obtain ⟨pc', kl', ks', B, zs, b1, b2, b3, b4, b5⟩ := l_ok (hp := hp3) (ks := [.inl r2]) hc hE hG ⟨rfl, kL_to (i := i) (u := u2) (v := v2) rfl (by omega), ⟨r2, hr2, sIn_full (sBi_lt r2), rfl⟩, trivial⟩
  rw [List.mem_singleton] at b1
  subst b1 b3
  obtain ⟨u3, v3, e1⟩ := kL_of (δ := 0) (h0 zs) (by omega) b4
  have e2 := nAr_eq (as := []) rfl b5
  subst e1 e2
  exact LW_steps K hsc b2 (next hp3 u3 v3 (ce + 1) (sl + 6) hI3 (by omega) (by omega))
end LX
end
