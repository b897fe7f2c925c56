/-! ===== caught by the one row of a table whose class is linked there for the first time ===== -/
/-- where the one row of the table leads; the class is noted as resolved -/
theorem vq_found {e : Env} {S : State} {f : JFrame} {a : Addr} {mt : Method} {cd : Code} {x : ExceptionTableEntry} {cT : ClassId} {cell : Cell} (hm : S.vm.method? f.method = some mt) (hcd : mt.code = some cd) (htab : cd.exceptionTable.toList = [x]) (hx : covers x f.pc = true) (h0 : x.catchType ≠ 0)
    (hl : S.vm.ClassLinks e.platform f.method.cls x.catchType cT) (hcell : S.heap[a]? = some cell) (hobj : ∀ k, cell.vm ≠ .statics k) (hk : ∃ k, S.vm.classes[cell.cls]? = some k) (hc : ∃ k, S.vm.classes[cT]? = some k) (hfit : S.vm.assignable cell.cls cT = true)
    (Q : Handler → Pre) (E : CtlPost) (d : Bool) (acts : List Action) : wp (findHandler f a) Q E e d acts S ↔ Q (.found x.handlerPc) d acts (S.setVm (S.vm.noted f.method.cls x.catchType (.cls cT))) := by
  rw [W.findHandler_eq hm hcd, htab]
  obtain ⟨r1, r2⟩ := (resolveClass_links e.toSetting hl).op (op := VmOp.resolveClass f.method.cls x.catchType) rfl
  have al : S.vm.Alike (S.vm.noted f.method.cls x.catchType (.cls cT)) := (Vm.Alike.refl S.vm).noted _ _ _
  obtain ⟨ka, hka⟩ := hk
  obtain ⟨kb, hkb⟩ := hc
  obtain ⟨ka', hka', -⟩ := al.2.2 _ _ hka
  obtain ⟨kb', hkb', -⟩ := al.2.2 _ _ hkb
  have fit' : (S.vm.noted f.method.cls x.catchType (.cls cT)).assignable cell.cls cT = true := by rw [al.assignable]; exact hfit
  simp only [covers] at hx
  simp [findHandler.go, hx, h0, r1, r2, hcell, hobj, hka', hkb', fit', VmOp.dirties, VmOp.acts]
theorem vq_caught {tb : Tables} {e : Env} {S target : State} {g : JFrame} {cd : Code} {below : List Frame} {a : Addr} (h : At S g.method cd below) {pc : Nat} {vm' : Vm}
    (hfind : ∀ (Q : Handler → Pre) (E : CtlPost) (d : Bool) (acts : List Action), wp (findHandler g a) Q E e d acts ((S.setTop g).pushFrame (.throwing a)) ↔ Q (.found pc) d acts (((S.setTop g).pushFrame (.throwing a)).setVm vm'))
    (hrest : Steps tb e below ((S.setVm vm').setTop { g with pc := pc, stack := [.ref a] }) target) : Steps tb e below ((S.setTop g).pushFrame (.throwing a)) target := by
  obtain ⟨hgo, hw⟩ := h.throwing a
  refine Steps.head hgo hw ?_
  have hone : (stepThrowing e ((S.setTop g).pushFrame (.throwing a)) a (.java g :: ((S.setTop g).frames.tail))).Is ((((S.setTop g).pushFrame (.throwing a)).setVm vm').setFrames (.java { g with pc := pc, stack := [.ref a] } :: ((S.setTop g).frames.tail))) [] := by
    simp only [stepThrowing, searchFrame, vmDo]
    generalize hr : Sem.go _ e false [] ((S.setTop g).pushFrame (.throwing a)) = res
    obtain ⟨as, rfl, ha⟩ := Sem.eq_ok_of hr (a := Handler.found pc) (s' := ((S.setTop g).pushFrame (.throwing a)).setVm vm') (acts' := []) (by simp [hfind _ _ _ _])
    exact ⟨rfl, ha⟩
  obtain ⟨g₀, hg⟩ := Option.isSome_iff_exists.mp h.top
  obtain ⟨r, hr⟩ := State.topJava?_eq_some.mp hg
  have hr' : (S.setVm vm').frames = .java g₀ :: r := hr
  have key : ∀ (u : State) (F G : List Frame), ((u.setFrames F).setVm vm').setFrames G = (u.setVm vm').setFrames G := fun u F G => by
    show ((u.setVm vm').setFrames F).setFrames G = _
    rw [State.setFrames_setFrames]
  have htail : (S.setTop g).frames.tail = r := by
    rw [State.setTop_of_frames _ hr, State.frames_setFrames _ (State.cur_lt_of_top h.top)]
    rfl
  rw [htail] at hone
  rw [stepThread_throwing (frames_entered h.top _), hr, List.tail_cons, hone.1]
  rw [State.setTop_of_frames _ hr'] at hrest
  rw [State.pushFrame, key, State.setTop_of_frames _ hr, key]
  exact hrest
section VQ
variable {p : Program} {l : Launch} {e : Env} {R : Room} {s : State} {m : MethodId} {args : Array Value} {below : List Frame} {meth : Method} {c : Code} {H : Heap} {locs : List Loc} {cells slots : Nat} {Q : State → Prop}
/-- caught here, the table having this row alone -/
theorem vq_catch {pc : Nat} {ls : Array Slot} {rest : List Value} {own name E : String} {ce : Cell} {q : Addr} (hown : s.vm.findClass own = some m.cls) (x : ExceptionTableEntry) (htab : c.exceptionTable.toList = [x]) (hx : covers x pc = true) (h0 : x.catchType ≠ 0)
    (hlink : (Cond.classLink own x.catchType name).before args s = true) (hcast : (Cond.castable E name).before args s = true) (hcell : H[q]? = some ce) (hv : ce.vm = .none) (hcl : s.vm.findClass E = some ce.cls)
    (kk : W p l e R s m args below meth c H locs cells slots Q (F0 m x.handlerPc ls [.ref q])) : vx_W p l e R s m args below meth c H locs cells slots Q (F0 m pc ls rest) q := by
  intro T hT X
  have hpl : e.platform.magicAccessors = ({} : Platform).magicAccessors := by rw [X.admits.platform]
  obtain ⟨c3, c4, hc3, hc4, hasg⟩ := Cond.castable_spec hcast
  cases Option.some.inj (hc3.symm.trans hcl)
  obtain ⟨c5, hc5, hcl5⟩ := Cond.classLink_spec hown hlink e.platform hpl
  cases Option.some.inj (hc4.symm.trans hc5)
  obtain ⟨dk, _, _, kt, hd, _, _, _, _, hkt, _, hopen⟩ := hcl5.here
  obtain ⟨k9, h9, -⟩ := Vm.findClass_spec hcl
  obtain ⟨k9', h9', -⟩ := X.warmed.alike.2.2 _ _ h9
  obtain ⟨kt', hkt', -⟩ := X.warmed.alike.2.2 _ _ hkt
  have hfind := fun (Q : Handler → Pre) (E : CtlPost) (d : Bool) (acts : List Action) => vq_found (e := e) (S := (T.setTop (F0 m pc ls rest)).pushFrame (.throwing q)) (f := F0 m pc ls rest) (a := q) (cell := ce) (mt := meth) (cd := c) (x := x) (cT := c4)
    (by rw [Stand.throwing_vm]; exact X.method') X.code htab hx h0 (by rw [Stand.throwing_vm]; exact X.warmed.classLinks hcl5) (by rw [Stand.throwing_heap, hT]; exact hcell) (fun k h => by rw [hv] at h; cases h) (by rw [Stand.throwing_vm]; exact ⟨k9', h9'⟩) (by rw [Stand.throwing_vm]; exact ⟨kt', hkt'⟩) (by rw [Stand.throwing_vm, X.warmed.alike.assignable]; exact hasg) Q E d acts
  simp only [Stand.throwing_vm] at hfind
  obtain ⟨t, a1, b1⟩ := kk (T.setVm (T.vm.noted m.cls x.catchType (.cls c4))) hT (X.noted (X.warmed.noted hd hopen (State.rightAt_cls hcl5)))
  exact ⟨t, vq_caught X.here hfind a1, b1⟩
end VQ
/-! ===== throw new NoSuchElementException() ===== -/
def vNSE : String := "java/util/NoSuchElementException"
def vNms : List String := ["java/lang/RuntimeException", "java/lang/Exception"]
def vAtw : List Cond := Cond.classLink RX11 148 vNSE :: Cond.initialized vNSE :: vx_at0 RX11 150 vNSE vNms
set_option maxRecDepth 100000 in
theorem vAtw_ot : ∀ w ∈ vAtw, vx_ot w = true := by decide +kernel
/-! ===== words for the throw and the catch ===== -/
def vFc : List Cond := [.castable vNSE vNSE, .declares (Bundle.init0 "java/lang/RuntimeException"), .declares (Bundle.init0 "java/lang/Exception"), .declares (Bundle.init0 Bundle.tN)]
theorem vFc_face : ∀ w ∈ vFc, w.faceAtom = true ∧ w.onTables = true := by decide
def vFw (U : State) : Prop := ∀ w ∈ vFc, w.before #[] U = true
theorem vFw.of {args : Array Value} {s : State} (h : ∀ w ∈ vFc, w.before args s = true) : vFw s := fun w hw => by
  have h1 : w.before args (s.setVm s.vm) = true := h w hw
  rw [Cond.onTables_vm (A' := #[]) (U' := s) s.vm w (vFc_face w hw).2] at h1
  exact h1
theorem vFw.at {args : Array Value} {s : State} (hf : vFw s) : ∀ w ∈ vFc, w.before args s = true := fun w hw => by
  have h1 : w.before #[] (s.setVm s.vm) = true := hf w hw
  rw [Cond.onTables_vm (A' := args) (U' := s) s.vm w (vFc_face w hw).2] at h1
  exact h1
theorem vFw.moved {s U : State} (h : s.vm.Alike U.vm) (hf : vFw s) : vFw U := fun w hw => by
  have h1 := Cond.faceAtom_setVm (args := #[]) h w (vFc_face w hw).1 (hf w hw)
  rw [Cond.onTables_vm (A' := #[]) (U' := U) U.vm w (vFc_face w hw).2] at h1
  exact h1
def vAt2 (ps : List Nat) (ws : List Cond) : Bool := match ps, ws with
  | [], [] => true
  | i :: ps, w :: ws => (decide (w ∈ vFc) || (decide (lw_tbl[i]? = some w) && goodWord w)) && vAt2 ps ws
  | _, _ => false
theorem vAt2_ok : ∀ (ps : List Nat) (ws : List Cond), vAt2 ps ws = true → ∀ w ∈ ws, w ∈ WT ∨ w ∈ vFc
  | [], [], _, w, h => by cases h
  | [], _ :: _, h, _, _ => by cases h
  | _ :: _, [], h, _, _ => by cases h
  | i :: ps, w0 :: ws, h, w, hw => by
    obtain ⟨h1, h3⟩ := vBx h
    rcases List.mem_cons.mp hw with e | e
    · rw [e]
      rw [Bool.or_eq_true] at h1
      rcases h1 with h1 | h1
      · exact Or.inr (of_decide_eq_true h1)
      · obtain ⟨h1, h2⟩ := vBx h1
        exact Or.inl (WT_of (List.mem_of_getElem? (of_decide_eq_true h1)) h2)
    · exact vAt2_ok ps ws h3 w e
set_option maxRecDepth 100000 in
theorem vAtw_in : ∀ w ∈ vAtw, w ∈ WT ∨ w ∈ vFc := vAt2_ok [1349, 143, 140, 1371, 1380, 1382, 1385, 1387, 1372, 1373, 152, 153, 1374, 1379, 1383, 1399, 1361, 1400, 1363, 1401, 1365, 1375, 1377, 1367, 1389, 1390, 1391, 1392, 1352, 1392, 1393, 1394, 1395, 1354, 1395, 1396, 1397, 1372, 1356, 1388, 1350, 1351, 1358, 1359, 1360, 1362, 1364, 1366, 1370, 1369, 1368] _ (by decide +kernel)
set_option maxRecDepth 100000 in
theorem vFc_in : ∀ w ∈ vFc, w ∈ lw_tbl := vAtL_ok [1351, 1352, 1354, 1356] _ (by decide +kernel)
set_option maxRecDepth 100000 in
theorem vHw_a : ∀ w ∈ [Cond.classLink RL 13 vNSE, Cond.initialized RL], w ∈ WT := vAt_ok [1344, 121] _ (by decide +kernel)
def vlk_H : List (Nat × Cond) := [(7, .methodLink RL 7 yX11_pain), (15, .methodLink RL 15 yX11_porter), (18, .methodLink RL 18 yX11_unharmed)]
set_option maxRecDepth 100000 in
theorem vlk_H_ok : ∀ q ∈ vlk_H, q.2 ∈ WT := vlk_ok [1345, 1413, 1425] (by decide +kernel)
set_option maxRecDepth 100000 in
theorem vHw_pain : ∀ w ∈ [Cond.methodLink RL 44 yL_pain, Cond.static yL_pain], w ∈ WT := vAt_ok [1341, 1342] _ (by decide +kernel)
set_option maxRecDepth 100000 in
theorem vHw_pain_c : Cond.codeWith yL_pain cL_pain 5 (some .int) [(0, 10, 13, 13)] ∈ WT := WT_of (tin_6 (List.mem_of_getElem? (i := 22) rfl)) rfl
def vt_Hpain : vTbl := (0x14f0000000000000000000000000000000101000000000000000000000000000000014f0000000000000000000000000100000101000000000000000000000000000000000000000000000000000000000004000002120000000000000000000000000000000000000000000000000000000000000000000000000000000000000000000011000003210000000000000000000000000000000140000000000000000000000000000000014a000000000000000000000000000000000000000000000000000000000000000000000b00000002000000000000011f0007032b00000000000000000000000002000001080000000000000000000000000100000108000000000000000000000000000000010a0000000000000000000000000000000101000000000000000000000000030000010a, 19, [])
set_option maxRecDepth 100000 in
theorem vtb_Hpain : vTb cL_pain vms vkinds 7 110 RL false vlk_H vt_Hpain 19 = true := by decide +kernel
set_option maxRecDepth 100000 in
theorem vtb_Xpain : vTb cX11_pain vms vkinds 6 81 RX11 false vlk_RX11 vt_X11_pain vt_X11_pain.2.1 = true := by decide +kernel
set_option maxRecDepth 100000 in
theorem vHw_porter : ∀ w ∈ [Cond.methodLink RL 54 yL_porter, Cond.static yL_porter], w ∈ WT := vAt_ok [1410, 1411] _ (by decide +kernel)
set_option maxRecDepth 100000 in
theorem vHw_porter_c : Cond.codeWith yL_porter cL_porter 5 (some .int) [(0, 10, 13, 13)] ∈ WT := WT_of (tin_6 (List.mem_of_getElem? (i := 91) rfl)) rfl
def vt_Hporter : vTbl := (0x14f0000000000000000000000000000000101000000000000000000000000000000014f0000000000000000000000000100000101000000000000000000000000000000000000000000000000000000000004000002120000000000000000000000000000000000000000000000000000000000000000000000000000000000000000000011000003210000000000000000000000000000000140000000000000000000000000000000014a000000000000000000000000000000000000000000000000000000000000000000000b000000020000000000000121000f032b00000000000000000000000002000001080000000000000000000000000100000108000000000000000000000000000000010a0000000000000000000000000000000101000000000000000000000000030000010a, 19, [])
set_option maxRecDepth 100000 in
theorem vtb_Hporter : vTb cL_porter vms vkinds 7 110 RL false vlk_H vt_Hporter 19 = true := by decide +kernel
set_option maxRecDepth 100000 in
theorem vtb_Xporter : vTb cX11_porter vms vkinds 6 81 RX11 false vlk_RX11 vt_X11_porter vt_X11_porter.2.1 = true := by decide +kernel
set_option maxRecDepth 100000 in
theorem vHw_unharmed : ∀ w ∈ [Cond.methodLink RL 135 yL_unharmed, Cond.static yL_unharmed], w ∈ WT := vAt_ok [1422, 1423] _ (by decide +kernel)
set_option maxRecDepth 100000 in
theorem vHw_unharmed_c : Cond.codeWith yL_unharmed cL_unharmed 5 (some .int) [(0, 10, 13, 13)] ∈ WT := WT_of (tin_6 (List.mem_of_getElem? (i := 103) rfl)) rfl
def vt_Hunharmed : vTbl := (0x14f0000000000000000000000000000000101000000000000000000000000000000014f0000000000000000000000000100000101000000000000000000000000000000000000000000000000000000000004000002120000000000000000000000000000000000000000000000000000000000000000000000000000000000000000000011000003210000000000000000000000000000000140000000000000000000000000000000014a000000000000000000000000000000000000000000000000000000000000000000000b0000000200000000000001220012032b00000000000000000000000002000001080000000000000000000000000100000108000000000000000000000000000000010a0000000000000000000000000000000101000000000000000000000000030000010a, 19, [])
set_option maxRecDepth 100000 in
theorem vtb_Hunharmed : vTb cL_unharmed vms vkinds 7 110 RL false vlk_H vt_Hunharmed 19 = true := by decide +kernel
set_option maxRecDepth 100000 in
theorem vtb_Xunharmed : vTb cX11_unharmed vms vkinds 6 81 RX11 false vlk_RX11 vt_X11_unharmed vt_X11_unharmed.2.1 = true := by decide +kernel
