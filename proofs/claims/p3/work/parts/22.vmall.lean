/-! ===== a run of the machine is a run of the JVM ===== -/
section VALL2
variable {p : Program} {l : Launch} {e : Env} {R : Room} {s : State} {m : MethodId} {args : Array Value} {below : List Frame} {meth : Method} {c : Code} {Q : State → Prop}
variable {cc : ByteArray} {D : va_G} {A : Nat → Prop}
variable {b sa sv nL : Nat} {own : String} {Ts : List Cond} {vms : List vMt} {df : List (List vAV)} {ini : Bool} {sc : List vAV} {cal : vCal}
theorem vRc_ok {t : Nat} {rv : vAV} {hp : List vOb} (h : vRc t rv hp = true) : (∃ (k : Nat) (o : vOb), rv = vOj k ∧ hp[k]? = some o ∧ o.1 = 8 * t ∧ t < 99) ∨ (rv = .inr (.inr (.inr (.inr 1))) ∧ t = 99) := by
  unfold vRc at h
  split at h
  · next k =>
    split at h
    · next o ho =>
      rw [vNth_eq] at ho
      have h := vBx h
      exact Or.inl ⟨k, o, rfl, ho, Nat.eq_of_beq_eq_true h.1, Nat.blt_eq.mp h.2⟩
    · cases h
  · exact Or.inr ⟨rfl, Nat.eq_of_beq_eq_true h⟩
  · cases h
theorem vInv_ok {H : Heap} {locs : List Loc} {cells slots : Nat} {ws : va_W} {tys : List (ClassId × FieldType)} {pc : Nat} {lsA : Array Slot} {stV : List Value} {ls : vLs} {st st' : List vAV} {hp hp' : List vOb} {c1 s1 : Nat} (hx : p.tables.exec = Jvm.exec) (hb : c.code = cc) (hml : c.maxLocals = nL) (hown : s.vm.findClass own = some m.cls) (hts : ∀ w ∈ Ts, w.before args s = true) (hsub : ∀ w ∈ WT, w ∈ Ts)
    (hX : vX sa sv A s s.heap) (hA : ∀ q, s.heap.size ≤ q → A q) (hcm : vCommon Ts) (hcal : vCalOK l vms cal) (hW : vW vwCl D A s b sa sv hp ws tys H locs) (hL : vL b sa sv (vAd ws) nL ls lsA) (hT : vT b sa sv (vAd ws) st stV)
    {i : Instr} {len a b1 t : Nat} (hdg : decode cc pc = .ok (i, len)) (hF : vFacts vms df R own ini pc i len a b1 t) (h : vInv cal i a b1 t st hp = some (st', hp', c1, s1)) (hcells : cells + c1 ≤ R.cells) (hslots : slots + s1 ≤ R.slots)
    (kk : vK p l e R s m args below meth c Q vwCl D A b sa sv nL ws (pc + 3) ls st' hp' (cells + c1) (slots + s1)) : W p l e R s m args below meth c H locs cells slots Q (F0 m pc lsA stV) := by
  cases i
  case invokevirtual idx =>
    obtain ⟨rfl, M, hM, hcb, hl, hin, hsel, hcls⟩ := hF
    have h : (match vTk b1 [] st with
      | some (as, rv :: rest) => bif vRc t rv hp && Nat.ble (vCs rest) 8 then match cal a (rv :: as) hp with
        | some (r, hp', c1, s1) => some (r.toList ++ rest, hp', c1, s1)
        | none => none
        else none
      | _ => none) = some (st', hp', c1, s1) := h
    split at h
    · next as rv rest hk =>
      obtain ⟨xs, x1, x2, x3⟩ := vTk_ok _ _ _ _ _ hk
      cases hc : (vRc t rv hp && Nat.ble (vCs rest) 8) with
      | false => rw [hc] at h; cases h
      | true =>
        rw [hc, cond_true] at h
        obtain ⟨hc1, hc2⟩ := vBx hc
        split at h
        · next r hp2 c2 s2 hr =>
          cases h
          obtain ⟨M', hM', e1, e2, hmet⟩ := hcal _ _ _ _ _ _ _ hr
          cases Option.some.inj (hM.symm.trans hM')
          rw [List.append_nil] at x3
          subst x3
          subst e1
          subst e2
          refine vs_callV hx hb hml hown hts hsub hW hL x2 hT hA hX hmet hcb x1 hl hin hsel ?_ (Nat.le_of_ble_eq_true hc2) hcells hslots hdg kk
          rcases vRc_ok hc1 with ⟨k, o, q1, q2, q3, q4⟩ | ⟨q1, q2⟩
          · rcases hcls with ⟨-, q, hq, hqc⟩ | ⟨q, -⟩
            · exact Or.inl ⟨k, o, q, q1, q2, by omega, by rw [q3, show 8 * t / 8 = t by omega]; exact hq, hqc⟩
            · omega
          · rcases hcls with ⟨q, -⟩ | ⟨-, q⟩
            · exact absurd q2 q
            · exact Or.inr ⟨q1, q⟩
        · cases h
    · cases h
  case invokestatic idx =>
    obtain ⟨rfl, hF⟩ := hF
    have h : (bif Nat.beq a 1001 then match vCp st hp with
        | some (rest, hp') => bif Nat.ble (vCs rest) 8 then some (rest, hp', 0, 0) else none
        | none => none
      else match vTk b1 [] st with
      | some (as, rest) => bif Nat.ble (vCs rest) 8 then match cal a as hp with
        | some (r, hp', c1, s1) => some (r.toList ++ rest, hp', c1, s1)
        | none => none
        else none
      | none => none) = some (st', hp', c1, s1) := h
    rcases hF with ⟨rfl, hl, hR1, hR2⟩ | ⟨ha, M, hM, hcb, hl, hstat⟩
    · rw [show Nat.beq 1001 1001 = true from rfl, cond_true] at h
      split at h
      · next rest hp2 hc =>
        cases hc2 : Nat.ble (vCs rest) 8 with
        | false => rw [hc2] at h; cases h
        | true =>
          rw [hc2] at h
          cases h
          exact vs_copy hx hb hml hown hts hsub hW hL hT hl hcm.2.2.1 hcm.2.2.2.1 hcm.2.2.2.2 (Nat.le_of_ble_eq_true hc2) ⟨hR1, hR2⟩ hdg hc kk
      · cases h
    · have h0 : Nat.beq a 1001 = false := by
        cases hh : Nat.beq a 1001 with
        | false => rfl
        | true => exact absurd (Nat.eq_of_beq_eq_true hh) ha
      rw [h0, cond_false] at h
      split at h
      · next as rest hk =>
        obtain ⟨xs, x1, x2, x3⟩ := vTk_ok _ _ _ _ _ hk
        cases hc2 : Nat.ble (vCs rest) 8 with
        | false => rw [hc2] at h; cases h
        | true =>
          rw [hc2, cond_true] at h
          split at h
          · next r hp2 c2 s2 hr =>
            cases h
            obtain ⟨M', hM', e1, e2, hmet⟩ := hcal _ _ _ _ _ _ _ hr
            cases Option.some.inj (hM.symm.trans hM')
            rw [List.append_nil] at x3
            subst x3
            subst e1
            subst e2
            exact vs_callS hx hb hml hown hts hsub hW hL x2 hT hA hX hmet hcb x1 hl hstat (Nat.le_of_ble_eq_true hc2) hcells hslots hdg kk
          · cases h
      · cases h
  case invokespecial idx =>
    obtain ⟨rfl, hF⟩ := hF
    replace h : (bif Nat.beq a 1000 then match (generalizing := false) st with
        | .inr (.inr (.inr (.inl (some _)))) :: rest => bif Nat.ble (vCs rest) 8 then some (rest, hp, 0, 0) else none
        | _ => none
      else match vTk b1 [] st with
      | some (as, .inr (.inr (.inr (.inl (some k)))) :: rest) => bif Nat.ble (vCs rest) 8 then match cal a (vOj k :: as) hp with
        | some (r, hp', c1, s1) => some (r.toList ++ rest, hp', c1, s1)
        | none => none
        else none
      | _ => none) = some (st', hp', c1, s1) := h
    rcases hF with ⟨rfl, hl, hR1, hR2⟩ | ⟨ha, M, hM, hcb, hret, hname, hin, hl⟩
    · rw [show Nat.beq 1000 1000 = true from rfl, cond_true] at h
      split at h
      · next k rest =>
        cases hc2 : Nat.ble (vCs rest) 8 with
        | false => rw [hc2] at h; cases h
        | true =>
          rw [hc2] at h
          cases h
          exact vs_objInit hx hb hml hown hts hsub hW hL (k := k) rfl hT hl hcm.1 hcm.2.1 (Nat.le_of_ble_eq_true hc2) ⟨hR1, hR2⟩ hdg kk
      · cases h
    · have h0 : Nat.beq a 1000 = false := by
        cases hh : Nat.beq a 1000 with
        | false => rfl
        | true => exact absurd (Nat.eq_of_beq_eq_true hh) ha
      rw [h0, cond_false] at h
      split at h
      · next as k rest hk =>
        obtain ⟨xs, x1, x2, x3⟩ := vTk_ok _ _ _ _ _ hk
        cases hc2 : Nat.ble (vCs rest) 8 with
        | false => rw [hc2] at h; cases h
        | true =>
          rw [hc2, cond_true] at h
          split at h
          · next r hp2 c2 s2 hr =>
            cases h
            obtain ⟨M', hM', e1, e2, hmet⟩ := hcal _ _ _ _ _ _ _ hr
            cases Option.some.inj (hM.symm.trans hM')
            rw [List.append_nil] at x3
            subst x3
            subst e1
            subst e2
            exact vs_callI hx hb hml hown hts hsub hW hL (k := k) x2 hT hA hX hmet hcb x1 hret hname hin hl (Nat.le_of_ble_eq_true hc2) hcells hslots hdg kk
          · cases h
      · cases h
  all_goals exact absurd h (fun q => by cases q)
theorem vAl_ok {H : Heap} {locs : List Loc} {cells slots : Nat} {ws : va_W} {tys : List (ClassId × FieldType)} {pc : Nat} {lsA : Array Slot} {stV : List Value} {ls : vLs} {st st' : List vAV} {hp hp' : List vOb} {n1 : Nat} (hx : p.tables.exec = Jvm.exec) (hb : c.code = cc) (hown : s.vm.findClass own = some m.cls) (hts : ∀ w ∈ Ts, w.before args s = true) (hsub : ∀ w ∈ WT, w ∈ Ts)
    (hX : vX sa sv A s s.heap) (hA : ∀ q, s.heap.size ≤ q → A q) (hcl : vClsOK df) (hdl : df.length ≤ vwCl.length) (hW : vW vwCl D A s b sa sv hp ws tys H locs) (hL : vL b sa sv (vAd ws) nL ls lsA) (hT : vT b sa sv (vAd ws) st stV)
    {i : Instr} {len a b1 t : Nat} (hdg : decode cc pc = .ok (i, len)) (hF : vFacts vms df R own ini pc i len a b1 t) (h : vAl df i a t st hp = some (st', hp', n1)) (hcells : cells + 1 ≤ R.cells) (hslots : slots + n1 ≤ R.slots)
    (kk : vK p l e R s m args below meth c Q vwCl D A b sa sv nL ws (pc + len) ls st' hp' (cells + 1) (slots + n1)) : W p l e R s m args below meth c H locs cells slots Q (F0 m pc lsA stV) := by
  cases i
  case new idx =>
    obtain ⟨rfl, hF⟩ := hF
    have h : (match vNth df a with
      | some d => vF hp.length (fun k => some (vOj k :: st, hp ++ [(8 * a, d)], d.length))
      | none => none) = some (st', hp', n1) := h
    split at h
    · next d hd =>
      rw [vNth_eq] at hd
      rw [vF_eq] at h
      cases h
      have hlt : a < vwCl.length := Nat.lt_of_lt_of_le (List.getElem?_eq_some_iff.mp hd).1 hdl
      have hr : vwCl[a]? = some vwCl[a] := List.getElem?_eq_getElem hlt
      obtain ⟨f1, f2, f3⟩ := hF _ hr
      obtain ⟨hws, ty0, h1, h2, h3⟩ := hcl a _ hr
      obtain ⟨h4, h5⟩ := h3 d hd
      exact vs_new (C := (vwCl[a]).1) (T := (vwCl[a]).2.1) (N := (vwCl[a]).2.2) (ty := ty0) hx hb hW hL hT hA hts (fun w hw => hsub w (hws w hw)) h1 hown (hts _ (hsub _ f1)) (hts _ (hsub _ f2)) (hts _ (hsub _ f3)) hr h4 (fun j x hj => h5 j x hj b sa sv) hcells hslots hdg kk
    · cases h
  case newarray at_ =>
    obtain ⟨rfl, f1, f2⟩ := hF
    replace h : (match (generalizing := false) st with
      | .inl n :: st' => bif Nat.blt n 65536 && Nat.ble 1 t && Nat.ble t 4 then vF hp.length (fun k => some (vOj k :: st', hp ++ [(t, List.replicate n (vDf t))], n)) else none
      | _ => none) = some (st', hp', n1) := h
    split at h
    · next n st0 =>
      cases hc : (Nat.blt n 65536 && Nat.ble 1 t && Nat.ble t 4) with
      | false => rw [hc] at h; cases h
      | true =>
        rw [hc, cond_true, vF_eq] at h
        cases h
        exact vs_newarray hx hb hW hL hT hA (hts _ (hsub _ f1)) f2 (Nat.blt_eq.mp (vBx (vBx hc).1).1) hcells hslots hdg kk
    · cases h
  case anewarray idx =>
    obtain ⟨rfl, r, hr, f1, f2⟩ := hF
    replace h : (match (generalizing := false) st with
      | .inl n :: st' => bif Nat.blt n 65536 then vF hp.length (fun k => some (vOj k :: st', hp ++ [(8 * a + 5, List.replicate n vNl)], n)) else none
      | _ => none) = some (st', hp', n1) := h
    split at h
    · next n st0 =>
      cases hc : Nat.blt n 65536 with
      | false => rw [hc] at h; cases h
      | true =>
        rw [hc, cond_true, vF_eq] at h
        cases h
        exact vs_anewarray hx hb hW hL hT hA hown (hts _ (hsub _ f1)) (hX.2.1 _ f2) hr (Nat.blt_eq.mp hc) hcells hslots hdg kk
    · cases h
  all_goals exact absurd h (fun q => by cases q)
theorem vRun_ok {tbl : vTbl} {mc ms : Nat} (hx : p.tables.exec = Jvm.exec) (hb : c.code = cc) (hml : c.maxLocals = nL) (hown : s.vm.findClass own = some m.cls) (hts : ∀ w ∈ Ts, w.before args s = true) (hsub : ∀ w ∈ WT, w ∈ Ts) (hini : ini = true → meth.name = "<init>") (hcl : vClsOK df) (hdl : df.length ≤ vwCl.length)
    (hsc : vScr b sa sv A s sc) (hX : vX sa sv A s s.heap) (hA : ∀ q, s.heap.size ≤ q → A q) (hcm : vCommon Ts) (hcal : vCalOK l vms cal) (hmc : mc = R.cells) (hms : ms = R.slots)
    (hF : ∀ pc i len a b t, vGet tbl pc = some (i, len, a, b, t) → decode cc pc = .ok (i, len) ∧ vFacts vms df R own ini pc i len a b t) :
    ∀ (f pc : Nat) (ls : vLs) (st : List vAV) (hp : List vOb) (ce sl : Nat) {pc' : Nat} {ls' : vLs} {st' : List vAV} {hp' : List vOb} {ce' sl' : Nat}, vRun cal df tbl sc vTx mc ms f pc ls st hp ce sl = some (pc', ls', st', hp', ce', sl') →
      ∀ (ws : va_W) (tys : List (ClassId × FieldType)) (H : Heap) (locs : List Loc) (lsA : Array Slot) (stV : List Value), vW vwCl D A s b sa sv hp ws tys H locs → vL b sa sv (vAd ws) nL ls lsA → vT b sa sv (vAd ws) st stV → vK p l e R s m args below meth c Q vwCl D A b sa sv nL ws pc' ls' st' hp' ce' sl' →
        W p l e R s m args below meth c H locs ce sl Q (F0 m pc lsA stV) := by
  intro f
  induction f with
  | zero =>
    intro pc ls st hp ce sl pc' ls' st' hp' ce' sl' h
    simp only [vRun] at h
    cases h
  | succ f ih =>
    intro pc ls st hp ce sl pc' ls' st' hp' ce' sl' h ws tys H locs lsA stV hW hL hT kk
    simp only [vRun] at h
    split at h
    · cases h
    · next i len a b1 t hg =>
      obtain ⟨hdg, hFa⟩ := hF _ _ _ _ _ _ hg
      split at h
      · next pc2 ls2 st2 hp2 hs =>
        rw [vF_eq] at h
        exact vStep_ok hx hb hown hts hsub hini hcl hsc hX hW hL hT hdg hFa hs (fun ws2 tys2 H2 locs2 lsA2 stV2 hW2 hL2 hT2 hsb2 => ih _ _ _ _ _ _ h ws2 tys2 H2 locs2 lsA2 stV2 hW2 hL2 hT2 (fun ws3 tys3 H3 locs3 lsA3 stV3 hW3 hL3 hT3 hsb3 => kk ws3 tys3 H3 locs3 lsA3 stV3 hW3 hL3 hT3 (hsb2.tr hsb3)))
      · split at h
        · next st2 hp2 n1 hs =>
          cases hc : (Nat.ble (ce + 1) mc && Nat.ble (sl + n1) ms) with
          | false => rw [hc] at h; cases h
          | true =>
            rw [hc, cond_true, vF_eq, vF_eq, vF_eq] at h
            have hc := vBx hc
            exact vAl_ok hx hb hown hts hsub hX hA hcl hdl hW hL hT hdg hFa hs (by rw [← hmc]; exact Nat.le_of_ble_eq_true hc.1) (by rw [← hms]; exact Nat.le_of_ble_eq_true hc.2) (fun ws2 tys2 H2 locs2 lsA2 stV2 hW2 hL2 hT2 hsb2 => ih _ _ _ _ _ _ h ws2 tys2 H2 locs2 lsA2 stV2 hW2 hL2 hT2 (fun ws3 tys3 H3 locs3 lsA3 stV3 hW3 hL3 hT3 hsb3 => kk ws3 tys3 H3 locs3 lsA3 stV3 hW3 hL3 hT3 (hsb2.tr hsb3)))
        · split at h
          · next st2 hp2 c1 s1 hs =>
            cases hc : (Nat.ble (ce + c1) mc && Nat.ble (sl + s1) ms) with
            | false => rw [hc] at h; cases h
            | true =>
              rw [hc, cond_true, vF_eq, vF_eq, vF_eq] at h
              have hc := vBx hc
              exact vInv_ok hx hb hml hown hts hsub hX hA hcm hcal hW hL hT hdg hFa hs (by rw [← hmc]; exact Nat.le_of_ble_eq_true hc.1) (by rw [← hms]; exact Nat.le_of_ble_eq_true hc.2) (fun ws2 tys2 H2 locs2 lsA2 stV2 hW2 hL2 hT2 hsb2 => ih _ _ _ _ _ _ h ws2 tys2 H2 locs2 lsA2 stV2 hW2 hL2 hT2 (fun ws3 tys3 H3 locs3 lsA3 stV3 hW3 hL3 hT3 hsb3 => kk ws3 tys3 H3 locs3 lsA3 stV3 hW3 hL3 hT3 (hsb2.tr hsb3)))
          · cases hc : vEnd i with
            | false => rw [hc] at h; cases h
            | true =>
              rw [hc] at h
              cases h
              exact kk ws tys H locs lsA stV hW hL hT (vSub2.rf _)
end VALL2
