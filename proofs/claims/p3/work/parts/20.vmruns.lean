/-! ===== the calls themselves ===== -/
section VRUN
variable {p : Program} {l : Launch} {e : Env} {R : Room} {s : State} {m : MethodId} {args : Array Value} {below : List Frame} {meth : Method} {c : Code} {H : Heap} {locs : List Loc} {cells slots : Nat} {Q : State → Prop}
variable {cc : ByteArray} {pc : Nat} {lsA : Array Slot} {stV : List Value} {D : va_G} {A : Nat → Prop} {ws : va_W} {tys : List (ClassId × FieldType)}
variable {b sa sv nL : Nat} {ls : vLs} {st rest av : List vAV} {hp hp' : List vOb} {r : Option vAV} {M : vMt} {own : String} {index n : Nat} {Ts : List Cond}
/-- what the tables say of a callee, for any kind of call -/
def vCb (R : Room) (M : vMt) (n : Nat) : Prop := Cond.code M.1 M.2.1 M.2.2.1 M.2.2.2.1 ∈ WT ∧ Cond.initialized M.1.cls ∈ WT ∧ (M.1.cls ≠ "java/lang/invoke/MethodHandle" ∧ M.1.cls ≠ "java/lang/invoke/VarHandle" ∧ (parseMethodDescriptor M.1.desc).map (fun d => d.parameters.length) = some n) ∧ ((mRm M).frames + 1 ≤ R.frames ∧ 8 + (M.2.2.1 + 11) + (mRm M).locals ≤ R.locals)
theorem vGood (hsub : ∀ w ∈ WT, w ∈ Ts) (hcd : Cond.code M.1 M.2.1 M.2.2.1 M.2.2.2.1 ∈ WT) : GoodIn Ts (mW M) := by
  intro w hw
  have h : w ∈ WT := by
    rcases List.mem_cons.mp hw with h | h
    · rw [h]; exact hcd
    · exact h
  exact ⟨hsub w h, good_of_word (WT_in h).2⟩
theorem vCallB (hts : ∀ w ∈ Ts, w.before args s = true) (hsub : ∀ w ∈ WT, w ∈ Ts) (hc : vCb R M n) (hlink : Cond.methodLink own index M.1 ∈ WT) : CallB R s args own index M.1 M.2.1 M.2.2.1 M.2.2.2.1 (mW M) (mRm M) (mRm M).cells (mRm M).slots n :=
  callB_of n hts (vGood hsub hc.1) rfl rfl rfl (hts _ (hsub _ hc.2.1)) (hts _ (hsub _ hlink)) hc.2.2.1 hc.2.2.2
theorem vs_callV (hx : p.tables.exec = Jvm.exec) (hb : c.code = cc) (hml : c.maxLocals = nL) (hown : s.vm.findClass own = some m.cls) (hts : ∀ w ∈ Ts, w.before args s = true) (hsub : ∀ w ∈ WT, w ∈ Ts) (hW : vW vwCl D A s b sa sv hp ws tys H locs) (hL : vL b sa sv (vAd ws) nL ls lsA) {rv : vAV} {xs : List vAV} (hst : st = xs ++ rv :: rest) (hT : vT b sa sv (vAd ws) st stV) (hA : ∀ q, s.heap.size ≤ q → A q) (hX : vX sa sv A s s.heap)
    (hM : vMet l M (rv :: xs.reverse) hp r hp') (hc : vCb R M n) (hn : xs.length = n) (hlink : Cond.methodLink own index M.1 ∈ WT) (hinst : Cond.instanceMethod M.1 ∈ WT) (hsel : Cond.selects M.1.cls M.1 M.1 ∈ WT)
    (hrv : (∃ (k : Nat) (o : vOb) (q : vw_C), rv = vOj k ∧ hp[k]? = some o ∧ o.1 % 8 = 0 ∧ vwCl[o.1 / 8]? = some q ∧ q.1 = M.1.cls) ∨ (rv = .inr (.inr (.inr (.inr 1))) ∧ M.1.cls = "java/lang/String")) (hcs : vCs rest ≤ 8)
    (hcells : cells + (mRm M).cells ≤ R.cells) (hslots : slots + (mRm M).slots ≤ R.slots) (hdg : decode cc pc = .ok (.invokevirtual index, 3))
    (kk : vK p l e R s m args below meth c Q vwCl D A b sa sv nL ws (pc + 3) ls (r.toList ++ rest) hp' (cells + (mRm M).cells) (slots + (mRm M).slots)) : W p l e R s m args below meth c H locs cells slots Q (F0 m pc lsA stV) := by
  subst hst
  obtain ⟨v1, v2, rfl, h1, h2⟩ := vT_split _ _ _ hT
  match v2, h2 with
  | rV :: restV, h2 =>
    obtain ⟨hr0, hrest⟩ := h2
    have hrec : ∃ a : Nat, rV = .ref a ∧ ∃ cell : Cell, H[a]? = some cell ∧ cell.vm.isStatics = false ∧ s.vm.findClass M.1.cls = some cell.cls := by
      rcases hrv with ⟨k, o, q, rfl, ho, ho8, hq, hqc⟩ | ⟨rfl, hqc⟩
      · obtain ⟨ad, ce, rfl, hw, hC⟩ := vH_at hW.2.2.2.2 ho hr0
        obtain ⟨fs, rfl, -, -⟩ := vC_0 hC ho8
        rw [← hqc]
        exact ⟨ad, rfl, va_recv hW.2.2.2.1 hW.1 hq hw⟩
      · rcases hr0 with ⟨h9, -⟩ | ⟨-, rfl⟩ | ⟨h9, -⟩ | ⟨h9, -⟩
        · omega
        · rw [hqc]
          exact ⟨sa, rfl, vk_recv (i := 0) hX.2.2.2.1 (by omega) hW.2.2.1⟩
        · omega
        · omega
    obtain ⟨a, rfl, hcell⟩ := hrec
    have hlen := vT_len _ _ h1
    refine vs_after (rest := rest) (restV := restV) hW hL hrest hA (va_runV (As := v1.reverse) (b := a) (C := M.1.cls) ⟨hx, hb, hml, hown, hts⟩ (hM D b sa sv ws tys H.size (.ref a :: v1.reverse) ⟨hr0, vT_rev _ _ h1⟩ hW.2.2.2.2) ⟨vCallB hts hsub hc hlink, hts _ (hsub _ hinst), hts _ (hsub _ hsel)⟩ ⟨vPre.blind, hcell, fun U hU hw => ⟨rfl, vPre.at hW hA hX hU hw⟩⟩ rfl (by rw [List.length_reverse]; omega) hL.choose_spec.1.1 (by rw [List.reverse_reverse]) (lv_room (by rw [vCs_ok _ _ hrest]; exact hcs)) hdg ⟨hcells, hslots⟩) kk
theorem vs_callS (hx : p.tables.exec = Jvm.exec) (hb : c.code = cc) (hml : c.maxLocals = nL) (hown : s.vm.findClass own = some m.cls) (hts : ∀ w ∈ Ts, w.before args s = true) (hsub : ∀ w ∈ WT, w ∈ Ts) (hW : vW vwCl D A s b sa sv hp ws tys H locs) (hL : vL b sa sv (vAd ws) nL ls lsA) {xs : List vAV} (hst : st = xs ++ rest) (hT : vT b sa sv (vAd ws) st stV) (hA : ∀ q, s.heap.size ≤ q → A q) (hX : vX sa sv A s s.heap)
    (hM : vMet l M xs.reverse hp r hp') (hc : vCb R M n) (hn : xs.length = n) (hlink : Cond.methodLink own index M.1 ∈ WT) (hstat : Cond.static M.1 ∈ WT) (hcs : vCs rest ≤ 8)
    (hcells : cells + (mRm M).cells ≤ R.cells) (hslots : slots + (mRm M).slots ≤ R.slots) (hdg : decode cc pc = .ok (.invokestatic index, 3))
    (kk : vK p l e R s m args below meth c Q vwCl D A b sa sv nL ws (pc + 3) ls (r.toList ++ rest) hp' (cells + (mRm M).cells) (slots + (mRm M).slots)) : W p l e R s m args below meth c H locs cells slots Q (F0 m pc lsA stV) := by
  subst hst
  obtain ⟨v1, restV, rfl, h1, hrest⟩ := vT_split _ _ _ hT
  have hlen := vT_len _ _ h1
  exact vs_after (rest := rest) (restV := restV) hW hL hrest hA (va_runS (As := v1.reverse) ⟨hx, hb, hml, hown, hts⟩ (hM D b sa sv ws tys H.size v1.reverse (vT_rev _ _ h1) hW.2.2.2.2) ⟨vCallB hts hsub hc hlink, hts _ (hsub _ hstat)⟩ ⟨vPre.blind, fun U hU hw => ⟨rfl, vPre.at hW hA hX hU hw⟩⟩ rfl (by rw [List.length_reverse]; omega) hL.choose_spec.1.1 (by rw [List.reverse_reverse]) (lv_room (by rw [vCs_ok _ _ hrest]; exact hcs)) hdg ⟨hcells, hslots⟩) kk
theorem vs_callI (hx : p.tables.exec = Jvm.exec) (hb : c.code = cc) (hml : c.maxLocals = nL) (hown : s.vm.findClass own = some m.cls) (hts : ∀ w ∈ Ts, w.before args s = true) (hsub : ∀ w ∈ WT, w ∈ Ts) (hW : vW vwCl D A s b sa sv hp ws tys H locs) (hL : vL b sa sv (vAd ws) nL ls lsA) {k : Nat} {xs : List vAV} (hst : st = xs ++ vOj k :: rest) (hT : vT b sa sv (vAd ws) st stV) (hA : ∀ q, s.heap.size ≤ q → A q) (hX : vX sa sv A s s.heap)
    (hM : vMet l M (vOj k :: xs.reverse) hp r hp') (hc : vCb R M n) (hn : xs.length = n) (hret : M.2.2.2.1 = none) (hname : M.1.name = "<init>") (hinst : Cond.instanceMethod M.1 ∈ WT)
    (hlink : Cond.methodLink own index M.1 ∈ WT ∨ ∃ host, Cond.methodLinkNest own index M.1 host ∈ vNest) (hcs : vCs rest ≤ 8)
    (hcells : cells + (mRm M).cells ≤ R.cells) (hslots : slots + (mRm M).slots ≤ R.slots) (hdg : decode cc pc = .ok (.invokespecial index, 3))
    (kk : vK p l e R s m args below meth c Q vwCl D A b sa sv nL ws (pc + 3) ls (r.toList ++ rest) hp' (cells + (mRm M).cells) (slots + (mRm M).slots)) : W p l e R s m args below meth c H locs cells slots Q (F0 m pc lsA stV) := by
  subst hst
  obtain ⟨v1, v2, rfl, h1, h2⟩ := vT_split _ _ _ hT
  match v2, h2 with
  | rV :: restV, h2 =>
    obtain ⟨hr0, hrest⟩ := h2
    obtain ⟨a, ha, rfl⟩ := hr0
    have hlen := vT_len _ _ h1
    have hMM := hM D b sa sv ws tys H.size (.ref a :: v1.reverse) ⟨⟨a, ha, rfl⟩, vT_rev _ _ h1⟩ hW.2.2.2.2
    have hpre : PreS s H (va_Pc (.ref a :: v1.reverse) (vPre D ws tys sa sv H.size)) (.ref a :: v1.reverse) := ⟨vPre.blind, fun U hU hw => ⟨rfl, vPre.at hW hA hX hU hw⟩⟩
    rcases hlink with hlink | ⟨host, hlink⟩
    · have hcb := vCallB (index := index) hts hsub hc hlink
      rw [hret] at hcb
      exact vs_after (rest := rest) (restV := restV) hW hL hrest hA (va_runI (As := v1.reverse) (b := a) ⟨hx, hb, hml, hown, hts⟩ hMM ⟨hcb, hname, hts _ (hsub _ hinst)⟩ hpre rfl (by rw [List.length_reverse]; omega) hL.choose_spec.1.1 (by rw [List.reverse_reverse]) (lv_room (by rw [vCs_ok _ _ hrest]; exact hcs)) hdg ⟨hcells, hslots⟩) kk
    · have hcb := va_cnB (R := R) (host := host) n hts (vGood hsub hc.1) rfl rfl rfl (hX.1 _ hlink) (hts _ (hsub _ hc.2.1)) hc.2.2.1 hc.2.2.2
      rw [hret] at hcb
      exact vs_after (rest := rest) (restV := restV) hW hL hrest hA (va_runIN (As := v1.reverse) (b := a) ⟨hx, hb, hml, hown, hts⟩ hMM ⟨hcb, hname, hts _ (hsub _ hinst)⟩ hpre rfl (by rw [List.length_reverse]; omega) hL.choose_spec.1.1 (by rw [List.reverse_reverse]) (lv_room (by rw [vCs_ok _ _ hrest]; exact hcs)) hdg ⟨hcells, hslots⟩) kk
theorem vs_objInit (hx : p.tables.exec = Jvm.exec) (hb : c.code = cc) (hml : c.maxLocals = nL) (hown : s.vm.findClass own = some m.cls) (hts : ∀ w ∈ Ts, w.before args s = true) (hsub : ∀ w ∈ WT, w ∈ Ts) (hW : vW vwCl D A s b sa sv hp ws tys H locs) (hL : vL b sa sv (vAd ws) nL ls lsA) {k : Nat} (hst : st = vOj k :: rest) (hT : vT b sa sv (vAd ws) st stV)
    (hlink : Cond.methodLink own index Lib.objectInit ∈ WT) (hinst : Cond.instanceMethod Lib.objectInit ∈ WT) (hcode : Cond.code Lib.objectInit ⟨#[0xb1]⟩ 1 none ∈ WT) (hcs : vCs rest ≤ 8) (hR : 1 ≤ R.frames ∧ 20 ≤ R.locals) (hdg : decode cc pc = .ok (.invokespecial index, 3))
    (kk : vK p l e R s m args below meth c Q vwCl D A b sa sv nL ws (pc + 3) ls rest hp cells slots) : W p l e R s m args below meth c H locs cells slots Q (F0 m pc lsA stV) := by
  subst hst
  match stV, hT with
  | y :: stV, hT =>
    obtain ⟨⟨a, ha, rfl⟩, hT9⟩ := hT
    refine W.objInit hx hb hown (hts _ (hsub _ hlink)) (hts _ (hsub _ hinst)) (hts _ (hsub _ hcode)) rfl (by rw [hml]; exact hL.choose_spec.1.1) rfl hdg hR.1 (by have := lv_room (m := m) (pc := pc) (ls := lsA) (rest := stV) (st := stV) (by rw [vCs_ok _ _ hT9]; exact hcs); have h2 : (F0 m pc lsA (.ref a :: stV)).monitorRoom = (F0 m pc lsA stV).monitorRoom := rfl; rw [h2]; omega) ?_
    exact W.eq (g2 := F0 m (pc + 3) lsA stV) rfl (kk ws tys H locs lsA stV hW hL hT9 (vSub2.rf _))
/-- System.arraycopy from the start of one row to that of another, int or long -/
def vCp (st : List vAV) (hp : List vOb) : Option (List vAV × List vOb) := match st with
  | .inl n :: .inl 0 :: .inr (.inr (.inr (.inl (some k)))) :: .inl 0 :: .inr (.inr (.inr (.inl (some j)))) :: rest => match vNth hp k, vNth hp j with
    | some o, some o2 => bif (Nat.beq (o.1 % 8) 1 || Nat.beq (o.1 % 8) 4) && Nat.beq (o2.1 % 8) (o.1 % 8) && Nat.blt n 65536 && Nat.ble n o.2.length && Nat.ble n o2.2.length then some (rest, hp.set k (o.1, o2.2.take n ++ o.2.drop n)) else none
    | _, _ => none
  | _ => none
theorem vs_copy (hx : p.tables.exec = Jvm.exec) (hb : c.code = cc) (hml : c.maxLocals = nL) (hown : s.vm.findClass own = some m.cls) (hts : ∀ w ∈ Ts, w.before args s = true) (hsub : ∀ w ∈ WT, w ∈ Ts) (hW : vW vwCl D A s b sa sv hp ws tys H locs) (hL : vL b sa sv (vAd ws) nL ls lsA) (hT : vT b sa sv (vAd ws) st stV)
    (hlink : Cond.methodLink own index arraycopyName ∈ WT) (hnat : Cond.native arraycopyName ∈ Ts) (hstat : Cond.static arraycopyName ∈ WT) (hini : Cond.initialized "java/lang/System" ∈ WT) (hcs : vCs rest ≤ 8) (hR : 1 ≤ R.frames ∧ 8 + (nativeFrameWords "java/lang/System" "arraycopy" 5 + 11) ≤ R.locals) (hdg : decode cc pc = .ok (.invokestatic index, 3))
    (h : vCp st hp = some (rest, hp')) (kk : vK p l e R s m args below meth c Q vwCl D A b sa sv nL ws (pc + 3) ls rest hp' cells slots) : W p l e R s m args below meth c H locs cells slots Q (F0 m pc lsA stV) := by
  unfold vCp at h
  split at h
  · next n k j rest0 =>
    split at h
    · next o o2 ho ho2 =>
      rw [vNth_eq] at ho ho2
      cases hk : ((Nat.beq (o.1 % 8) 1 || Nat.beq (o.1 % 8) 4) && Nat.beq (o2.1 % 8) (o.1 % 8) && Nat.blt n 65536 && Nat.ble n o.2.length && Nat.ble n o2.2.length) with
      | false => rw [hk] at h; cases h
      | true =>
        rw [hk] at h
        cases h
        obtain ⟨hk, k5⟩ := vBx hk
        obtain ⟨hk, k4⟩ := vBx hk
        obtain ⟨hk, k3⟩ := vBx hk
        obtain ⟨k1, k2⟩ := vBx hk
        have k5 : n ≤ o2.2.length := Nat.le_of_ble_eq_true k5
        have k4 : n ≤ o.2.length := Nat.le_of_ble_eq_true k4
        have k3 : n < 65536 := Nat.blt_eq.mp k3
        have k2 : o2.1 % 8 = o.1 % 8 := Nat.eq_of_beq_eq_true k2
        match stV, hT with
        | y1 :: [], hT => exact hT.2.elim
        | y1 :: y2 :: [], hT => exact hT.2.2.elim
        | y1 :: y2 :: y3 :: [], hT => exact hT.2.2.2.elim
        | y1 :: y2 :: y3 :: y4 :: [], hT => exact hT.2.2.2.2.elim
        | y1 :: y2 :: y3 :: y4 :: y5 :: stV, hT =>
          obtain ⟨⟨-, rfl⟩, ⟨-, rfl⟩, g3, ⟨-, rfl⟩, g5, hT9⟩ := hT
          obtain ⟨hP, hD, hS, hK, hH⟩ := hW
          obtain ⟨ad, ce, rfl, hw, hC⟩ := vH_at hH ho g3
          obtain ⟨ad2, ce2, rfl, hw2, hC2⟩ := vH_at hH ho2 g5
          have hlen : (o2.2.take n ++ o.2.drop n).length = o.2.length := by simp; omega
          have hget : ∀ (i : Nat) (x : vAV), (o2.2.take n ++ o.2.drop n)[i]? = some x → (i < n ∧ o2.2[i]? = some x) ∨ (n ≤ i ∧ o.2[i]? = some x) := by
            intro i x hi
            by_cases hin : i < n
            · rw [List.getElem?_append_left (by simp; omega), List.getElem?_take, if_pos hin] at hi
              exact Or.inl ⟨hin, hi⟩
            · have hl : (o2.2.take n).length = n := by simp; omega
              rw [List.getElem?_append_right (by omega), hl, List.getElem?_drop, show n + (i - n) = i by omega] at hi
              exact Or.inr ⟨by omega, hi⟩
          have fin : ∀ (ce' : va_E), vC vwCl b sa sv (vAd ws) tys (o.1, o2.2.take n ++ o.2.drop n) ce' → ∀ (H1 : Heap) (locs1 : List Loc), va_P D vwCl (ws.set k (ad, ce')) H1 → va_D A (ws.set k (ad, ce')) → va_S A s.heap H1 locs1 → W p l e R s m args below meth c H1 locs1 cells slots Q (F0 m (pc + 3) lsA stV) :=
            fun ce' hce H1 locs1 a1 a2 a3 => kk _ tys H1 locs1 lsA stV ⟨a1, a2, a3, hK, vH_set hH hw hce⟩ (by rw [vAd_set hw]; exact hL) (by rw [vAd_set hw]; exact hT9) (by rw [vAd_set hw]; exact vSub2.rf _)
          have hloc : (stV.map fun v => v.category).sum + (nativeFrameWords "java/lang/System" "arraycopy" 5 + 11) ≤ R.locals := by rw [vCs_ok _ _ hT9]; omega
          have hsz : c.maxLocals = lsA.size := by rw [hml]; exact hL.choose_spec.1.1.symm
          have e0 : (nI 0).toNatClampNeg = 0 := vCl (by omega)
          rw [Bool.or_eq_true] at k1
          rcases k1 with k1 | k1
          · have k1 := Nat.eq_of_beq_eq_true k1
            obtain ⟨cA, f, t0, rfl, ht0, hf⟩ := vC_1 hC k1
            obtain ⟨cA2, f2, t2, rfl, ht2, hf2⟩ := vC_1 hC2 (by omega)
            refine va_copyi (ty := .int) hx hb hsz hown (hts _ (hsub _ hlink)) (hts _ hnat) (hts _ (hsub _ hstat)) (hts _ (hsub _ hini)) hK hP hD hS j k t2 t0 hw2 hw ht2 ht0 rfl (nI_pos (by omega)) (nI_pos (by omega)) (nI_pos (by omega)) (by rw [e0, vCl k3]; omega) (by rw [e0, vCl k3]; omega) (fun _ _ => rfl) hR.1 hloc hdg (fin _ ?_)
            rw [e0, vCl k3]
            exact vC_1i (o := (o.1, o2.2.take n ++ o.2.drop n)) k1 ⟨cA, _, t0, by rw [hlen], ht0, fun i x hi => by
              rcases hget i x hi with ⟨q1, q2⟩ | ⟨q1, q2⟩
              · rw [pk_cpy_in (by omega) (by omega), show 0 + (i - 0) = i by omega]; exact hf2 i x q2
              · rw [pk_cpy_out (by omega)]; exact hf i x q2⟩
          · have k1 := Nat.eq_of_beq_eq_true k1
            obtain ⟨cA, f, t0, rfl, ht0, hf⟩ := vC_4 hC k1
            obtain ⟨cA2, f2, t2, rfl, ht2, hf2⟩ := vC_4 hC2 (by omega)
            refine va_copyl hx hb hsz hown (hts _ (hsub _ hlink)) (hts _ hnat) (hts _ (hsub _ hstat)) (hts _ (hsub _ hini)) hK hP hD hS j k t2 t0 hw2 hw ht2 ht0 rfl (nI_pos (by omega)) (nI_pos (by omega)) (nI_pos (by omega)) (by rw [e0, vCl k3]; omega) (by rw [e0, vCl k3]; omega) (fun _ _ => rfl) hR.1 hloc hdg (fin _ ?_)
            rw [e0, vCl k3]
            exact vC_4i (o := (o.1, o2.2.take n ++ o.2.drop n)) k1 ⟨cA, _, t0, by rw [hlen], ht0, fun i x hi => by
              rcases hget i x hi with ⟨q1, q2⟩ | ⟨q1, q2⟩
              · rw [pk_cpy_in (by omega) (by omega), show 0 + (i - 0) = i by omega]; exact hf2 i x q2
              · rw [pk_cpy_out (by omega)]; exact hf i x q2⟩
    · cases h
  · cases h
end VRUN
