/-! ===== a method run by the machine meets its contract ===== -/
def vArgs : List vAV → vLs
  | [] => []
  | c :: cs => bif Nat.beq (vKd c) 1 then some c :: none :: vArgs cs else some c :: vArgs cs
def vEnt (av : List vAV) (nL : Nat) : vLs := vArgs av ++ List.replicate (nL - (vArgs av).length) none
theorem vArgs_at {b sa sv : Nat} {ad : List Nat} : ∀ (av : List vAV) (as : List Value) (off : Nat), vT b sa sv ad av as → ∀ (i : Nat) (c : vAV), (vArgs av)[i]? = some (some c) → ∃ v, (off + i, v) ∈ lv_args off as ∧ vG b sa sv ad c v
  | [], [], off, _, i, c, h => by simp [vArgs] at h
  | [], _ :: _, _, h, _, _, _ => h.elim
  | _ :: _, [], _, h, _, _, _ => h.elim
  | c0 :: av, v0 :: as, off, hT, i, c, h => by
    unfold vArgs at h
    unfold lv_args
    cases hk : Nat.beq (vKd c0) 1 with
    | true =>
      rw [hk, cond_true] at h
      obtain ⟨x, rfl⟩ := vKd1 hT.1 hk
      match i, h with
      | 0, h =>
        cases h
        exact ⟨_, List.mem_cons_self, hT.1⟩
      | 1, h => cases h
      | i + 2, h =>
        have h : (vArgs av)[i]? = some (some c) := h
        obtain ⟨v, q1, q2⟩ := vArgs_at av as (off + 2) hT.2 i c h
        refine ⟨v, List.mem_cons_of_mem _ ?_, q2⟩
        rw [if_pos (show (Value.long x).category = 2 from rfl), show off + (i + 2) = off + 2 + i by omega]
        exact q1
    | false =>
      rw [hk, cond_false] at h
      have hc1 := vKd_cat hT.1 hk
      match i, h with
      | 0, h =>
        cases h
        exact ⟨_, List.mem_cons_self, hT.1⟩
      | i + 1, h =>
        have h : (vArgs av)[i]? = some (some c) := h
        obtain ⟨v, q1, q2⟩ := vArgs_at av as (off + 1) hT.2 i c h
        refine ⟨v, List.mem_cons_of_mem _ ?_, q2⟩
        rw [if_neg (by omega), show off + (i + 1) = off + 1 + i by omega]
        exact q1
theorem vArgs_len {b sa sv : Nat} {ad : List Nat} : ∀ (av : List vAV) (as : List Value), vT b sa sv ad av as → (lg_sl as).length = (vArgs av).length
  | [], [], _ => rfl
  | [], _ :: _, h => h.elim
  | _ :: _, [], h => h.elim
  | c0 :: av, v0 :: as, hT => by
    have ih := vArgs_len av as hT.2
    unfold vArgs
    have e : lg_sl (v0 :: as) = (if v0.category = 2 then [.val v0, .second] else [.val v0]) ++ lg_sl as := rfl
    rw [e, List.length_append, ih]
    cases hk : Nat.beq (vKd c0) 1 with
    | true =>
      obtain ⟨x, rfl⟩ := vKd1 hT.1 hk
      rw [if_pos (show (Value.long x).category = 2 from rfl), cond_true]
      simp
      omega
    | false =>
      have hc1 := vKd_cat hT.1 hk
      rw [if_neg (by omega), cond_false]
      simp
      omega
theorem vEnt_ok {b sa sv : Nat} {ad : List Nat} {av : List vAV} {as : List Value} {nL : Nat} (hT : vT b sa sv ad av as) (hn : (vArgs av).length ≤ nL) : vL b sa sv ad nL (vEnt av nL) ((lg_sl as ++ List.replicate (nL - (lg_sl as).length) Slot.unset).toArray) := by
  have hlen := vArgs_len _ _ hT
  refine ⟨lv_args 0 as, lv_entry as (by omega), by simp [vEnt]; omega, fun i c hi => ?_⟩
  unfold vEnt at hi
  by_cases h : i < (vArgs av).length
  · rw [List.getElem?_append_left h] at hi
    obtain ⟨v, q1, q2⟩ := vArgs_at av as 0 hT i c hi
    rw [Nat.zero_add] at q1
    exact ⟨v, q1, q2⟩
  · rw [List.getElem?_append_right (by omega)] at hi
    have := List.eq_of_mem_replicate (List.mem_of_getElem? hi)
    cases this
/-- may this value be the answer -/
def vRet (ret : Option FieldType) (i : Instr) (st : List vAV) : Option (Option vAV) := match i, st with
  | .ireturn, [c] => match ret, c with
    | some .int, .inl u => some (some (.inl u))
    | some .int, .inr (.inl q) => some (some (.inr (.inl q)))
    | some .boolean, .inl u => bif Nat.ble u 1 then some (some (.inl u)) else none
    | some .char, .inl u => bif Nat.blt u 65536 then some (some (.inl u)) else none
    | some .byte, .inl u => bif Nat.blt u 128 then some (some (.inl u)) else none
    | _, _ => none
  | .lreturn, [.inr (.inr (.inl u))] => match ret with
    | some .long => some (some (.inr (.inr (.inl u))))
    | _ => none
  | .return_, [] => match ret with
    | none => some none
    | _ => none
  | _, _ => none
theorem vn_char : ∀ u, u < 65536 → narrow .char (.int (nI u)) = .int (nI u) := fun u hu => (pk_charN hu).1
theorem vn_byte : ∀ u, u < 128 → narrow .byte (.int (nI u)) = .int (nI u) := by decide +kernel
theorem vn_bool : ∀ u, u < 2 → narrow .boolean (.int (nI u)) = .int (nI u) := by decide +kernel
theorem vRet_ok {ret : Option FieldType} {i : Instr} {st : List vAV} {r : Option vAV} (h : vRet ret i st = some r) : (∃ (c0 : vAV) (ty : FieldType), i = .ireturn ∧ st = [c0] ∧ r = some c0 ∧ ret = some ty ∧ vKd c0 = 0 ∧ ∀ (b sa sv : Nat) (ad : List Nat) (x : Int32), vG b sa sv ad c0 (.int x) → narrow ty (.int x) = .int x) ∨
    (∃ u : Nat, i = .lreturn ∧ st = [.inr (.inr (.inl u))] ∧ r = some (.inr (.inr (.inl u))) ∧ ret = some .long) ∨ (i = .return_ ∧ st = [] ∧ r = none ∧ ret = none) := by
  unfold vRet at h
  split at h
  · split at h
    · next u =>
      cases h
      exact Or.inl ⟨_, _, rfl, rfl, rfl, rfl, rfl, fun _ _ _ _ _ _ => rfl⟩
    · next q =>
      cases h
      exact Or.inl ⟨_, _, rfl, rfl, rfl, rfl, rfl, fun _ _ _ _ _ _ => rfl⟩
    · next u =>
      cases h1 : Nat.ble u 1 with
      | false => rw [h1] at h; cases h
      | true =>
        rw [h1] at h
        cases h
        exact Or.inl ⟨_, _, rfl, rfl, rfl, rfl, rfl, fun _ _ _ _ x hg => by
          obtain ⟨-, hg⟩ := hg
          cases hg
          exact vn_bool u (by have := Nat.le_of_ble_eq_true h1; omega)⟩
    · next u =>
      cases h1 : Nat.blt u 65536 with
      | false => rw [h1] at h; cases h
      | true =>
        rw [h1] at h
        cases h
        exact Or.inl ⟨_, _, rfl, rfl, rfl, rfl, rfl, fun _ _ _ _ x hg => by
          obtain ⟨-, hg⟩ := hg
          cases hg
          exact vn_char u (Nat.blt_eq.mp h1)⟩
    · next u =>
      cases h1 : Nat.blt u 128 with
      | false => rw [h1] at h; cases h
      | true =>
        rw [h1] at h
        cases h
        exact Or.inl ⟨_, _, rfl, rfl, rfl, rfl, rfl, fun _ _ _ _ x hg => by
          obtain ⟨-, hg⟩ := hg
          cases hg
          exact vn_byte u (Nat.blt_eq.mp h1)⟩
    · cases h
  · split at h
    · cases h
      exact Or.inr (Or.inl ⟨_, rfl, rfl, rfl, rfl⟩)
    · cases h
  · split at h
    · cases h
      exact Or.inr (Or.inr ⟨rfl, rfl, rfl, rfl⟩)
    · cases h
  · cases h
noncomputable def vCalD (vms : List vMt) (df : List (List vAV)) (fuel : Nat) : Nat → vCal
  | 0 => fun _ _ _ => none
  | d + 1 => fun j av hp => match vNth vms j with
    | none => none
    | some M => bif Nat.ble (vArgs av).length M.2.2.1 then match vRun (vCalD vms df fuel d) df M.2.2.2.2.1 [] vTx (mRm M).cells (mRm M).slots fuel 0 (vEnt av M.2.2.1) [] hp 0 0 with
      | none => none
      | some (pc', _, st', hp', ce', sl') => match vGet M.2.2.2.2.1 pc' with
        | none => none
        | some x => match vRet M.2.2.2.1 x.1 st' with
          | none => none
          | some r => bif Nat.ble ce' (mRm M).cells && Nat.ble sl' (mRm M).slots then some (r, hp', (mRm M).cells, (mRm M).slots) else none
      else none
/-- all that the tables must say of a method -/
def vMOK (vms : List vMt) (df : List (List vAV)) (M : vMt) : Prop := plainFor M.1 = true ∧ ∀ pc i len a b t, vGet M.2.2.2.2.1 pc = some (i, len, a, b, t) → decode M.2.1 pc = .ok (i, len) ∧ vFacts vms df (mRm M) M.1.cls (decide (M.1.name = "<init>")) pc i len a b t
set_option maxHeartbeats 1000000 in
theorem vCalD_ok (l : Launch) {vms : List vMt} {df : List (List vAV)} (hcl : vClsOK df) (hdl : df.length ≤ vwCl.length) (hcm : vCommon WT) (hall : ∀ (j : Nat) (M : vMt), vms[j]? = some M → vMOK vms df M) (fuel : Nat) : ∀ d, vCalOK l vms (vCalD vms df fuel d) := by
  intro d
  induction d with
  | zero =>
    intro j av hp r hp' c1 s1 h
    simp only [vCalD] at h
    cases h
  | succ d ih =>
    intro j av hp r hp' c1 s1 h
    simp only [vCalD] at h
    split at h
    · cases h
    · next M hM =>
      rw [vNth_eq] at hM
      obtain ⟨hpl, hF⟩ := hall j M hM
      cases hal : Nat.ble (vArgs av).length M.2.2.1 with
      | false => rw [hal] at h; cases h
      | true =>
        rw [hal, cond_true] at h
        have hal := Nat.le_of_ble_eq_true hal
        split at h
        · cases h
        · next pc' ls' st' hp2 ce' sl' hrun =>
          split at h
          · cases h
          · next x hx9 =>
            split at h
            · cases h
            · next r2 hret =>
              cases hk : (Nat.ble ce' (mRm M).cells && Nat.ble sl' (mRm M).slots) with
              | false => rw [hk] at h; cases h
              | true =>
                rw [hk, cond_true] at h
                cases h
                obtain ⟨hk1, hk2⟩ := vBx hk
                have hk1 := Nat.le_of_ble_eq_true hk1
                have hk2 := Nat.le_of_ble_eq_true hk2
                refine ⟨M, hM, rfl, rfl, ?_⟩
                intro D b sa sv ws tys sz as hT hH
                refine va_MetF (cc := M.2.1) (maxL := M.2.2.1) (ret := M.2.2.2.1) hpl rfl ?_
                intro p e s m args below meth c s₁ B hml hv
                obtain ⟨rfl, hsz, hP, hK, hD0, hX⟩ := hv
                have hx := B.exec
                have hb := B.bytes
                have hr := B.returns
                have hts := atoms_spec (ws := mW M) B.pre
                have hown : s.vm.findClass M.1.cls = some m.cls := findClass_of_methodNamed B.named
                have hlocks := B.notSynchronized
                have hnm : meth.name = M.1.name := (name_of_methodNamed B.named B.method).1
                subst hsz
                have hD := hD0.self (sz := s.heap.size)
                have hA : ∀ q : Nat, s.heap.size ≤ q → va_A ws s.heap.size q := fun q h => Or.inr h
                have hsub : ∀ w ∈ WT, w ∈ mW M := fun w h => List.mem_cons_of_mem _ h
                rw [lg_entry_eq]
                refine vRun_ok (D := D) (A := va_A ws s.heap.size) (b := b) (sa := sa) (sv := sv) (ini := decide (M.1.name = "<init>")) hx hb hml hown hts hsub (fun h => by rw [hnm]; exact of_decide_eq_true h) hcl hdl (Or.inl rfl) hX hA ⟨hcm.1, hcm.2.1, hsub _ hcm.2.2.1, hcm.2.2.2.1, hcm.2.2.2.2⟩ ih rfl rfl hF fuel 0 _ _ _ _ _ hrun ws tys s.heap [] _ [] ⟨hP, hD, va_S.rf, hK, hH⟩ (vEnt_ok hT hal) trivial ?_
                intro ws' tys' H' locs' lsA' stV' hW' hL' hT' hsb
                obtain ⟨hP', hD', hS', hK', hH'⟩ := hW'
                refine W.widen hk1 hk2 ?_
                obtain ⟨xi, xl, xa, xb, xt⟩ := x
                obtain ⟨hdg, hFx⟩ := hF _ _ _ _ _ _ hx9
                have hpo : vPo ws b sa sv hp' (ws', tys') := ⟨hH', hsb⟩
                have hpt : ∀ t : State, t.heap = H' → s.WarmedH t.vm → vPt D ws s.heap.size (ws', tys') t := fun t ht hw => ⟨by rw [ht]; exact hP', va_K.moved hw.alike hK', hD'⟩
                have hint : ∀ (c0 : vAV) (x : Int32) (ty : FieldType), vKd c0 = 0 → vG b sa sv (vAd ws') c0 (.int x) → M.2.2.2.1 = some ty → narrow ty (.int x) = .int x → decode M.2.1 pc' = .ok (.ireturn, 1) → W p l e (headSpec (mW M) (mRm M)).room s m as.toArray below meth c H' locs' (mRm M).cells (mRm M).slots (MQ below (vQ D ws s.heap.size b sa sv (some c0) hp') as.toArray s (mRm M).cells (mRm M).slots (va_A ws s.heap.size)) (F0 m pc' lsA' [.int x]) := by
                  intro c0 x ty hk0 hg hty hn hd
                  have hq : vQ D ws s.heap.size b sa sv (some c0) hp' = va_Qi (fun x u => vG b sa sv (vAd u.1) c0 (.int x) ∧ vPo ws b sa sv hp' u) (vPt D ws s.heap.size) (va_A ws s.heap.size) := by
                    unfold vQ
                    simp only [hk0]
                  rw [hq]
                  exact W.zret hx hb (by rw [hr]; exact hty) hn (fun t ht hw => ⟨⟨x, (ws', tys'), rfl, ⟨hg, hpo⟩, hpt t ht hw⟩, hS'.F ht⟩) hS'.2.2 hd
                rcases vRet_ok hret with ⟨c0, ty, e1, e2, e3, e4, hk0, hn⟩ | ⟨u, e1, e2, e3, e4⟩ | ⟨e1, e2, e3, e4⟩
                · subst e1 e2 e3
                  have hFx : xl = 1 := hFx
                  subst hFx
                  match stV', hT' with
                  | [v], hT' =>
                    obtain ⟨x, rfl⟩ := vKd0 hT'.1 (by rw [hk0]; rfl)
                    exact hint c0 x ty hk0 hT'.1 e4 (hn _ _ _ _ _ hT'.1) hdg
                  | v :: w :: r9, hT' => exact hT'.2.elim
                · subst e1 e2 e3
                  have hFx : xl = 1 := hFx
                  subst hFx
                  match stV', hT' with
                  | [v], hT' =>
                    obtain ⟨q1, rfl⟩ := hT'.1
                    exact W.lret hx hb (by rw [hr]; exact e4) (fun t ht hw => ⟨⟨lN u, (ws', tys'), rfl, ⟨⟨q1, rfl⟩, hpo⟩, hpt t ht hw⟩, hS'.F ht⟩) hS'.2.2 hdg
                  | v :: w :: r9, hT' => exact hT'.2.elim
                · subst e1 e2 e3
                  have hFx : xl = 1 := hFx
                  subst hFx
                  match stV', hT' with
                  | [], hT' => exact W.vret hx hb (by rw [hr]; exact e4) (fun t ht hw => ⟨⟨(ws', tys'), rfl, hpo, hpt t ht hw⟩, hS'.F ht⟩) hS'.2.2 hdg
                  | v :: w, hT' => exact hT'.elim
