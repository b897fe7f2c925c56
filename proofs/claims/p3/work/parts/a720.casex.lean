/-! ===== the cases of the law that may throw ===== -/
theorem vRun_mono {cal : vCal} {df : List (List vAV)} {tbl : vTbl} {sc : List vAV} {tx : List Nat} {mc ms mc' ms' : Nat} (h1 : mc ≤ mc') (h2 : ms ≤ ms') : ∀ (f pc : Nat) (ls : vLs) (st : List vAV) (hp : List vOb) (ce sl : Nat) {r : Nat × vLs × List vAV × List vOb × Nat × Nat}, vRun cal df tbl sc tx mc ms f pc ls st hp ce sl = some r → vRun cal df tbl sc tx mc' ms' f pc ls st hp ce sl = some r := by
  have two : ∀ a b : Nat, (Nat.ble a mc && Nat.ble b ms) = true → (Nat.ble a mc' && Nat.ble b ms') = true := fun a b h => by
    rw [Bool.and_eq_true] at h ⊢
    exact ⟨Nat.ble_eq_true_of_le (Nat.le_trans (Nat.le_of_ble_eq_true h.1) h1), Nat.ble_eq_true_of_le (Nat.le_trans (Nat.le_of_ble_eq_true h.2) h2)⟩
  intro f
  induction f with
  | zero =>
    intro pc ls st hp ce sl r h
    simp only [vRun] at h
    cases h
  | succ f ih =>
    intro pc ls st hp ce sl r h
    simp only [vRun] at h ⊢
    cases hg : vGet tbl pc with
    | none => rw [hg] at h; cases h
    | some x =>
      obtain ⟨i, len, a, b, t⟩ := x
      simp only [hg] at h ⊢
      cases hs : vStep sc tx i len a b t pc ls st hp with
      | some y =>
        obtain ⟨pc2, ls2, st2, hp2⟩ := y
        simp only [hs, vF_eq] at h ⊢
        exact ih _ _ _ _ _ _ h
      | none =>
        simp only [hs] at h ⊢
        cases ha : vAl df i a t st hp with
        | some y =>
          obtain ⟨st2, hp2, n⟩ := y
          simp only [ha, vF_eq] at h ⊢
          cases hb : (Nat.ble (ce + 1) mc && Nat.ble (sl + n) ms) with
          | false => rw [hb] at h; cases h
          | true =>
            rw [hb, cond_true] at h
            rw [two _ _ hb, cond_true]
            exact ih _ _ _ _ _ _ h
        | none =>
          simp only [ha] at h ⊢
          cases hv : vInv cal i a b t st hp with
          | some y =>
            obtain ⟨st2, hp2, c1, s1⟩ := y
            simp only [hv, vF_eq] at h ⊢
            cases hb : (Nat.ble (ce + c1) mc && Nat.ble (sl + s1) ms) with
            | false => rw [hb] at h; cases h
            | true =>
              rw [hb, cond_true] at h
              rw [two _ _ hb, cond_true]
              exact ih _ _ _ _ _ _ h
          | none =>
            simp only [hv] at h ⊢
            exact h
theorem kRe_new {tbl : vTbl} {κ0 : kSt} {pcN : Nat} {ls' : vLs} {hp : List vOb} (h : kRe vms vdf 59 tbl 0 0 κ0 (pcN, ls', [], hp)) (hg : vGet tbl pcN = some (.new 148, 3, 98, 0, 0)) : ∃ fuel f, vRun (vCalD vms vdf fuel 59) vdf tbl [] vTx 1 6 f κ0.1 κ0.2.1 κ0.2.2.1 κ0.2.2.2 0 0 = some (pcN, ls', [], hp, 0, 0) := by
  obtain ⟨N, n, h⟩ := h
  refine ⟨N, n + 1, vRun_mono (mc := 0) (ms := 0) (Nat.zero_le _) (Nat.zero_le _) _ _ _ _ _ _ _ ?_⟩
  rw [h N (Nat.le_refl _) 1 0 0 (Nat.le_refl _) (Nat.le_refl _)]
  have a1 : vStep [] vTx (.new 148) 3 98 0 0 pcN ls' [] hp = none := rfl
  have a0 : vNth vdf 98 = none := by decide +kernel
  have a2 : vAl vdf (.new 148) 98 0 [] hp = none := by
    unfold vAl
    simp only [a0]
  have a3 : vInv (vCalD vms vdf N 59) (.new 148) 98 0 0 [] hp = none := rfl
  show vRun (vCalD vms vdf N 59) vdf tbl [] vTx 0 0 (0 + 1) pcN ls' [] hp 0 0 = _
  simp only [vRun, hg, a1, a2, a3]
  rfl
/-! the law's own methods, step by step -/
theorem vGoN_1 {tbl : vTbl} {sc : List vAV} {n pc pc' : Nat} {i : Instr} {len a b t : Nat} {ls ls' : vLs} {st st' : List vAV} {hp hp' : List vOb} {ce sl : Nat} (hg : vGet tbl pc = some (i, len, a, b, t)) (hs : vStep sc vTx i len a b t pc ls st hp = some (pc', ls', st', hp')) : vGoN tbl sc (n + 1) pc ls st hp ce sl = vGoN tbl sc n pc' ls' st' hp' ce sl := by
  simp only [vGoN, hg, hs, vF_eq]
def vHst (tbl : vTbl) : Prop := vGet tbl 0 = some (.aload_n 3, 1, 3, 0, 0) ∧ vGet tbl 1 = some (.iconst 0, 1, 0, 0, 0) ∧ vGet tbl 2 = some (.aload_n 0, 1, 0, 0, 0) ∧ vGet tbl 3 = some (.iload_n 1, 1, 1, 0, 0) ∧ vGet tbl 4 = some (.iload_n 2, 1, 2, 0, 0) ∧ vGet tbl 8 = some (.i2l, 1, 0, 0, 0) ∧ vGet tbl 9 = some (.lastore, 1, 0, 0, 0) ∧ vGet tbl 10 = some (.goto 7, 3, 17, 0, 0) ∧ vGet tbl 17 = some (.iconst 0, 1, 0, 0, 0)
def vHl (w1 w2 : Nat) : vLs := [some (vOj 0), some (.inl w1), some (.inl w2), some (vOj 248), none]
theorem vH_go {tbl : vTbl} (hs : vHst tbl) (w1 w2 : Nat) (hp : List vOb) : vGoN tbl [] 5 0 (vEnt [vOj 0, .inl w1, .inl w2, vOj 248] 5) [] hp 0 0 = some (5, vHl w1 w2, [.inl w2, .inl w1, vOj 0, .inl 0, vOj 248], hp, 0, 0) := by
  obtain ⟨g0, g1, g2, g3, g4, -⟩ := hs
  have s0 : vStep [] vTx (.aload_n 3) 1 3 0 0 0 (vHl w1 w2) [] hp = some (1, vHl w1 w2, [vOj 248], hp) := rfl
  have s1 : vStep [] vTx (.iconst 0) 1 0 0 0 1 (vHl w1 w2) [vOj 248] hp = some (2, vHl w1 w2, [.inl 0, vOj 248], hp) := rfl
  have s2 : vStep [] vTx (.aload_n 0) 1 0 0 0 2 (vHl w1 w2) [.inl 0, vOj 248] hp = some (3, vHl w1 w2, [vOj 0, .inl 0, vOj 248], hp) := rfl
  have s3 : vStep [] vTx (.iload_n 1) 1 1 0 0 3 (vHl w1 w2) [vOj 0, .inl 0, vOj 248] hp = some (4, vHl w1 w2, [.inl w1, vOj 0, .inl 0, vOj 248], hp) := rfl
  have s4 : vStep [] vTx (.iload_n 2) 1 2 0 0 4 (vHl w1 w2) [.inl w1, vOj 0, .inl 0, vOj 248] hp = some (5, vHl w1 w2, [.inl w2, .inl w1, vOj 0, .inl 0, vOj 248], hp) := rfl
  have e : vEnt [vOj 0, .inl w1, .inl w2, vOj 248] 5 = vHl w1 w2 := rfl
  rw [e]
  exact (vGoN_1 (n := 4) g0 s0).trans ((vGoN_1 (n := 3) g1 s1).trans ((vGoN_1 (n := 2) g2 s2).trans ((vGoN_1 (n := 1) g3 s3).trans ((vGoN_1 (n := 0) g4 s4).trans rfl))))
theorem vI2l_ex (pc : Nat) (ls : vLs) (u : Nat) (st : List vAV) (hp : List vOb) : ∃ L, vI2l pc ls (.inl u :: st) hp = some (pc, ls, .inr (.inr (.inl L)) :: st, hp) := by
  have e : vI2l pc ls (.inl u :: st) hp = (bif Nat.blt u 2147483648 then some (pc, ls, .inr (.inr (.inl u)) :: st, hp) else vF (u + 18446744069414584320) (fun r => some (pc, ls, .inr (.inr (.inl r)) :: st, hp))) := rfl
  rw [e]
  cases Nat.blt u 2147483648 with
  | true => exact ⟨u, rfl⟩
  | false => exact ⟨u + 18446744069414584320, by rw [cond_false, vF_eq]⟩
theorem vH_go2 {tbl : vTbl} (hs : vHst tbl) (w1 w2 u : Nat) {hp : List vOb} (h8 : O8 hp) : ∃ L, vGoN tbl [] 4 8 (vHl w1 w2) [.inl u, .inl 0, vOj 248] hp 0 0 = some (18, vHl w1 w2, [.inl 0], hp.set 248 (4, [.inr (.inr (.inl L))]), 0, 0) := by
  obtain ⟨-, -, -, -, -, g8, g9, g10, g17⟩ := hs
  obtain ⟨v, h8⟩ := h8
  obtain ⟨L, hL⟩ := vI2l_ex 9 (vHl w1 w2) u [.inl 0, vOj 248] hp
  have hL : vStep [] vTx .i2l 1 0 0 0 8 (vHl w1 w2) [.inl u, .inl 0, vOj 248] hp = some (9, vHl w1 w2, [.inr (.inr (.inl L)), .inl 0, vOj 248], hp) := hL
  have s9 : vStep [] vTx .lastore 1 0 0 0 9 (vHl w1 w2) [.inr (.inr (.inl L)), .inl 0, vOj 248] hp = some (10, vHl w1 w2, [], hp.set 248 (4, [.inr (.inr (.inl L))])) := by
    show vAst 4 4 (9 + 1) (vHl w1 w2) [.inr (.inr (.inl L)), .inl 0, .inr (.inr (.inr (.inl (some 248))))] hp = _
    unfold vAst
    simp only [vNth_eq, h8]
    rfl
  have s10 : vStep [] vTx (.goto 7) 3 17 0 0 10 (vHl w1 w2) [] (hp.set 248 (4, [.inr (.inr (.inl L))])) = some (17, vHl w1 w2, [], hp.set 248 (4, [.inr (.inr (.inl L))])) := rfl
  have s17 : vStep [] vTx (.iconst 0) 1 0 0 0 17 (vHl w1 w2) [] (hp.set 248 (4, [.inr (.inr (.inl L))])) = some (18, vHl w1 w2, [.inl 0], hp.set 248 (4, [.inr (.inr (.inl L))])) := rfl
  exact ⟨L, (vGoN_1 (n := 3) g8 hL).trans ((vGoN_1 (n := 2) g9 s9).trans ((vGoN_1 (n := 1) g10 s10).trans ((vGoN_1 (n := 0) g17 s17).trans rfl)))⟩
/-! the law's row of one long is written: all else stays -/
theorem O8_fr {hp : List vOb} {x : vAV} (h : O8 hp) : sFr [(248, 0, 0)] hp (hp.set 248 (4, [x])) := by
  obtain ⟨v, h⟩ := h
  have hl : 248 < hp.length := (List.getElem?_eq_some_iff.mp h).1
  refine ⟨by simp, fun k o0 ho => ?_⟩
  by_cases hk : 248 = k
  · subst hk
    rw [h] at ho
    have ho := Option.some.inj ho
    subst ho
    refine ⟨(4, [x]), by simp [hl], rfl, rfl, fun i hi => ?_⟩
    match i, hi with
    | 0, hi => exact absurd ⟨_, List.mem_singleton.mpr rfl, rfl, Nat.le_refl _, Nat.le_refl _⟩ hi
    | n + 1, _ => rfl
  · exact ⟨o0, by rw [List.getElem?_set_ne hk]; exact ho, rfl, rfl, fun i _ => rfl⟩
theorem Iv_8 {hp : List vOb} {x : vAV} (h : Iv hp) : Iv (hp.set 248 (4, [x])) := by
  obtain ⟨hX, ⟨v, v1, v2⟩, h2, h3⟩ := h
  have hf := O8_fr (x := x) hX.2
  have only : ∀ k i, sMin [(248, 0, 0)] k i → k = 248 := fun k i ⟨m, m1, m2, _, _⟩ => by
    rw [List.mem_singleton] at m1
    rw [m1] at m2
    exact m2.symm
  have hM : ∀ k ∈ plM, k < 248 := by decide
  refine ⟨XI_keep hf (fun k i hm => by have := only k i hm; omega) hX, ⟨v, v1, kTy_keep hf (fun k hk i hi => by have := only _ _ hi; have := hM k hk; omega) v2⟩, SS_keep hf (fun i _ hi => by have := only _ _ hi; omega) h2, fun k hk => ⟨KT_keep hf (fun i _ hi => by have := only _ _ hi; omega) (h3 k hk).1, KK_keep hf (fun i _ hi => by have := only _ _ hi; omega) (h3 k hk).2⟩⟩
/-- all that is wanted of one of the law's own methods -/
def vHok (y : MethodName) (cc : ByteArray) (idx vidx j : Nat) (M : vMt) (tbl : vTbl) (pc1 pcN : Nat) : Prop :=
  (plainName y.cls = true ∧ y.cls = RL ∧ vHF cc tbl ∧ vGet tbl 5 = some (.invokevirtual vidx, 3, j, 2, 11) ∧ decode cc 13 = .ok (.astore 4, 2) ∧ decode cc 15 = .ok (.iconst 1, 1) ∧ decode cc 16 = .ok (.ireturn, 1) ∧ decode cc 18 = .ok (.ireturn, 1)) ∧
  (vms[j]? = some M ∧ M.1.cls = RX11 ∧ plainName M.1.cls = true ∧ (∀ pc i len a b t, vGet M.2.2.2.2.1 pc = some (i, len, a, b, t) → decode M.2.1 pc = .ok (i, len) ∧ vFacts vms vdf (mRx M) M.1.cls false pc i len a b t) ∧ 6 ≤ M.2.2.2.2.2.2.1.1 ∧ 81 ≤ M.2.2.2.2.2.2.1.2) ∧
  (decode M.2.1 pcN = .ok (.new 148, 3) ∧ decode M.2.1 (pcN + 3) = .ok (.dup, 1) ∧ decode M.2.1 (pcN + 4) = .ok (.invokespecial 150, 3) ∧ decode M.2.1 (pcN + 7) = .ok (.athrow, 1)) ∧
  (GoodIn lw_tbl (va_wsS RL idx y (vHW y cc)) ∧ (y.cls ≠ "java/lang/invoke/MethodHandle" ∧ y.cls ≠ "java/lang/invoke/VarHandle" ∧ (parseMethodDescriptor y.desc).map (fun d => d.parameters.length) = some 4) ∧ decode cL_law pc1 = .ok (.invokestatic idx, 3))
theorem vHgood {idx : Nat} {y : MethodName} {cc : ByteArray} (h1 : Cond.methodLink RL idx y ∈ WT) (h2 : Cond.static y ∈ WT) (h3 : Cond.initialized y.cls ∈ WT) (h4 : Cond.codeWith y cc 5 (some .int) [(0, 10, 13, 13)] ∈ WT) : GoodIn lw_tbl (va_wsS RL idx y (vHW y cc)) := by
  intro w hw
  have h : w ∈ WT := by
    unfold va_wsS vHW at hw
    rcases List.mem_append.mp hw with hw | hw
    · simp only [List.mem_cons, List.not_mem_nil, or_false] at hw
      rcases hw with rfl | rfl | rfl
      · exact h1
      · exact h2
      · exact h3
    · rcases List.mem_cons.mp hw with rfl | hw
      · exact h4
      · exact hw
  exact ⟨(WT_in h).1, good_of_word (WT_in h).2⟩
section LX
variable {p : Program} {l : Launch} {e : Env} {s : State} {m : MethodId} {below : List Frame} {meth : Method} {c : Code} {b sa sv : Nat} {D : va_G} {sc : List vAV}
variable {y : MethodName} {cc : ByteArray} {idx vidx j : Nat} {M : vMt} {tbl : vTbl} {pc1 pcN : Nat}
set_option maxHeartbeats 1000000 in
/-- a call of the law's own method -/
theorem LW_H (K : lCx p s m meth c b sa sv) (hfw : vFw s) (hG : GoodIn lw_tbl (va_wsS RL idx y (vHW y cc))) (hd : y.cls ≠ "java/lang/invoke/MethodHandle" ∧ y.cls ≠ "java/lang/invoke/VarHandle" ∧ (parseMethodDescriptor y.desc).map (fun d => d.parameters.length) = some 4) (dcall : decode cL_law pc1 = .ok (.invokestatic idx, 3)) {c1 c2 : vAV} {ls : vLs} {hp1 hp2 : List vOb} {ce sl r : Nat} (hce : ce + 1 ≤ 601024) (hsl : sl + 6 ≤ 7293034) (hM : vHMet l y cc [vOj 0, c1, c2, vOj 248] hp1 r hp2)
    (k : LW p l e s m below meth c b sa sv D (pc1 + 3) ls [.inl r] hp2 (ce + 1) (sl + 6)) : LW p l e s m below meth c b sa sv D pc1 ls [vOj 248, c2, c1, vOj 0] hp1 ce sl := by
  intro ws1 tys1 H1 locs1 lsA1 stV1 hW1 hL1 hT1
  obtain ⟨hx, hb, hml, hown, hts, hX, -, -⟩ := K
  have hA : ∀ q : Nat, s.heap.size ≤ q → (fun q => s.heap.size ≤ q) q := fun q h => h
  match stV1, hT1 with
  | [], hT1 => exact hT1.elim
  | [_], hT1 => exact hT1.2.elim
  | [_, _], hT1 => exact hT1.2.2.elim
  | [_, _, _], hT1 => exact hT1.2.2.2.elim
  | _ :: _ :: _ :: _ :: _ :: _, hT1 => exact hT1.2.2.2.2.elim
  | [va, v2, v1, v0], hT1 =>
    obtain ⟨ga, g2, g1, g0, -⟩ := hT1
    refine vs_after (rest := []) (restV := []) (r := some (.inl r)) hW1 hL1 trivial hA (vx_runSW (As := [v0, v1, v2, va]) ⟨hx, hb, hml, hown, hts⟩ (hM D b sa sv ws1 tys1 H1.size [v0, v1, v2, va] ⟨g0, g1, g2, ga, trivial⟩ hW1.2.2.2.2) (vx_cwSW 4 hts hG rfl rfl rfl hd ⟨by decide, by decide⟩) ⟨vPreX.blind, fun U hU hw => ⟨rfl, vPreX.at hW1 hA hX hfw hU hw⟩⟩ rfl rfl hL1.choose_spec.1.1 rfl (lv_room (Nat.zero_le _)) dcall ⟨hce, hsl⟩) ?_
    exact fun ws3 tys3 H3 locs3 lsA3 stV3 hW3 hL3 hT3 hsb3 => k ws3 tys3 H3 locs3 lsA3 stV3 hW3 hL3 hT3
/-- the law's own method throws and catches, or comes to its end -/
theorem vH_both (hl9 : l.stackTraces = false) (O : vHok y cc idx vidx j M tbl pc1 pcN) (hst : vHst tbl) (hX : ∀ c, c < 4 → x3OK j M pcN c) (hnew : vGet M.2.2.2.2.1 pcN = some (.new 148, 3, 98, 0, 0)) (hal : ∀ w1 w2 : Nat, (vArgs [vOj 0, .inl w1, .inl w2]).length ≤ M.2.2.1) {hp : List vOb} (hI : Iv hp) {w1 w2 : Nat} (h1 : w1 < 4294967296) (h2 : w2 < 4294967296) : ∃ r hp2, r < 4294967296 ∧ Iv hp2 ∧ vHMet l y cc [vOj 0, .inl w1, .inl w2, vOj 248] hp r hp2 := by
  obtain ⟨⟨hy, hyc, hF, hg5, d13, d15, d16, d18⟩, ⟨hMj, hMc, hpl, hFM, h6, h81⟩, ⟨d0, d3, d4, d7⟩, -⟩ := O
  have hrc : vRc 11 (vOj 0) hp = true := (Iv_rc hI).1
  have ha5 : (vArgs [vOj 0, .inl w1, .inl w2, vOj 248]).length ≤ 5 := (by decide : 4 ≤ 5)
  obtain ⟨c0, q1, q2⟩ := hI.1.1
  rcases hX c0 q1 hp w1 w2 q2 h1 h2 with ⟨ls', hk⟩ | ⟨u, hu, N, hcal⟩
  · obtain ⟨fuel, f, hrun⟩ := kRe_new hk hnew
    obtain ⟨d5, -, M', hM', hcb, hlink, hinst, hsel, -⟩ := hF _ _ _ _ _ _ hg5
    cases Option.some.inj (hMj.symm.trans hM')
    have hXM := vThr_ok l hl9 hMc hpl hFM h6 h81 (hal w1 w2) hrun d0 d3 d4 d7
    rcases vRc_ok hrc with ⟨k, o, e1, e2, e3, -⟩ | ⟨-, e2⟩
    · have e : (0 : Nat) = k := Option.some.inj (Sum.inl.inj (Sum.inr.inj (Sum.inr.inj (Sum.inr.inj e1))))
      subst e
      exact ⟨1, hp, by omega, hI, vHlp_thr l hy hyc hF d5 d13 d15 d16 hcb hlink hinst hsel hMc ha5 (vH_go hst w1 w2 hp) e2 e3 hXM⟩
    · omega
  · have hc : vInv (vcal N) (.invokevirtual vidx) j 2 11 [.inl w2, .inl w1, vOj 0, .inl 0, vOj 248] hp = some ([.inl u, .inl 0, vOj 248], hp, 0, 0) := by
      refine Eq.trans (b := some ((some (.inl u) : Option vAV).toList ++ [.inl 0, vOj 248], hp, 0, 0)) ?_ rfl
      have htk : vTk 2 [] [.inl w2, .inl w1, vOj 0, .inl 0, vOj 248] = some ([.inl w1, .inl w2], [vOj 0, .inl 0, vOj 248]) := rfl
      have h8 : Nat.ble (vCs [(.inl 0 : vAV), vOj 248]) 8 = true := rfl
      have hcal := hcal N (Nat.le_refl _)
      unfold vInv vcal
      simp only [htk, hrc, hcal, h8, Bool.and_self, cond_true]
    obtain ⟨L, hgo2⟩ := vH_go2 hst w1 w2 u hI.1.2
    exact ⟨0, _, by omega, Iv_8 hI, vHlp_ret l hy hyc hF hg5 ha5 (vH_go hst w1 w2 hp) hc hgo2 d18⟩
theorem x_case (hl9 : l.stackTraces = false) (K : lCx p s m meth c b sa sv) (hsc : vScr b sa sv (fun q => s.heap.size ≤ q) s sc) (hfw : vFw s) (O : vHok y cc idx vidx j M tbl pc1 pcN) (hst : vHst tbl) (hX : ∀ c, c < 4 → x3OK j M pcN c) (hnew : vGet M.2.2.2.2.1 pcN = some (.new 148, 3, 98, 0, 0)) (hal : ∀ w1 w2 : Nat, (vArgs [vOj 0, .inl w1, .inl w2]).length ≤ M.2.2.1)
    {p0 pc2 jm : Nat} (ha : lChk lG [pc1] 3000 (p0, lL, [], []) [(pc1, lL, [yO 248, lA 2, lA 1, yO 0], [])] = true) (hb : lChk lG [pc2] 3000 (pc1 + 3, lL, [zF], []) [(pc2, lL, lArgs 2 ++ [yO 220], [])] = true) (hc : lChk lG [1398] 3000 (pc2 + 3, lL, [zF], []) [(1398, lL, [], [])] = true) (z2 : zCl pc2 jm 2 12 = true) (hM : CallOK Iv 220 jm 2) : caseOK p l e s m below meth c b sa sv D Iv sc p0 := by
  intro i w hp u v ce sl hi hw hI h1 h2 next
  have hE := lEnv_of (sc := sc) (i := i) (w := w) (by omega) hw
  have hG := lG_of (i := i) (w := w) hi
  have h0 : ∀ xs : List Nat, (lRho i w ++ xs)[0]? = some (sBi i) := fun xs => rfl
  have hρ : ∀ (xs : List Nat) (c : Nat), c < 6 → w c < 4294967296 ∧ (lRho i w ++ xs)[c + 1]? = some (sBi (w c)) := fun xs c hc => by
    obtain ⟨w', q1, q2, q3⟩ := hE.2.2 c hc
    rw [(hw c hc).2] at q2
    have e : w c = w' := Sum.inl.inj (Option.some.inj q2)
    rw [e]
    exact ⟨q1, sApp_get xs q3⟩
  obtain ⟨pc', kl', ks', B, xs, b1, b2, b3, b4, b5⟩ := l_ok (hp := hp) (ks := []) ha hE hG ⟨rfl, kL_to (u := u) (v := v) rfl (by omega), trivial⟩
  rw [List.mem_singleton] at b1
  subst b1 b3
  obtain ⟨u1, v1, e1⟩ := kL_of (δ := 0) (h0 xs) (by omega) b4
  have e2 : ks' = [vOj 248, .inl (w 2), .inl (w 1), vOj 0] := by
    match ks', b5 with
    | [], h => exact h.elim
    | [_], h => exact h.2.elim
    | [_, _], h => exact h.2.2.elim
    | [_, _, _], h => exact h.2.2.2.elim
    | _ :: _ :: _ :: _ :: _ :: _, h => exact h.2.2.2.2.elim
    | [k1, k2, k3, k4], h =>
      obtain ⟨g1, ⟨r2, q2, q3⟩, ⟨r3, q4, q5⟩, g4, -⟩ := h
      have g1 : k1 = vOj 248 := g1
      have g4 : k4 = vOj 0 := g4
      have q2 : (lRho i w ++ xs)[2 + 1]? = some r2 := q2
      rw [(hρ xs 2 (by omega)).2] at q2
      have q2 := Option.some.inj q2
      rw [← q2, sUn_bi (hρ xs 2 (by omega)).1] at q3
      have q4 : (lRho i w ++ xs)[1 + 1]? = some r3 := q4
      rw [(hρ xs 1 (by omega)).2] at q4
      have q4 := Option.some.inj q4
      rw [← q4, sUn_bi (hρ xs 1 (by omega)).1] at q5
      rw [g1, g4, q3, q5]
  subst e1 e2
  obtain ⟨r, hp2, hr, hI2, hH⟩ := vH_both hl9 O hst hX hnew hal hI (hw 1 (by omega)).1 (hw 2 (by omega)).1
  refine LW_steps K hsc b2 (LW_H K hfw O.2.2.2.1 O.2.2.2.2.1 O.2.2.2.2.2 (by omega) (by omega) hH ?_)
  obtain ⟨pc', kl', ks', B, ys, b1, b2, b3, b4, b5⟩ := l_ok (hp := hp2) (ks := [.inl r]) hb hE hG ⟨rfl, kL_to (i := i) (u := u1) (v := v1) rfl (by omega), ⟨r, hr, sIn_full (sBi_lt r), rfl⟩, trivial⟩
  rw [List.mem_singleton] at b1
  subst b1 b3
  obtain ⟨u2, v2, e1⟩ := kL_of (δ := 0) (h0 ys) (by omega) b4
  have e2 := lArgs_of (hρ ys) 2 (by omega) b5
  subst e1 e2
  refine LW_steps K hsc b2 (l_call K (fun hp h => Iv_rc h) (by omega) (by omega) (fun c hc => (hw c hc).1) (Or.inr ⟨rfl, rfl⟩) (by omega) z2 hM hI2 (fun r2 hp3 hr2 hI3 => ?_))
  obtain ⟨pc', kl', ks', B, zs, b1, b2, b3, b4, b5⟩ := l_ok (hp := hp3) (ks := [.inl r2]) hc hE hG ⟨rfl, kL_to (i := i) (u := u2) (v := v2) rfl (by omega), ⟨r2, hr2, sIn_full (sBi_lt r2), rfl⟩, trivial⟩
  rw [List.mem_singleton] at b1
  subst b1 b3
  obtain ⟨u3, v3, e1⟩ := kL_of (δ := 0) (h0 zs) (by omega) b4
  have e2 := nAr_eq (as := []) rfl b5
  subst e1 e2
  exact LW_steps K hsc b2 (next hp3 u3 v3 (ce + 1) (sl + 6) hI3 (by omega) (by omega))
end LX
