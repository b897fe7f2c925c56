/-! ===== the cases that may throw, over the new invariant ===== -/
section LX3
variable {p : Program} {l : Launch} {e : Env} {s : State} {m : MethodId} {below : List Frame} {meth : Method} {c : Code} {b sa sv : Nat} {D : va_G} {sc : List vAV}
variable {y : MethodName} {cc : ByteArray} {idx vidx j : Nat} {M : vMt} {tbl : vTbl} {pc1 pcN : Nat}
/-- the law's own method throws and catches, or comes to its end -/
theorem vH_both3 (hl9 : l.stackTraces = false) (O : vHok y cc idx vidx j M tbl pc1 pcN) (hst : vHst tbl) (hX : ∀ c, c < 4 → x3OK j M pcN c) (hnew : vGet M.2.2.2.2.1 pcN = some (.new 148, 3, 98, 0, 0)) (hal : ∀ w1 w2 : Nat, (vArgs [vOj 0, .inl w1, .inl w2]).length ≤ M.2.2.1) {hp : List vOb} (hI : Iv hp) {w1 w2 : Nat} (h1 : w1 < 4294967296) (h2 : w2 < 4294967296) : ∃ r hp2, r < 4294967296 ∧ Iv hp2 ∧ (RB hp → RB hp2) ∧ vHMet l y cc [vOj 0, .inl w1, .inl w2, vOj 248] hp r hp2 := by
  obtain ⟨⟨hy, hyc, hF, hg5, d13, d15, d16, d18⟩, ⟨hMj, hMc, hpl, hFM, h6, h81⟩, ⟨d0, d3, d4, d7⟩, -⟩ := O
  have hrc : vRc 11 (vOj 0) hp = true := (Iv_rc hI).1
  have ha5 : (vArgs [vOj 0, .inl w1, .inl w2, vOj 248]).length ≤ 5 := (by decide : 4 ≤ 5)
  obtain ⟨c0, q1, q2⟩ := hI.1.1
  rcases hX c0 q1 hp w1 w2 q2 h1 h2 with ⟨ls', hk⟩ | ⟨u, hu, N, hcal⟩
  · obtain ⟨fuel, f, hrun⟩ := kRe_new hk hnew
    obtain ⟨d5, -, M', hM', hcb, hlink, hinst, hsel, -⟩ := hF _ _ _ _ _ _ hg5
    cases Option.some.inj (hMj.symm.trans hM')
    have hXM := vThr_ok l hl9 hMc hpl hFM h6 h81 (hal w1 w2) hrun d0 d3 d4 d7
    rcases vRc_ok hrc with ⟨k, o, e1, e2, e3, -⟩ | ⟨-, e2⟩
    · have e : (0 : Nat) = k := Option.some.inj (Sum.inl.inj (Sum.inr.inj (Sum.inr.inj (Sum.inr.inj e1))))
      subst e
      exact ⟨1, hp, by omega, hI, fun h => h, vHlp_thr l hy hyc hF d5 d13 d15 d16 hcb hlink hinst hsel hMc ha5 (vH_go hst w1 w2 hp) e2 e3 hXM⟩
    · omega
  · have hc : vInv (vcal N) (.invokevirtual vidx) j 2 11 [.inl w2, .inl w1, vOj 0, .inl 0, vOj 248] hp = some ([.inl u, .inl 0, vOj 248], hp, 0, 0) := by
      refine Eq.trans (b := some ((some (.inl u) : Option vAV).toList ++ [.inl 0, vOj 248], hp, 0, 0)) ?_ rfl
      have htk : vTk 2 [] [.inl w2, .inl w1, vOj 0, .inl 0, vOj 248] = some ([.inl w1, .inl w2], [vOj 0, .inl 0, vOj 248]) := rfl
      have h8 : Nat.ble (vCs [(.inl 0 : vAV), vOj 248]) 8 = true := rfl
      have hcal := hcal N (Nat.le_refl _)
      unfold vInv vcal
      simp only [htk, hrc, hcal, h8, Bool.and_self, cond_true]
    obtain ⟨L, hgo2⟩ := vH_go2 hst w1 w2 u hI.1.2
    exact ⟨0, _, by omega, Iv_8 hI, RB_keep (O8_fr hI.1.2) (by decide), vHlp_ret l hy hyc hF hg5 ha5 (vH_go hst w1 w2 hp) hc hgo2 d18⟩
theorem x_case3 (hl9 : l.stackTraces = false) (K : lCx p s m meth c b sa sv) (hsc : vScr b sa sv (fun q => s.heap.size ≤ q) s sc) (hfw : vFw s) (O : vHok y cc idx vidx j M tbl pc1 pcN) (hst : vHst tbl) (hX : ∀ c, c < 4 → x3OK j M pcN c) (hnew : vGet M.2.2.2.2.1 pcN = some (.new 148, 3, 98, 0, 0)) (hal : ∀ w1 w2 : Nat, (vArgs [vOj 0, .inl w1, .inl w2]).length ≤ M.2.2.1)
    {p0 pc2 jm : Nat} (ha : lChk lG [pc1] 3000 (p0, lL, [], []) [(pc1, lL, [yO 248, lA 2, lA 1, yO 0], [])] = true) (hb : lChk lG [pc2] 3000 (pc1 + 3, lL, [zF], []) [(pc2, lL, lArgs 2 ++ [yO 220], [])] = true) (hc : lChk lG [1398] 3000 (pc2 + 3, lL, [zF], []) [(1398, lL, [], [])] = true) (z2 : zCl pc2 jm 2 12 = true) (hM : CallOK Iv3 220 jm 2) : caseOK p l e s m below meth c b sa sv D Iv3 sc p0 := by
  intro i w hp u v ce sl hi hw hI h1 h2 next
  have hE := lEnv_of (sc := sc) (i := i) (w := w) (by omega) hw
  have hG := lG_of (i := i) (w := w) hi
  have h0 : ∀ xs : List Nat, (lRho i w ++ xs)[0]? = some (sBi i) := fun xs => rfl
  have hρ : ∀ (xs : List Nat) (c : Nat), c < 6 → w c < 4294967296 ∧ (lRho i w ++ xs)[c + 1]? = some (sBi (w c)) := fun xs c hc => by
    obtain ⟨w', q1, q2, q3⟩ := hE.2.2 c hc
    rw [(hw c hc).2] at q2
    have e : w c = w' := Sum.inl.inj (Option.some.inj q2)
    rw [e]
    exact ⟨q1, sApp_get xs q3⟩
  obtain ⟨pc', kl', ks', B, xs, b1, b2, b3, b4, b5⟩ := l_ok (hp := hp) (ks := []) ha hE hG ⟨rfl, kL_to (u := u) (v := v) rfl (by omega), trivial⟩
  rw [List.mem_singleton] at b1
  subst b1 b3
  obtain ⟨u1, v1, e1⟩ := kL_of (δ := 0) (h0 xs) (by omega) b4
  have e2 : ks' = [vOj 248, .inl (w 2), .inl (w 1), vOj 0] := by
    match ks', b5 with
    | [], h => exact h.elim
    | [_], h => exact h.2.elim
    | [_, _], h => exact h.2.2.elim
    | [_, _, _], h => exact h.2.2.2.elim
    | _ :: _ :: _ :: _ :: _ :: _, h => exact h.2.2.2.2.elim
    | [k1, k2, k3, k4], h =>
      obtain ⟨g1, ⟨r2, q2, q3⟩, ⟨r3, q4, q5⟩, g4, -⟩ := h
      have g1 : k1 = vOj 248 := g1
      have g4 : k4 = vOj 0 := g4
      have q2 : (lRho i w ++ xs)[2 + 1]? = some r2 := q2
      rw [(hρ xs 2 (by omega)).2] at q2
      have q2 := Option.some.inj q2
      rw [← q2, sUn_bi (hρ xs 2 (by omega)).1] at q3
      have q4 : (lRho i w ++ xs)[1 + 1]? = some r3 := q4
      rw [(hρ xs 1 (by omega)).2] at q4
      have q4 := Option.some.inj q4
      rw [← q4, sUn_bi (hρ xs 1 (by omega)).1] at q5
      rw [g1, g4, q3, q5]
  subst e1 e2
  obtain ⟨r, hp2, hr, hI2, hRR, hH⟩ := vH_both3 hl9 O hst hX hnew hal hI.1 (hw 1 (by omega)).1 (hw 2 (by omega)).1
  refine LW_steps K hsc b2 (LW_H K hfw O.2.2.2.1 O.2.2.2.2.1 O.2.2.2.2.2 (by omega) (by omega) hH ?_)
  obtain ⟨pc', kl', ks', B, ys, b1, b2, b3, b4, b5⟩ := l_ok (hp := hp2) (ks := [.inl r]) hb hE hG ⟨rfl, kL_to (i := i) (u := u1) (v := v1) rfl (by omega), ⟨r, hr, sIn_full (sBi_lt r), rfl⟩, trivial⟩
  rw [List.mem_singleton] at b1
  subst b1 b3
  obtain ⟨u2, v2, e1⟩ := kL_of (δ := 0) (h0 ys) (by omega) b4
  have e2 := lArgs_of (hρ ys) 2 (by omega) b5
  subst e1 e2
  refine LW_steps K hsc b2 (l_call (Iv := Iv3) K (fun hp h => Iv_rc h.1) (by omega) (by omega) (fun c hc => (hw c hc).1) (Or.inr ⟨rfl, rfl⟩) (by omega) z2 hM ⟨hI2, hRR hI.2⟩ (fun r2 hp3 hr2 hI3 => ?_))
  obtain ⟨pc', kl', ks', B, zs, b1, b2, b3, b4, b5⟩ := l_ok (hp := hp3) (ks := [.inl r2]) hc hE hG ⟨rfl, kL_to (i := i) (u := u2) (v := v2) rfl (by omega), ⟨r2, hr2, sIn_full (sBi_lt r2), rfl⟩, trivial⟩
  rw [List.mem_singleton] at b1
  subst b1 b3
  obtain ⟨u3, v3, e1⟩ := kL_of (δ := 0) (h0 zs) (by omega) b4
  have e2 := nAr_eq (as := []) rfl b5
  subst e1 e2
  exact LW_steps K hsc b2 (next hp3 u3 v3 (ce + 1) (sl + 6) hI3 (by omega) (by omega))
end LX3
set_option maxRecDepth 1000000 in
theorem hp0_b : (hCB hp0 0 1 0 && hCB hp0 220 2 0) = true := by decide +kernel
/-- keywords of both -/
def hCL (hp : List vOb) (k i n : Nat) : Bool := match vNth hp k with
  | some o => (match o.2[i]? with
    | some (.inr (.inr (.inl u))) => Nat.beq u n
    | _ => false)
  | none => false
theorem hCL_ok {hp : List vOb} {k i n : Nat} (h : hCL hp k i n = true) : hC hp k i (.inr (.inr (.inl n))) := by
  unfold hCL at h
  split at h
  · next o ho =>
    split at h
    · next u hu =>
      rw [vNth_eq] at ho
      rw [← Nat.eq_of_beq_eq_true h]
      exact ⟨o, ho, hu⟩
    · cases h
  · cases h
set_option maxRecDepth 1000000 in
theorem hp0_kw : (List.range 25).all (fun i => hCL hp0 3 i (xE32 (kwc i)) && (hCL hp0 226 i (xE256 (kwc i)) && (Nat.blt (xE32 (kwc i)) 18446744073709551616 && Nat.blt (xE256 (kwc i)) 18446744073709551616))) = true := by decide +kernel
def hCR (hp : List vOb) (k i n : Nat) : Bool := match vNth hp k with
  | some o => (match o.2[i]? with
    | some (.inr (.inr (.inr (.inl (some u))))) => Nat.beq u n
    | _ => false)
  | none => false
theorem hCR_ok {hp : List vOb} {k i n : Nat} (h : hCR hp k i n = true) : hC hp k i (.inr (.inr (.inr (.inl (some n))))) := by
  unfold hCR at h
  split at h
  · next o ho =>
    split at h
    · next u hu =>
      rw [vNth_eq] at ho
      rw [← Nat.eq_of_beq_eq_true h]
      exact ⟨o, ho, hu⟩
    · cases h
  · cases h
set_option maxRecDepth 1000000 in
theorem hp0_rs : hCR hp0 220 10 226 = true := by decide +kernel
set_option maxRecDepth 1000000 in
theorem hp0_tw : (hCR hp0 0 2 4 && ((hCB hp0 4 0 0 && (hCB hp0 4 1 0 && (hCB hp0 4 2 0 && (hCB hp0 4 3 0 && (hCB hp0 4 4 1 && hCB hp0 4 5 0))))) && ((List.range 6).all (fun i => hCB hp0 5 i 0) && ((List.range 5).all (fun i => hCB hp0 9 i 0) && ((List.range 32).all (fun i => hCB hp0 222 i (if i = 4 then 1 else 0)) && (hCB hp0 162 3 0 && (hCB hp0 191 3 0 && (hCB hp0 247 0 0 && hCB hp0 247 1 0)))))))) = true := by decide +kernel
theorem TI_hp0 : TI hp0 := by
  have h := hp0_tw
  simp only [Bool.and_eq_true] at h
  obtain ⟨h02, ⟨a0, a1, a2, a3, a4, a5⟩, b1, b2, b3, f0, f1, g0, g1⟩ := h
  have m : ∀ i, i < 32 → hC hp0 222 i (.inl (if i = 4 then 1 else 0)) := fun i hi => hCB_ok (List.all_eq_true.mp b3 i (List.mem_range.mpr hi))
  have m0 : ∀ i, i < 32 → i ≠ 4 → hC hp0 222 i (.inl 0) := fun i hi h4 => by
    have h := m i hi
    rw [if_neg h4] at h
    exact h
  refine ⟨⟨4, 0, 0, 0, 0, 1, 0, fun _ => 0, fun _ => 0, fun _ => 0, Or.inl rfl, hCR_ok h02, ⟨by omega, by omega, by omega, by omega, by omega, by omega, fun _ => (by decide : 0 < 64), fun _ => (by decide : 0 < 64), SB_0⟩, ⟨hCB_ok a0, hCB_ok a1, hCB_ok a2, hCB_ok a3, hCB_ok a4, hCB_ok a5, fun i hi => hCB_ok (List.all_eq_true.mp b1 i (List.mem_range.mpr hi)), fun i hi => hCB_ok (List.all_eq_true.mp b2 i (List.mem_range.mpr hi)), fun i hi => by omega⟩, ⟨m0 _ (by omega) (by omega), m0 _ (by omega) (by omega), m0 _ (by omega) (by omega), m0 _ (by omega) (by omega), m 4 (by omega), m0 _ (by omega) (by omega), fun i hi => m0 _ (by omega) (by omega), fun i hi => m0 _ (by omega) (by omega), fun i hi => m0 _ (by omega) (by omega)⟩⟩, fun k hk => Or.inl ?_⟩
  rcases (show k = 0 ∨ k = 1 by omega) with rfl | rfl
  · exact ⟨hCB_ok f0, hCB_ok g0⟩
  · exact ⟨hCB_ok f1, hCB_ok g1⟩
theorem Iv3_hp0 : Iv3 hp0 := by
  have h := hp0_b
  rw [Bool.and_eq_true] at h
  have kw : ∀ i, i < 25 → hC hp0 3 i (.inr (.inr (.inl (xE32 (kwc i))))) ∧ hC hp0 226 i (.inr (.inr (.inl (xE256 (kwc i))))) ∧ xE32 (kwc i) < 18446744073709551616 ∧ xE256 (kwc i) < 18446744073709551616 := fun i hi => by
    have h1 := List.all_eq_true.mp hp0_kw i (List.mem_range.mpr hi)
    rw [Bool.and_eq_true, Bool.and_eq_true, Bool.and_eq_true] at h1
    exact ⟨hCL_ok h1.1, hCL_ok h1.2.1, Nat.blt_eq.mp h1.2.2.1, Nat.blt_eq.mp h1.2.2.2⟩
  exact ⟨Iv_hp0, ⟨0, fun _ => 0, by omega, hCB_ok h.1, hCB_ok h.2, fun i hi => by omega⟩, ⟨fun i => xE32 (kwc i), fun i => xE256 (kwc i), fun i hi => ⟨rfl, rfl⟩, fun i hi => ⟨(kw i hi).1, (kw i hi).2.2.1⟩, hCR_ok hp0_rs, fun i hi => ⟨(kw i hi).2.1, (kw i hi).2.2.2⟩⟩, TI_hp0⟩
