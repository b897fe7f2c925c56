/-! ===== the cases of the law that may throw ===== -/
noncomputable def vXT (M : vMt) (tbl : vTbl) (pcN : Nat) (c1 c2 : vAV) (hp1 : List vOb) (k : List vOb → Bool) : Bool := match vGoN tbl [] 5 0 (vEnt [vOj 0, c1, c2, vOj 248] 5) [] hp1 0 0 with
  | none => false
  | some (pcH, _, stH, hpH, ceH, slH) => Nat.beq pcH 5 && (vLe vAe stH [c2, c1, vOj 0, .inl 0, vOj 248] && (Nat.beq ceH 0 && (Nat.beq slH 0 && ((match vNth hpH 0 with
    | some o => Nat.beq o.1 88
    | none => false) && (match vRun vcal vdf M.2.2.2.2.1 [] vTx 1 6 100000 0 (vEnt [vOj 0, c1, c2] M.2.2.1) [] hpH 0 0 with
    | none => false
    | some (pcM, _, stM, hpM, ceM, slM) => Nat.beq pcM pcN && (vLe vAe stM [] && (Nat.beq ceM 0 && (Nat.beq slM 0 && k hpM))))))))
noncomputable def vXR (tbl : vTbl) (c1 c2 : vAV) (hp1 : List vOb) (k : List vOb → Bool) : Bool := match vRun vcal vdf tbl [] vTx 1 6 100000 0 (vEnt [vOj 0, c1, c2, vOj 248] 5) [] hp1 0 0 with
  | none => false
  | some (pcH, _, stH, hpH, ceH, slH) => Nat.beq pcH 18 && (vLe vAe stH [.inl 0] && (Nat.ble ceH 1 && (Nat.ble slH 6 && k hpH)))
noncomputable def vXB (M : vMt) (tbl : vTbl) (pc0 pc1 pcN : Nat) (c1 c2 : vAV) : Bool := Nat.ble (vArgs [vOj 0, c1, c2, vOj 248]).length 5 && (Nat.ble (vArgs [vOj 0, c1, c2]).length M.2.2.1 && (match vGoN vt_law2 [vAny, c1, c2, vAny, vAny, vAny] 12 pc0 ls0 [] hp0 249 7595 with
  | none => false
  | some (pc', ls', st', hp1, ce1, sl1) => Nat.beq pc' pc1 && (vLe vAe st' [vOj 248, c2, c1, vOj 0] && (Nat.ble (ce1 + 1) 600002 && (Nat.ble (sl1 + 6) 7302232 && (vXT M tbl pcN c1 c2 hp1 (fun hp2 => vGoS [vAny, c1, c2, vAny, vAny, vAny] (pc1 + 3) ls' [.inl 1] hp2 (ce1 + 1) (sl1 + 6)) || vXR tbl c1 c2 hp1 (fun hp2 => vGoS [vAny, c1, c2, vAny, vAny, vAny] (pc1 + 3) ls' [.inl 0] hp2 (ce1 + 1) (sl1 + 6))))))))
/-- all that is wanted of one of the law's own methods -/
def vHok (y : MethodName) (cc : ByteArray) (idx vidx j : Nat) (M : vMt) (tbl : vTbl) (pc1 pcN : Nat) : Prop :=
  (plainName y.cls = true ∧ y.cls = RL ∧ vHF cc tbl ∧ vGet tbl 5 = some (.invokevirtual vidx, 3, j, 2, 11) ∧ decode cc 13 = .ok (.astore 4, 2) ∧ decode cc 15 = .ok (.iconst 1, 1) ∧ decode cc 16 = .ok (.ireturn, 1) ∧ decode cc 18 = .ok (.ireturn, 1)) ∧
  (vms[j]? = some M ∧ M.1.cls = RX11 ∧ plainName M.1.cls = true ∧ (∀ pc i len a b t, vGet M.2.2.2.2.1 pc = some (i, len, a, b, t) → decode M.2.1 pc = .ok (i, len) ∧ vFacts vms vdf (mRx M) M.1.cls false pc i len a b t) ∧ 6 ≤ M.2.2.2.2.2.2.1.1 ∧ 81 ≤ M.2.2.2.2.2.2.1.2) ∧
  (decode M.2.1 pcN = .ok (.new 148, 3) ∧ decode M.2.1 (pcN + 3) = .ok (.dup, 1) ∧ decode M.2.1 (pcN + 4) = .ok (.invokespecial 150, 3) ∧ decode M.2.1 (pcN + 7) = .ok (.athrow, 1)) ∧
  (GoodIn lw_tbl (va_wsS RL idx y (vHW y cc)) ∧ (y.cls ≠ "java/lang/invoke/MethodHandle" ∧ y.cls ≠ "java/lang/invoke/VarHandle" ∧ (parseMethodDescriptor y.desc).map (fun d => d.parameters.length) = some 4) ∧ decode cL_law pc1 = .ok (.invokestatic idx, 3))
theorem vHgood {idx : Nat} {y : MethodName} {cc : ByteArray} (h1 : Cond.methodLink RL idx y ∈ WT) (h2 : Cond.static y ∈ WT) (h3 : Cond.initialized y.cls ∈ WT) (h4 : Cond.codeWith y cc 5 (some .int) [(0, 10, 13, 13)] ∈ WT) : GoodIn lw_tbl (va_wsS RL idx y (vHW y cc)) := by
  intro w hw
  have h : w ∈ WT := by
    unfold va_wsS vHW at hw
    rcases List.mem_append.mp hw with hw | hw
    · simp only [List.mem_cons, List.not_mem_nil, or_false] at hw
      rcases hw with rfl | rfl | rfl
      · exact h1
      · exact h2
      · exact h3
    · rcases List.mem_cons.mp hw with rfl | hw
      · exact h4
      · exact hw
  exact ⟨(WT_in h).1, good_of_word (WT_in h).2⟩
section VXCASE
variable {l : Launch} {y : MethodName} {cc : ByteArray} {idx vidx j : Nat} {M : vMt} {tbl : vTbl} {pc1 pcN : Nat}
theorem vXT_ok (hl9 : l.stackTraces = false) (O : vHok y cc idx vidx j M tbl pc1 pcN) {c1 c2 : vAV} {hp1 : List vOb} {k : List vOb → Bool} (ha1 : (vArgs [vOj 0, c1, c2, vOj 248]).length ≤ 5) (ha2 : (vArgs [vOj 0, c1, c2]).length ≤ M.2.2.1) (h : vXT M tbl pcN c1 c2 hp1 k = true) : ∃ hp2, k hp2 = true ∧ vHMet l y cc [vOj 0, c1, c2, vOj 248] hp1 1 hp2 := by
  obtain ⟨⟨hy, hyc, hF, hg5, d13, d15, d16, d18⟩, ⟨hMj, hMc, hpl, hFM, h6, h81⟩, ⟨d0, d3, d4, d7⟩, -⟩ := O
  obtain ⟨d5, -, M', hM', hcb, hlink, hinst, hsel, -⟩ := hF _ _ _ _ _ _ hg5
  cases Option.some.inj (hMj.symm.trans hM')
  unfold vXT at h
  split at h
  · cases h
  · next pcH lsH stH hpH ceH slH hgo =>
    obtain ⟨e1, h_0⟩ := vBx h
    obtain ⟨e2, h_1⟩ := vBx h_0
    obtain ⟨e3, h_2⟩ := vBx h_1
    obtain ⟨e4, h_3⟩ := vBx h_2
    obtain ⟨e5, h_4⟩ := vBx h_3
    clear h_3 h_2 h_1 h_0 h
    have h := h_4
    clear h_4
    have e1 := Nat.eq_of_beq_eq_true e1
    have e2 := vLe_ok (fun a b h => vAe_ok h) _ _ e2
    have e3 := Nat.eq_of_beq_eq_true e3
    have e4 := Nat.eq_of_beq_eq_true e4
    subst e1 e2 e3 e4
    split at e5
    · next o ho =>
      rw [vNth_eq] at ho
      have e5 := Nat.eq_of_beq_eq_true e5
      split at h
      · cases h
      · next pcM lsM stM hpM ceM slM hrun =>
        obtain ⟨f1, h_0⟩ := vBx h
        obtain ⟨f2, h_1⟩ := vBx h_0
        obtain ⟨f3, h_2⟩ := vBx h_1
        obtain ⟨f4, h_3⟩ := vBx h_2
        clear h_2 h_1 h_0 h
        have h := h_3
        clear h_3
        have f1 := Nat.eq_of_beq_eq_true f1
        have f2 := vLe_ok (fun a b h => vAe_ok h) _ _ f2
        have f3 := Nat.eq_of_beq_eq_true f3
        have f4 := Nat.eq_of_beq_eq_true f4
        subst f1 f2 f3 f4
        exact ⟨hpM, h, vHlp_thr l hy hyc hF d5 d13 d15 d16 hcb hlink hinst hsel hMc ha1 hgo ho e5 (vThr_ok l hl9 hMc hpl hFM h6 h81 ha2 hrun d0 d3 d4 d7)⟩
    · cases e5
theorem vXR_ok (O : vHok y cc idx vidx j M tbl pc1 pcN) {c1 c2 : vAV} {hp1 : List vOb} {k : List vOb → Bool} (ha1 : (vArgs [vOj 0, c1, c2, vOj 248]).length ≤ 5) (h : vXR tbl c1 c2 hp1 k = true) : ∃ hp2, k hp2 = true ∧ vHMet l y cc [vOj 0, c1, c2, vOj 248] hp1 0 hp2 := by
  obtain ⟨⟨hy, hyc, hF, hg5, d13, d15, d16, d18⟩, -⟩ := O
  unfold vXR at h
  split at h
  · cases h
  · next pcH lsH stH hpH ceH slH hrun =>
    obtain ⟨e1, h_0⟩ := vBx h
    obtain ⟨e2, h_1⟩ := vBx h_0
    obtain ⟨e3, h_2⟩ := vBx h_1
    obtain ⟨e4, h_3⟩ := vBx h_2
    clear h_2 h_1 h_0 h
    have h := h_3
    clear h_3
    have e1 := Nat.eq_of_beq_eq_true e1
    have e2 := vLe_ok (fun a b h => vAe_ok h) _ _ e2
    subst e1 e2
    exact ⟨hpH, h, vHlp_ret l hy hyc hF ha1 hrun (Nat.le_of_ble_eq_true e3) (Nat.le_of_ble_eq_true e4) d18⟩
variable {p : Program} {e : Env} {s : State} {m : MethodId} {below : List Frame} {meth : Method} {c : Code} {b sa sv : Nat} {D : va_G} {xs : Nat → Int32}
theorem vCaseX (hl9 : l.stackTraces = false) (K : vLC p s m meth c b sa sv xs) (hfw : vFw s) (O : vHok y cc idx vidx j M tbl pc1 pcN) {pc0 : Nat} (cs1 cs2 : List vAV) (k1 : vCov cs1 0 = true) (k2 : vCov cs2 0 = true) (h : cs1.all (fun c1 => cs2.all (fun c2 => vXB M tbl pc0 pc1 pcN c1 c2)) = true)
    {ws : va_W} {tys : List (ClassId × FieldType)} {H : Heap} {locs : List Loc} {lsA : Array Slot} {stV : List Value} (hW : vW vwCl D (fun q => s.heap.size ≤ q) s b sa sv hp0 ws tys H locs) (hL : vL b sa sv (vAd ws) 7 ls0 lsA) (hT : vT b sa sv (vAd ws) [] stV) :
    W p l e room_1 s m #[Value.ref b] below meth c H locs 249 7595 (lw_Z below #[Value.ref b] s) (F0 m pc0 lsA stV) := by
  obtain ⟨c1, m1, g1⟩ := vCov_all k1 (xs 1)
  obtain ⟨c2, m2, g2⟩ := vCov_all k2 (xs 2)
  have hg := List.all_eq_true.mp (List.all_eq_true.mp h c1 m1) c2 m2
  have hsc := vScr_of K g1 g2
  unfold vXB at hg
  obtain ⟨a1, hg_0⟩ := vBx hg
  obtain ⟨a2, hg_1⟩ := vBx hg_0
  clear hg_0 hg
  have hg := hg_1
  clear hg_1
  have a1 := Nat.le_of_ble_eq_true a1
  have a2 := Nat.le_of_ble_eq_true a2
  split at hg
  · cases hg
  · next pc' ls' st' hp1 ce1 sl1 hgo =>
    obtain ⟨e1, hg_0⟩ := vBx hg
    obtain ⟨e2, hg_1⟩ := vBx hg_0
    obtain ⟨e3, hg_2⟩ := vBx hg_1
    obtain ⟨e4, hg_3⟩ := vBx hg_2
    clear hg_2 hg_1 hg_0 hg
    have hg := hg_3
    clear hg_3
    have e1 := Nat.eq_of_beq_eq_true e1
    have e2 := vLe_ok (fun a b h => vAe_ok h) _ _ e2
    have e3 := Nat.le_of_ble_eq_true e3
    have e4 := Nat.le_of_ble_eq_true e4
    subst e1 e2
    rw [Bool.or_eq_true] at hg
    rcases hg with hg | hg
    · obtain ⟨hp2, q1, q2⟩ := vXT_ok hl9 O a1 a2 hg
      exact vLawH K hfw hsc O.2.2.2.1 O.2.2.2.2.1 O.2.2.2.2.2 hgo e3 e4 q2 q1 hW hL hT
    · obtain ⟨hp2, q1, q2⟩ := vXR_ok (l := l) O a1 hg
      exact vLawH K hfw hsc O.2.2.2.1 O.2.2.2.2.1 O.2.2.2.2.2 hgo e3 e4 q2 q1 hW hL hT
end VXCASE
set_option maxRecDepth 100000 in
theorem vHok_pain : vHok yL_pain cL_pain 44 7 174 m_X11_pain vt_Hpain 358 18 :=
  ⟨⟨by decide, rfl, fun pc i len a b t hg => ⟨(vGet_ok vtb_Hpain hg).1, vChk_ok (R := vHrm) vlk_H_ok vkn (vGet_ok vtb_Hpain hg).2⟩, by decide +kernel, by decide +kernel, by decide +kernel, by decide +kernel, by decide +kernel⟩,
   ⟨rfl, rfl, by decide, fun pc i len a b t hg => ⟨(vGet_ok vtb_Xpain hg).1, vChk_ok (R := mRx m_X11_pain) vlk_RX11_ok vkn (vGet_ok vtb_Xpain hg).2⟩, by decide, by decide⟩,
   ⟨by decide +kernel, by decide +kernel, by decide +kernel, by decide +kernel⟩,
   ⟨vHgood (vHw_pain _ List.mem_cons_self) (vHw_pain _ (List.mem_cons_of_mem _ List.mem_cons_self)) (vHw_a _ (List.mem_cons_of_mem _ List.mem_cons_self)) vHw_pain_c, ⟨by decide, by decide, by decide⟩, by decide +kernel⟩⟩
set_option maxRecDepth 100000 in
theorem vHok_porter : vHok yL_porter cL_porter 57 15 175 m_X11_porter vt_Hporter 463 18 :=
  ⟨⟨by decide, rfl, fun pc i len a b t hg => ⟨(vGet_ok vtb_Hporter hg).1, vChk_ok (R := vHrm) vlk_H_ok vkn (vGet_ok vtb_Hporter hg).2⟩, by decide +kernel, by decide +kernel, by decide +kernel, by decide +kernel, by decide +kernel⟩,
   ⟨rfl, rfl, by decide, fun pc i len a b t hg => ⟨(vGet_ok vtb_Xporter hg).1, vChk_ok (R := mRx m_X11_porter) vlk_RX11_ok vkn (vGet_ok vtb_Xporter hg).2⟩, by decide, by decide⟩,
   ⟨by decide +kernel, by decide +kernel, by decide +kernel, by decide +kernel⟩,
   ⟨vHgood (vHw_porter _ List.mem_cons_self) (vHw_porter _ (List.mem_cons_of_mem _ List.mem_cons_self)) (vHw_a _ (List.mem_cons_of_mem _ List.mem_cons_self)) vHw_porter_c, ⟨by decide, by decide, by decide⟩, by decide +kernel⟩⟩
set_option maxRecDepth 100000 in
theorem vHok_unharmed : vHok yL_unharmed cL_unharmed 138 18 176 m_X11_unharmed vt_Hunharmed 1054 19 :=
  ⟨⟨by decide, rfl, fun pc i len a b t hg => ⟨(vGet_ok vtb_Hunharmed hg).1, vChk_ok (R := vHrm) vlk_H_ok vkn (vGet_ok vtb_Hunharmed hg).2⟩, by decide +kernel, by decide +kernel, by decide +kernel, by decide +kernel, by decide +kernel⟩,
   ⟨rfl, rfl, by decide, fun pc i len a b t hg => ⟨(vGet_ok vtb_Xunharmed hg).1, vChk_ok (R := mRx m_X11_unharmed) vlk_RX11_ok vkn (vGet_ok vtb_Xunharmed hg).2⟩, by decide, by decide⟩,
   ⟨by decide +kernel, by decide +kernel, by decide +kernel, by decide +kernel⟩,
   ⟨vHgood (vHw_unharmed _ List.mem_cons_self) (vHw_unharmed _ (List.mem_cons_of_mem _ List.mem_cons_self)) (vHw_a _ (List.mem_cons_of_mem _ List.mem_cons_self)) vHw_unharmed_c, ⟨by decide, by decide, by decide⟩, by decide +kernel⟩⟩
