/-! ===== a method in two phases ===== -/
/-- up to a place, or to a return -/
noncomputable def pCh1 (vms : List vMt) (T : sHp) (scal : sCal) (md1 : sMd) (fuel : Nat) (e : sCtE) (op : sOp) (cuts tms : List sCut) : Bool := match vNth vms e.1, sTp T e.2.2.1 with
  | some M, some h0 => (Nat.beq (mRm M).cells 0 && (Nat.beq (mRm M).slots 0 && Nat.ble (sArgs (sIni e.2.1 (0, [], [])).1).length M.2.2.1)) && sMch op scal md1 M.2.2.2.2.1 fuel cuts (fun σ => cFin T M e σ || sArr none σ tms) none (0, sEnt (sIni e.2.1 (0, [], [])).1 M.2.2.1, [], h0, (sIni e.2.1 (0, [], [])).2)
  | _, _ => false
noncomputable def pCh2 (vms : List vMt) (T : sHp) (scal : sCal) (md1 : sMd) (fuel : Nat) (e : sCtE) (op : sOp) (cuts tms cs : List sCut) : Bool := match vNth vms e.1 with
  | some M => cs.all (fun c => rOk c.1.2.2.2.2 c.2.2 && sMch op scal md1 M.2.2.2.2.1 fuel cuts (fun σ => cFin T M e σ || sArr none σ tms) (some c.2.2) c.1)
  | none => false
/-- from a place on -/
noncomputable def pCh3 (vms : List vMt) (Ts : List sHp) (scal : sCal) (md2 : sMd) (fuel : Nat) (e : sCtE) (op : sOp) (cuts tms : List sCut) : Bool := match vNth vms e.1 with
  | some M => tms.all (fun c => sMch op scal md2 M.2.2.2.2.1 fuel cuts (cFinS Ts M e) none c.1)
  | none => false
noncomputable def pCh4 (vms : List vMt) (Ts : List sHp) (scal : sCal) (md2 : sMd) (fuel : Nat) (e : sCtE) (op : sOp) (cuts cs : List sCut) : Bool := match vNth vms e.1 with
  | some M => cs.all (fun c => rOk c.1.2.2.2.2 c.2.2 && sMch op scal md2 M.2.2.2.2.1 fuel cuts (cFinS Ts M e) (some c.2.2) c.1)
  | none => false
section PHASE
variable {vms : List vMt} {df : List (List vAV)} {d : Nat} {T : sHp} {Ts : List sHp} {scal scal2 : sCal} {md1 md2 : sMd} {fuel : Nat} {e : sCtE} {op op2 : sOp} {cuts cuts2 tms : List sCut}
theorem ph1 {M : vMt} (hM : vms[e.1]? = some M) (hs : ∀ hp0, sCalOK vms df d md1 hp0 scal) (h1 : pCh1 vms T scal md1 fuel e op cuts tms = true) (h2 : ∀ c ∈ cuts, pCh2 vms T scal md1 fuel e op cuts tms [c] = true) {kav : List vAV} {hp : List vOb} (hav : sAr e.2.1 kav) (hty : kTy T e.2.2.1 hp) :
    ((vArgs kav).length ≤ M.2.2.1 ∧ (mRm M).cells = 0 ∧ (mRm M).slots = 0) ∧ ∃ κ, kRe vms df d M.2.2.2.2.1 0 0 (0, vEnt kav M.2.2.1, [], hp) κ ∧ ((∃ i len a b t kr, vGet M.2.2.2.2.1 κ.1 = some (i, len, a, b, t) ∧ sFin i = true ∧ vRet M.2.2.2.1 i κ.2.2.1 = some kr ∧ sRtC e.2.2.2.1 kr ∧ sFr md1 hp κ.2.2.2 ∧ kTy T e.2.2.1 κ.2.2.2) ∨ ∃ c ∈ tms, c.1.1 = κ.1 ∧ ∃ ρ', sR md1 hp ρ' c.1.2.1 c.1.2.2.1 c.1.2.2.2.1 c.1.2.2.2.2 κ.2.1 κ.2.2.1 κ.2.2.2) := by
  unfold pCh1 at h1
  rw [vNth_eq, hM] at h1
  split at h1
  · next M' h0 hM' hh0 =>
    have hM' := Option.some.inj hM'
    subst hM'
    rw [Bool.and_eq_true, Bool.and_eq_true, Bool.and_eq_true] at h1
    obtain ⟨⟨b1, b2, b3⟩, b4⟩ := h1
    obtain ⟨xs, i1, i2⟩ := sIni_ok hav sG0
    rw [List.nil_append] at i1 i2
    obtain ⟨q1, q2⟩ := sEnt_ok i2 M.2.2.1
    refine ⟨⟨by rw [q2]; exact Nat.le_of_ble_eq_true b3, Nat.eq_of_beq_eq_true b1, Nat.eq_of_beq_eq_true b2⟩, ?_⟩
    exact sWhole (Q := fun κ => (∃ i len a b t kr, vGet M.2.2.2.2.1 κ.1 = some (i, len, a, b, t) ∧ sFin i = true ∧ vRet M.2.2.2.1 i κ.2.2.1 = some kr ∧ sRtC e.2.2.2.1 kr ∧ sFr md1 hp κ.2.2.2 ∧ kTy T e.2.2.1 κ.2.2.2) ∨ ∃ c ∈ tms, c.1.1 = κ.1 ∧ ∃ ρ', sR md1 hp ρ' c.1.2.1 c.1.2.2.1 c.1.2.2.2.1 c.1.2.2.2.2 κ.2.1 κ.2.2.1 κ.2.2.2) (mc := 0) (ms := 0) (hs hp) (fun σ ρ kl ks hp1 hfin hR => by
      rcases Bool.or_eq_true_iff.mp hfin with hf | hf
      · left
        unfold cFin at hf
        split at hf
        · next x hx =>
          obtain ⟨i, len, a, b, t⟩ := x
          rw [Bool.and_eq_true] at hf
          have h2 := hf.2
          split at h2
          · next r hr =>
            rw [Bool.and_eq_true] at h2
            obtain ⟨kr, r1, r2⟩ := sRetV_ok hR.2.2.2.1 hR.2.1 hr
            exact ⟨i, len, a, b, t, kr, hx, hf.1, r1, sRtB_ok hR.2.2.2.1 h2.1 r2, hR.2.2.2.2, sTlc_ok hR.2.2.2.1 hR.2.2.1 h2.2⟩
          · cases h2
        · cases hf
      · right
        obtain ⟨c, c1, c2, ρ', c3, -⟩ := sArr_ok hR hf
        exact ⟨c, c1, c2, ρ', c3⟩) (fun c hc => by
      have h := h2 c hc
      unfold pCh2 at h
      rw [vNth_eq, hM] at h
      dsimp only at h
      rw [List.all_cons, List.all_nil, Bool.and_true, Bool.and_eq_true] at h
      exact h) b4 (ρ := xs) (kl := vEnt kav M.2.2.1) (ks := []) (hp := hp) ⟨q1, trivial, sHr_nil (sTp_ok hh0 hty), i1, sFr.rf _ _⟩
  · cases h1
theorem ph2 {M : vMt} (hM : vms[e.1]? = some M) (hs : ∀ hp0, sCalOK vms df d md2 hp0 scal2) (h3 : ∀ c ∈ tms, pCh3 vms Ts scal2 md2 fuel e op2 cuts2 [c] = true) (h4 : ∀ c ∈ cuts2, pCh4 vms Ts scal2 md2 fuel e op2 cuts2 [c] = true) {c : sCut} (hc : c ∈ tms) {ρ : List Nat} {kl : vLs} {ks : List vAV} {hp hp1 : List vOb} (hR : sR md1 hp ρ c.1.2.1 c.1.2.2.1 c.1.2.2.2.1 c.1.2.2.2.2 kl ks hp1) :
    kEnd vms df d M (c.1.1, kl, ks, hp1) (fun kr hp' => sRtC e.2.2.2.1 kr ∧ sFr md2 hp1 hp' ∧ ∃ T' ∈ Ts, kTy T' e.2.2.1 hp') := by
  have h := h3 c hc
  unfold pCh3 at h
  rw [vNth_eq, hM] at h
  dsimp only at h
  rw [List.all_cons, List.all_nil, Bool.and_true] at h
  obtain ⟨κ, k1, i, len, a, b, t, kr, g1, g2, g3, g4, g5, g6⟩ := sWhole (Q := fun κ => ∃ i len a b t kr, vGet M.2.2.2.2.1 κ.1 = some (i, len, a, b, t) ∧ sFin i = true ∧ vRet M.2.2.2.1 i κ.2.2.1 = some kr ∧ sRtC e.2.2.2.1 kr ∧ sFr md2 hp1 κ.2.2.2 ∧ ∃ T' ∈ Ts, kTy T' e.2.2.1 κ.2.2.2) (mc := 0) (ms := 0) (hs hp1) (fun σ ρ kl ks hp2 hfin hR => by
    unfold cFinS at hfin
    split at hfin
    · next x hx =>
      obtain ⟨i, len, a, b, t⟩ := x
      rw [Bool.and_eq_true] at hfin
      have h2 := hfin.2
      split at h2
      · next r hr =>
        rw [Bool.and_eq_true] at h2
        obtain ⟨kr, r1, r2⟩ := sRetV_ok hR.2.2.2.1 hR.2.1 hr
        obtain ⟨T', t1, t2⟩ := List.any_eq_true.mp h2.2
        exact ⟨i, len, a, b, t, kr, hx, hfin.1, r1, sRtB_ok hR.2.2.2.1 h2.1 r2, hR.2.2.2.2, T', t1, sTlc_ok hR.2.2.2.1 hR.2.2.1 t2⟩
      · cases h2
    · cases hfin) (fun c' hc' => by
    have h := h4 c' hc'
    unfold pCh4 at h
    rw [vNth_eq, hM] at h
    dsimp only at h
    rw [List.all_cons, List.all_nil, Bool.and_true, Bool.and_eq_true] at h
    exact h) h (ρ := ρ) (kl := kl) (ks := ks) (hp := hp1) ⟨hR.1, hR.2.1, hR.2.2.1, hR.2.2.2.1, sFr.rf _ _⟩
  exact ⟨κ, k1, i, len, a, b, t, kr, g1, g2, g3, g4, g5, g6⟩
end PHASE
