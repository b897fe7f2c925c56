/-! ===== the check of a contract in pieces ===== -/
noncomputable def gEnt (vms : List vMt) (T : sHp) (scal : sCal) (fuel : Nat) (e : sCtE) (sk : sOp) (spl : List (Nat × Nat × Nat)) (cuts : List sCut) (fin : vMt → sSt → Bool) : Bool := match vNth vms e.1, sTp T e.2.2.1 with
  | some M, some h0 => (Nat.beq (mRm M).cells 0 && (Nat.beq (mRm M).slots 0 && Nat.ble (sArgs (sIni e.2.1 (0, [], [])).1).length M.2.2.1)) && (match sSpl spl [(0, sEnt (sIni e.2.1 (0, [], [])).1 M.2.2.1, [], h0, (sIni e.2.1 (0, [], [])).2)] with
      | some L => L.all (fun σ => sMch sk scal e.2.2.2.2 M.2.2.2.2.1 fuel cuts (fin M) none σ)
      | none => false)
  | _, _ => false
noncomputable def gCut (vms : List vMt) (scal : sCal) (fuel : Nat) (e : sCtE) (sk : sOp) (cuts : List sCut) (fin : vMt → sSt → Bool) (cs : List sCut) : Bool := match vNth vms e.1 with
  | some M => cs.all (fun c => rOk c.1.2.2.2.2 c.2.2 && sMch sk scal e.2.2.2.2 M.2.2.2.2.1 fuel cuts (fin M) (some c.2.2) c.1)
  | none => false
section GCUT
variable {vms : List vMt} {T : sHp} {scal : sCal} {fuel : Nat} {e : sCtE} {sk : sOp} {spl : List (Nat × Nat × Nat)} {cuts A : List sCut} {fin : vMt → sSt → Bool}
theorem gCut_one (h : gCut vms scal fuel e sk cuts fin A = true) : ∀ c ∈ A, gCut vms scal fuel e sk cuts fin [c] = true := fun c hc => by
  unfold gCut at h ⊢
  split at h
  · next M hM =>
    rw [List.all_cons, List.all_nil, Bool.and_true]
    exact List.all_eq_true.mp h c hc
  · cases h
theorem gCut_step (n : Nat) (h1 : gCut vms scal fuel e sk cuts fin (A.take n) = true) (h2 : ∀ c ∈ A.drop n, gCut vms scal fuel e sk cuts fin [c] = true) : ∀ c ∈ A, gCut vms scal fuel e sk cuts fin [c] = true := fun c hc => by
  rw [← List.take_append_drop n A] at hc
  rcases List.mem_append.mp hc with h | h
  · exact gCut_one h1 c h
  · exact h2 c h
theorem gCut_at {M : vMt} (hM : vNth vms e.1 = some M) {c : sCut} (h : gCut vms scal fuel e sk cuts fin [c] = true) : (rOk c.1.2.2.2.2 c.2.2 && sMch sk scal e.2.2.2.2 M.2.2.2.2.1 fuel cuts (fin M) (some c.2.2) c.1) = true := by
  unfold gCut at h
  rw [hM] at h
  dsimp only at h
  rw [List.all_cons, Bool.and_eq_true] at h
  exact h.1
theorem cChk_of (h1 : gEnt vms T scal fuel e sk spl cuts (fun M => cFin T M e) = true) (h2 : ∀ c ∈ cuts, gCut vms scal fuel e sk cuts (fun M => cFin T M e) [c] = true) : cChk vms T scal fuel e sk spl cuts = true := by
  unfold gEnt at h1
  unfold cChk
  split at h1
  · next M h0 hM hh =>
    rw [Bool.and_eq_true] at h1
    rw [hM, hh]
    dsimp only
    exact Bool.and_eq_true_iff.mpr ⟨h1.1, Bool.and_eq_true_iff.mpr ⟨h1.2, List.all_eq_true.mpr (fun c hc => gCut_at hM (h2 c hc))⟩⟩
  · cases h1
theorem cChkS_of {Ts : List sHp} (h1 : gEnt vms T scal fuel e sk spl cuts (fun M => cFinS Ts M e) = true) (h2 : ∀ c ∈ cuts, gCut vms scal fuel e sk cuts (fun M => cFinS Ts M e) [c] = true) : cChkS vms T Ts scal fuel e sk spl cuts = true := by
  unfold gEnt at h1
  unfold cChkS
  split at h1
  · next M h0 hM hh =>
    rw [Bool.and_eq_true] at h1
    rw [hM, hh]
    dsimp only
    exact Bool.and_eq_true_iff.mpr ⟨h1.1, Bool.and_eq_true_iff.mpr ⟨h1.2, List.all_eq_true.mpr (fun c hc => gCut_at hM (h2 c hc))⟩⟩
  · cases h1
end GCUT
