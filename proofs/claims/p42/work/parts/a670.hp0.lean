/-! ===== the invariant holds behind the law's beginning ===== -/
def vKn (v : vAV) : Bool := match v with
  | .inl u => Nat.blt u 4294967296
  | .inr (.inr (.inl u)) => Nat.blt u 18446744073709551616
  | .inr (.inr (.inr (.inl _))) => true
  | _ => false
theorem vKn_ok {v : vAV} (h : vKn v = true) : sV [] v v := by
  rcases v with u | q | w | o | z
  · exact ⟨Nat.blt_eq.mp h, rfl⟩
  · cases h
  · exact ⟨Nat.blt_eq.mp h, rfl⟩
  · exact rfl
  · cases h
noncomputable def kRow (rs : List (Nat × sC)) (cs : List vAV) : Bool := Nat.beq cs.length (sLen rs) && (List.range cs.length).all (fun i => match sRd rs i, vNth cs i with
  | some c, some v => vKn v && sCle (0, [], []) (.inl v) c
  | _, _ => false)
noncomputable def kTyB (T : sHp) (pl : List Nat) (hp : List vOb) : Bool := pl.all (fun k => match sGo T k, vNth hp k with
  | some oT, some ob => Nat.beq ob.1 oT.1 && (kRow oT.2.1 ob.2 && oT.2.2.isEmpty)
  | _, _ => false)
theorem kTyB_ok {T : sHp} {pl : List Nat} {hp : List vOb} (h : kTyB T pl hp = true) : kTy T pl hp := fun k hk => by
  have h1 := List.all_eq_true.mp h k hk
  split at h1
  · next oT ob g1 g2 =>
    rw [vNth_eq] at g2
    rw [Bool.and_eq_true, Bool.and_eq_true] at h1
    obtain ⟨q1, q2, q3⟩ := h1
    unfold kRow at q2
    rw [Bool.and_eq_true] at q2
    refine ⟨oT, ob, g1, g2, Nat.eq_of_beq_eq_true q1, ⟨Nat.eq_of_beq_eq_true q2.1, fun i c v hc hv => ?_⟩, fun e he => ?_⟩
    · have h2 := List.all_eq_true.mp q2.2 i (List.mem_range.mpr (List.getElem?_eq_some_iff.mp hv).1)
      rw [vNth_eq, hc, hv] at h2
      dsimp only at h2
      rw [Bool.and_eq_true] at h2
      exact sCle_ok (c := .inl v) sG0 (vKn_ok h2.1) h2.2
    · rw [List.isEmpty_iff.mp q3] at he
      cases he
  · cases h1
set_option maxRecDepth 1000000 in
theorem hp0_m : kTyB hTr0 plM hp0 = true := by decide +kernel
set_option maxRecDepth 1000000 in
theorem hp0_x : kTyB hTc0 plC hp0 = true := by decide +kernel
