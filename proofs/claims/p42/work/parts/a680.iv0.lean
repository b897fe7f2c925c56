def hCB (hp : List vOb) (k i n : Nat) : Bool := match vNth hp k with
  | some ob => (match vNth ob.2 i with
    | some (.inl u) => Nat.beq u n
    | _ => false)
  | none => false
theorem hCB_ok {hp : List vOb} {k i n : Nat} (h : hCB hp k i n = true) : hC hp k i (.inl n) := by
  unfold hCB at h
  split at h
  · next ob ho =>
    rw [vNth_eq] at ho
    split at h
    · next u hu =>
      rw [vNth_eq] at hu
      rw [Nat.eq_of_beq_eq_true h] at hu
      exact ⟨ob, ho, hu⟩
    · cases h
  · cases h
noncomputable def ktB (hp : List vOb) (k : Nat) : Bool := match vNth hp 245 with
  | some ob => (List.range 323).all (fun i => match vNth ob.2 (323 * k + i), sRd (rTy 0) i with
    | some v, some c => vKn v && sCle (0, [], []) (.inl v) c
    | _, _ => false)
  | none => false
theorem ktB_ok {hp : List vOb} {k : Nat} (h : ktB hp k = true) : KT hp k := by
  unfold ktB at h
  split at h
  · next ob ho =>
    rw [vNth_eq] at ho
    refine ⟨0, by omega, fun i hi => ?_⟩
    have h1 := List.all_eq_true.mp h i (List.mem_range.mpr hi)
    split at h1
    · next v c g1 g2 =>
      rw [vNth_eq] at g1
      rw [Bool.and_eq_true] at h1
      exact ⟨v, c, ⟨ob, ho, g1⟩, g2, sCle_ok (c := .inl v) sG0 (vKn_ok h1.1) h1.2⟩
    · cases h1
  · cases h
set_option maxRecDepth 1000000 in
theorem hp0_k : (hCB hp0 222 142 0 && (hCB hp0 245 142 0 && (hCB hp0 245 465 0 && (ktB hp0 0 && ktB hp0 1)))) = true := by decide +kernel
set_option maxRecDepth 1000000 in
theorem hp0_8b : (match vNth hp0 248 with
  | some o => vBe o (4, [.inr (.inr (.inl 0))])
  | none => false) = true := by decide +kernel
theorem hp0_8 : O8 hp0 := by
  have h := hp0_8b
  split at h
  · next o ho =>
    rw [vNth_eq] at ho
    rw [vBe_ok _ _ h] at ho
    exact ⟨_, ho⟩
  · cases h
theorem Iv_hp0 : Iv hp0 := by
  have h := hp0_k
  rw [Bool.and_eq_true, Bool.and_eq_true, Bool.and_eq_true, Bool.and_eq_true] at h
  obtain ⟨h1, h2, h3, h4, h5⟩ := h
  refine ⟨⟨⟨0, by omega, kTyB_ok hp0_x⟩, hp0_8⟩, ⟨0, by omega, kTyB_ok hp0_m⟩, ⟨0, 0, hCB_ok h1, by omega, rfl⟩, fun k hk => ?_⟩
  have : k = 0 ∨ k = 1 := by omega
  rcases this with rfl | rfl
  · exact ⟨ktB_ok h4, 0, 0, hCB_ok h2, by omega, rfl⟩
  · exact ⟨ktB_ok h5, 0, 0, hCB_ok h3, by omega, rfl⟩
