/-! ===== the reference's own calls: sentence, said, log ===== -/
set_option maxRecDepth 1000000 in
theorem rW0 : (kWb hTr0 hT plM && (kWb hTr1 hT plM && (kWb hTr2 hT plM && kWb hTr3 hT plM))) = true := by decide +kernel
theorem rW {v : Nat} (hv : v < 4) {hp : List vOb} (h : kTy (hTrN v) plM hp) : kTy hT plM hp := by
  have w := rW0
  rw [Bool.and_eq_true, Bool.and_eq_true, Bool.and_eq_true] at w
  obtain ⟨w0, w1, w2, w3⟩ := w
  have : v = 0 ∨ v = 1 ∨ v = 2 ∨ v = 3 := by omega
  rcases this with rfl | rfl | rfl | rfl
  · exact kW_of w0 hp h
  · exact kW_of w1 hp h
  · exact kW_of w2 hp h
  · exact kW_of w3 hp h
def cSub (c c' : Option sC) : Bool := match c, c' with
  | some (.inr S), some (.inr S') => sSub S' S
  | _, _ => false
def rT0 : List (Nat × sC) := match sGo hT 222 with
  | some o => o.2.1
  | none => []
set_option maxRecDepth 1000000 in
theorem rT_hi : [0, 1, 2, 3].all (fun v => (List.range 181).all (fun j => cSub (sRd (rTy v) (142 + j)) (sRd rT0 (142 + j)))) = true := by decide +kernel
theorem rTy_row {v : Nat} {oT : sOb} (h : sGo (hTrN v) 222 = some oT) : oT.2.1 = rTy v := by
  unfold rTy
  rw [h]
theorem rTy_tell {v : Nat} {oT : sOb} (h : sGo (hTrN v) 222 = some oT) : oT.2.2 = [] := by
  unfold hTrN at h
  split at h <;> (have e := Option.some.inj h; rw [← e])
theorem mix222 {v : Nat} (hv : v < 4) {md : sMd} {hp hp' : List vOb} (h1 : kTy (hTrN v) [222] hp) (h2 : kTy hT [222] hp') (hf : sFr md hp hp') (hm : ∀ i, i < 142 → ¬ sMin md 222 i) : kTy (hTrN v) [222] hp' := fun k hk => by
  rw [List.mem_singleton] at hk
  subst hk
  obtain ⟨oT, ob, a1, a2, a3⟩ := h1 222 (List.mem_singleton.mpr rfl)
  obtain ⟨oT', ob', b1, b2, b3⟩ := h2 222 (List.mem_singleton.mpr rfl)
  obtain ⟨o, q1, q2, q3, q4⟩ := hf.2 _ _ a2
  rw [b2] at q1
  cases q1
  refine ⟨oT, ob', a1, b2, q2.trans a3.1, ⟨q3.trans a3.2.1.1, fun i c x hc hx => ?_⟩, fun e he => ?_⟩
  · by_cases hi : i < 142
    · rw [q4 i (hm i hi)] at hx
      exact a3.2.1.2 i c x hc hx
    · have e1 := rTy_row a1
      have e2 : oT'.2.1 = rT0 := by unfold rT0; rw [b1]
      have hlt : i < 323 := by
        have h3 := sRd_lt hc
        have : sLen oT.2.1 = 323 := by
          rw [e1]
          have : v = 0 ∨ v = 1 ∨ v = 2 ∨ v = 3 := by omega
          rcases this with rfl | rfl | rfl | rfl <;> rfl
        omega
      obtain ⟨j, rfl⟩ : ∃ j, i = 142 + j := ⟨i - 142, by omega⟩
      have hv4 : v ∈ [0, 1, 2, 3] := by
        have : v = 0 ∨ v = 1 ∨ v = 2 ∨ v = 3 := by omega
        rcases this with rfl | rfl | rfl | rfl <;> decide
      have hs := List.all_eq_true.mp (List.all_eq_true.mp rT_hi v hv4) j (List.mem_range.mpr (by omega))
      rw [e1] at hc
      rw [hc] at hs
      unfold cSub at hs
      split at hs
      · next S S' g1 g2 =>
        have g1 := Option.some.inj g1
        subst g1
        rw [← e2] at g2
        obtain ⟨u, u1, u2, u3⟩ := b3.2.1.2 _ _ x g2 hx
        exact ⟨u, u1, sSub_ok _ _ _ hs u2, u3⟩
      · cases hs
  · rw [rTy_tell a1] at he
    cases he
