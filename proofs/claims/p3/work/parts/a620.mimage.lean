/-! ===== image() and restore() of the reference ===== -/
def r245 : List (Nat × sC) := match sGo hT 245 with
  | some o => o.2.1
  | none => []
set_option maxRecDepth 1000000 in
theorem r245_k : [0, 1, 2, 3].all (fun w => [0, 1].all (fun k => (List.range 323).all (fun i => cSub (sRd r245 (323 * k + i)) (sRd (rTy w) i)))) = true := by decide +kernel
theorem in4 {w : Nat} (h : w < 4) : w ∈ [0, 1, 2, 3] := by
  have : w = 0 ∨ w = 1 ∨ w = 2 ∨ w = 3 := by omega
  rcases this with rfl | rfl | rfl | rfl <;> decide
theorem in2 {w : Nat} (h : w < 2) : w ∈ [0, 1] := by
  have : w = 0 ∨ w = 1 := by omega
  rcases this with rfl | rfl <;> decide
set_option maxRecDepth 100000 in
/-- the row of the images, out of both images -/
theorem row245 {hp : List vOb} (h0 : kTy hW [245] hp) (hK : ∀ k, k < 2 → KT hp k) : kTy hT [245] hp := fun k hk => by
  rw [List.mem_singleton] at hk
  subst hk
  obtain ⟨oW, ob, a1, a2, a3⟩ := h0 245 (List.mem_singleton.mpr rfl)
  have e1 : sGo hW 245 = some (1, [(646, zF)], []) := rfl
  rw [e1] at a1
  have a1 := Option.some.inj a1
  subst a1
  obtain ⟨oT, ho⟩ : ∃ oT, sGo hT 245 = some oT := ⟨_, rfl⟩
  have er : oT.2.1 = r245 := by unfold r245; rw [ho]
  have et : oT.1 = 1 ∧ sLen oT.2.1 = 646 ∧ oT.2.2 = [] := by
    have : sGo hT 245 = some oT := ho
    have e2 := Option.some.inj (this.symm.trans (rfl : sGo hT 245 = _))
    rw [e2]
    exact ⟨rfl, rfl, rfl⟩
  refine ⟨oT, ob, ho, a2, a3.1.trans et.1.symm, ⟨a3.2.1.1.trans et.2.1.symm, fun i c x hc hx => ?_⟩, fun e he => ?_⟩
  · have hi : i < 646 := by rw [← et.2.1]; exact sRd_lt hc
    obtain ⟨k, j, hk, hj, rfl⟩ : ∃ k j, k < 2 ∧ j < 323 ∧ i = 323 * k + j := ⟨i / 323, i % 323, by omega, by omega, by omega⟩
    obtain ⟨w, w1, hw⟩ := hK k hk
    obtain ⟨y, c', q1, q2, q3⟩ := hw j hj
    have hs := List.all_eq_true.mp (List.all_eq_true.mp (List.all_eq_true.mp r245_k w (in4 w1)) k (in2 hk)) j (List.mem_range.mpr hj)
    rw [er] at hc
    rw [hc, q2] at hs
    have exy : y = x := hC_fun q1 ⟨ob, a2, hx⟩
    subst exy
    unfold cSub at hs
    split at hs
    · next S S' g1 g2 =>
      have g1 := Option.some.inj g1
      have g2 := Option.some.inj g2
      subst g1 g2
      obtain ⟨u, u1, u2, u3⟩ := q3
      exact ⟨u, u1, sSub_ok _ _ _ hs u2, u3⟩
    · cases hs
  · rw [et.2.2] at he
    cases he
set_option maxRecDepth 1000000 in
theorem rTy_set : [0, 1, 2, 3].all (fun w => (List.range 323).all (fun i => match sRd (rTy w) i with
  | some (.inr _) => true
  | _ => false)) = true := by decide +kernel
/-- the cells of the state, typed -/
theorem s_cell {v : Nat} (hv : v < 4) {hp : List vOb} (h : kTy (hTrN v) [222] hp) {i : Nat} (hi : i < 323) : ∃ q c, q < 4294967296 ∧ hC hp 222 i (.inl q) ∧ sRd (rTy v) i = some c ∧ sCr [] c (.inl q) := by
  obtain ⟨oT, ob, a1, a2, a3⟩ := h 222 (List.mem_singleton.mpr rfl)
  have e1 := rTy_row a1
  have hs := List.all_eq_true.mp (List.all_eq_true.mp rTy_set v (in4 hv)) i (List.mem_range.mpr hi)
  split at hs
  · next S hS =>
    have hl : i < ob.2.length := by rw [a3.2.1.1, e1]; exact sRd_lt hS
    obtain ⟨u, u1, u2, u3⟩ := a3.2.1.2 i _ _ (by rw [e1]; exact hS) (List.getElem?_eq_getElem hl)
    exact ⟨u, _, u1, ⟨ob, a2, by rw [List.getElem?_eq_getElem hl, u3]⟩, hS, u, u1, u2, rfl⟩
  · cases hs
theorem hW_rest {hp : List vOb} (h : kTy hW plI hp) : kTy hT [220, 225, 246, 247] hp ∧ kTy hW [245] hp := by
  refine ⟨?_, kTy_sub (by decide) h⟩
  have h1 : kTy hW [220, 225, 246, 247] hp := kTy_sub (by decide) h
  exact (kTy_cons (by decide)).mp ((kTy_cons (by decide)).mp h1)
def mImP (w : Nat) : Prop := ∀ hp, Iv hp → ∃ hp', (∃ N, ∀ fuel, N ≤ fuel → vCalD vms vdf fuel 60 282 [yV 220, .inl w] hp = some (some (.inl (if w < 2 then 1 else 0)), hp', 0, 0)) ∧ Iv hp'
theorem imF_not {w r i : Nat} (h : sMin (imF w) r i) : 220 ≤ r ∧ r ≠ 222 ∧ (r = 245 → 323 * w ≤ i ∧ i ≤ 323 * w + 322) := by
  obtain ⟨m, m1, m2, m3, m4⟩ := h
  unfold imF at m1
  simp only [List.mem_cons, List.not_mem_nil, or_false] at m1
  rcases m1 with rfl | rfl | rfl | rfl <;> dsimp only at m2 m3 m4 <;> omega
theorem mImage_lo {w : Nat} (hw : w < 2) : mImP w := by
  intro hp ⟨hX, ⟨v, v1, v2⟩, hS, hK⟩
  obtain ⟨r, hp', h1, h2, h3, h4, h5⟩ := image_x (d := 59) (by decide) (in2 hw) (kTy_sub (by decide) (rW v1 v2))
  subst h2
  rw [if_pos hw]
  have hs222 : kTy (hTrN v) [222] hp := kTy_sub (by decide) v2
  have hKT : ∀ k, k < 2 → KT hp' k := fun k hk => by
    by_cases e : k = w
    · subst e
      refine ⟨v, v1, fun i hi => ?_⟩
      obtain ⟨q, c, -, q2, q3, q4⟩ := s_cell v1 hs222 hi
      exact ⟨_, c, h5 i hi q q2, q3, q4⟩
    · exact KT_keep h4 (fun i hi h => by have := (imF_not h).2.2 rfl; omega) (hK k hk).1
  have hKK : ∀ k, k < 2 → KK hp' k := fun k hk => by
    by_cases e : k = w
    · subst e
      obtain ⟨c, n, q1, q2, q3⟩ := hS
      refine ⟨c, n, h5 142 (by omega) c q1, q2, Dp_copy (fun i hi q hq => ?_) q3⟩
      have := h5 (143 + 3 * i) (by omega) q hq
      have e2 : 323 * k + 143 + 3 * i = 323 * k + (143 + 3 * i) := by omega
      rw [e2]
      exact this
    · exact KK_keep h4 (fun i hi h => by have := (imF_not h).2.2 rfl; omega) (hK k hk).2
  obtain ⟨r1, r2⟩ := hW_rest h3
  have t245 : kTy hT [245] hp' := row245 r2 hKT
  have t1 : kTy hT [220, 225, 246, 247, 245] hp' := kTy_or (by decide) r1 t245
  have hb : plM.all (fun k => sStop k [220, 225, 246, 247, 245] || !sHas k (imF w)) = true := by
    have : w = 0 ∨ w = 1 := by omega
    rcases this with rfl | rfl <;> decide
  exact ⟨hp', h1, XI_keep h4 (fun k i h => (imF_not h).1) hX, ⟨v, v1, M_up v1 v2 h4 t1 hb (fun i _ h => (imF_not h).2.1 rfl)⟩, SS_keep h4 (fun i _ h => (imF_not h).2.1 rfl) hS, fun k hk => ⟨hKT k hk, hKK k hk⟩⟩
