/-! ===== the invariant of the law's loop ===== -/
def rTy (w : Nat) : List (Nat × sC) := match sGo (hTrN w) 222 with
  | some o => o.2.1
  | none => []
/-- an image's cells are typed as the state's -/
def KT (hp : List vOb) (k : Nat) : Prop := ∃ w, w < 4 ∧ ∀ i, i < 323 → ∃ x c, hC hp 245 (323 * k + i) x ∧ sRd (rTy w) i = some c ∧ sCr [] c x
/-- an image's codes are well formed -/
def KK (hp : List vOb) (k : Nat) : Prop := ∃ c n, hC hp 245 (323 * k + 142) (.inl c) ∧ c ≤ 40 ∧ Dp hp 245 (323 * k + 143) c n
/-- the law's own row of one long -/
def O8 (hp : List vOb) : Prop := ∃ v, hp[248]? = some (4, [v])
theorem O8_keep {md : sMd} {hp hp' : List vOb} (hf : sFr md hp hp') (h : O8 hp) : O8 hp' := by
  obtain ⟨v, h⟩ := h
  obtain ⟨o, q1, q2, q3, -⟩ := hf.2 _ _ h
  obtain ⟨k, xs⟩ := o
  dsimp only at q2 q3
  subst q2
  match xs, q3 with
  | [w], _ => exact ⟨w, q1⟩
  | [], q3 => simp at q3
  | _ :: _ :: _, q3 => simp at q3
def XI (hp : List vOb) : Prop := (∃ c, c < 4 ∧ kTy (hTcN c) plC hp) ∧ O8 hp
def MI (hp : List vOb) : Prop := (∃ v, v < 4 ∧ kTy (hTrN v) plM hp) ∧ SS hp ∧ ∀ k, k < 2 → KT hp k ∧ KK hp k
def Iv (hp : List vOb) : Prop := XI hp ∧ MI hp
theorem row_keep {md : sMd} {hp hp' : List vOb} {k : Nat} {ob : vOb} (hf : sFr md hp hp') (hm : ∀ i, ¬ sMin md k i) (ho : hp[k]? = some ob) : hp'[k]? = some ob := by
  obtain ⟨o, q1, q2, q3, q4⟩ := hf.2 _ _ ho
  have e : o = ob := Prod.ext q2 (List.ext_getElem? (fun i => q4 i (hm i)))
  rw [q1, e]
theorem kTy_keep {T : sHp} {pl : List Nat} {md : sMd} {hp hp' : List vOb} (hf : sFr md hp hp') (hm : ∀ k ∈ pl, ∀ i, ¬ sMin md k i) (h : kTy T pl hp) : kTy T pl hp' := fun k hk => by
  obtain ⟨oT, ob, h1, h2, h3⟩ := h k hk
  exact ⟨oT, ob, h1, row_keep hf (hm k hk) h2, h3⟩
theorem SS_keep {md : sMd} {hp hp' : List vOb} (hf : sFr md hp hp') (hm : ∀ i, 142 ≤ i → ¬ sMin md 222 i) (h : SS hp) : SS hp' := by
  obtain ⟨c, n, h1, h2, h3⟩ := h
  exact ⟨c, n, hC_fr hf (hm _ (by omega)) h1, h2, Dp_copy (fun i hi q hq => hC_fr hf (hm _ (by omega)) hq) h3⟩
theorem KT_keep {md : sMd} {hp hp' : List vOb} {k : Nat} (hf : sFr md hp hp') (hm : ∀ i, i < 323 → ¬ sMin md 245 (323 * k + i)) (h : KT hp k) : KT hp' k := by
  obtain ⟨w, w1, h⟩ := h
  refine ⟨w, w1, fun i hi => ?_⟩
  obtain ⟨x, c, q1, q2, q3⟩ := h i hi
  exact ⟨x, c, hC_fr hf (hm i hi) q1, q2, q3⟩
theorem KK_keep {md : sMd} {hp hp' : List vOb} {k : Nat} (hf : sFr md hp hp') (hm : ∀ i, i < 323 → ¬ sMin md 245 (323 * k + i)) (h : KK hp k) : KK hp' k := by
  obtain ⟨c, n, h1, h2, h3⟩ := h
  refine ⟨c, n, hC_fr hf (hm 142 (by omega)) h1, h2, Dp_copy (fun i hi q hq => hC_fr hf ?_ hq) h3⟩
  have e : 323 * k + 143 + 3 * i = 323 * k + (143 + 3 * i) := by omega
  rw [e]
  exact hm _ (by omega)
theorem MI_keep {md : sMd} {hp hp' : List vOb} (hf : sFr md hp hp') (hm : ∀ k i, sMin md k i → k < 220) (h : MI hp) : MI hp' := by
  obtain ⟨⟨v, v1, v2⟩, h2, h3⟩ := h
  have h220 : ∀ k ∈ plM, 220 ≤ k := by decide
  refine ⟨⟨v, v1, kTy_keep hf (fun k hk i hi => ?_) v2⟩, SS_keep hf (fun i _ hi => by have := hm _ _ hi; omega) h2, fun k hk => ⟨KT_keep hf (fun i _ hi => by have := hm _ _ hi; omega) (h3 k hk).1, KK_keep hf (fun i _ hi => by have := hm _ _ hi; omega) (h3 k hk).2⟩⟩
  have := hm _ _ hi
  have := h220 k hk
  omega
theorem XI_keep {md : sMd} {hp hp' : List vOb} (hf : sFr md hp hp') (hm : ∀ k i, sMin md k i → 220 ≤ k) (h : XI hp) : XI hp' := by
  obtain ⟨⟨c, c1, c2⟩, h8⟩ := h
  refine ⟨⟨c, c1, kTy_keep hf (fun k hk i hi => ?_) c2⟩, O8_keep hf h8⟩
  have := hm _ _ hi
  have : k < 220 := List.mem_range.mp hk
  omega
theorem xCall {j k : Nat} (h : ∀ c, c < 4 → xOK j k c) : CallOK Iv 0 j k := by
  intro hp args ⟨⟨⟨c, c1, c2⟩, h8⟩, hM⟩ hl hi
  obtain ⟨u, hp', md, h1, h2, h3, h4, h5⟩ := h c c1 hp args c2 hl hi
  exact ⟨u, hp', h1, h2, ⟨h3, O8_keep h4 h8⟩, MI_keep h4 (fun k i => mdX_ok h5) hM⟩
theorem mCall {j k : Nat} (h : ∀ v, v < 4 → mOK j k v) : CallOK Iv 220 j k := by
  intro hp args ⟨hX, ⟨v, v1, v2⟩, hS, hK⟩ hl hi
  obtain ⟨u, hp', md, h1, h2, h3, h4, h5⟩ := h v v1 hp args v2 hl hi
  refine ⟨u, hp', h1, h2, XI_keep h4 (fun k i hm => (mdM_ok h5 hm).1) hX, ⟨v, v1, h3⟩, SS_keep h4 (fun i hi hm => ?_) hS, fun k hk => ⟨KT_keep h4 (fun i _ hm => ?_) (hK k hk).1, KK_keep h4 (fun i _ hm => ?_) (hK k hk).2⟩⟩
  · have := (mdM_ok h5 hm).2.2.2 rfl
    omega
  · exact (mdM_ok h5 hm).2.2.1 rfl
  · exact (mdM_ok h5 hm).2.2.1 rfl
theorem four {P : Nat → Prop} (h0 : P 0) (h1 : P 1) (h2 : P 2) (h3 : P 3) : ∀ c, c < 4 → P c := fun c hc => by
  have : c = 0 ∨ c = 1 ∨ c = 2 ∨ c = 3 := by omega
  rcases this with rfl | rfl | rfl | rfl
  · exact h0
  · exact h1
  · exact h2
  · exact h3
theorem Iv_rc {hp : List vOb} (h : Iv hp) : vRc 11 (yV 0) hp = true ∧ vRc 12 (yV 220) hp = true := by
  obtain ⟨⟨⟨c, c1, c2⟩, -⟩, ⟨v, v1, v2⟩, -, -⟩ := h
  refine ⟨zRv (T := hTcN c) (pl := plC) (List.mem_range.mpr (by omega)) ?_ (by omega) c2, ?_⟩
  · unfold hTcN
    split <;> rfl
  · obtain ⟨o, ho⟩ := hTrN_is v
    rw [ho] at v2
    exact zRc' (pl := [220]) (List.mem_singleton.mpr rfl) ((kTy_cons (by decide)).mp (kTy_sub (pl' := [220]) (by decide) v2))
