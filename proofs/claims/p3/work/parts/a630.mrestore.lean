theorem rest_in {w : Nat} (hw : w < 4294967296) (h : ¬ w < 2) : sIn [(0, 2147483647), (2147483650, 4294967295)] (sBi w) := by
  by_cases hlt : sBi w ≤ 2147483647
  · exact ⟨(0, 2147483647), by decide, Nat.zero_le _, hlt⟩
  · refine ⟨(2147483650, 4294967295), by decide, ?_, ?_⟩
    · show 2147483650 ≤ sBi w
      unfold sBi at hlt ⊢
      omega
    · show sBi w ≤ 4294967295
      have := sBi_lt w
      omega
/-- a call that writes thrown alone -/
theorem thrown_only {hp hp' : List vOb} (hf : sFr [(220, 0, 0)] hp hp') (h2 : kTy hT [220] hp') (h : Iv hp) : Iv hp' := by
  obtain ⟨hX, ⟨v, v1, v2⟩, hS, hK⟩ := h
  exact ⟨XI_keep hf (fun k i h => (mdL_ok (md := [(220, 0, 0)]) (by decide) h).1) hX, ⟨v, v1, M_up v1 v2 hf h2 (by decide) (fun i _ => sHas_no (by decide))⟩, SS_keep hf (fun i _ => sHas_no (by decide)) hS, img_keep hf (by decide) hK⟩
theorem mImage_hi {w : Nat} (hw : w < 4294967296) (h : ¬ w < 2) : mImP w := by
  intro hp hI
  obtain ⟨hX, ⟨v, v1, v2⟩, hS, hK⟩ := hI
  obtain ⟨r, hp', h1, h2, h3, h4⟩ := cc_M_image_988_ok 60 (by decide) [yV 220, .inl w] hp ⟨rfl, ⟨w, hw, rest_in hw h, rfl⟩, trivial⟩ (kTy_sub (pl' := [220]) (by decide) (rW v1 v2))
  have er := zRt (n := 0) (by decide) h2
  subst er
  rw [if_neg h]
  exact ⟨hp', h1, thrown_only h3 h4 ⟨hX, ⟨v, v1, v2⟩, hS, hK⟩⟩
theorem mImage (w : Nat) (hw : w < 4294967296) : mImP w := by
  by_cases h : w < 2
  · exact mImage_lo h
  · exact mImage_hi hw h
theorem row222 {w : Nat} (hw : w < 4) {hp : List vOb} (h0 : kTy hW [222] hp) (hc : ∀ i, i < 323 → ∃ x c, hC hp 222 i x ∧ sRd (rTy w) i = some c ∧ sCr [] c x) : kTy (hTrN w) [222] hp := fun k hk => by
  rw [List.mem_singleton] at hk
  subst hk
  obtain ⟨oW, ob, a1, a2, a3⟩ := h0 222 (List.mem_singleton.mpr rfl)
  have e1 : sGo hW 222 = some (1, [(323, zF)], []) := rfl
  rw [e1] at a1
  have a1 := Option.some.inj a1
  subst a1
  obtain ⟨oT, ho, et1, et2⟩ : ∃ oT, sGo (hTrN w) 222 = some oT ∧ oT.1 = 1 ∧ sLen oT.2.1 = 323 := by
    have : w = 0 ∨ w = 1 ∨ w = 2 ∨ w = 3 := by omega
    rcases this with rfl | rfl | rfl | rfl
    · exact ⟨_, rfl, rfl, rfl⟩
    · exact ⟨_, rfl, rfl, rfl⟩
    · exact ⟨_, rfl, rfl, rfl⟩
    · exact ⟨_, rfl, rfl, rfl⟩
  refine ⟨oT, ob, ho, a2, a3.1.trans et1.symm, ⟨a3.2.1.1.trans et2.symm, fun i c x hcc hx => ?_⟩, fun e he => ?_⟩
  · have hi : i < 323 := by rw [← et2]; exact sRd_lt hcc
    obtain ⟨y, c', q1, q2, q3⟩ := hc i hi
    rw [rTy_row ho, q2] at hcc
    have e2 := Option.some.inj hcc
    subst e2
    have exy : y = x := hC_fun q1 ⟨ob, a2, hx⟩
    subst exy
    exact q3
  · rw [rTy_tell ho] at he
    cases he
theorem reF_not {r i : Nat} (h : sMin reF r i) : 220 ≤ r ∧ r ≠ 245 := mdL_ok (md := reF) (by decide) h
theorem mRestore : CallOK Iv 220 284 1 := by
  intro hp args hI hl hi
  match args, hl with
  | [a], _ =>
    obtain ⟨w, w1, w2⟩ := hi a List.mem_cons_self
    subst w2
    have hI' := hI
    obtain ⟨hX, ⟨v, v1, v2⟩, hS, hK⟩ := hI
    by_cases hw : w < 2
    · obtain ⟨r, hp', h1, h2, h3, h4⟩ := restore_x (d := 59) (by decide) (in2 hw) (kTy_sub (by decide) (rW v1 v2))
      obtain ⟨u, u1, u2⟩ := sRt_int h2
      subst u2
      obtain ⟨r1, r2⟩ := hW_rest h3
      rcases h4 with h4 | ⟨h4, h5⟩
      · exact ⟨u, hp', h1, u1, thrown_only h4 (kTy_sub (by decide) r1) hI'⟩
      · obtain ⟨x, x1, hx⟩ := (hK w hw).1
        have hcells : ∀ i, i < 323 → ∃ y c, hC hp' 222 i y ∧ sRd (rTy x) i = some c ∧ sCr [] c y := fun i hi => by
          obtain ⟨y, c, q1, q2, q3⟩ := hx i hi
          have hs := List.all_eq_true.mp (List.all_eq_true.mp rTy_set x (in4 x1)) i (List.mem_range.mpr hi)
          rw [q2] at hs
          split at hs
          · next S hS =>
            have e := Option.some.inj hS
            subst e
            obtain ⟨q, g1, g2, g3⟩ := q3
            subst g3
            exact ⟨_, _, h5 i hi q q1, q2, q, g1, g2, rfl⟩
          · cases hs
        have t222 : kTy (hTrN x) [222] hp' := row222 x1 (kTy_sub (by decide) h3) hcells
        have hSS : SS hp' := by
          obtain ⟨c, n, g1, g2, g3⟩ := (hK w hw).2
          refine ⟨c, n, h5 142 (by omega) c g1, g2, Dp_copy (fun i hi q hq => ?_) g3⟩
          have e2 : 323 * w + 143 + 3 * i = 323 * w + (143 + 3 * i) := by omega
          rw [e2] at hq
          exact h5 (143 + 3 * i) (by omega) q hq
        obtain ⟨o, ho⟩ := hTrN_is x
        have q2 : kTy hT [221, 223, 224, 226, 227, 228, 229, 230, 231, 232, 233, 234, 235, 236, 237, 238, 239, 240, 241, 242, 243, 244, 245, 246, 247] hp' := kTy_frame (by decide) h4 (kTy_sub (by decide) (rW v1 v2))
        have q3 : kTy hT [220, 225, 221, 223, 224, 226, 227, 228, 229, 230, 231, 232, 233, 234, 235, 236, 237, 238, 239, 240, 241, 242, 243, 244, 245, 246, 247] hp' := kTy_or (by decide) (kTy_sub (pl' := [220, 225]) (by decide) r1) q2
        have q4 : kTy (hTrN x) [220, 225, 221, 223, 224, 226, 227, 228, 229, 230, 231, 232, 233, 234, 235, 236, 237, 238, 239, 240, 241, 242, 243, 244, 245, 246, 247] hp' := by
          rw [ho]
          exact (kTy_cons (by decide)).mpr q3
        exact ⟨u, hp', h1, u1, XI_keep h4 (fun k i h => (reF_not h).1) hX, ⟨x, x1, kTy_or (by decide) t222 q4⟩, hSS, img_keep h4 (by decide) hK⟩
    · obtain ⟨r, hp', h1, h2, h3, h4⟩ := cc_M_restore_997_ok 60 (by decide) [yV 220, .inl w] hp ⟨rfl, ⟨w, w1, rest_in w1 hw, rfl⟩, trivial⟩ (kTy_sub (pl' := [220]) (by decide) (rW v1 v2))
      obtain ⟨u, u1, u2⟩ := sRt_int h2
      subst u2
      exact ⟨u, hp', h1, u1, thrown_only h3 h4 hI'⟩
