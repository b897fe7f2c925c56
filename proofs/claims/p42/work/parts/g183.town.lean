/-! ===== town(): class and reference answer alike ===== -/
/-- told cells in another order -/
theorem eDt_of {ρ : Nat → Nat → Nat} {hp : List vOb} {es D : eD} (h : D.all (fun e => es.any (fun r => edB e r)) = true) (hd : eDt ρ es hp) : eDt ρ D hp := fun e he => by
  obtain ⟨r, r1, r2⟩ := List.any_eq_true.mp (List.all_eq_true.mp h e he)
  rw [edB_ok _ _ r2]
  exact hd r r1
theorem sRd_mem : ∀ {rs : List (Nat × sC)} {i : Nat} {c : sC}, sRd rs i = some c → ∃ q ∈ rs, q.2 = c
  | [], _, _, h => by cases h
  | q :: rs, i, c, h => by
    have h : (bif Nat.blt i q.1 then some q.2 else sRd rs (i - q.1)) = some c := h
    cases hb : Nat.blt i q.1 with
    | true =>
      rw [hb, cond_true] at h
      exact ⟨q, List.mem_cons_self, Option.some.inj h⟩
    | false =>
      rw [hb, cond_false] at h
      obtain ⟨r, r1, r2⟩ := sRd_mem h
      exact ⟨r, List.mem_cons_of_mem _ r1, r2⟩
theorem sRd_exi : ∀ {rs : List (Nat × sC)} {i : Nat}, i < sLen rs → ∃ c, sRd rs i = some c
  | [], _, h => absurd h (Nat.not_lt_zero _)
  | q :: rs, i, h => by
    have h : i < q.1 + sLen rs := h
    by_cases hb : i < q.1
    · refine ⟨q.2, ?_⟩
      show (bif Nat.blt i q.1 then some q.2 else sRd rs (i - q.1)) = some q.2
      rw [Nat.blt_eq.mpr hb]
      rfl
    · obtain ⟨c, hc⟩ := sRd_exi (rs := rs) (i := i - q.1) (by omega)
      refine ⟨c, ?_⟩
      show (bif Nat.blt i q.1 then some q.2 else sRd rs (i - q.1)) = some c
      cases hq : Nat.blt i q.1 with
      | true => exact absurd (Nat.blt_eq.mp hq) hb
      | false => exact hc
theorem row_ty {T : sHp} {pl : List Nat} {hp : List vOb} {k n : Nat} {F : sC → Bool} (hk : k ∈ pl) (hb : (match sGo T k with
  | some o => Nat.beq (sLen o.2.1) n && o.2.1.all (fun q => F q.2)
  | none => false) = true) (h : kTy T pl hp) : ∀ i, i < n → ∃ c v, F c = true ∧ hC hp k i v ∧ sCr [] c v := fun i hi => by
  obtain ⟨oT, ob, h1, h2, h3⟩ := h k hk
  rw [h1] at hb
  dsimp only at hb
  rw [Bool.and_eq_true] at hb
  have e := Nat.eq_of_beq_eq_true hb.1
  obtain ⟨c, hc⟩ := sRd_exi (rs := oT.2.1) (i := i) (by omega)
  have hl : i < ob.2.length := by
    rw [h3.2.1.1]
    omega
  obtain ⟨q, q1, q2⟩ := sRd_mem hc
  have hF := List.all_eq_true.mp hb.2 q q1
  rw [q2] at hF
  exact ⟨c, _, hF, ⟨ob, h2, List.getElem?_eq_getElem hl⟩, h3.2.1.2 i c _ hc (List.getElem?_eq_getElem hl)⟩
def fInt (c : sC) : Bool := match c with
  | .inr _ => true
  | _ => false
def fLong (c : sC) : Bool := match c with
  | .inl (.inr (.inr (.inr (.inr 4)))) => true
  | _ => false
theorem ints_ty {T : sHp} {pl : List Nat} {hp : List vOb} {k n : Nat} (hk : k ∈ pl) (hb : (match sGo T k with
  | some o => Nat.beq (sLen o.2.1) n && o.2.1.all (fun q => fInt q.2)
  | none => false) = true) (h : kTy T pl hp) : ∀ i, i < n → ∃ v, hC hp k i (.inl v) := fun i hi => by
  obtain ⟨c, v, h1, h2, h3⟩ := row_ty hk hb h i hi
  unfold fInt at h1
  split at h1
  · obtain ⟨u, -, -, e⟩ := h3
    exact ⟨u, by rw [← e]; exact h2⟩
  · cases h1
theorem longs_ty {T : sHp} {pl : List Nat} {hp : List vOb} {k n : Nat} (hk : k ∈ pl) (hb : (match sGo T k with
  | some o => Nat.beq (sLen o.2.1) n && o.2.1.all (fun q => fLong q.2)
  | none => false) = true) (h : kTy T pl hp) : ∀ i, i < n → ∃ v, hC hp k i (.inr (.inr (.inl v))) := fun i hi => by
  obtain ⟨c, v, h1, h2, h3⟩ := row_ty hk hb h i hi
  unfold fLong at h1
  split at h1
  · obtain ⟨u, -, e⟩ := h3
    exact ⟨u, by rw [← e]; exact h2⟩
  · cases h1
/-- bytes of the tape -/
theorem by_ty {T : sHp} {pl : List Nat} {hp : List vOb} (hk : 2 ∈ pl) (hT : sGo T 2 = some (2, [(940, .inr [(2147483520, 2147483775)])], [])) (h : kTy T pl hp) {i v : Nat} (hi : i < 940) (hc : hC hp 2 i (.inl v)) : byR v := by
  obtain ⟨oT, ob, h1, h2, h3⟩ := h 2 hk
  rw [hT] at h1
  have e := Option.some.inj h1
  subst e
  obtain ⟨ob', o1, o2⟩ := hc
  rw [h2] at o1
  have e := Option.some.inj o1
  subst e
  obtain ⟨u, u1, ⟨q, q1, q2, q3⟩, u3⟩ := h3.2.1.2 i _ _ (sRd_one hi) o2
  rw [List.mem_singleton] at q1
  subst q1
  dsimp only at q2 q3
  have e : v = u := Sum.inl.inj u3
  subst e
  unfold sBi at q2 q3
  unfold byR
  omega
set_option maxRecDepth 100000 in
theorem xq_a0 : ([(0, 88, 19), (1, 48, 13), (2, 2, 940), (3, 4, 25), (31, 64, 9), (49, 56, 12), (55, 56, 12), (67, 40, 3)] : List (Nat × Nat × Nat)).all (fun e => sStop e.1 plC && (match sGo hTc0 e.1 with
  | some o => Nat.beq o.1 e.2.1 && Nat.beq (sLen o.2.1) e.2.2
  | none => false)) = true := by decide +kernel
set_option maxRecDepth 100000 in
theorem xq_c0 : shc17.all (fun e => sStop e.1 plC && (match sGo hTc0 e.1 with
  | some o => Nat.beq o.1 e.2.1 && Nat.beq (sLen o.2.1) e.2.2
  | none => false)) = true := by decide +kernel
theorem XQ_0 {hp : List vOb} (hty : kTy hTc0 plC hp) : XQ 17 4 shc17 (ei17.drop 1) hp := ⟨eSh_ty xq_c0 hty, eSh_ty xq_a0 hty, (ref_ty (T := hTc0) (plC_in (by decide)) rfl rfl hty), (ref_ty (T := hTc0) (plC_in (by decide)) rfl rfl hty), (ref_ty (T := hTc0) (plC_in (by decide)) rfl rfl hty), (ref_ty (T := hTc0) (plC_in (by decide)) rfl rfl hty), (ref_ty (T := hTc0) (plC_in (by decide)) rfl rfl hty), Or.inl (ref_ty (T := hTc0) (plC_in (by decide)) rfl rfl hty), (ref_ty (T := hTc0) (plC_in (by decide)) rfl rfl hty), (ref_ty (T := hTc0) (plC_in (by decide)) rfl rfl hty), (ref_ty (T := hTc0) (plC_in (by decide)) rfl rfl hty), eDt_of (es := [(17, [(0, 6)], .inr (.inr (some 18)), []), (17, [(0, 7)], .inr (.inr (some 19)), []), (17, [(0, 8)], .inr (.inr (some 20)), []), (17, [(0, 9)], .inr (.inr (some 21)), []), (17, [(0, 10)], .inr (.inr (some 22)), []), (17, [(0, 11)], .inr (.inr (some 23)), []), (17, [(0, 12)], .inr (.inr (some 24)), []), (17, [(0, 13)], .inr (.inr (some 25)), []), (17, [(0, 14)], .inr (.inr (some 26)), []), (17, [(0, 15)], .inr (.inr (some 27)), []), (17, [(0, 16)], .inr (.inr (some 28)), []), (17, [(0, 17)], .inr (.inr (some 29)), [])]) (by decide) (eDt_add (k := 17) (eR_c _ 6) rfl (ref_ty (T := hTc0) (k := 17) (i := 6) (r := 18) (plC_in (by decide)) rfl rfl hty) (eDt_add (k := 17) (eR_c _ 7) rfl (ref_ty (T := hTc0) (k := 17) (i := 7) (r := 19) (plC_in (by decide)) rfl rfl hty) (eDt_add (k := 17) (eR_c _ 8) rfl (ref_ty (T := hTc0) (k := 17) (i := 8) (r := 20) (plC_in (by decide)) rfl rfl hty) (eDt_add (k := 17) (eR_c _ 9) rfl (ref_ty (T := hTc0) (k := 17) (i := 9) (r := 21) (plC_in (by decide)) rfl rfl hty) (eDt_add (k := 17) (eR_c _ 10) rfl (ref_ty (T := hTc0) (k := 17) (i := 10) (r := 22) (plC_in (by decide)) rfl rfl hty) (eDt_add (k := 17) (eR_c _ 11) rfl (ref_ty (T := hTc0) (k := 17) (i := 11) (r := 23) (plC_in (by decide)) rfl rfl hty) (eDt_add (k := 17) (eR_c _ 12) rfl (ref_ty (T := hTc0) (k := 17) (i := 12) (r := 24) (plC_in (by decide)) rfl rfl hty) (eDt_add (k := 17) (eR_c _ 13) rfl (ref_ty (T := hTc0) (k := 17) (i := 13) (r := 25) (plC_in (by decide)) rfl rfl hty) (eDt_add (k := 17) (eR_c _ 14) rfl (ref_ty (T := hTc0) (k := 17) (i := 14) (r := 26) (plC_in (by decide)) rfl rfl hty) (eDt_add (k := 17) (eR_c _ 15) rfl (ref_ty (T := hTc0) (k := 17) (i := 15) (r := 27) (plC_in (by decide)) rfl rfl hty) (eDt_add (k := 17) (eR_c _ 16) rfl (ref_ty (T := hTc0) (k := 17) (i := 16) (r := 28) (plC_in (by decide)) rfl rfl hty) (eDt_add (k := 17) (eR_c _ 17) rfl (ref_ty (T := hTc0) (k := 17) (i := 17) (r := 29) (plC_in (by decide)) rfl rfl hty) eDt_nil)))))))))))), ⟨cR_ty (T := hTc0) (hi := 2147484647) (plC_in (by decide)) rfl (by decide) (by decide) hty, cR_ty (T := hTc0) (hi := 2147483652) (plC_in (by decide)) rfl (by decide) (by decide) hty, cR_ty (T := hTc0) (hi := 2147483653) (plC_in (by decide)) rfl (by decide) (by decide) hty, cR_ty (T := hTc0) (hi := 2147483848) (plC_in (by decide)) rfl (by decide) (by decide) hty, cR_ty (T := hTc0) (hi := 2147483903) (plC_in (by decide)) rfl (by decide) (by decide) hty⟩, (kTy_cons (show tSame 0 [31, 32, 33, 34, 35, 36, 37, 38, 39] = true by decide)).mp (kTy_sub (plC_mem (by decide)) hty)⟩
set_option maxRecDepth 100000 in
theorem xq_a1 : ([(0, 88, 19), (1, 48, 13), (2, 2, 940), (3, 4, 25), (31, 64, 9), (49, 56, 12), (55, 56, 12), (67, 40, 3)] : List (Nat × Nat × Nat)).all (fun e => sStop e.1 plC && (match sGo hTc1 e.1 with
  | some o => Nat.beq o.1 e.2.1 && Nat.beq (sLen o.2.1) e.2.2
  | none => false)) = true := by decide +kernel
set_option maxRecDepth 100000 in
theorem xq_c1 : shc4.all (fun e => sStop e.1 plC && (match sGo hTc1 e.1 with
  | some o => Nat.beq o.1 e.2.1 && Nat.beq (sLen o.2.1) e.2.2
  | none => false)) = true := by decide +kernel
theorem XQ_1 {hp : List vOb} (hty : kTy hTc1 plC hp) : XQ 4 17 shc4 (ei4.drop 1) hp := ⟨eSh_ty xq_c1 hty, eSh_ty xq_a1 hty, (ref_ty (T := hTc1) (plC_in (by decide)) rfl rfl hty), (ref_ty (T := hTc1) (plC_in (by decide)) rfl rfl hty), (ref_ty (T := hTc1) (plC_in (by decide)) rfl rfl hty), (ref_ty (T := hTc1) (plC_in (by decide)) rfl rfl hty), (ref_ty (T := hTc1) (plC_in (by decide)) rfl rfl hty), Or.inl (ref_ty (T := hTc1) (plC_in (by decide)) rfl rfl hty), (ref_ty (T := hTc1) (plC_in (by decide)) rfl rfl hty), (ref_ty (T := hTc1) (plC_in (by decide)) rfl rfl hty), (ref_ty (T := hTc1) (plC_in (by decide)) rfl rfl hty), eDt_of (es := [(4, [(0, 6)], .inr (.inr (some 5)), []), (4, [(0, 7)], .inr (.inr (some 6)), []), (4, [(0, 8)], .inr (.inr (some 7)), []), (4, [(0, 9)], .inr (.inr (some 8)), []), (4, [(0, 10)], .inr (.inr (some 9)), []), (4, [(0, 11)], .inr (.inr (some 10)), []), (4, [(0, 12)], .inr (.inr (some 11)), []), (4, [(0, 13)], .inr (.inr (some 12)), []), (4, [(0, 14)], .inr (.inr (some 13)), []), (4, [(0, 15)], .inr (.inr (some 14)), []), (4, [(0, 16)], .inr (.inr (some 15)), []), (4, [(0, 17)], .inr (.inr (some 16)), [])]) (by decide) (eDt_add (k := 4) (eR_c _ 6) rfl (ref_ty (T := hTc1) (k := 4) (i := 6) (r := 5) (plC_in (by decide)) rfl rfl hty) (eDt_add (k := 4) (eR_c _ 7) rfl (ref_ty (T := hTc1) (k := 4) (i := 7) (r := 6) (plC_in (by decide)) rfl rfl hty) (eDt_add (k := 4) (eR_c _ 8) rfl (ref_ty (T := hTc1) (k := 4) (i := 8) (r := 7) (plC_in (by decide)) rfl rfl hty) (eDt_add (k := 4) (eR_c _ 9) rfl (ref_ty (T := hTc1) (k := 4) (i := 9) (r := 8) (plC_in (by decide)) rfl rfl hty) (eDt_add (k := 4) (eR_c _ 10) rfl (ref_ty (T := hTc1) (k := 4) (i := 10) (r := 9) (plC_in (by decide)) rfl rfl hty) (eDt_add (k := 4) (eR_c _ 11) rfl (ref_ty (T := hTc1) (k := 4) (i := 11) (r := 10) (plC_in (by decide)) rfl rfl hty) (eDt_add (k := 4) (eR_c _ 12) rfl (ref_ty (T := hTc1) (k := 4) (i := 12) (r := 11) (plC_in (by decide)) rfl rfl hty) (eDt_add (k := 4) (eR_c _ 13) rfl (ref_ty (T := hTc1) (k := 4) (i := 13) (r := 12) (plC_in (by decide)) rfl rfl hty) (eDt_add (k := 4) (eR_c _ 14) rfl (ref_ty (T := hTc1) (k := 4) (i := 14) (r := 13) (plC_in (by decide)) rfl rfl hty) (eDt_add (k := 4) (eR_c _ 15) rfl (ref_ty (T := hTc1) (k := 4) (i := 15) (r := 14) (plC_in (by decide)) rfl rfl hty) (eDt_add (k := 4) (eR_c _ 16) rfl (ref_ty (T := hTc1) (k := 4) (i := 16) (r := 15) (plC_in (by decide)) rfl rfl hty) (eDt_add (k := 4) (eR_c _ 17) rfl (ref_ty (T := hTc1) (k := 4) (i := 17) (r := 16) (plC_in (by decide)) rfl rfl hty) eDt_nil)))))))))))), ⟨cR_ty (T := hTc1) (hi := 2147484647) (plC_in (by decide)) rfl (by decide) (by decide) hty, cR_ty (T := hTc1) (hi := 2147483652) (plC_in (by decide)) rfl (by decide) (by decide) hty, cR_ty (T := hTc1) (hi := 2147483653) (plC_in (by decide)) rfl (by decide) (by decide) hty, cR_ty (T := hTc1) (hi := 2147483848) (plC_in (by decide)) rfl (by decide) (by decide) hty, cR_ty (T := hTc1) (hi := 2147483903) (plC_in (by decide)) rfl (by decide) (by decide) hty⟩, (kTy_cons (show tSame 0 [31, 32, 33, 34, 35, 36, 37, 38, 39] = true by decide)).mp (kTy_sub (plC_mem (by decide)) hty)⟩
set_option maxRecDepth 100000 in
theorem xq_a2 : ([(0, 88, 19), (1, 48, 13), (2, 2, 940), (3, 4, 25), (31, 64, 9), (49, 56, 12), (55, 56, 12), (67, 40, 3)] : List (Nat × Nat × Nat)).all (fun e => sStop e.1 plC && (match sGo hTc2 e.1 with
  | some o => Nat.beq o.1 e.2.1 && Nat.beq (sLen o.2.1) e.2.2
  | none => false)) = true := by decide +kernel
set_option maxRecDepth 100000 in
theorem xq_c2 : shc17.all (fun e => sStop e.1 plC && (match sGo hTc2 e.1 with
  | some o => Nat.beq o.1 e.2.1 && Nat.beq (sLen o.2.1) e.2.2
  | none => false)) = true := by decide +kernel
theorem XQ_2 {hp : List vOb} (hty : kTy hTc2 plC hp) : XQ 17 4 shc17 (ei17.drop 1) hp := ⟨eSh_ty xq_c2 hty, eSh_ty xq_a2 hty, (ref_ty (T := hTc2) (plC_in (by decide)) rfl rfl hty), (ref_ty (T := hTc2) (plC_in (by decide)) rfl rfl hty), (ref_ty (T := hTc2) (plC_in (by decide)) rfl rfl hty), (ref_ty (T := hTc2) (plC_in (by decide)) rfl rfl hty), (ref_ty (T := hTc2) (plC_in (by decide)) rfl rfl hty), Or.inr (ref_ty (T := hTc2) (plC_in (by decide)) rfl rfl hty), (ref_ty (T := hTc2) (plC_in (by decide)) rfl rfl hty), (ref_ty (T := hTc2) (plC_in (by decide)) rfl rfl hty), (ref_ty (T := hTc2) (plC_in (by decide)) rfl rfl hty), eDt_of (es := [(17, [(0, 6)], .inr (.inr (some 18)), []), (17, [(0, 7)], .inr (.inr (some 19)), []), (17, [(0, 8)], .inr (.inr (some 20)), []), (17, [(0, 9)], .inr (.inr (some 21)), []), (17, [(0, 10)], .inr (.inr (some 22)), []), (17, [(0, 11)], .inr (.inr (some 23)), []), (17, [(0, 12)], .inr (.inr (some 24)), []), (17, [(0, 13)], .inr (.inr (some 25)), []), (17, [(0, 14)], .inr (.inr (some 26)), []), (17, [(0, 15)], .inr (.inr (some 27)), []), (17, [(0, 16)], .inr (.inr (some 28)), []), (17, [(0, 17)], .inr (.inr (some 29)), [])]) (by decide) (eDt_add (k := 17) (eR_c _ 6) rfl (ref_ty (T := hTc2) (k := 17) (i := 6) (r := 18) (plC_in (by decide)) rfl rfl hty) (eDt_add (k := 17) (eR_c _ 7) rfl (ref_ty (T := hTc2) (k := 17) (i := 7) (r := 19) (plC_in (by decide)) rfl rfl hty) (eDt_add (k := 17) (eR_c _ 8) rfl (ref_ty (T := hTc2) (k := 17) (i := 8) (r := 20) (plC_in (by decide)) rfl rfl hty) (eDt_add (k := 17) (eR_c _ 9) rfl (ref_ty (T := hTc2) (k := 17) (i := 9) (r := 21) (plC_in (by decide)) rfl rfl hty) (eDt_add (k := 17) (eR_c _ 10) rfl (ref_ty (T := hTc2) (k := 17) (i := 10) (r := 22) (plC_in (by decide)) rfl rfl hty) (eDt_add (k := 17) (eR_c _ 11) rfl (ref_ty (T := hTc2) (k := 17) (i := 11) (r := 23) (plC_in (by decide)) rfl rfl hty) (eDt_add (k := 17) (eR_c _ 12) rfl (ref_ty (T := hTc2) (k := 17) (i := 12) (r := 24) (plC_in (by decide)) rfl rfl hty) (eDt_add (k := 17) (eR_c _ 13) rfl (ref_ty (T := hTc2) (k := 17) (i := 13) (r := 25) (plC_in (by decide)) rfl rfl hty) (eDt_add (k := 17) (eR_c _ 14) rfl (ref_ty (T := hTc2) (k := 17) (i := 14) (r := 26) (plC_in (by decide)) rfl rfl hty) (eDt_add (k := 17) (eR_c _ 15) rfl (ref_ty (T := hTc2) (k := 17) (i := 15) (r := 27) (plC_in (by decide)) rfl rfl hty) (eDt_add (k := 17) (eR_c _ 16) rfl (ref_ty (T := hTc2) (k := 17) (i := 16) (r := 28) (plC_in (by decide)) rfl rfl hty) (eDt_add (k := 17) (eR_c _ 17) rfl (ref_ty (T := hTc2) (k := 17) (i := 17) (r := 29) (plC_in (by decide)) rfl rfl hty) eDt_nil)))))))))))), ⟨cR_ty (T := hTc2) (hi := 2147484647) (plC_in (by decide)) rfl (by decide) (by decide) hty, cR_ty (T := hTc2) (hi := 2147483652) (plC_in (by decide)) rfl (by decide) (by decide) hty, cR_ty (T := hTc2) (hi := 2147483653) (plC_in (by decide)) rfl (by decide) (by decide) hty, cR_ty (T := hTc2) (hi := 2147483848) (plC_in (by decide)) rfl (by decide) (by decide) hty, cR_ty (T := hTc2) (hi := 2147483903) (plC_in (by decide)) rfl (by decide) (by decide) hty⟩, (kTy_cons (show tSame 0 [31, 32, 33, 34, 35, 36, 37, 38, 39] = true by decide)).mp (kTy_sub (plC_mem (by decide)) hty)⟩
set_option maxRecDepth 100000 in
theorem xq_a3 : ([(0, 88, 19), (1, 48, 13), (2, 2, 940), (3, 4, 25), (31, 64, 9), (49, 56, 12), (55, 56, 12), (67, 40, 3)] : List (Nat × Nat × Nat)).all (fun e => sStop e.1 plC && (match sGo hTc3 e.1 with
  | some o => Nat.beq o.1 e.2.1 && Nat.beq (sLen o.2.1) e.2.2
  | none => false)) = true := by decide +kernel
set_option maxRecDepth 100000 in
theorem xq_c3 : shc4.all (fun e => sStop e.1 plC && (match sGo hTc3 e.1 with
  | some o => Nat.beq o.1 e.2.1 && Nat.beq (sLen o.2.1) e.2.2
  | none => false)) = true := by decide +kernel
theorem XQ_3 {hp : List vOb} (hty : kTy hTc3 plC hp) : XQ 4 17 shc4 (ei4.drop 1) hp := ⟨eSh_ty xq_c3 hty, eSh_ty xq_a3 hty, (ref_ty (T := hTc3) (plC_in (by decide)) rfl rfl hty), (ref_ty (T := hTc3) (plC_in (by decide)) rfl rfl hty), (ref_ty (T := hTc3) (plC_in (by decide)) rfl rfl hty), (ref_ty (T := hTc3) (plC_in (by decide)) rfl rfl hty), (ref_ty (T := hTc3) (plC_in (by decide)) rfl rfl hty), Or.inr (ref_ty (T := hTc3) (plC_in (by decide)) rfl rfl hty), (ref_ty (T := hTc3) (plC_in (by decide)) rfl rfl hty), (ref_ty (T := hTc3) (plC_in (by decide)) rfl rfl hty), (ref_ty (T := hTc3) (plC_in (by decide)) rfl rfl hty), eDt_of (es := [(4, [(0, 6)], .inr (.inr (some 5)), []), (4, [(0, 7)], .inr (.inr (some 6)), []), (4, [(0, 8)], .inr (.inr (some 7)), []), (4, [(0, 9)], .inr (.inr (some 8)), []), (4, [(0, 10)], .inr (.inr (some 9)), []), (4, [(0, 11)], .inr (.inr (some 10)), []), (4, [(0, 12)], .inr (.inr (some 11)), []), (4, [(0, 13)], .inr (.inr (some 12)), []), (4, [(0, 14)], .inr (.inr (some 13)), []), (4, [(0, 15)], .inr (.inr (some 14)), []), (4, [(0, 16)], .inr (.inr (some 15)), []), (4, [(0, 17)], .inr (.inr (some 16)), [])]) (by decide) (eDt_add (k := 4) (eR_c _ 6) rfl (ref_ty (T := hTc3) (k := 4) (i := 6) (r := 5) (plC_in (by decide)) rfl rfl hty) (eDt_add (k := 4) (eR_c _ 7) rfl (ref_ty (T := hTc3) (k := 4) (i := 7) (r := 6) (plC_in (by decide)) rfl rfl hty) (eDt_add (k := 4) (eR_c _ 8) rfl (ref_ty (T := hTc3) (k := 4) (i := 8) (r := 7) (plC_in (by decide)) rfl rfl hty) (eDt_add (k := 4) (eR_c _ 9) rfl (ref_ty (T := hTc3) (k := 4) (i := 9) (r := 8) (plC_in (by decide)) rfl rfl hty) (eDt_add (k := 4) (eR_c _ 10) rfl (ref_ty (T := hTc3) (k := 4) (i := 10) (r := 9) (plC_in (by decide)) rfl rfl hty) (eDt_add (k := 4) (eR_c _ 11) rfl (ref_ty (T := hTc3) (k := 4) (i := 11) (r := 10) (plC_in (by decide)) rfl rfl hty) (eDt_add (k := 4) (eR_c _ 12) rfl (ref_ty (T := hTc3) (k := 4) (i := 12) (r := 11) (plC_in (by decide)) rfl rfl hty) (eDt_add (k := 4) (eR_c _ 13) rfl (ref_ty (T := hTc3) (k := 4) (i := 13) (r := 12) (plC_in (by decide)) rfl rfl hty) (eDt_add (k := 4) (eR_c _ 14) rfl (ref_ty (T := hTc3) (k := 4) (i := 14) (r := 13) (plC_in (by decide)) rfl rfl hty) (eDt_add (k := 4) (eR_c _ 15) rfl (ref_ty (T := hTc3) (k := 4) (i := 15) (r := 14) (plC_in (by decide)) rfl rfl hty) (eDt_add (k := 4) (eR_c _ 16) rfl (ref_ty (T := hTc3) (k := 4) (i := 16) (r := 15) (plC_in (by decide)) rfl rfl hty) (eDt_add (k := 4) (eR_c _ 17) rfl (ref_ty (T := hTc3) (k := 4) (i := 17) (r := 16) (plC_in (by decide)) rfl rfl hty) eDt_nil)))))))))))), ⟨cR_ty (T := hTc3) (hi := 2147484647) (plC_in (by decide)) rfl (by decide) (by decide) hty, cR_ty (T := hTc3) (hi := 2147483652) (plC_in (by decide)) rfl (by decide) (by decide) hty, cR_ty (T := hTc3) (hi := 2147483653) (plC_in (by decide)) rfl (by decide) (by decide) hty, cR_ty (T := hTc3) (hi := 2147483848) (plC_in (by decide)) rfl (by decide) (by decide) hty, cR_ty (T := hTc3) (hi := 2147483903) (plC_in (by decide)) rfl (by decide) (by decide) hty⟩, (kTy_cons (show tSame 0 [31, 32, 33, 34, 35, 36, 37, 38, 39] = true by decide)).mp (kTy_sub (plC_mem (by decide)) hty)⟩
set_option maxRecDepth 100000 in
theorem mq_a0 : shM.all (fun e => sStop e.1 plM && (match sGo hTr0 e.1 with
  | some o => Nat.beq o.1 e.2.1 && Nat.beq (sLen o.2.1) e.2.2
  | none => false)) = true := by decide +kernel
theorem MQr_0 {hp : List vOb} (hty : kTy hTr0 plM hp) : MQr hp := ⟨eSh_ty mq_a0 hty, (ref_ty (T := hTr0) (by decide) rfl rfl hty), (ref_ty (T := hTr0) (by decide) rfl rfl hty), (ref_ty (T := hTr0) (by decide) rfl rfl hty), (ref_ty (T := hTr0) (by decide) rfl rfl hty), ints_ty (T := hTr0) (by decide) (by decide +kernel) hty, longs_ty (T := hTr0) (by decide) (by decide +kernel) hty⟩
set_option maxRecDepth 100000 in
theorem mq_a1 : shM.all (fun e => sStop e.1 plM && (match sGo hTr1 e.1 with
  | some o => Nat.beq o.1 e.2.1 && Nat.beq (sLen o.2.1) e.2.2
  | none => false)) = true := by decide +kernel
theorem MQr_1 {hp : List vOb} (hty : kTy hTr1 plM hp) : MQr hp := ⟨eSh_ty mq_a1 hty, (ref_ty (T := hTr1) (by decide) rfl rfl hty), (ref_ty (T := hTr1) (by decide) rfl rfl hty), (ref_ty (T := hTr1) (by decide) rfl rfl hty), (ref_ty (T := hTr1) (by decide) rfl rfl hty), ints_ty (T := hTr1) (by decide) (by decide +kernel) hty, longs_ty (T := hTr1) (by decide) (by decide +kernel) hty⟩
set_option maxRecDepth 100000 in
theorem mq_a2 : shM.all (fun e => sStop e.1 plM && (match sGo hTr2 e.1 with
  | some o => Nat.beq o.1 e.2.1 && Nat.beq (sLen o.2.1) e.2.2
  | none => false)) = true := by decide +kernel
theorem MQr_2 {hp : List vOb} (hty : kTy hTr2 plM hp) : MQr hp := ⟨eSh_ty mq_a2 hty, (ref_ty (T := hTr2) (by decide) rfl rfl hty), (ref_ty (T := hTr2) (by decide) rfl rfl hty), (ref_ty (T := hTr2) (by decide) rfl rfl hty), (ref_ty (T := hTr2) (by decide) rfl rfl hty), ints_ty (T := hTr2) (by decide) (by decide +kernel) hty, longs_ty (T := hTr2) (by decide) (by decide +kernel) hty⟩
set_option maxRecDepth 100000 in
theorem mq_a3 : shM.all (fun e => sStop e.1 plM && (match sGo hTr3 e.1 with
  | some o => Nat.beq o.1 e.2.1 && Nat.beq (sLen o.2.1) e.2.2
  | none => false)) = true := by decide +kernel
theorem MQr_3 {hp : List vOb} (hty : kTy hTr3 plM hp) : MQr hp := ⟨eSh_ty mq_a3 hty, (ref_ty (T := hTr3) (by decide) rfl rfl hty), (ref_ty (T := hTr3) (by decide) rfl rfl hty), (ref_ty (T := hTr3) (by decide) rfl rfl hty), (ref_ty (T := hTr3) (by decide) rfl rfl hty), ints_ty (T := hTr3) (by decide) (by decide +kernel) hty, longs_ty (T := hTr3) (by decide) (by decide +kernel) hty⟩
def xqP (c : Nat) : Prop := ∀ hp, kTy (hTcN c) plC hp → ∃ t h sh rf, XQ t h sh rf hp ∧ ((t = 4 ∧ h = 17 ∧ sh = shc4 ∧ rf = ei4.drop 1) ∨ (t = 17 ∧ h = 4 ∧ sh = shc17 ∧ rf = ei17.drop 1)) ∧ sGo (hTcN c) 2 = some (2, [(940, .inr [(2147483520, 2147483775)])], [])
theorem xqP_0 : xqP 0 := fun hp h => ⟨_, _, _, _, XQ_0 h, Or.inr ⟨rfl, rfl, rfl, rfl⟩, rfl⟩
theorem xqP_1 : xqP 1 := fun hp h => ⟨_, _, _, _, XQ_1 h, Or.inl ⟨rfl, rfl, rfl, rfl⟩, rfl⟩
theorem xqP_2 : xqP 2 := fun hp h => ⟨_, _, _, _, XQ_2 h, Or.inr ⟨rfl, rfl, rfl, rfl⟩, rfl⟩
theorem xqP_3 : xqP 3 := fun hp h => ⟨_, _, _, _, XQ_3 h, Or.inl ⟨rfl, rfl, rfl, rfl⟩, rfl⟩
def mqP (v : Nat) : Prop := ∀ hp, kTy (hTrN v) plM hp → MQr hp
theorem mqP_0 : mqP 0 := fun hp h => MQr_0 h
theorem mqP_1 : mqP 1 := fun hp h => MQr_1 h
theorem mqP_2 : mqP 2 := fun hp h => MQr_2 h
theorem mqP_3 : mqP 3 := fun hp h => MQr_3 h
/-- both calls side by side, from a state of the loop -/
theorem town_two {hp : List vOb} (hI : Iv3 hp) : ∃ u hp1, (∃ N, ∀ fuel, N ≤ fuel → vCalD vms vdf fuel 60 60 [yV 0] hp = some (some (.inl u), hp1, 0, 0)) ∧ u < 4294967296 ∧ Iv hp1 ∧ ∃ t h, ((t = 4 ∧ h = 17) ∨ (t = 17 ∧ h = 4)) ∧ hC hp 0 2 (yV h) ∧ TWN t h hp hp1 := by
  obtain ⟨⟨hX, hM⟩, ⟨n, τ, hn, hx, hm, hT⟩, ⟨K, R, hk, hK, hR⟩, -⟩ := hI
  obtain ⟨⟨c, c1, c2⟩, h8⟩ := hX
  obtain ⟨u, hp1, md, a1, a2, a3, a4, a5⟩ := four (P := xOK 60 0) xk_town_0 xk_town_1 xk_town_2 xk_town_3 c c1 hp [] c2 rfl (fun a ha => by cases ha)
  have hI1 : Iv hp1 := ⟨⟨a3, O8_keep a4 h8⟩, MI_keep a4 (fun k i => mdX_ok a5) hM⟩
  have fr : ∀ {k i : Nat} {v : vAV}, 220 ≤ k → hC hp k i v → hC hp1 k i v := fun hk hv => hC_fr a4 (fun hm => by
    have := mdX_ok a5 hm
    omega) hv
  obtain ⟨t, h, sh, rf, q1, q2, q3⟩ := four (P := xqP) xqP_0 xqP_1 xqP_2 xqP_3 c c1 hp c2
  obtain ⟨v, v1, v2⟩ := hI1.2.1
  have q4 := four (P := mqP) mqP_0 mqP_1 mqP_2 mqP_3 v v1 hp1 v2
  have B : XB hp τ K n := ⟨hx, fun i hi => ⟨(hT i hi).1, by_ty (plC_in (by decide)) q3 c2 (by omega) (hT i hi).1⟩, hK⟩
  have MB1 : MB hp1 τ R n := ⟨fr (by omega) hm, fun i hi => fr (by omega) (hT i hi).2, fr (by omega) hR.1, fun i hi => ⟨fr (by omega) (hR.2 i hi).1, (hR.2 i hi).2⟩⟩
  refine ⟨u, hp1, a1, a2, hI1, t, h, ?_, q1.2.2.2.1, ?_⟩
  · rcases q2 with ⟨rfl, rfl, -⟩ | ⟨rfl, rfl, -⟩
    · exact Or.inl ⟨rfl, rfl⟩
    · exact Or.inr ⟨rfl, rfl⟩
  · rcases q2 with ⟨rfl, rfl, rfl, rfl⟩ | ⟨rfl, rfl, rfl, rfl⟩
    · exact twn4 hk hn q1 B q4 MB1
    · exact twn17 hk hn q1 B q4 MB1
theorem eq_town : EqOK3 60 81 0 := by
  intro hp args hI hl hi
  have e := List.length_eq_zero_iff.mp hl
  subst e
  obtain ⟨u, hp1, a1, a2, hI1, t, h, ht, h02, hW⟩ := town_two hI
  obtain ⟨hIv, hTP, hK0, ⟨t0, s0, q0, p0, r0, hm0, fx0, TK0, BR0, ST0, ht0, h020, hB0, hC0, hM0⟩, hIM⟩ := hI
  have et : t0 = h := by
    have e := hC_fun h020 h02
    exact Option.some.inj (Sum.inl.inj (Sum.inr.inj (Sum.inr.inj (Sum.inr.inj e))))
  subst et
  obtain ⟨v, hp2, d1, d2, hI2⟩ := mTown hp1 [] hI1 rfl (fun a ha => by cases ha)
  -- the class's frame
  obtain ⟨c, c1, c2⟩ := hIv.1.1
  obtain ⟨rj, hpj, mdj, j1, j2, j3⟩ := four (P := kJ) kJ_0 kJ_1 kJ_2 kJ_3 c c1 hp c2
  have e := (cal_det3 j1 a1).2
  subst e
  unfold mdJ at j3
  rw [Bool.and_eq_true] at j3
  obtain ⟨j3, j4⟩ := j3
  have j5 : ∀ k i, sMin mdj k i → k < 220 ∧ ¬ (162 ≤ k ∧ k ≤ 175) ∧ ¬ (191 ≤ k ∧ k ≤ 204) := fun k i ⟨m, m1, m2, m3, m4⟩ => by
    have h1 := List.all_eq_true.mp j4 m m1
    rw [Bool.and_eq_true, Bool.and_eq_true, m2] at h1
    refine ⟨Nat.blt_eq.mp h1.1, fun ⟨x1, x2⟩ => bnt h1.2.1 ?_, fun ⟨x1, x2⟩ => bnt h1.2.2 ?_⟩
    · rw [Nat.ble_eq_true_of_le x1, Nat.ble_eq_true_of_le x2]
      rfl
    · rw [Nat.ble_eq_true_of_le x1, Nat.ble_eq_true_of_le x2]
      rfl
  -- the tape is empty
  have z1 : hC hpj 0 1 (.inl 0) := by
    obtain ⟨r1, hpz, y1, y2⟩ := zx4 (four zX_town_0 zX_town_1 zX_town_2 zX_town_3) hIv
    have e := (cal_det3 y1 a1).2
    subst e
    exact y2
  obtain ⟨v', w1, w2⟩ := hI1.2.1
  obtain ⟨md2, f2, n2⟩ : ∃ md2, sFr md2 hpj hp2 ∧ (md2 = tw_m1 ∨ md2 = tw_e.2.2.2.2) := by
    obtain ⟨r2, hpz, y1, y2, y3⟩ := town_ok (d := 59) (by decide) (kTy_sub (by decide) (rW w1 w2))
    have e := (cal_det3 y1 d1).2
    subst e
    rcases y3 with ⟨g1, -⟩ | ⟨g1, -, -⟩
    · exact ⟨_, g1, Or.inl rfl⟩
    · exact ⟨_, g1, Or.inr rfl⟩
  have n3 : ∀ k i, sMin md2 k i → (k = 220 ∧ i ≠ 10) ∨ (220 < k ∧ k < 226) := fun k i h => by
    have hb : (tw_m1 ++ tw_e.2.2.2.2).all (fun m => (Nat.beq m.1 220 && (Nat.blt m.2.2 10 || Nat.blt 10 m.2.1)) || (Nat.blt 220 m.1 && Nat.blt m.1 226)) = true := by decide +kernel
    have hin : ∀ m ∈ md2, m ∈ tw_m1 ++ tw_e.2.2.2.2 := fun m hm => by
      rcases n2 with e | e
      · exact List.mem_append_left _ (e ▸ hm)
      · exact List.mem_append_right _ (e ▸ hm)
    obtain ⟨m, m1, m2, m3, m4⟩ := h
    have h1 := List.all_eq_true.mp hb m (hin m m1)
    rw [Bool.or_eq_true, Bool.and_eq_true, Bool.or_eq_true, Bool.and_eq_true, m2] at h1
    rcases h1 with ⟨x1, x2⟩ | ⟨x1, x2⟩
    · refine Or.inl ⟨Nat.eq_of_beq_eq_true x1, ?_⟩
      rcases x2 with x2 | x2
      · have := Nat.blt_eq.mp x2
        omega
      · have := Nat.blt_eq.mp x2
        omega
    · exact Or.inr ⟨Nat.blt_eq.mp x1, Nat.blt_eq.mp x2⟩
  have z2 : hC hp2 220 2 (.inl 0) := by
    obtain ⟨r2, hpz, y1, y2⟩ := town_Z (d := 59) (by decide) (kTy_sub (by decide) (rW w1 w2))
    have e := (cal_det3 y1 d1).2
    subst e
    exact y2
  have hTP2 : TP hp2 := ⟨0, fun _ => 0, by omega, hC_fr f2 (fun h => by
    rcases n3 _ _ h with x | x <;> omega) z1, z2, fun i hi => by omega⟩
  have hK2 : KR0 hp2 := by
    obtain ⟨K, R, h1, h2, h3, h4⟩ := KR0_keep j2 j3 hK0
    exact ⟨K, R, h1, fun i hi => ⟨hC_fr f2 (fun h => by
      rcases n3 _ _ h with x | x <;> omega) (h2 i hi).1, (h2 i hi).2⟩, hC_fr f2 (fun h => by
      rcases n3 _ _ h with x | x <;> omega) h3, fun i hi => ⟨hC_fr f2 (fun h => by
      rcases n3 _ _ h with x | x <;> omega) (h4 i hi).1, (h4 i hi).2⟩⟩
  have hIM2 : IMr hp2 := fun k hk => IMk_keep hk f2 (fun r i h => by
    rcases n3 _ _ h with x | x
    · exact ⟨by omega, by omega, by omega⟩
    · exact ⟨by omega, by omega, by omega⟩) (IMk_keep hk j2 (fun r i h => by
    obtain ⟨x1, x2, x3⟩ := j5 _ _ h
    exact ⟨by omega, by omega, by omega⟩) (hIM k hk))
  rcases hW with ⟨k, a, ⟨hpx, x1, -, mdx, x2, x3⟩, ⟨hpy, y1, -, mdy, y2, y3⟩⟩ | ⟨ln, s, q, p, r, hm, fx, TK, BR, ST, -, hB, ⟨hpx, x1, x2, x3, -⟩, ⟨hpy, y1, y2⟩⟩
  · have ex := cal_det3 x1 a1
    have ey := cal_det3 y1 d1
    have e1 := ex.2
    have e2 := ey.2
    subst e1 e2
    have ux := Sum.inl.inj (Option.some.inj ex.1)
    have uy := Sum.inl.inj (Option.some.inj ey.1)
    have key : u = v := by rw [← ux, ← uy]
    subst key
    refine ⟨u, hpx, a2, a1, hI1, hpy, d1, hI2, hTP2, hK2, ?_, hIM2⟩
    have T1 : TWr hpx := ⟨t0, s0, q0, p0, r0, hm0, fx0, TK0, BR0, ST0, ht0, hC_fr x2 (fun h => by
      rcases x3 _ _ h with z | z | z | z <;> omega) h020, hB0, CT_fr x2 (fun k i hk h => by
      rcases x3 _ _ h with z | z | z | z <;> omega) hC0, MT_fr hB0.2.2.2.1 j2 (fun i _ _ h => by
      have := (j5 _ _ h).1
      omega) hM0⟩
    exact TWr_keep y2 (fun k i h => by
      rcases y3 _ _ h with z | z | z
      · exact ⟨by omega, by omega, by omega⟩
      · exact ⟨by omega, by omega, by omega⟩
      · exact ⟨by omega, by omega, by omega⟩) T1
  · have ex := cal_det3 x1 a1
    have ey := cal_det3 y1 d1
    have e1 := ex.2
    have e2 := ey.2
    subst e1 e2
    have ux := Sum.inl.inj (Option.some.inj ex.1)
    have uy := Sum.inl.inj (Option.some.inj ey.1)
    have key : u = v := by rw [← ux, ← uy]
    subst key
    refine ⟨u, hpx, a2, a1, hI1, hpy, d1, hI2, hTP2, hK2, ⟨t, s, q, p, r, hm, fx, TK, BR, ST, by omega, hC_fr f2 (fun h => by
      rcases n3 _ _ h with x | x <;> omega) x3, hB, CT_fr f2 (fun k i hk h => by
      rcases n3 _ _ h with x | x <;> omega) x2, y2⟩, hIM2⟩
theorem pair_town : PairOK3 60 81 0 := Pair_of_Eq eq_town
