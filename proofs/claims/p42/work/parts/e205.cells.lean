/-! ===== from typings to cells, and back ===== -/
theorem sCr_n {v hi : Nat} (h : v + 2147483648 ≤ hi) (hv : v < 2147483648) : sCr [] (.inr [(2147483648, hi)]) (.inl v) := ⟨v, by omega, by rw [sBi_of hv]; exact sIn_one (by omega) h, rfl⟩
theorem sCr_le {v : vAV} {hi : Nat} (h : sCr [] (.inr [(2147483648, hi)]) v) (hh : hi < 4294967296) : ∃ u, u + 2147483648 ≤ hi ∧ v = .inl u := by
  obtain ⟨u, u1, ⟨q, q1, q2, q3⟩, u3⟩ := h
  rw [List.mem_singleton] at q1
  subst q1
  dsimp only at q2 q3
  unfold sBi at q2 q3
  exact ⟨u, by omega, u3⟩
theorem kTy_row1 {T : sHp} {k n : Nat} {oT : sOb} {hp : List vOb} (hT : sGo T k = some oT) (h2 : oT.2.2 = []) (hs : ∃ ob, hp[k]? = some ob ∧ ob.1 = oT.1 ∧ ob.2.length = n) (hn : sLen oT.2.1 = n) (hc : ∀ i, i < n → ∃ c v, sRd oT.2.1 i = some c ∧ hC hp k i v ∧ sCr [] c v) : kTy T [k] hp := fun k' hk => by
  rw [List.mem_singleton] at hk
  subst hk
  obtain ⟨ob, o1, o2, o3⟩ := hs
  refine ⟨oT, ob, hT, o1, o2, ⟨o3.trans hn.symm, fun i c v hr hv => ?_⟩, fun e he => ?_⟩
  · have hi : i < n := by
      rw [← o3]
      exact (List.getElem?_eq_some_iff.mp hv).1
    obtain ⟨c', w, w0, w1, w2⟩ := hc i hi
    rw [hr] at w0
    have e0 := Option.some.inj w0
    have e : v = w := hC_fun ⟨ob, o1, hv⟩ w1
    rw [e, e0]
    exact w2
  · rw [h2] at he
    cases he
theorem kTy_app {T : sHp} {pl1 pl2 : List Nat} {hp : List vOb} (h1 : kTy T pl1 hp) (h2 : kTy T pl2 hp) : kTy T (pl1 ++ pl2) hp := fun k hk => (List.mem_append.mp hk).elim (h1 k) (h2 k)
theorem sRd_one {n i : Nat} {c : sC} (hi : i < n) : sRd [(n, c)] i = some c := by
  show (bif Nat.blt i n then some c else _) = some c
  rw [Nat.blt_eq.mpr hi]
  rfl
theorem kTy_ints {T : sHp} {k n b hi : Nat} {hp : List vOb} (hT : sGo T k = some (1, [(n, .inr [(2147483648, hi)])], [])) (hs : ∃ ob, hp[k]? = some ob ∧ ob.1 = 1 ∧ ob.2.length = n) (hb : b + 2147483648 ≤ hi) (hb2 : b < 2147483648) (hr : cR hp k n b) : kTy T [k] hp := kTy_row1 (n := n) hT rfl hs (Nat.add_zero n) (fun i hi => by
  obtain ⟨v, v1, v2⟩ := hr i hi
  exact ⟨_, .inl v, sRd_one hi, v2, sCr_n (by omega) (by omega)⟩)
theorem kTy_cl {T : sHp} {pl : List Nat} {hp : List vOb} {k i : Nat} {c : sC} (hk : k ∈ pl) (hT : (match sGo T k with | some o => sRd o.2.1 i | none => none) = some c) (hl : (match sGo T k with | some o => Nat.blt i (sLen o.2.1) | none => false) = true) (h : kTy T pl hp) : ∃ v, hC hp k i v ∧ sCr [] c v := by
  obtain ⟨oT, ob, h1, h2, h3⟩ := h k hk
  rw [h1] at hT hl
  dsimp only at hT hl
  have hi : i < ob.2.length := by
    rw [h3.2.1.1]
    exact Nat.blt_eq.mp hl
  exact ⟨ob.2[i], ⟨ob, h2, List.getElem?_eq_getElem hi⟩, h3.2.1.2 i c _ hT (List.getElem?_eq_getElem hi)⟩
theorem ref_ty {T : sHp} {pl : List Nat} {hp : List vOb} {k i r : Nat} (hk : k ∈ pl) (hT : (match sGo T k with | some o => sRd o.2.1 i | none => none) = some (.inl (.inr (.inr (.inr (.inl (some r))))))) (hl : (match sGo T k with | some o => Nat.blt i (sLen o.2.1) | none => false) = true) (h : kTy T pl hp) : hC hp k i (.inr (.inr (.inr (.inl (some r))))) := by
  obtain ⟨v, v1, v2⟩ := kTy_cl hk hT hl h
  have e : v = .inr (.inr (.inr (.inl (some r)))) := v2
  rw [e] at v1
  exact v1
theorem cR_ty {T : sHp} {pl : List Nat} {k n hi b : Nat} {hp : List vOb} (hk : k ∈ pl) (hT : sGo T k = some (1, [(n, .inr [(2147483648, hi)])], [])) (hh : hi < 4294967296) (hb : hi ≤ 2147483648 + b) (h : kTy T pl hp) : cR hp k n b := fun i hi' => by
  obtain ⟨oT, ob, h1, h2, h3⟩ := h k hk
  rw [hT] at h1
  have e := Option.some.inj h1
  subst e
  have hl : ob.2.length = n := h3.2.1.1.trans (Nat.add_zero n)
  have hv := List.getElem?_eq_getElem (l := ob.2) (i := i) (by omega)
  obtain ⟨u, u1, u2⟩ := sCr_le (h3.2.1.2 i _ _ (sRd_one hi') hv) hh
  exact ⟨u, by omega, ob, h2, by rw [hv, u2]⟩
theorem eSh_ty {T : sHp} {pl : List Nat} {sh : List (Nat × Nat × Nat)} {hp : List vOb} (hb : sh.all (fun e => sStop e.1 pl && (match sGo T e.1 with
  | some o => Nat.beq o.1 e.2.1 && Nat.beq (sLen o.2.1) e.2.2
  | none => false)) = true) (h : kTy T pl hp) : eSh sh hp := fun e he => by
  have h1 := List.all_eq_true.mp hb e he
  rw [Bool.and_eq_true] at h1
  have h2 := h1.2
  split at h2
  · next o ho =>
    obtain ⟨oT, ob, g1, g2, g3⟩ := h e.1 (sStop_mem h1.1)
    rw [ho] at g1
    have e1 := Option.some.inj g1
    subst e1
    rw [Bool.and_eq_true] at h2
    exact ⟨ob, g2, g3.1.trans (Nat.eq_of_beq_eq_true h2.1), g3.2.1.1.trans (Nat.eq_of_beq_eq_true h2.2)⟩
  · cases h2
theorem eSh_mem {sh sh' : List (Nat × Nat × Nat)} {hp : List vOb} (h : eSh sh hp) (hm : ∀ e ∈ sh', e ∈ sh) : eSh sh' hp := fun e he => h e (hm e he)
