/-! ===== contracts whose end is one of several typings ===== -/
def pOK (vms : List vMt) (df : List (List vAV)) (d : Nat) (T : sHp) (Ts : List sHp) (e : sCtE) : Prop := ∀ (kav : List vAV) (hp : List vOb), sAr e.2.1 kav → kTy T e.2.2.1 hp → ∃ r hp', (∃ N, ∀ fuel, N ≤ fuel → vCalD vms df fuel d e.1 kav hp = some (r, hp', 0, 0)) ∧ sRtC e.2.2.2.1 r ∧ sFr e.2.2.2.2 hp hp' ∧ ∃ T' ∈ Ts, kTy T' e.2.2.1 hp'
theorem pOK_one {vms : List vMt} {df : List (List vAV)} {d : Nat} {T : sHp} {e : sCtE} (h : cOK vms df d T e) : pOK vms df d T [T] e := by
  intro kav hp h1 h2
  obtain ⟨r, hp', q1, q2, q3, q4⟩ := h kav hp h1 h2
  exact ⟨r, hp', q1, q2, q3, T, List.mem_cons_self, q4⟩
noncomputable def cFinS (Ts : List sHp) (M : vMt) (e : sCtE) (σ : sSt) : Bool := match vGet M.2.2.2.2.1 σ.1 with
  | some x => sFin x.1 && (match sRetV M.2.2.2.1 x.1 σ.2.2.1 σ.2.2.2.2 with
    | some r => sRtB σ.2.2.2.2 r e.2.2.2.1 && Ts.any (fun T => sTlc σ.2.2.2.2 T σ.2.2.2.1 e.2.2.1)
    | none => false)
  | none => false
noncomputable def cChkS (vms : List vMt) (T : sHp) (Ts : List sHp) (scal : sCal) (fuel : Nat) (e : sCtE) (sk : sOp) (spl : List (Nat × Nat × Nat)) (cuts : List sCut) : Bool := match vNth vms e.1, sTp T e.2.2.1 with
  | some M, some h0 => (Nat.beq (mRm M).cells 0 && (Nat.beq (mRm M).slots 0 && Nat.ble (sArgs (sIni e.2.1 (0, [], [])).1).length M.2.2.1)) && ((match sSpl spl [(0, sEnt (sIni e.2.1 (0, [], [])).1 M.2.2.1, [], h0, (sIni e.2.1 (0, [], [])).2)] with
      | some L => L.all (fun σ => sMch sk scal e.2.2.2.2 M.2.2.2.2.1 fuel cuts (cFinS Ts M e) none σ)
      | none => false) && cuts.all (fun c => rOk c.1.2.2.2.2 c.2.2 && sMch sk scal e.2.2.2.2 M.2.2.2.2.1 fuel cuts (cFinS Ts M e) (some c.2.2) c.1))
  | _, _ => false
def cQS (Ts : List sHp) (M : vMt) (e : sCtE) (hp : List vOb) (κ : kSt) : Prop := ∃ i len a b t kr, vGet M.2.2.2.2.1 κ.1 = some (i, len, a, b, t) ∧ sFin i = true ∧ vRet M.2.2.2.1 i κ.2.2.1 = some kr ∧ sRtC e.2.2.2.1 kr ∧ sFr e.2.2.2.2 hp κ.2.2.2 ∧ ∃ T' ∈ Ts, kTy T' e.2.2.1 κ.2.2.2
theorem pOK_of {vms : List vMt} {df : List (List vAV)} {d : Nat} {T : sHp} {Ts : List sHp} {scal : sCal} {fuel : Nat} {e : sCtE} {sk : sOp} {spl : List (Nat × Nat × Nat)} {cuts : List sCut} (hs : ∀ hp0, sCalOK vms df d e.2.2.2.2 hp0 scal) (h : cChkS vms T Ts scal fuel e sk spl cuts = true) : pOK vms df (d + 1) T Ts e := by
  intro kav hp hav hty
  unfold cChkS at h
  rw [vNth_eq] at h
  split at h
  · next M h0 hM hh0 =>
    rw [Bool.and_eq_true, Bool.and_eq_true, Bool.and_eq_true, Bool.and_eq_true] at h
    obtain ⟨⟨b1, b2, b3⟩, b4, b5⟩ := h
    have hG0 : sGr [] (0, [], []) := ⟨rfl, fun e he => (by cases he), fun t ht => (by cases ht)⟩
    obtain ⟨xs, i1, i2⟩ := sIni_ok hav hG0
    rw [List.nil_append] at i1 i2
    obtain ⟨q1, q2⟩ := sEnt_ok i2 M.2.2.1
    have hQ : ∀ (σ : sSt) (ρ : List Nat) (kl : vLs) (ks : List vAV) (hp1 : List vOb), cFinS Ts M e σ = true → sR e.2.2.2.2 hp ρ σ.2.1 σ.2.2.1 σ.2.2.2.1 σ.2.2.2.2 kl ks hp1 → cQS Ts M e hp (σ.1, kl, ks, hp1) := by
      intro σ ρ kl ks hp1 hfin hR
      unfold cFinS at hfin
      split at hfin
      · next x hx =>
        obtain ⟨i, len, a, b, t⟩ := x
        rw [Bool.and_eq_true] at hfin
        have h2 := hfin.2
        split at h2
        · next r hr =>
          rw [Bool.and_eq_true] at h2
          obtain ⟨kr, r1, r2⟩ := sRetV_ok hR.2.2.2.1 hR.2.1 hr
          obtain ⟨T', t1, t2⟩ := List.any_eq_true.mp h2.2
          exact ⟨i, len, a, b, t, kr, hx, hfin.1, r1, sRtB_ok hR.2.2.2.1 h2.1 r2, hR.2.2.2.2, T', t1, sTlc_ok hR.2.2.2.1 hR.2.2.1 t2⟩
        · cases h2
      · cases hfin
    split at b4
    · next L hL =>
      obtain ⟨σ, s1, s2, ρ, s3⟩ := sSpl_ok (md := e.2.2.2.2) (hp0 := hp) (kl := vEnt kav M.2.2.1) (ks := []) (hp := hp) (pc := 0) hL ⟨_, List.mem_cons_self, rfl, xs, q1, trivial, sHr_nil (sTp_ok hh0 hty), i1, sFr.rf _ _⟩
      have h1 := List.all_eq_true.mp b4 σ s1
      obtain ⟨κ, k1, i, len, a, b, t, kr, g1, g2, g3, g4, g5, g6⟩ := sWhole (Q := cQS Ts M e hp) (mc := 0) (ms := 0) (hs hp) hQ (fun c hc => by
        have := List.all_eq_true.mp b5 c hc
        rw [Bool.and_eq_true] at this
        exact this) h1 s3
      rw [s2] at k1
      refine ⟨kr, κ.2.2.2, kCal_of hM ?_ (Nat.eq_of_beq_eq_true b1) (Nat.eq_of_beq_eq_true b2) k1 g1 g2 g3, g4, g5, g6⟩
      rw [q2]
      exact Nat.le_of_ble_eq_true b3
    · cases b4
  · cases h
/-- places of which two typings say the same -/
def tSame (f : Nat) (pl : List Nat) : Bool := !sStop f pl
theorem kTy_cons {f : Nat} {o : sOb} {T : sHp} {pl : List Nat} {hp : List vOb} (h : tSame f pl = true) : kTy ((f, o) :: T) pl hp ↔ kTy T pl hp := by
  have hn : ∀ k ∈ pl, sGo ((f, o) :: T) k = sGo T k := by
    intro k hk
    have : ∀ {l : List Nat}, k ∈ l → sStop f l = false → f ≠ k := by
      intro l
      induction l with
      | nil => intro h; cases h
      | cons a l ih =>
        intro h1 h2
        unfold sStop at h2
        rw [Bool.or_eq_false_iff] at h2
        rcases List.mem_cons.mp h1 with e | e
        · intro e2
          rw [e2, e] at h2
          have := h2.1
          rw [Nat.beq_refl] at this
          cases this
        · exact ih e h2.2
    have hs : sStop f pl = false := by
      unfold tSame at h
      cases hb : sStop f pl with
      | false => rfl
      | true => rw [hb] at h; cases h
    have hne := this hk hs
    have hb : Nat.beq f k = false := by
      cases hb : Nat.beq f k with
      | false => rfl
      | true => exact absurd (Nat.eq_of_beq_eq_true hb) hne
    show (bif Nat.beq f k then some o else sGo T k) = sGo T k
    rw [hb, cond_false]
  constructor
  · intro h1 k hk
    obtain ⟨oT, ob, t1, t2⟩ := h1 k hk
    exact ⟨oT, ob, by rw [← hn k hk]; exact t1, t2⟩
  · intro h1 k hk
    obtain ⟨oT, ob, t1, t2⟩ := h1 k hk
    exact ⟨oT, ob, by rw [hn k hk]; exact t1, t2⟩
theorem cOK_cons {vms : List vMt} {df : List (List vAV)} {d : Nat} {f : Nat} {o : sOb} {T : sHp} {e : sCtE} (hs : tSame f e.2.2.1 = true) (h : cOK vms df d T e) : cOK vms df d ((f, o) :: T) e := by
  intro kav hp h1 h2
  obtain ⟨r, hp', q1, q2, q3, q4⟩ := h kav hp h1 ((kTy_cons hs).mp h2)
  exact ⟨r, hp', q1, q2, q3, (kTy_cons hs).mpr q4⟩
