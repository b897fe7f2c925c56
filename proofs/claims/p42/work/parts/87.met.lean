/-! ===== a contract by the symbolic machine ===== -/
def sIni : List sC → sG → List vAV × sG
  | [], G => ([], G)
  | .inl a :: cs, G => ((a :: (sIni cs G).1), (sIni cs G).2)
  | .inr S :: cs, G => ((.inr (.inl (G.1, 0)) :: (sIni cs (sNew G S)).1), (sIni cs (sNew G S)).2)
theorem sV_nil {ρ : List Nat} {a v : vAV} (h : sV [] a v) : sV ρ a v := by
  have := sV_app ρ h
  rw [List.nil_append] at this
  exact this
theorem sIni_ok : ∀ {cs : List sC} {vs : List vAV} {G : sG} {ρ : List Nat}, sAr cs vs → sGr ρ G → ∃ xs, sGr (ρ ++ xs) (sIni cs G).2 ∧ sTr (ρ ++ xs) (sIni cs G).1 vs
  | [], [], G, ρ, _, hG => ⟨[], by rw [List.append_nil]; exact ⟨hG, trivial⟩⟩
  | [], _ :: _, _, _, h, _ => h.elim
  | _ :: _, [], _, _, h, _ => h.elim
  | .inl a :: cs, v :: vs, G, ρ, h, hG => by
    obtain ⟨xs, h1, h2⟩ := sIni_ok h.2 hG
    exact ⟨xs, h1, sV_nil h.1, h2⟩
  | .inr S :: cs, v :: vs, G, ρ, h, hG => by
    obtain ⟨u, u1, u2, rfl⟩ := h.1
    obtain ⟨xs, h1, h2⟩ := sIni_ok h.2 (sGr_new hG (sBi_lt u) u2)
    refine ⟨sBi u :: xs, ?_⟩
    have e : ρ ++ (sBi u :: xs) = (ρ ++ [sBi u]) ++ xs := by simp
    rw [e]
    exact ⟨h1, sV_app xs (sV_new hG u1), h2⟩
theorem sTp_ok {T : sHp} {hp : List vOb} : ∀ {pl : List Nat} {h : sHp}, sTp T pl = some h → kTy T pl hp → sHr [] h hp
  | [], h, he, _ => by cases he; exact fun e he => by cases he
  | k :: pl, h, he, hty => by
    unfold sTp at he
    split at he
    · next o h1 ho hh =>
      cases he
      have ih := sTp_ok hh (fun k' hk' => hty k' (List.mem_cons_of_mem _ hk'))
      intro e he
      rcases List.mem_cons.mp he with e1 | e1
      · obtain ⟨oT, ob, t1, t2, t3⟩ := hty k List.mem_cons_self
        rw [ho] at t1
        cases t1
        rw [e1]
        exact ⟨ob, t2, t3⟩
      · exact ih e e1
    · cases he
theorem sHr_nil {ρ : List Nat} {h : sHp} {hp : List vOb} (hh : sHr [] h hp) : sHr ρ h hp := by
  have := sHr_app ρ hh
  rw [List.nil_append] at this
  exact this
noncomputable def sSpl1 (s : Nat × Nat × Nat) (σ : sSt) : Option (List sSt) := bif Nat.beq s.1 0 then (match vNth σ.2.1 s.2.1 with
    | some (some a) => (match sSetOf σ.2.2.2.2 a with
      | some S => some (sFk σ.1 σ.2.1 σ.2.2.1 σ.2.2.2.1 σ.2.2.2.2 a (sHi S + 1 - sLo S) (sLo S))
      | none => none)
    | _ => none) else (match sGo σ.2.2.2.1 s.2.1 with
    | some o => (match sReadK σ.2.2.2.1 σ.2.2.2.2 s.2.1 s.2.2 o with
      | some (h1, G1, v) => (match sSetOf G1 v with
        | some S => some (sFk σ.1 σ.2.1 σ.2.2.1 h1 G1 v (sHi S + 1 - sLo S) (sLo S))
        | none => none)
      | none => none)
    | none => none)
noncomputable def sSpl : List (Nat × Nat × Nat) → List sSt → Option (List sSt)
  | [], L => some L
  | s :: ss, L => match sAll (sSpl1 s) L with
    | some L' => sSpl ss L'
    | none => none
section SME
variable {md : sMd} {hp0 : List vOb}
theorem sFk_ok {pc : Nat} {ls : vLs} {st : List vAV} {h : sHp} {G : sG} {v : vAV} {kl : vLs} {ks : List vAV} {hp : List vOb} {ρ : List Nat} {u : Nat} (hR : sR md hp0 ρ ls st h G kl ks hp) (hv : sV ρ v (.inl u)) : ∀ n x : Nat, x ≤ sBi u → sBi u < x + n → sSome md hp0 (sFk pc ls st h G v n x) pc kl ks hp
  | 0, x, h1, h2 => by omega
  | n + 1, x, h1, h2 => by
    unfold sFk
    by_cases hx : sBi u = x
    · obtain ⟨G', g1, g2⟩ := sRef_ok hR.2.2.2.1 hv (S := [(x, x)]) (sIn_one (by omega) (by omega))
      rw [g1]
      exact ⟨_, List.mem_cons_self, rfl, ρ, hR.1, hR.2.1, hR.2.2.1, g2, hR.2.2.2.2⟩
    · obtain ⟨σ, s1, s2⟩ := sFk_ok hR hv n (x + 1) (by omega) (by omega)
      split
      · exact ⟨σ, List.mem_cons_of_mem _ s1, s2⟩
      · exact ⟨σ, s1, s2⟩
theorem sSpl1_ok {s : Nat × Nat × Nat} {σ : sSt} {L : List sSt} {kl : vLs} {ks : List vAV} {hp : List vOb} {ρ : List Nat} (hR : sR md hp0 ρ σ.2.1 σ.2.2.1 σ.2.2.2.1 σ.2.2.2.2 kl ks hp) (he : sSpl1 s σ = some L) : sSome md hp0 L σ.1 kl ks hp := by
  unfold sSpl1 at he
  cases hb : Nat.beq s.1 0 with
  | true =>
    rw [hb, cond_true, vNth_eq] at he
    split at he
    · next a ha =>
      obtain ⟨y, -, y2⟩ := sLr_get hR.1 _ a ha
      split at he
      · next S hS =>
        cases he
        obtain ⟨u, -, rfl, i⟩ := sSetOf_ok hR.2.2.2.1 y2 hS
        have b := sIn_lohi i
        exact sFk_ok hR y2 _ _ b.1 (by omega)
      · cases he
    · cases he
  | false =>
    rw [hb, cond_false] at he
    split at he
    · next o ho =>
      split at he
      · next h1 G1 v hrd =>
        obtain ⟨hl, ht, hh, hG, hf⟩ := hR
        obtain ⟨ob, o1, o2⟩ := sHr_get hh ho
        obtain ⟨xs, w, -, w2, w3, w4⟩ := sReadK_ok hh hG o1 o2 hrd
        split at he
        · next S hS =>
          cases he
          obtain ⟨u, -, rfl, i⟩ := sSetOf_ok w3 w4 hS
          have b := sIn_lohi i
          exact sFk_ok ⟨sLr_app xs hl, sTr_app xs ht, w2, w3, hf⟩ w4 _ _ b.1 (by omega)
        · cases he
      · cases he
    · cases he
theorem sSpl_ok {kl : vLs} {ks : List vAV} {hp : List vOb} {pc : Nat} : ∀ {ss : List (Nat × Nat × Nat)} {L L' : List sSt}, sSpl ss L = some L' → sSome md hp0 L pc kl ks hp → sSome md hp0 L' pc kl ks hp
  | [], L, L', he, h => by cases he; exact h
  | s :: ss, L, L', he, ⟨σ, s1, s2, ρ, hR⟩ => by
    unfold sSpl at he
    split at he
    · next L1 hL1 =>
      obtain ⟨A, a1, a2⟩ := sAll_mem hL1 σ s1
      obtain ⟨σ', t1, t2, t3⟩ := sSpl1_ok hR a1
      exact sSpl_ok he ⟨σ', a2 _ t1, t2.trans s2, t3⟩
    · cases he
end SME
noncomputable def sRtB (G : sG) (r : Option vAV) (rt : Option sC) : Bool := match r, rt with
  | none, none => true
  | some a, some c => sCle G (.inl a) c
  | _, _ => false
theorem sRtB_ok {ρ : List Nat} {G : sG} {r kr : Option vAV} {rt : Option sC} (hG : sGr ρ G) (h : sRtB G r rt = true) (hr : sRt ρ r kr) : sRtC rt kr := by
  match r, rt, kr, hr with
  | none, none, none, _ => trivial
  | some a, some c, some v, hr => exact sCle_ok (c := .inl a) hG hr h
  | none, some _, _, _ => cases h
  | some _, none, _, _ => cases h
noncomputable def cFin (T : sHp) (M : vMt) (e : sCtE) (σ : sSt) : Bool := match vGet M.2.2.2.2.1 σ.1 with
  | some x => sFin x.1 && (match sRetV M.2.2.2.1 x.1 σ.2.2.1 σ.2.2.2.2 with
    | some r => sRtB σ.2.2.2.2 r e.2.2.2.1 && sTlc σ.2.2.2.2 T σ.2.2.2.1 e.2.2.1
    | none => false)
  | none => false
/-- the whole check of a contract -/
noncomputable def cChk (vms : List vMt) (T : sHp) (scal : sCal) (fuel : Nat) (e : sCtE) (sk : sOp) (spl : List (Nat × Nat × Nat)) (cuts : List sCut) : Bool := match vNth vms e.1, sTp T e.2.2.1 with
  | some M, some h0 => (Nat.beq (mRm M).cells 0 && (Nat.beq (mRm M).slots 0 && Nat.ble (sArgs (sIni e.2.1 (0, [], [])).1).length M.2.2.1)) && ((match sSpl spl [(0, sEnt (sIni e.2.1 (0, [], [])).1 M.2.2.1, [], h0, (sIni e.2.1 (0, [], [])).2)] with
      | some L => L.all (fun σ => sMch sk scal e.2.2.2.2 M.2.2.2.2.1 fuel cuts (cFin T M e) none σ)
      | none => false) && cuts.all (fun c => rOk c.1.2.2.2.2 c.2.2 && sMch sk scal e.2.2.2.2 M.2.2.2.2.1 fuel cuts (cFin T M e) (some c.2.2) c.1))
  | _, _ => false
def cQ (T : sHp) (M : vMt) (e : sCtE) (hp : List vOb) (κ : kSt) : Prop := ∃ i len a b t kr, vGet M.2.2.2.2.1 κ.1 = some (i, len, a, b, t) ∧ sFin i = true ∧ vRet M.2.2.2.1 i κ.2.2.1 = some kr ∧ sRtC e.2.2.2.1 kr ∧ sFr e.2.2.2.2 hp κ.2.2.2 ∧ kTy T e.2.2.1 κ.2.2.2
theorem cOK_of {vms : List vMt} {df : List (List vAV)} {d : Nat} {T : sHp} {scal : sCal} {fuel : Nat} {e : sCtE} {sk : sOp} {spl : List (Nat × Nat × Nat)} {cuts : List sCut} (hs : ∀ hp0, sCalOK vms df d e.2.2.2.2 hp0 scal) (h : cChk vms T scal fuel e sk spl cuts = true) : cOK vms df (d + 1) T e := by
  intro kav hp hav hty
  unfold cChk at h
  rw [vNth_eq] at h
  split at h
  · next M h0 hM hh0 =>
    rw [Bool.and_eq_true, Bool.and_eq_true, Bool.and_eq_true, Bool.and_eq_true] at h
    obtain ⟨⟨b1, b2, b3⟩, b4, b5⟩ := h
    have hG0 : sGr [] (0, [], []) := ⟨rfl, fun e he => (by cases he), fun t ht => (by cases ht)⟩
    obtain ⟨xs, i1, i2⟩ := sIni_ok hav hG0
    rw [List.nil_append] at i1 i2
    obtain ⟨q1, q2⟩ := sEnt_ok i2 M.2.2.1
    have hQ : ∀ (σ : sSt) (ρ : List Nat) (kl : vLs) (ks : List vAV) (hp1 : List vOb), cFin T M e σ = true → sR e.2.2.2.2 hp ρ σ.2.1 σ.2.2.1 σ.2.2.2.1 σ.2.2.2.2 kl ks hp1 → cQ T M e hp (σ.1, kl, ks, hp1) := by
      intro σ ρ kl ks hp1 hfin hR
      unfold cFin at hfin
      split at hfin
      · next x hx =>
        obtain ⟨i, len, a, b, t⟩ := x
        rw [Bool.and_eq_true] at hfin
        have h2 := hfin.2
        split at h2
        · next r hr =>
          rw [Bool.and_eq_true] at h2
          obtain ⟨kr, r1, r2⟩ := sRetV_ok hR.2.2.2.1 hR.2.1 hr
          exact ⟨i, len, a, b, t, kr, hx, hfin.1, r1, sRtB_ok hR.2.2.2.1 h2.1 r2, hR.2.2.2.2, sTlc_ok hR.2.2.2.1 hR.2.2.1 h2.2⟩
        · cases h2
      · cases hfin
    split at b4
    · next L hL =>
      obtain ⟨σ, s1, s2, ρ, s3⟩ := sSpl_ok (md := e.2.2.2.2) (hp0 := hp) (kl := vEnt kav M.2.2.1) (ks := []) (hp := hp) (pc := 0) hL ⟨_, List.mem_cons_self, rfl, xs, q1, trivial, sHr_nil (sTp_ok hh0 hty), i1, sFr.rf _ _⟩
      have h1 := List.all_eq_true.mp b4 σ s1
      obtain ⟨κ, k1, i, len, a, b, t, kr, g1, g2, g3, g4, g5, g6⟩ := sWhole (Q := cQ T M e hp) (mc := 0) (ms := 0) (hs hp) hQ (fun c hc => by
        have := List.all_eq_true.mp b5 c hc
        rw [Bool.and_eq_true] at this
        exact this) h1 s3
      rw [s2] at k1
      refine ⟨kr, κ.2.2.2, kCal_of hM ?_ (Nat.eq_of_beq_eq_true b1) (Nat.eq_of_beq_eq_true b2) k1 g1 g2 g3, g4, g5, g6⟩
      rw [q2]
      exact Nat.le_of_ble_eq_true b3
    · cases b4
  · cases h
