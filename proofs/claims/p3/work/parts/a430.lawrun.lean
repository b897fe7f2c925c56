/-! ===== a few steps of the machine, up to a call ===== -/
noncomputable def vGoN (tbl : vTbl) (sc : List vAV) : Nat → Nat → vLs → List vAV → List vOb → Nat → Nat → vRes
  | 0, pc, ls, st, hp, ce, sl => some (pc, ls, st, hp, ce, sl)
  | n + 1, pc, ls, st, hp, ce, sl => match vGet tbl pc with
    | none => none
    | some (i, len, a, b, t) => match vStep sc vTx i len a b t pc ls st hp with
      | some (pc', ls', st', hp') => vF pc' (fun q => vGoN tbl sc n q ls' st' hp' ce sl)
      | none => none
section VGON
variable {p : Program} {l : Launch} {e : Env} {R : Room} {s : State} {m : MethodId} {args : Array Value} {below : List Frame} {meth : Method} {c : Code} {Q : State → Prop}
variable {cc : ByteArray} {D : va_G} {A : Nat → Prop} {b sa sv nL : Nat} {own : String} {Ts : List Cond} {sc : List vAV}
theorem vGoN_ok {tbl : vTbl} (hx : p.tables.exec = Jvm.exec) (hb : c.code = cc) (hown : s.vm.findClass own = some m.cls) (hts : ∀ w ∈ Ts, w.before args s = true) (hsub : ∀ w ∈ WT, w ∈ Ts) (hsc : vScr b sa sv A s sc) (hX : vX sa sv A s s.heap)
    (hF : ∀ pc i len a b t, vGet tbl pc = some (i, len, a, b, t) → decode cc pc = .ok (i, len) ∧ vFacts vms vdf R own false pc i len a b t) :
    ∀ (n pc : Nat) (ls : vLs) (st : List vAV) (hp : List vOb) (ce sl : Nat) {pc' : Nat} {ls' : vLs} {st' : List vAV} {hp' : List vOb} {ce' sl' : Nat}, vGoN tbl sc n pc ls st hp ce sl = some (pc', ls', st', hp', ce', sl') →
      ∀ (ws : va_W) (tys : List (ClassId × FieldType)) (H : Heap) (locs : List Loc) (lsA : Array Slot) (stV : List Value), vW vwCl D A s b sa sv hp ws tys H locs → vL b sa sv (vAd ws) nL ls lsA → vT b sa sv (vAd ws) st stV → vK p l e R s m args below meth c Q vwCl D A b sa sv nL ws pc' ls' st' hp' ce' sl' →
        W p l e R s m args below meth c H locs ce sl Q (F0 m pc lsA stV) := by
  intro n
  induction n with
  | zero =>
    intro pc ls st hp ce sl pc' ls' st' hp' ce' sl' h ws tys H locs lsA stV hW hL hT kk
    simp only [vGoN] at h
    cases h
    exact kk ws tys H locs lsA stV hW hL hT (vSub2.rf _)
  | succ n ih =>
    intro pc ls st hp ce sl pc' ls' st' hp' ce' sl' h ws tys H locs lsA stV hW hL hT kk
    simp only [vGoN] at h
    split at h
    · cases h
    · next i len a b1 t hg =>
      obtain ⟨hdg, hFa⟩ := hF _ _ _ _ _ _ hg
      split at h
      · next pc2 ls2 st2 hp2 hs =>
        rw [vF_eq] at h
        exact vStep_ok hx hb hown hts hsub (fun h => by cases h) vcls hsc hX hW hL hT hdg hFa hs (fun ws2 tys2 H2 locs2 lsA2 stV2 hW2 hL2 hT2 hsb2 => ih _ _ _ _ _ _ h ws2 tys2 H2 locs2 lsA2 stV2 hW2 hL2 hT2 (fun ws3 tys3 H3 locs3 lsA3 stV3 hW3 hL3 hT3 hsb3 => kk ws3 tys3 H3 locs3 lsA3 stV3 hW3 hL3 hT3 (hsb2.tr hsb3)))
      · cases h
end VGON
/-! ===== the law's own steps ===== -/
def lRe (sc : List vAV) (κ κ' : kSt) : Prop := ∃ n, ∀ ce sl, vGoN vt_law2 sc n κ.1 κ.2.1 κ.2.2.1 κ.2.2.2 ce sl = some (κ'.1, κ'.2.1, κ'.2.2.1, κ'.2.2.2, ce, sl)
theorem lRe.rf {sc : List vAV} (κ : kSt) : lRe sc κ κ := ⟨0, fun ce sl => rfl⟩
theorem vGoN_add {tbl : vTbl} {sc : List vAV} : ∀ (n k pc : Nat) (ls : vLs) (st : List vAV) (hp : List vOb) (ce sl : Nat) {pc1 : Nat} {ls1 : vLs} {st1 : List vAV} {hp1 : List vOb}, vGoN tbl sc n pc ls st hp ce sl = some (pc1, ls1, st1, hp1, ce, sl) → vGoN tbl sc (n + k) pc ls st hp ce sl = vGoN tbl sc k pc1 ls1 st1 hp1 ce sl
  | 0, k, pc, ls, st, hp, ce, sl, pc1, ls1, st1, hp1, h => by
    simp only [vGoN] at h
    cases h
    rw [Nat.zero_add]
  | n + 1, k, pc, ls, st, hp, ce, sl, pc1, ls1, st1, hp1, h => by
    have e : n + 1 + k = (n + k) + 1 := by omega
    rw [e]
    simp only [vGoN] at h ⊢
    split at h
    · cases h
    · next i len a b t hg =>
      split at h
      · next pc2 ls2 st2 hp2 hs =>
        rw [vF_eq] at h
        rw [vF_eq]
        exact vGoN_add n k pc2 ls2 st2 hp2 ce sl h
      · cases h
theorem lRe.tr {sc : List vAV} {κ κ1 κ2 : kSt} (h1 : lRe sc κ κ1) (h2 : lRe sc κ1 κ2) : lRe sc κ κ2 := by
  obtain ⟨n1, h1⟩ := h1
  obtain ⟨n2, h2⟩ := h2
  exact ⟨n1 + n2, fun ce sl => (vGoN_add n1 n2 _ _ _ _ ce sl (h1 ce sl)).trans (h2 ce sl)⟩
theorem lRe_step {sc : List vAV} {pc pc' : Nat} {i : Instr} {len a b t : Nat} {ls ls' : vLs} {st st' : List vAV} {hp hp' : List vOb} (hg : vGet vt_law2 pc = some (i, len, a, b, t)) (hs : vStep sc vTx i len a b t pc ls st hp = some (pc', ls', st', hp')) : lRe sc (pc, ls, st, hp) (pc', ls', st', hp') := by
  refine ⟨1, fun ce sl => ?_⟩
  simp only [vGoN, hg, hs, vF_eq]
/-- the script's cell at i + c: symbol c + 1 -/
def lLd (i : Instr) (len pc : Nat) (st : List vAV) : Option (Nat × List vAV) := match i with
  | .iaload => (match st with
    | .inr (.inl (0, c)) :: .inr (.inr (.inr (.inr 0))) :: st' => bif Nat.blt c 6 then some (pc + len, .inr (.inl (c + 1, 0)) :: st') else none
    | _ => none)
  | _ => none
noncomputable def lRunL (stops : sSt → Bool) : Nat → sSt → Option (List sSt)
  | 0, _ => none
  | f + 1, (pc, ls, st, h, G) => match vGet vt_law2 pc with
    | none => none
    | some (i, len, a, b, t) => match sStep [] i len a b t pc ls st h G with
      | some L => sAll (fun σ => bif stops σ then some [σ] else lRunL stops f σ) L
      | none => match lLd i len pc st with
        | some (q, st') => bif stops (q, ls, st', h, G) then some [(q, ls, st', h, G)] else lRunL stops f (q, ls, st', h, G)
        | none => none
/-- what the symbols are: the place in the script, and its six numbers from there -/
def lEnv (sc : List vAV) (i0 : Nat) (ρ : List Nat) : Prop := ρ[0]? = some (sBi i0) ∧ i0 < 65000 ∧ ∀ c, c < 6 → ∃ w, w < 4294967296 ∧ sc[i0 + c]? = some (.inl w) ∧ ρ[c + 1]? = some (sBi w)
theorem lEnv_app {sc : List vAV} {i0 : Nat} {ρ : List Nat} (xs : List Nat) (h : lEnv sc i0 ρ) : lEnv sc i0 (ρ ++ xs) := ⟨sApp_get xs h.1, h.2.1, fun c hc => by
  obtain ⟨w, w1, w2, w3⟩ := h.2.2 c hc
  exact ⟨w, w1, w2, sApp_get xs w3⟩⟩
theorem lLd_ok {sc : List vAV} {i0 : Nat} {ρ : List Nat} (hE : lEnv sc i0 ρ) {i : Instr} {len a b t pc q : Nat} {st st' ks : List vAV} {kl : vLs} {hp : List vOb} (h : lLd i len pc st = some (q, st')) (ht : sTr ρ st ks) : ∃ ks', vStep sc vTx i len a b t pc kl ks hp = some (q, kl, ks', hp) ∧ sTr ρ st' ks' := by
  unfold lLd at h
  split at h
  · split at h
    · next c st1 =>
      cases hb : Nat.blt c 6 with
      | false => rw [hb] at h; cases h
      | true =>
        rw [hb, cond_true] at h
        have hc := Nat.blt_eq.mp hb
        cases h
        obtain ⟨w, w1, w2, w3⟩ := hE.2.2 c hc
        match ks, ht with
        | [], ht => exact ht.elim
        | [_], ht => exact ht.2.elim
        | k1 :: k2 :: kr, ht =>
          obtain ⟨⟨r, r1, r2⟩, h2, h3⟩ := ht
          have r1 : ρ[0]? = some r := r1
          rw [hE.1] at r1
          have r1 := Option.some.inj r1
          have h2 : k2 = .inr (.inr (.inr (.inr 0))) := h2
          rw [← r1, sUn_add, sUn_bi (by have := hE.2.1; omega), Nat.mod_eq_of_lt (by have := hE.2.1; omega)] at r2
          subst h2 r2
          refine ⟨.inl w :: kr, ?_, ⟨_, w3, by rw [sUn_bi w1]⟩, h3⟩
          show vAld 1 1 (pc + len) sc vTx kl (.inl (i0 + c) :: .inr (.inr (.inr (.inr 0))) :: kr) hp = _
          unfold vAld
          have hlt : Nat.blt (i0 + c) 65536 = true := Nat.blt_eq.mpr (by have := hE.2.1; omega)
          simp only [vNth_eq, w2, hlt, Nat.beq_refl, Bool.and_self, cond_true]
    · cases h
  · cases h
theorem lRunL_ok {sc : List vAV} {i0 : Nat} {stops : sSt → Bool} {hp0 : List vOb} : ∀ (f : Nat) (σ : sSt) (L : List sSt), lRunL stops f σ = some L → ∀ (ρ : List Nat) (kl : vLs) (ks : List vAV) (hp : List vOb), lEnv sc i0 ρ → sR [] hp0 ρ σ.2.1 σ.2.2.1 σ.2.2.2.1 σ.2.2.2.2 kl ks hp →
    ∃ σ' ∈ L, ∃ xs kl' ks' hp', lRe sc (σ.1, kl, ks, hp) (σ'.1, kl', ks', hp') ∧ sR [] hp0 (ρ ++ xs) σ'.2.1 σ'.2.2.1 σ'.2.2.2.1 σ'.2.2.2.2 kl' ks' hp'
  | 0, _, _, h, _, _, _, _, _, _ => by cases h
  | f + 1, (pc, ls, st, h, G), L, he, ρ, kl, ks, hp, hE, hR => by
    unfold lRunL at he
    split at he
    · cases he
    · next i len a b t hg =>
      split at he
      · next L1 hL1 =>
        obtain ⟨pc1, kl1, ks1, hp1, e1, σ1, e2, e3, xs, e4⟩ := sStep_ok (sc := sc) (tx := vTx) hR hL1
        obtain ⟨A, a1, a2⟩ := sAll_mem he σ1 e2
        have hk := lRe_step hg e1
        subst e3
        cases hb : stops σ1 with
        | true =>
          rw [hb, cond_true] at a1
          cases a1
          exact ⟨σ1, a2 _ List.mem_cons_self, xs, kl1, ks1, hp1, hk, e4⟩
        | false =>
          rw [hb, cond_false] at a1
          obtain ⟨σ', s1, ys, kl', ks', hp', s2, s3⟩ := lRunL_ok f σ1 A a1 (ρ ++ xs) kl1 ks1 hp1 (lEnv_app xs hE) e4
          rw [List.append_assoc] at s3
          exact ⟨σ', a2 _ s1, xs ++ ys, kl', ks', hp', hk.tr s2, s3⟩
      · split at he
        · next q st' hl =>
          obtain ⟨ks', k1, k2⟩ := lLd_ok (a := a) (b := b) (t := t) (kl := kl) (hp := hp) hE hl hR.2.1
          have hk := lRe_step hg k1
          have hR' : sR [] hp0 ρ ls st' h G kl ks' hp := ⟨hR.1, k2, hR.2.2⟩
          cases hb : stops (q, ls, st', h, G) with
          | true =>
            rw [hb, cond_true] at he
            cases he
            exact ⟨_, List.mem_cons_self, [], kl, ks', hp, hk, by rw [List.append_nil]; exact hR'⟩
          | false =>
            rw [hb, cond_false] at he
            obtain ⟨σ', s1, ys, kl2, ks2, hp2, s2, s3⟩ := lRunL_ok f _ L he ρ kl ks' hp hE hR'
            exact ⟨σ', s1, ys, kl2, ks2, hp2, hk.tr s2, s3⟩
        · cases he
theorem sFr_eq {hp hp' : List vOb} (h : sFr [] hp hp') : hp' = hp := by
  refine List.ext_getElem? (fun k => ?_)
  by_cases hk : k < hp.length
  · have h1 : hp[k]? = some hp[k] := List.getElem?_eq_getElem hk
    rw [row_same h rfl h1, h1]
  · rw [List.getElem?_eq_none (by have := h.1; omega), List.getElem?_eq_none (by omega)]
/-- the script is the script -/
def lScr (a : vAV) (c : sC) : Bool := match a, c with
  | .inr (.inr (.inr (.inr 0))), .inl (.inr (.inr (.inr (.inr 0)))) => true
  | _, _ => false
theorem lScr_ok {ρ : List Nat} {a v : vAV} {c : sC} (ha : sV ρ a v) (h : lScr a c = true) : sCr ρ c v := by
  unfold lScr at h
  split at h
  · exact ha
  · cases h
noncomputable def lLe (G : sG) : List (Option sC) → vLs → Bool
  | [], [] => true
  | none :: cs, _ :: as => lLe G cs as
  | some c :: cs, some a :: as => (nCe G a c || lScr a c) && lLe G cs as
  | _, _ => false
theorem lLe_ok {ρ : List Nat} {G : sG} (hG : sGr ρ G) : ∀ {cs : List (Option sC)} {as vs : vLs}, lLe G cs as = true → sLr ρ as vs → nLr ρ cs vs
  | [], [], [], _, _ => trivial
  | [], [], _ :: _, _, h => h.elim
  | [], _ :: _, _, h, _ => by cases h
  | none :: _, [], _, h, _ => by cases h
  | some _ :: _, [], _, h, _ => by cases h
  | some _ :: _, none :: _, _, h, _ => by cases h
  | none :: cs, a :: as, [], _, h => h.elim
  | none :: cs, a :: as, v :: vs, h, ht => ⟨fun c hc => (by cases hc), lLe_ok hG h ht.2⟩
  | some c :: cs, some a :: as, [], _, h => h.elim
  | some c :: cs, some a :: as, v :: vs, h, ht => by
    unfold lLe at h
    rw [Bool.and_eq_true] at h
    refine ⟨fun c' hc => ?_, lLe_ok hG h.2 ht.2⟩
    cases hc
    obtain ⟨y, y1, y2⟩ := ht.1 _ rfl
    rcases Bool.or_eq_true_iff.mp h.1 with h1 | h1
    · exact ⟨y, y1, nCe_ok hG y2 h1⟩
    · exact ⟨y, y1, lScr_ok y2 h1⟩
/-- a piece of the law, from node to node; the heap stays -/
noncomputable def lChk (G0 : sG) (stops : List Nat) (fuel : Nat) (A : nN) (Bs : List nN) : Bool := match lRunL (fun σ => sStop σ.1 stops) fuel (A.1, (nIl A.2.1 G0).1, (nIs A.2.2.1 (nIl A.2.1 G0).2).1, [], (nIs A.2.2.1 (nIl A.2.1 G0).2).2) with
  | some L => L.all (fun σ => Bs.any (fun B => Nat.beq σ.1 B.1 && (lLe σ.2.2.2.2 B.2.1 σ.2.1 && nAe σ.2.2.2.2 B.2.2.1 σ.2.2.1)))
  | none => false
theorem l_ok {sc : List vAV} {i0 : Nat} {G0 : sG} {stops : List Nat} {fuel : Nat} {A : nN} {Bs : List nN} (h : lChk G0 stops fuel A Bs = true) {ρ : List Nat} (hE : lEnv sc i0 ρ) (hG : sGr ρ G0) {pc : Nat} {kl : vLs} {ks : List vAV} {hp : List vOb} (hA : pc = A.1 ∧ nLr ρ A.2.1 kl ∧ nAr ρ A.2.2.1 ks) :
    ∃ pc' kl' ks' B xs, B ∈ Bs ∧ lRe sc (pc, kl, ks, hp) (pc', kl', ks', hp) ∧ pc' = B.1 ∧ nLr (ρ ++ xs) B.2.1 kl' ∧ nAr (ρ ++ xs) B.2.2.1 ks' := by
  obtain ⟨a1, a2, a3⟩ := hA
  subst a1
  unfold lChk at h
  split at h
  · next L hL =>
    obtain ⟨xs, g1, g2⟩ := nIl_ok a2 hG
    obtain ⟨ys, g3, g4⟩ := nIs_ok (nAr_app xs a3) g1
    obtain ⟨σ', s1, zs, kl', ks', hp', s2, s3⟩ := lRunL_ok (sc := sc) (i0 := i0) (hp0 := hp) fuel _ L hL (ρ ++ xs ++ ys) kl ks hp (lEnv_app ys (lEnv_app xs hE)) ⟨sLr_app ys g2, g4, fun e he => (by cases he), g3, sFr.rf _ _⟩
    have hall := List.all_eq_true.mp h σ' s1
    obtain ⟨B, b1, b2⟩ := List.any_eq_true.mp hall
    rw [Bool.and_eq_true, Bool.and_eq_true] at b2
    obtain ⟨c1, c2, c3⟩ := b2
    have e := sFr_eq s3.2.2.2.2
    subst e
    refine ⟨σ'.1, kl', ks', B, xs ++ ys ++ zs, b1, s2, Nat.eq_of_beq_eq_true c1, ?_, ?_⟩
    · have e : ρ ++ (xs ++ ys ++ zs) = ρ ++ xs ++ ys ++ zs := by rw [List.append_assoc, List.append_assoc, List.append_assoc]
      rw [e]
      exact lLe_ok s3.2.2.2.1 c2 s3.1
    · have e : ρ ++ (xs ++ ys ++ zs) = ρ ++ xs ++ ys ++ zs := by rw [List.append_assoc, List.append_assoc, List.append_assoc]
      rw [e]
      exact nAe_ok s3.2.2.2.1 c3 s3.2.1
  · cases h
