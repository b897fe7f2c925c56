section
/-! ===== a few steps of the machine, up to a call ===== -/
noncomputable def vGoN (tbl : vTbl) (sc : List vAV) : Nat → Nat → vLs → List vAV → List vOb → Nat → Nat → vRes
  | 0, pc, ls, st, hp, ce, sl => some (pc, ls, st, hp, ce, sl)
  | n + 1, pc, ls, st, hp, ce, sl => match vGet tbl pc with
    | none => none
    | some (i, len, a, b, t) => match vStep sc vTx i len a b t pc ls st hp with
      | some (pc', ls', st', hp') => vF pc' (fun q => vGoN tbl sc n q ls' st' hp' ce sl)
      | none => none
section VGON
variable {p : Program} {l : Launch} {e : Env} {R : Room} {s : State} {m : MethodId} {args : Array Value} {below : List Frame} {meth : Method} {c : Code} {Q : State → Prop}
variable {cc : ByteArray} {D : va_G} {A : Nat → Prop} {b sa sv nL : Nat} {own : String} {Ts : List Cond} {sc : List vAV}
theorem vGoN_ok {tbl : vTbl} (hx : p.tables.exec = Jvm.exec) (hb : c.code = cc) (hown : s.vm.findClass own = some m.cls) (hts : ∀ w ∈ Ts, w.before args s = true) (hsub : ∀ w ∈ WT, w ∈ Ts) (hsc : vScr b sa sv A s sc) (hX : vX sa sv A s s.heap)
    (hF : ∀ pc i len a b t, vGet tbl pc = some (i, len, a, b, t) → decode cc pc = .ok (i, len) ∧ vFacts vms vdf R own false pc i len a b t) :
    ∀ (n pc : Nat) (ls : vLs) (st : List vAV) (hp : List vOb) (ce sl : Nat) {pc' : Nat} {ls' : vLs} {st' : List vAV} {hp' : List vOb} {ce' sl' : Nat}, vGoN tbl sc n pc ls st hp ce sl = some (pc', ls', st', hp', ce', sl') →
      ∀ (ws : va_W) (tys : List (ClassId × FieldType)) (H : Heap) (locs : List Loc) (lsA : Array Slot) (stV : List Value), vW vwCl D A s b sa sv hp ws tys H locs → vL b sa sv (vAd ws) nL ls lsA → vT b sa sv (vAd ws) st stV → vK p l e R s m args below meth c Q vwCl D A b sa sv nL ws pc' ls' st' hp' ce' sl' →
        W p l e R s m args below meth c H locs ce sl Q (F0 m pc lsA stV) := by
  intro n
  induction n with
  | zero =>
    intro pc ls st hp ce sl pc' ls' st' hp' ce' sl' h ws tys H locs lsA stV hW hL hT kk
    simp only [vGoN] at h
    cases h
    exact kk ws tys H locs lsA stV hW hL hT (vSub2.rf _)
  | succ n ih =>
    intro pc ls st hp ce sl pc' ls' st' hp' ce' sl' h ws tys H locs lsA stV hW hL hT kk
    simp only [vGoN] at h
    split at h
    · cases h
    · next i len a b1 t hg =>
      obtain ⟨hdg, hFa⟩ := hF _ _ _ _ _ _ hg
      split at h
      · next pc2 ls2 st2 hp2 hs =>
        rw [vF_eq] at h
        exact vStep_ok hx hb hown hts hsub (fun h => by cases h) vcls hsc hX hW hL hT hdg hFa hs (fun ws2 tys2 H2 locs2 lsA2 stV2 hW2 hL2 hT2 hsb2 => ih _ _ _ _ _ _ h ws2 tys2 H2 locs2 lsA2 stV2 hW2 hL2 hT2 (fun ws3 tys3 H3 locs3 lsA3 stV3 hW3 hL3 hT3 hsb3 => kk ws3 tys3 H3 locs3 lsA3 stV3 hW3 hL3 hT3 (hsb2.tr hsb3)))
      · cases h
end VGON
/-! ===== the law's own steps ===== -/
def lRe (sc : List vAV) (κ κ' : kSt) : Prop := ∃ n, ∀ ce sl, vGoN vt_law2 sc n κ.1 κ.2.1 κ.2.2.1 κ.2.2.2 ce sl = some (κ'.1, κ'.2.1, κ'.2.2.1, κ'.2.2.2, ce, sl)
theorem lRe.rf {sc : List vAV} (κ : kSt) : lRe sc κ κ := ⟨0, fun ce sl => rfl⟩
theorem vGoN_add {tbl : vTbl} {sc : List vAV} : ∀ (n k pc : Nat) (ls : vLs) (st : List vAV) (hp : List vOb) (ce sl : Nat) {pc1 : Nat} {ls1 : vLs} {st1 : List vAV} {hp1 : List vOb}, vGoN tbl sc n pc ls st hp ce sl = some (pc1, ls1, st1, hp1, ce, sl) → vGoN tbl sc (n + k) pc ls st hp ce sl = vGoN tbl sc k pc1 ls1 st1 hp1 ce sl
  | 0, k, pc, ls, st, hp, ce, sl, pc1, ls1, st1, hp1, h => by
    simp only [vGoN] at h
    cases h
    rw [Nat.zero_add]
  | n + 1, k, pc, ls, st, hp, ce, sl, pc1, ls1, st1, hp1, h => by
    have e : n + 1 + k = (n + k) + 1 := by omega
    rw [e]
    simp only [vGoN] at h ⊢
    split at h
    · cases h
    · next i len a b t hg =>
      split at h
      · next pc2 ls2 st2 hp2 hs =>
        rw [vF_eq] at h
        rw [vF_eq]
        exact vGoN_add n k pc2 ls2 st2 hp2 ce sl h
      · cases h
theorem lRe.tr {sc : List vAV} {κ κ1 κ2 : kSt} (h1 : lRe sc κ κ1) (h2 : lRe sc κ1 κ2) : lRe sc κ κ2 := by
  obtain ⟨n1, h1⟩ := h1
  obtain ⟨n2, h2⟩ := h2
  exact ⟨n1 + n2, fun ce sl => (vGoN_add n1 n2 _ _ _ _ ce sl (h1 ce sl)).trans (h2 ce sl)⟩
theorem lRe_step {sc : List vAV} {pc pc' : Nat} {i : Instr} {len a b t : Nat} {ls ls' : vLs} {st st' : List vAV} {hp hp' : List vOb} (hg : vGet vt_law2 pc = some (i, len, a, b, t)) (hs : vStep sc vTx i len a b t pc ls st hp = some (pc', ls', st', hp')) : lRe sc (pc, ls, st, hp) (pc', ls', st', hp') := by
  refine ⟨1, fun ce sl => ?_⟩
  simp only [vGoN, hg, hs, vF_eq]
/-- the script's cell at i + c: symbol c + 1 -/
def lLd (i : Instr) (len pc : Nat) (st : List vAV) : Option (Nat × List vAV) := match i with
  | .iaload => (match st with
    | .inr (.inl (0, c)) :: .inr (.inr (.inr (.inr 0))) :: st' => bif Nat.blt c 6 then some (pc + len, .inr (.inl (c + 1, 0)) :: st') else none
    | _ => none)
  | _ => none
noncomputable def lRunL (stops : sSt → Bool) : Nat → sSt → Option (List sSt)
  | 0, _ => none
  | f + 1, (pc, ls, st, h, G) => match vGet vt_law2 pc with
    | none => none
    | some (i, len, a, b, t) => match sStep [] i len a b t pc ls st h G with
      | some L => sAll (fun σ => bif stops σ then some [σ] else lRunL stops f σ) L
      | none => match lLd i len pc st with
        | some (q, st') => bif stops (q, ls, st', h, G) then some [(q, ls, st', h, G)] else lRunL stops f (q, ls, st', h, G)
        | none => none
/-- what the symbols are: the place in the script, and its six numbers from there -/
def lEnv (sc : List vAV) (i0 : Nat) (ρ : List Nat) : Prop := ρ[0]? = some (sBi i0) ∧ i0 < 65000 ∧ ∀ c, c < 6 → ∃ w, w < 4294967296 ∧ sc[i0 + c]? = some (.inl w) ∧ ρ[c + 1]? = some (sBi w)
theorem lEnv_app {sc : List vAV} {i0 : Nat} {ρ : List Nat} (xs : List Nat) (h : lEnv sc i0 ρ) : lEnv sc i0 (ρ ++ xs) := ⟨sApp_get xs h.1, h.2.1, fun c hc => by
  obtain ⟨w, w1, w2, w3⟩ := h.2.2 c hc
  exact ⟨w, w1, w2, sApp_get xs w3⟩⟩
theorem lLd_ok {sc : List vAV} {i0 : Nat} {ρ : List Nat} (hE : lEnv sc i0 ρ) {i : Instr} {len a b t pc q : Nat} {st st' ks : List vAV} {kl : vLs} {hp : List vOb} (h : lLd i len pc st = some (q, st')) (ht : sTr ρ st ks) : ∃ ks', vStep sc vTx i len a b t pc kl ks hp = some (q, kl, ks', hp) ∧ sTr ρ st' ks' := by
  unfold lLd at h
  split at h
  · split at h
    · next c st1 =>
      cases hb : Nat.blt c 6 with
      | false => rw [hb] at h; cases h
      | true =>
        rw [hb, cond_true] at h
        have hc := Nat.blt_eq.mp hb
        cases h
        obtain ⟨w, w1, w2, w3⟩ := hE.2.2 c hc
        match ks, ht with
        | [], ht => exact ht.elim
        | [_], ht => exact ht.2.elim
        | k1 :: k2 :: kr, ht =>
          obtain ⟨⟨r, r1, r2⟩, h2, h3⟩ := ht
          have r1 : ρ[0]? = some r := r1
          rw [hE.1] at r1
          have r1 := Option.some.inj r1
          have h2 : k2 = .inr (.inr (.inr (.inr 0))) := h2
          rw [← r1, sUn_add, sUn_bi (by have := hE.2.1; omega), Nat.mod_eq_of_lt (by have := hE.2.1; omega)] at r2
          subst h2 r2
          refine ⟨.inl w :: kr, ?_, ⟨_, w3, by rw [sUn_bi w1]⟩, h3⟩
          show vAld 1 1 (pc + len) sc vTx kl (.inl (i0 + c) :: .inr (.inr (.inr (.inr 0))) :: kr) hp = _
          unfold vAld
          have hlt : Nat.blt (i0 + c) 65536 = true := Nat.blt_eq.mpr (by have := hE.2.1; omega)
          simp only [vNth_eq, w2, hlt, Nat.beq_refl, Bool.and_self, cond_true]
    · cases h
  · cases h
theorem lRunL_ok {sc : List vAV} {i0 : Nat} {stops : sSt → Bool} {hp0 : List vOb} : ∀ (f : Nat) (σ : sSt) (L : List sSt), lRunL stops f σ = some L → ∀ (ρ : List Nat) (kl : vLs) (ks : List vAV) (hp : List vOb), lEnv sc i0 ρ → sR [] hp0 ρ σ.2.1 σ.2.2.1 σ.2.2.2.1 σ.2.2.2.2 kl ks hp →
    ∃ σ' ∈ L, ∃ xs kl' ks' hp', lRe sc (σ.1, kl, ks, hp) (σ'.1, kl', ks', hp') ∧ sR [] hp0 (ρ ++ xs) σ'.2.1 σ'.2.2.1 σ'.2.2.2.1 σ'.2.2.2.2 kl' ks' hp'
  | 0, _, _, h, _, _, _, _, _, _ => by cases h
  | f + 1, (pc, ls, st, h, G), L, he, ρ, kl, ks, hp, hE, hR => by
    unfold lRunL at he
    split at he
    · cases he
    · next i len a b t hg =>
      split at he
      · next L1 hL1 =>
        obtain ⟨pc1, kl1, ks1, hp1, e1, σ1, e2, e3, xs, e4⟩ := sStep_ok (sc := sc) (tx := vTx) hR hL1
        obtain ⟨A, a1, a2⟩ := sAll_mem he σ1 e2
        have hk := lRe_step hg e1
        subst e3
        cases hb : stops σ1 with
        | true =>
          rw [hb, cond_true] at a1
          cases a1
          exact ⟨σ1, a2 _ List.mem_cons_self, xs, kl1, ks1, hp1, hk, e4⟩
        | false =>
          rw [hb, cond_false] at a1
          obtain ⟨σ', s1, ys, kl', ks', hp', s2, s3⟩ := lRunL_ok f σ1 A a1 (ρ ++ xs) kl1 ks1 hp1 (lEnv_app xs hE) e4
          rw [List.append_assoc] at s3
          exact ⟨σ', a2 _ s1, xs ++ ys, kl', ks', hp', hk.tr s2, s3⟩
      · split at he
        · next q st' hl =>
          obtain ⟨ks', k1, k2⟩ := lLd_ok (a := a) (b := b) (t := t) (kl := kl) (hp := hp) hE hl hR.2.1
          have hk := lRe_step hg k1
          have hR' : sR [] hp0 ρ ls st' h G kl ks' hp := ⟨hR.1, k2, hR.2.2⟩
          cases hb : stops (q, ls, st', h, G) with
          | true =>
            rw [hb, cond_true] at he
            cases he
            exact ⟨_, List.mem_cons_self, [], kl, ks', hp, hk, by rw [List.append_nil]; exact hR'⟩
          | false =>
            rw [hb, cond_false] at he
            obtain ⟨σ', s1, ys, kl2, ks2, hp2, s2, s3⟩ := lRunL_ok f _ L he ρ kl ks' hp hE hR'
            exact ⟨σ', s1, ys, kl2, ks2, hp2, hk.tr s2, s3⟩
        · cases he
theorem sFr_eq {hp hp' : List vOb} (h : sFr [] hp hp') : hp' = hp := by
  refine List.ext_getElem? (fun k => ?_)
  by_cases hk : k < hp.length
  · have h1 : hp[k]? = some hp[k] := List.getElem?_eq_getElem hk
    rw [row_same h rfl h1, h1]
  · rw [List.getElem?_eq_none (by have := h.1; omega), List.getElem?_eq_none (by omega)]
/-- the script is the script -/
def lScr (a : vAV) (c : sC) : Bool := match a, c with
  | .inr (.inr (.inr (.inr 0))), .inl (.inr (.inr (.inr (.inr 0)))) => true
  | _, _ => false
theorem lScr_ok {ρ : List Nat} {a v : vAV} {c : sC} (ha : sV ρ a v) (h : lScr a c = true) : sCr ρ c v := by
  unfold lScr at h
  split at h
  · exact ha
  · cases h
noncomputable def lLe (G : sG) : List (Option sC) → vLs → Bool
  | [], [] => true
  | none :: cs, _ :: as => lLe G cs as
  | some c :: cs, some a :: as => (nCe G a c || lScr a c) && lLe G cs as
  | _, _ => false
theorem lLe_ok {ρ : List Nat} {G : sG} (hG : sGr ρ G) : ∀ {cs : List (Option sC)} {as vs : vLs}, lLe G cs as = true → sLr ρ as vs → nLr ρ cs vs
  | [], [], [], _, _ => trivial
  | [], [], _ :: _, _, h => h.elim
  | [], _ :: _, _, h, _ => by cases h
  | none :: _, [], _, h, _ => by cases h
  | some _ :: _, [], _, h, _ => by cases h
  | some _ :: _, none :: _, _, h, _ => by cases h
  | none :: cs, a :: as, [], _, h => h.elim
  | none :: cs, a :: as, v :: vs, h, ht => ⟨fun c hc => (by cases hc), lLe_ok hG h ht.2⟩
  | some c :: cs, some a :: as, [], _, h => h.elim
  | some c :: cs, some a :: as, v :: vs, h, ht => by
    unfold lLe at h
    rw [Bool.and_eq_true] at h
    refine ⟨fun c' hc => ?_, lLe_ok hG h.2 ht.2⟩
    cases hc
    obtain ⟨y, y1, y2⟩ := ht.1 _ rfl
    rcases Bool.or_eq_true_iff.mp h.1 with h1 | h1
    · exact ⟨y, y1, nCe_ok hG y2 h1⟩
    · exact ⟨y, y1, lScr_ok y2 h1⟩
/-- a piece of the law, from node to node; the heap stays -/
noncomputable def lChk (G0 : sG) (stops : List Nat) (fuel : Nat) (A : nN) (Bs : List nN) : Bool := match lRunL (fun σ => sStop σ.1 stops) fuel (A.1, (nIl A.2.1 G0).1, (nIs A.2.2.1 (nIl A.2.1 G0).2).1, [], (nIs A.2.2.1 (nIl A.2.1 G0).2).2) with
  | some L => L.all (fun σ => Bs.any (fun B => Nat.beq σ.1 B.1 && (lLe σ.2.2.2.2 B.2.1 σ.2.1 && nAe σ.2.2.2.2 B.2.2.1 σ.2.2.1)))
  | none => false
theorem l_ok {sc : List vAV} {i0 : Nat} {G0 : sG} {stops : List Nat} {fuel : Nat} {A : nN} {Bs : List nN} (h : lChk G0 stops fuel A Bs = true) {ρ : List Nat} (hE : lEnv sc i0 ρ) (hG : sGr ρ G0) {pc : Nat} {kl : vLs} {ks : List vAV} {hp : List vOb} (hA : pc = A.1 ∧ nLr ρ A.2.1 kl ∧ nAr ρ A.2.2.1 ks) :
    ∃ pc' kl' ks' B xs, B ∈ Bs ∧ lRe sc (pc, kl, ks, hp) (pc', kl', ks', hp) ∧ pc' = B.1 ∧ nLr (ρ ++ xs) B.2.1 kl' ∧ nAr (ρ ++ xs) B.2.2.1 ks' := by
  obtain ⟨a1, a2, a3⟩ := hA
  subst a1
  unfold lChk at h
  split at h
  · next L hL =>
    obtain ⟨xs, g1, g2⟩ := nIl_ok a2 hG
    obtain ⟨ys, g3, g4⟩ := nIs_ok (nAr_app xs a3) g1
    obtain ⟨σ', s1, zs, kl', ks', hp', s2, s3⟩ := lRunL_ok (sc := sc) (i0 := i0) (hp0 := hp) fuel _ L hL (ρ ++ xs ++ ys) kl ks hp (lEnv_app ys (lEnv_app xs hE)) ⟨sLr_app ys g2, g4, fun e he => (by cases he), g3, sFr.rf _ _⟩
    have hall := List.all_eq_true.mp h σ' s1
    obtain ⟨B, b1, b2⟩ := List.any_eq_true.mp hall
    rw [Bool.and_eq_true, Bool.and_eq_true] at b2
    obtain ⟨c1, c2, c3⟩ := b2
    have e := sFr_eq s3.2.2.2.2
    subst e
    refine ⟨σ'.1, kl', ks', B, xs ++ ys ++ zs, b1, s2, Nat.eq_of_beq_eq_true c1, ?_, ?_⟩
    · have e : ρ ++ (xs ++ ys ++ zs) = ρ ++ xs ++ ys ++ zs := by rw [List.append_assoc, List.append_assoc, List.append_assoc]
      rw [e]
      exact lLe_ok s3.2.2.2.1 c2 s3.1
    · have e : ρ ++ (xs ++ ys ++ zs) = ρ ++ xs ++ ys ++ zs := by rw [List.append_assoc, List.append_assoc, List.append_assoc]
      rw [e]
      exact nAe_ok s3.2.2.2.1 c3 s3.2.1
  · cases h
end
section
/-! ===== the law's walk, piece by piece ===== -/
/-- what holds all along -/
def lCx (p : Program) (s : State) (m : MethodId) (meth : Method) (c : Code) (b sa sv : Nat) : Prop :=
  p.tables.exec = Jvm.exec ∧ c.code = cL_law ∧ c.maxLocals = 7 ∧ s.vm.findClass RL = some m.cls ∧ (∀ w ∈ lw_tbl, w.before #[Value.ref b] s = true) ∧ vX sa sv (fun q => s.heap.size ≤ q) s s.heap ∧ meth.sig.returnType = ret ∧ meth.locks = false
/-- from this state of the machine the law comes to its end -/
def LW (p : Program) (l : Launch) (e : Env) (s : State) (m : MethodId) (below : List Frame) (meth : Method) (c : Code) (b sa sv : Nat) (D : va_G) (pc : Nat) (ls : vLs) (st : List vAV) (hp : List vOb) (ce sl : Nat) : Prop :=
  ∀ (ws : va_W) (tys : List (ClassId × FieldType)) (H : Heap) (locs : List Loc) (lsA : Array Slot) (stV : List Value), vW vwCl D (fun q => s.heap.size ≤ q) s b sa sv hp ws tys H locs → vL b sa sv (vAd ws) 7 ls lsA → vT b sa sv (vAd ws) st stV → W p l e room_1 s m #[Value.ref b] below meth c H locs ce sl (lw_Z below #[Value.ref b] s) (F0 m pc lsA stV)
section LAWW
variable {p : Program} {l : Launch} {e : Env} {s : State} {m : MethodId} {below : List Frame} {meth : Method} {c : Code} {b sa sv : Nat} {D : va_G}
theorem lFacts {pc : Nat} {i : Instr} {len a b1 t : Nat} (hg : vGet vt_law2 pc = some (i, len, a, b1, t)) : decode cL_law pc = .ok (i, len) ∧ vFacts vms vdf room_1 RL false pc i len a b1 t := ⟨(vlaw_get hg).1, vChk_ok (R := room_1) vlk_RL_ok vkn (vlaw_get hg).2⟩
theorem LW_steps (K : lCx p s m meth c b sa sv) {sc : List vAV} (hsc : vScr b sa sv (fun q => s.heap.size ≤ q) s sc) {κ κ' : kSt} (h : lRe sc κ κ') {ce sl : Nat} (k : LW p l e s m below meth c b sa sv D κ'.1 κ'.2.1 κ'.2.2.1 κ'.2.2.2 ce sl) : LW p l e s m below meth c b sa sv D κ.1 κ.2.1 κ.2.2.1 κ.2.2.2 ce sl := by
  intro ws tys H locs lsA stV hW hL hT
  obtain ⟨hx, hb, hml, hown, hts, hX, -, -⟩ := K
  obtain ⟨n, hn⟩ := h
  exact vGoN_ok (R := room_1) (Ts := lw_tbl) (own := RL) hx hb hown hts (fun w h => (WT_in h).1) hsc hX (fun pc i len a b t hg => lFacts hg) n _ _ _ _ ce sl (hn ce sl) ws tys H locs lsA stV hW hL hT (fun ws2 tys2 H2 locs2 lsA2 stV2 hW2 hL2 hT2 _ => k ws2 tys2 H2 locs2 lsA2 stV2 hW2 hL2 hT2)
theorem LW_call (K : lCx p s m meth c b sa sv) {pc : Nat} {i : Instr} {len a b1 t fuel : Nat} {ls : vLs} {st st' : List vAV} {hp hp' : List vOb} {ce sl : Nat} (hg : vGet vt_law2 pc = some (i, len, a, b1, t)) (h : vInv (vcal fuel) i a b1 t st hp = some (st', hp', 0, 0)) (hce : ce ≤ 601024) (hsl : sl ≤ 7293034) (k : LW p l e s m below meth c b sa sv D (pc + 3) ls st' hp' ce sl) : LW p l e s m below meth c b sa sv D pc ls st hp ce sl := by
  intro ws tys H locs lsA stV hW hL hT
  obtain ⟨hx, hb, hml, hown, hts, hX, -, -⟩ := K
  exact vInv_ok (R := room_1) (Ts := lw_tbl) (own := RL) (ini := false) (vms := vms) (df := vdf) hx hb hml hown hts (fun w h => (WT_in h).1) hX (fun q h => h) ⟨vcm.1, vcm.2.1, (WT_in vcm.2.2.1).1, vcm.2.2.2.1, vcm.2.2.2.2⟩ (vcal_ok l fuel) hW hL hT (lFacts hg).1 (lFacts hg).2 h hce hsl (fun ws2 tys2 H2 locs2 lsA2 stV2 hW2 hL2 hT2 _ => k ws2 tys2 H2 locs2 lsA2 stV2 hW2 hL2 hT2)
theorem vd_1405 : decode code 1405 = .ok (.ireturn, 1) := by decide +kernel
theorem LW_end (K : lCx p s m meth c b sa sv) {ls : vLs} {hp : List vOb} {ce sl : Nat} (hce : ce ≤ 601024) (hsl : sl ≤ 7293034) : LW p l e s m below meth c b sa sv D 1405 ls [.inl 1] hp ce sl := by
  intro ws tys H locs lsA stV hW hL hT
  obtain ⟨hx, hb, -, -, -, -, hr, hlocks⟩ := K
  match stV, hT with
  | [v], hT =>
    obtain ⟨-, rfl⟩ := hT.1
    refine va_forget hW.2.2.1.2.2 ?_
    refine W.widen hce hsl ?_
    exact lw_ret hx hb hr hlocks vd_1405
  | v :: w :: r, hT => exact hT.2.elim
/-- a call by a contract: its places and its arguments are there -/
theorem LW_virt (K : lCx p s m meth c b sa sv) {pc : Nat} {len a b1 t : Nat} {ls : vLs} {st kas : List vAV} {rv : vAV} {hp hp' : List vOb} {ce sl : Nat} {i : Instr} {r : Option vAV} (hg : vGet vt_law2 pc = some (i, len, a, b1, t)) (hi : ∃ x, i = .invokevirtual x) (htk : vTk b1 [] st = some (kas, [rv])) (hrc : vRc t rv hp = true) (hc : ∃ N, ∀ fuel, N ≤ fuel → vCalD vms vdf fuel 60 a (rv :: kas) hp = some (r, hp', 0, 0)) (hce : ce ≤ 601024) (hsl : sl ≤ 7293034) (k : LW p l e s m below meth c b sa sv D (pc + 3) ls r.toList hp' ce sl) : LW p l e s m below meth c b sa sv D pc ls st hp ce sl := by
  obtain ⟨N, hc⟩ := hc
  obtain ⟨x, rfl⟩ := hi
  refine LW_call (fuel := N) K hg ?_ hce hsl k
  have hc := hc N (Nat.le_refl _)
  unfold vInv vcal
  simp only [htk, hrc, hc, vCs, Bool.true_and, List.append_nil]
  rfl
end LAWW
end
section
/-! ===== the cases of the law: what is between the calls ===== -/
def lS : sC := .inl (.inr (.inr (.inr (.inr 0))))
def lL : List (Option sC) := [some lS, some (yO 0), some (yO 220), some (yO 248), some (zY 0), none, none]
def lG : sG := (7, [(0, [(2147483648, 2147486714)]), (1, [(0, 4294967295)]), (2, [(0, 4294967295)]), (3, [(0, 4294967295)]), (4, [(0, 4294967295)]), (5, [(0, 4294967295)]), (6, [(0, 4294967295)])], [])
/-- the script's number at i + c -/
def lA (c : Nat) : sC := .inl (.inr (.inl (c + 1, 0)))
def lArgs : Nat → List sC
  | 0 => []
  | n + 1 => lA (n + 1) :: lArgs n
def lStarts : List Nat := [220, 293, 318, 331, 344, 384, 421, 461, 498, 523, 560, 609, 646, 671, 696, 709, 746, 783, 808, 833, 858, 871, 896, 909, 946, 959, 984, 1024, 1049, 1086, 1111, 1136, 1149, 1186, 1235, 1260, 1285, 1298, 1323, 1348, 1373, 1398]
set_option maxRecDepth 1000000 in
theorem lw_sw : lChk lG lStarts 3000 (33, lL, [], []) (lStarts.map (fun p => (p, lL, [], []))) = true := by decide +kernel
set_option maxRecDepth 1000000 in
theorem lw_next : lChk lG [23] 3000 (1398, lL, [], []) [(23, [some lS, some (yO 0), some (yO 220), some (yO 248), some (zY 6), none, none], [], [])] = true := by decide +kernel
set_option maxRecDepth 1000000 in
theorem lw_a0 : lChk lG [251] 3000 (220, lL, [], []) [(251, lL, lArgs 5 ++ [yO 0], [])] = true := by decide +kernel
set_option maxRecDepth 1000000 in
theorem lw_b0 : lChk lG [286] 3000 (254, lL, [zF], []) [(286, lL, lArgs 5 ++ [yO 220], [])] = true := by decide +kernel
set_option maxRecDepth 1000000 in
theorem lw_c0 : lChk lG [1398] 3000 (289, lL, [zF], []) [(1398, lL, [], [])] = true := by decide +kernel
set_option maxRecDepth 1000000 in
theorem lw_a1 : lChk lG [300] 3000 (293, lL, [], []) [(300, lL, lArgs 1 ++ [yO 0], [])] = true := by decide +kernel
set_option maxRecDepth 1000000 in
theorem lw_b1 : lChk lG [311] 3000 (303, lL, [zF], []) [(311, lL, lArgs 1 ++ [yO 220], [])] = true := by decide +kernel
set_option maxRecDepth 1000000 in
theorem lw_c1 : lChk lG [1398] 3000 (314, lL, [zF], []) [(1398, lL, [], [])] = true := by decide +kernel
set_option maxRecDepth 1000000 in
theorem lw_a2 : lChk lG [319] 3000 (318, lL, [], []) [(319, lL, lArgs 0 ++ [yO 0], [])] = true := by decide +kernel
set_option maxRecDepth 1000000 in
theorem lw_b2 : lChk lG [324] 3000 (322, lL, [zF], []) [(324, lL, lArgs 0 ++ [yO 220], [])] = true := by decide +kernel
set_option maxRecDepth 1000000 in
theorem lw_c2 : lChk lG [1398] 3000 (327, lL, [zF], []) [(1398, lL, [], [])] = true := by decide +kernel
set_option maxRecDepth 1000000 in
theorem lw_a3 : lChk lG [332] 3000 (331, lL, [], []) [(332, lL, lArgs 0 ++ [yO 0], [])] = true := by decide +kernel
set_option maxRecDepth 1000000 in
theorem lw_b3 : lChk lG [337] 3000 (335, lL, [zF], []) [(337, lL, lArgs 0 ++ [yO 220], [])] = true := by decide +kernel
set_option maxRecDepth 1000000 in
theorem lw_c3 : lChk lG [1398] 3000 (340, lL, [zF], []) [(1398, lL, [], [])] = true := by decide +kernel
set_option maxRecDepth 1000000 in
theorem lw_a4 : lChk lG [358] 3000 (344, lL, [], []) [(358, lL, [yO 248, lA 2, lA 1, yO 0], [])] = true := by decide +kernel
set_option maxRecDepth 1000000 in
theorem lw_b4 : lChk lG [376] 3000 (361, lL, [zF], []) [(376, lL, lArgs 2 ++ [yO 220], [])] = true := by decide +kernel
set_option maxRecDepth 1000000 in
theorem lw_c4 : lChk lG [1398] 3000 (379, lL, [zF], []) [(1398, lL, [], [])] = true := by decide +kernel
set_option maxRecDepth 1000000 in
theorem lw_a5 : lChk lG [397] 3000 (384, lL, [], []) [(397, lL, lArgs 2 ++ [yO 0], [])] = true := by decide +kernel
set_option maxRecDepth 1000000 in
theorem lw_b5 : lChk lG [414] 3000 (400, lL, [zF], []) [(414, lL, lArgs 2 ++ [yO 220], [])] = true := by decide +kernel
set_option maxRecDepth 1000000 in
theorem lw_c5 : lChk lG [1398] 3000 (417, lL, [zF], []) [(1398, lL, [], [])] = true := by decide +kernel
set_option maxRecDepth 1000000 in
theorem lw_a6 : lChk lG [435] 3000 (421, lL, [], []) [(435, lL, [yO 248, lA 2, lA 1, yO 0], [])] = true := by decide +kernel
set_option maxRecDepth 1000000 in
theorem lw_b6 : lChk lG [453] 3000 (438, lL, [zF], []) [(453, lL, lArgs 2 ++ [yO 220], [])] = true := by decide +kernel
set_option maxRecDepth 1000000 in
theorem lw_c6 : lChk lG [1398] 3000 (456, lL, [zF], []) [(1398, lL, [], [])] = true := by decide +kernel
set_option maxRecDepth 1000000 in
theorem lw_a7 : lChk lG [474] 3000 (461, lL, [], []) [(474, lL, lArgs 2 ++ [yO 0], [])] = true := by decide +kernel
set_option maxRecDepth 1000000 in
theorem lw_b7 : lChk lG [491] 3000 (477, lL, [zF], []) [(491, lL, lArgs 2 ++ [yO 220], [])] = true := by decide +kernel
set_option maxRecDepth 1000000 in
theorem lw_c7 : lChk lG [1398] 3000 (494, lL, [zF], []) [(1398, lL, [], [])] = true := by decide +kernel
set_option maxRecDepth 1000000 in
theorem lw_a8 : lChk lG [505] 3000 (498, lL, [], []) [(505, lL, lArgs 1 ++ [yO 0], [])] = true := by decide +kernel
set_option maxRecDepth 1000000 in
theorem lw_b8 : lChk lG [516] 3000 (508, lL, [zF], []) [(516, lL, lArgs 1 ++ [yO 220], [])] = true := by decide +kernel
set_option maxRecDepth 1000000 in
theorem lw_c8 : lChk lG [1398] 3000 (519, lL, [zF], []) [(1398, lL, [], [])] = true := by decide +kernel
set_option maxRecDepth 1000000 in
theorem lw_a9 : lChk lG [536] 3000 (523, lL, [], []) [(536, lL, lArgs 2 ++ [yO 0], [])] = true := by decide +kernel
set_option maxRecDepth 1000000 in
theorem lw_b9 : lChk lG [553] 3000 (539, lL, [zF], []) [(553, lL, lArgs 2 ++ [yO 220], [])] = true := by decide +kernel
set_option maxRecDepth 1000000 in
theorem lw_c9 : lChk lG [1398] 3000 (556, lL, [zF], []) [(1398, lL, [], [])] = true := by decide +kernel
set_option maxRecDepth 1000000 in
theorem lw_a10 : lChk lG [579] 3000 (560, lL, [], []) [(579, lL, lArgs 3 ++ [yO 0], [])] = true := by decide +kernel
set_option maxRecDepth 1000000 in
theorem lw_b10 : lChk lG [602] 3000 (582, lL, [zF], []) [(602, lL, lArgs 3 ++ [yO 220], [])] = true := by decide +kernel
set_option maxRecDepth 1000000 in
theorem lw_c10 : lChk lG [1398] 3000 (605, lL, [zF], []) [(1398, lL, [], [])] = true := by decide +kernel
set_option maxRecDepth 1000000 in
theorem lw_a11 : lChk lG [622] 3000 (609, lL, [], []) [(622, lL, lArgs 2 ++ [yO 0], [])] = true := by decide +kernel
set_option maxRecDepth 1000000 in
theorem lw_b11 : lChk lG [639] 3000 (625, lL, [zF], []) [(639, lL, lArgs 2 ++ [yO 220], [])] = true := by decide +kernel
set_option maxRecDepth 1000000 in
theorem lw_c11 : lChk lG [1398] 3000 (642, lL, [zF], []) [(1398, lL, [], [])] = true := by decide +kernel
set_option maxRecDepth 1000000 in
theorem lw_a12 : lChk lG [653] 3000 (646, lL, [], []) [(653, lL, lArgs 1 ++ [yO 0], [])] = true := by decide +kernel
set_option maxRecDepth 1000000 in
theorem lw_b12 : lChk lG [664] 3000 (656, lL, [zF], []) [(664, lL, lArgs 1 ++ [yO 220], [])] = true := by decide +kernel
set_option maxRecDepth 1000000 in
theorem lw_c12 : lChk lG [1398] 3000 (667, lL, [zF], []) [(1398, lL, [], [])] = true := by decide +kernel
set_option maxRecDepth 1000000 in
theorem lw_a13 : lChk lG [678] 3000 (671, lL, [], []) [(678, lL, lArgs 1 ++ [yO 0], [])] = true := by decide +kernel
set_option maxRecDepth 1000000 in
theorem lw_b13 : lChk lG [689] 3000 (681, lL, [zF], []) [(689, lL, lArgs 1 ++ [yO 220], [])] = true := by decide +kernel
set_option maxRecDepth 1000000 in
theorem lw_c13 : lChk lG [1398] 3000 (692, lL, [zF], []) [(1398, lL, [], [])] = true := by decide +kernel
set_option maxRecDepth 1000000 in
theorem lw_a14 : lChk lG [697] 3000 (696, lL, [], []) [(697, lL, lArgs 0 ++ [yO 0], [])] = true := by decide +kernel
set_option maxRecDepth 1000000 in
theorem lw_b14 : lChk lG [702] 3000 (700, lL, [zF], []) [(702, lL, lArgs 0 ++ [yO 220], [])] = true := by decide +kernel
set_option maxRecDepth 1000000 in
theorem lw_c14 : lChk lG [1398] 3000 (705, lL, [zF], []) [(1398, lL, [], [])] = true := by decide +kernel
set_option maxRecDepth 1000000 in
theorem lw_a15 : lChk lG [722] 3000 (709, lL, [], []) [(722, lL, lArgs 2 ++ [yO 0], [])] = true := by decide +kernel
set_option maxRecDepth 1000000 in
theorem lw_b15 : lChk lG [739] 3000 (725, lL, [zF], []) [(739, lL, lArgs 2 ++ [yO 220], [])] = true := by decide +kernel
set_option maxRecDepth 1000000 in
theorem lw_c15 : lChk lG [1398] 3000 (742, lL, [zF], []) [(1398, lL, [], [])] = true := by decide +kernel
set_option maxRecDepth 1000000 in
theorem lw_a16 : lChk lG [759] 3000 (746, lL, [], []) [(759, lL, lArgs 2 ++ [yO 0], [])] = true := by decide +kernel
set_option maxRecDepth 1000000 in
theorem lw_b16 : lChk lG [776] 3000 (762, lL, [zF], []) [(776, lL, lArgs 2 ++ [yO 220], [])] = true := by decide +kernel
set_option maxRecDepth 1000000 in
theorem lw_c16 : lChk lG [1398] 3000 (779, lL, [zF], []) [(1398, lL, [], [])] = true := by decide +kernel
set_option maxRecDepth 1000000 in
theorem lw_a17 : lChk lG [790] 3000 (783, lL, [], []) [(790, lL, lArgs 1 ++ [yO 0], [])] = true := by decide +kernel
set_option maxRecDepth 1000000 in
theorem lw_b17 : lChk lG [801] 3000 (793, lL, [zF], []) [(801, lL, lArgs 1 ++ [yO 220], [])] = true := by decide +kernel
set_option maxRecDepth 1000000 in
theorem lw_c17 : lChk lG [1398] 3000 (804, lL, [zF], []) [(1398, lL, [], [])] = true := by decide +kernel
set_option maxRecDepth 1000000 in
theorem lw_a18 : lChk lG [815] 3000 (808, lL, [], []) [(815, lL, lArgs 1 ++ [yO 0], [])] = true := by decide +kernel
set_option maxRecDepth 1000000 in
theorem lw_b18 : lChk lG [826] 3000 (818, lL, [zF], []) [(826, lL, lArgs 1 ++ [yO 220], [])] = true := by decide +kernel
set_option maxRecDepth 1000000 in
theorem lw_c18 : lChk lG [1398] 3000 (829, lL, [zF], []) [(1398, lL, [], [])] = true := by decide +kernel
set_option maxRecDepth 1000000 in
theorem lw_a19 : lChk lG [840] 3000 (833, lL, [], []) [(840, lL, lArgs 1 ++ [yO 0], [])] = true := by decide +kernel
set_option maxRecDepth 1000000 in
theorem lw_b19 : lChk lG [851] 3000 (843, lL, [zF], []) [(851, lL, lArgs 1 ++ [yO 220], [])] = true := by decide +kernel
set_option maxRecDepth 1000000 in
theorem lw_c19 : lChk lG [1398] 3000 (854, lL, [zF], []) [(1398, lL, [], [])] = true := by decide +kernel
set_option maxRecDepth 1000000 in
theorem lw_a20 : lChk lG [859] 3000 (858, lL, [], []) [(859, lL, lArgs 0 ++ [yO 0], [])] = true := by decide +kernel
set_option maxRecDepth 1000000 in
theorem lw_b20 : lChk lG [864] 3000 (862, lL, [zF], []) [(864, lL, lArgs 0 ++ [yO 220], [])] = true := by decide +kernel
set_option maxRecDepth 1000000 in
theorem lw_c20 : lChk lG [1398] 3000 (867, lL, [zF], []) [(1398, lL, [], [])] = true := by decide +kernel
set_option maxRecDepth 1000000 in
theorem lw_a21 : lChk lG [878] 3000 (871, lL, [], []) [(878, lL, lArgs 1 ++ [yO 0], [])] = true := by decide +kernel
set_option maxRecDepth 1000000 in
theorem lw_b21 : lChk lG [889] 3000 (881, lL, [zF], []) [(889, lL, lArgs 1 ++ [yO 220], [])] = true := by decide +kernel
set_option maxRecDepth 1000000 in
theorem lw_c21 : lChk lG [1398] 3000 (892, lL, [zF], []) [(1398, lL, [], [])] = true := by decide +kernel
set_option maxRecDepth 1000000 in
theorem lw_a22 : lChk lG [897] 3000 (896, lL, [], []) [(897, lL, lArgs 0 ++ [yO 0], [])] = true := by decide +kernel
set_option maxRecDepth 1000000 in
theorem lw_b22 : lChk lG [902] 3000 (900, lL, [zF], []) [(902, lL, lArgs 0 ++ [yO 220], [])] = true := by decide +kernel
set_option maxRecDepth 1000000 in
theorem lw_c22 : lChk lG [1398] 3000 (905, lL, [zF], []) [(1398, lL, [], [])] = true := by decide +kernel
set_option maxRecDepth 1000000 in
theorem lw_a23 : lChk lG [922] 3000 (909, lL, [], []) [(922, lL, lArgs 2 ++ [yO 0], [])] = true := by decide +kernel
set_option maxRecDepth 1000000 in
theorem lw_b23 : lChk lG [939] 3000 (925, lL, [zF], []) [(939, lL, lArgs 2 ++ [yO 220], [])] = true := by decide +kernel
set_option maxRecDepth 1000000 in
theorem lw_c23 : lChk lG [1398] 3000 (942, lL, [zF], []) [(1398, lL, [], [])] = true := by decide +kernel
set_option maxRecDepth 1000000 in
theorem lw_a24 : lChk lG [947] 3000 (946, lL, [], []) [(947, lL, lArgs 0 ++ [yO 0], [])] = true := by decide +kernel
set_option maxRecDepth 1000000 in
theorem lw_b24 : lChk lG [952] 3000 (950, lL, [zF], []) [(952, lL, lArgs 0 ++ [yO 220], [])] = true := by decide +kernel
set_option maxRecDepth 1000000 in
theorem lw_c24 : lChk lG [1398] 3000 (955, lL, [zF], []) [(1398, lL, [], [])] = true := by decide +kernel
set_option maxRecDepth 1000000 in
theorem lw_a25 : lChk lG [966] 3000 (959, lL, [], []) [(966, lL, lArgs 1 ++ [yO 0], [])] = true := by decide +kernel
set_option maxRecDepth 1000000 in
theorem lw_b25 : lChk lG [977] 3000 (969, lL, [zF], []) [(977, lL, lArgs 1 ++ [yO 220], [])] = true := by decide +kernel
set_option maxRecDepth 1000000 in
theorem lw_c25 : lChk lG [1398] 3000 (980, lL, [zF], []) [(1398, lL, [], [])] = true := by decide +kernel
set_option maxRecDepth 1000000 in
theorem lw_a26 : lChk lG [998] 3000 (984, lL, [], []) [(998, lL, [yO 248, lA 2, lA 1, yO 0], [])] = true := by decide +kernel
set_option maxRecDepth 1000000 in
theorem lw_b26 : lChk lG [1016] 3000 (1001, lL, [zF], []) [(1016, lL, lArgs 2 ++ [yO 220], [])] = true := by decide +kernel
set_option maxRecDepth 1000000 in
theorem lw_c26 : lChk lG [1398] 3000 (1019, lL, [zF], []) [(1398, lL, [], [])] = true := by decide +kernel
set_option maxRecDepth 1000000 in
theorem lw_a27 : lChk lG [1031] 3000 (1024, lL, [], []) [(1031, lL, lArgs 1 ++ [yO 0], [])] = true := by decide +kernel
set_option maxRecDepth 1000000 in
theorem lw_b27 : lChk lG [1042] 3000 (1034, lL, [zF], []) [(1042, lL, lArgs 1 ++ [yO 220], [])] = true := by decide +kernel
set_option maxRecDepth 1000000 in
theorem lw_c27 : lChk lG [1398] 3000 (1045, lL, [zF], []) [(1398, lL, [], [])] = true := by decide +kernel
set_option maxRecDepth 1000000 in
theorem lw_a28 : lChk lG [1062] 3000 (1049, lL, [], []) [(1062, lL, lArgs 2 ++ [yO 0], [])] = true := by decide +kernel
set_option maxRecDepth 1000000 in
theorem lw_b28 : lChk lG [1079] 3000 (1065, lL, [zF], []) [(1079, lL, lArgs 2 ++ [yO 220], [])] = true := by decide +kernel
set_option maxRecDepth 1000000 in
theorem lw_c28 : lChk lG [1398] 3000 (1082, lL, [zF], []) [(1398, lL, [], [])] = true := by decide +kernel
set_option maxRecDepth 1000000 in
theorem lw_a29 : lChk lG [1093] 3000 (1086, lL, [], []) [(1093, lL, lArgs 1 ++ [yO 0], [])] = true := by decide +kernel
set_option maxRecDepth 1000000 in
theorem lw_b29 : lChk lG [1104] 3000 (1096, lL, [zF], []) [(1104, lL, lArgs 1 ++ [yO 220], [])] = true := by decide +kernel
set_option maxRecDepth 1000000 in
theorem lw_c29 : lChk lG [1398] 3000 (1107, lL, [zF], []) [(1398, lL, [], [])] = true := by decide +kernel
set_option maxRecDepth 1000000 in
theorem lw_a30 : lChk lG [1118] 3000 (1111, lL, [], []) [(1118, lL, lArgs 1 ++ [yO 0], [])] = true := by decide +kernel
set_option maxRecDepth 1000000 in
theorem lw_b30 : lChk lG [1129] 3000 (1121, lL, [zF], []) [(1129, lL, lArgs 1 ++ [yO 220], [])] = true := by decide +kernel
set_option maxRecDepth 1000000 in
theorem lw_c30 : lChk lG [1398] 3000 (1132, lL, [zF], []) [(1398, lL, [], [])] = true := by decide +kernel
set_option maxRecDepth 1000000 in
theorem lw_a31 : lChk lG [1137] 3000 (1136, lL, [], []) [(1137, lL, lArgs 0 ++ [yO 0], [])] = true := by decide +kernel
set_option maxRecDepth 1000000 in
theorem lw_b31 : lChk lG [1142] 3000 (1140, lL, [zF], []) [(1142, lL, lArgs 0 ++ [yO 220], [])] = true := by decide +kernel
set_option maxRecDepth 1000000 in
theorem lw_c31 : lChk lG [1398] 3000 (1145, lL, [zF], []) [(1398, lL, [], [])] = true := by decide +kernel
set_option maxRecDepth 1000000 in
theorem lw_a32 : lChk lG [1162] 3000 (1149, lL, [], []) [(1162, lL, lArgs 2 ++ [yO 0], [])] = true := by decide +kernel
set_option maxRecDepth 1000000 in
theorem lw_b32 : lChk lG [1179] 3000 (1165, lL, [zF], []) [(1179, lL, lArgs 2 ++ [yO 220], [])] = true := by decide +kernel
set_option maxRecDepth 1000000 in
theorem lw_c32 : lChk lG [1398] 3000 (1182, lL, [zF], []) [(1398, lL, [], [])] = true := by decide +kernel
set_option maxRecDepth 1000000 in
theorem lw_a33 : lChk lG [1205] 3000 (1186, lL, [], []) [(1205, lL, lArgs 3 ++ [yO 0], [])] = true := by decide +kernel
set_option maxRecDepth 1000000 in
theorem lw_b33 : lChk lG [1228] 3000 (1208, lL, [zF], []) [(1228, lL, lArgs 3 ++ [yO 220], [])] = true := by decide +kernel
set_option maxRecDepth 1000000 in
theorem lw_c33 : lChk lG [1398] 3000 (1231, lL, [zF], []) [(1398, lL, [], [])] = true := by decide +kernel
set_option maxRecDepth 1000000 in
theorem lw_a34 : lChk lG [1242] 3000 (1235, lL, [], []) [(1242, lL, lArgs 1 ++ [yO 0], [])] = true := by decide +kernel
set_option maxRecDepth 1000000 in
theorem lw_b34 : lChk lG [1253] 3000 (1245, lL, [zF], []) [(1253, lL, lArgs 1 ++ [yO 220], [])] = true := by decide +kernel
set_option maxRecDepth 1000000 in
theorem lw_c34 : lChk lG [1398] 3000 (1256, lL, [zF], []) [(1398, lL, [], [])] = true := by decide +kernel
set_option maxRecDepth 1000000 in
theorem lw_a35 : lChk lG [1267] 3000 (1260, lL, [], []) [(1267, lL, lArgs 1 ++ [yO 0], [])] = true := by decide +kernel
set_option maxRecDepth 1000000 in
theorem lw_b35 : lChk lG [1278] 3000 (1270, lL, [zF], []) [(1278, lL, lArgs 1 ++ [yO 220], [])] = true := by decide +kernel
set_option maxRecDepth 1000000 in
theorem lw_c35 : lChk lG [1398] 3000 (1281, lL, [zF], []) [(1398, lL, [], [])] = true := by decide +kernel
set_option maxRecDepth 1000000 in
theorem lw_a36 : lChk lG [1286] 3000 (1285, lL, [], []) [(1286, lL, lArgs 0 ++ [yO 0], [])] = true := by decide +kernel
set_option maxRecDepth 1000000 in
theorem lw_b36 : lChk lG [1291] 3000 (1289, lL, [zF], []) [(1291, lL, lArgs 0 ++ [yO 220], [])] = true := by decide +kernel
set_option maxRecDepth 1000000 in
theorem lw_c36 : lChk lG [1398] 3000 (1294, lL, [zF], []) [(1398, lL, [], [])] = true := by decide +kernel
set_option maxRecDepth 1000000 in
theorem lw_a37 : lChk lG [1305] 3000 (1298, lL, [], []) [(1305, lL, lArgs 1 ++ [yO 0], [])] = true := by decide +kernel
set_option maxRecDepth 1000000 in
theorem lw_b37 : lChk lG [1316] 3000 (1308, lL, [zF], []) [(1316, lL, lArgs 1 ++ [yO 220], [])] = true := by decide +kernel
set_option maxRecDepth 1000000 in
theorem lw_c37 : lChk lG [1398] 3000 (1319, lL, [zF], []) [(1398, lL, [], [])] = true := by decide +kernel
set_option maxRecDepth 1000000 in
theorem lw_a38 : lChk lG [1330] 3000 (1323, lL, [], []) [(1330, lL, lArgs 1 ++ [yO 0], [])] = true := by decide +kernel
set_option maxRecDepth 1000000 in
theorem lw_b38 : lChk lG [1341] 3000 (1333, lL, [zF], []) [(1341, lL, lArgs 1 ++ [yO 220], [])] = true := by decide +kernel
set_option maxRecDepth 1000000 in
theorem lw_c38 : lChk lG [1398] 3000 (1344, lL, [zF], []) [(1398, lL, [], [])] = true := by decide +kernel
set_option maxRecDepth 1000000 in
theorem lw_a39 : lChk lG [1355] 3000 (1348, lL, [], []) [(1355, lL, lArgs 1 ++ [yO 0], [])] = true := by decide +kernel
set_option maxRecDepth 1000000 in
theorem lw_b39 : lChk lG [1366] 3000 (1358, lL, [zF], []) [(1366, lL, lArgs 1 ++ [yO 220], [])] = true := by decide +kernel
set_option maxRecDepth 1000000 in
theorem lw_c39 : lChk lG [1398] 3000 (1369, lL, [zF], []) [(1398, lL, [], [])] = true := by decide +kernel
set_option maxRecDepth 1000000 in
theorem lw_a40 : lChk lG [1380] 3000 (1373, lL, [], []) [(1380, lL, lArgs 1 ++ [yO 0], [])] = true := by decide +kernel
end
section
/-! ===== one command: the frame of a step ===== -/
section LSTEP
variable {p : Program} {l : Launch} {e : Env} {s : State} {m : MethodId} {below : List Frame} {meth : Method} {c : Code} {b sa sv : Nat} {D : va_G}
/-- the locals of the law, with i -/
def kL (i : Nat) (u v : Option vAV) : vLs := [some (.inr (.inr (.inr (.inr 0)))), some (yV 0), some (yV 220), some (yV 248), some (.inl i), u, v]
theorem kL_of {ρ : List Nat} {i δ : Nat} {kl : vLs} (hE : ρ[0]? = some (sBi i)) (hi : i + δ < 4294967296) (h : nLr ρ [some lS, some (yO 0), some (yO 220), some (yO 248), some (zY δ), none, none] kl) : ∃ u v, kl = kL (i + δ) u v := by
  match kl, h with
  | [], h => exact h.elim
  | [_], h => exact h.2.elim
  | [_, _], h => exact h.2.2.elim
  | [_, _, _], h => exact h.2.2.2.elim
  | [_, _, _, _], h => exact h.2.2.2.2.elim
  | [_, _, _, _, _], h => exact h.2.2.2.2.2.elim
  | [_, _, _, _, _, _], h => exact h.2.2.2.2.2.2.elim
  | _ :: _ :: _ :: _ :: _ :: _ :: _ :: _ :: _, h => exact h.2.2.2.2.2.2.2.elim
  | [k0, k1, k2, k3, k4, k5, k6], h =>
    obtain ⟨h0, h1, h2, h3, h4, -, -, -⟩ := h
    obtain ⟨y0, a0, b0⟩ := h0 _ rfl
    obtain ⟨y1, a1, b1⟩ := h1 _ rfl
    obtain ⟨y2, a2, b2⟩ := h2 _ rfl
    obtain ⟨y3, a3, b3⟩ := h3 _ rfl
    obtain ⟨y4, a4, r, r1, r2⟩ := h4 _ rfl
    have b0 : y0 = .inr (.inr (.inr (.inr 0))) := b0
    have b1 : y1 = yV 0 := b1
    have b2 : y2 = yV 220 := b2
    have b3 : y3 = yV 248 := b3
    have r1 : ρ[0]? = some r := r1
    rw [hE] at r1
    have r1 := Option.some.inj r1
    rw [← r1, sUn_add, sUn_bi (by omega), Nat.mod_eq_of_lt hi] at r2
    subst a0 a1 a2 a3 a4 b0 b1 b2 b3 r2
    exact ⟨k5, k6, rfl⟩
theorem kL_to {ρ : List Nat} {i : Nat} {u v : Option vAV} (hE : ρ[0]? = some (sBi i)) (hi : i < 4294967296) : nLr ρ lL (kL i u v) := by
  refine ⟨fun c hc => ?_, fun c hc => ?_, fun c hc => ?_, fun c hc => ?_, fun c hc => ?_, fun c hc => (by cases hc), fun c hc => (by cases hc), trivial⟩
  · cases hc; exact ⟨_, rfl, rfl⟩
  · cases hc; exact ⟨_, rfl, rfl⟩
  · cases hc; exact ⟨_, rfl, rfl⟩
  · cases hc; exact ⟨_, rfl, rfl⟩
  · cases hc; exact ⟨_, rfl, sV_back hi hE⟩
/-- the numbers of a command -/
def lRho (i : Nat) (w : Nat → Nat) : List Nat := [sBi i, sBi (w 0), sBi (w 1), sBi (w 2), sBi (w 3), sBi (w 4), sBi (w 5)]
theorem lEnv_of {sc : List vAV} {i : Nat} {w : Nat → Nat} (hi : i < 65000) (hw : ∀ c, c < 6 → w c < 4294967296 ∧ sc[i + c]? = some (.inl (w c))) : lEnv sc i (lRho i w) := by
  refine ⟨rfl, hi, fun c hc => ⟨w c, (hw c hc).1, (hw c hc).2, ?_⟩⟩
  have : c = 0 ∨ c = 1 ∨ c = 2 ∨ c = 3 ∨ c = 4 ∨ c = 5 := by omega
  rcases this with rfl | rfl | rfl | rfl | rfl | rfl <;> rfl
theorem lG_of {i : Nat} {w : Nat → Nat} (hi : i ≤ 3066) : sGr (lRho i w) lG := by
  refine ⟨rfl, fun e he => ?_, fun t ht => by cases ht⟩
  unfold lG at he
  simp only [List.mem_cons, List.not_mem_nil, or_false] at he
  rcases he with rfl | rfl | rfl | rfl | rfl | rfl | rfl
  · exact ⟨_, rfl, sBi_lt _, sIn_one (by unfold sBi; omega) (by unfold sBi; omega)⟩
  · exact ⟨_, rfl, sBi_lt _, sIn_full (sBi_lt _)⟩
  · exact ⟨_, rfl, sBi_lt _, sIn_full (sBi_lt _)⟩
  · exact ⟨_, rfl, sBi_lt _, sIn_full (sBi_lt _)⟩
  · exact ⟨_, rfl, sBi_lt _, sIn_full (sBi_lt _)⟩
  · exact ⟨_, rfl, sBi_lt _, sIn_full (sBi_lt _)⟩
  · exact ⟨_, rfl, sBi_lt _, sIn_full (sBi_lt _)⟩
end LSTEP
noncomputable def g1404 : Bool := match vGet vt_law2 1404 with
  | some (.iconst _, 1, 1, _, _) => true
  | _ => false
theorem g1404_k : g1404 = true := by decide +kernel
noncomputable def gHead : Bool := (match vGet vt_law2 26 with
  | some (.arraylength, 1, _, _, _) => true
  | _ => false) && ((match vGet vt_law2 27 with
  | some (.bipush _, 2, 6, _, _) => true
  | _ => false) && ((match vGet vt_law2 29 with
  | some (.isub, 1, _, _, _) => true
  | _ => false) && ((match vGet vt_law2 30 with
  | some (.if_icmp .gt _, 3, 1404, _, _) => true
  | _ => false) && ((match vGet vt_law2 23 with
  | some (.iload _, 2, 4, _, _) => true
  | _ => false) && (match vGet vt_law2 25 with
  | some (.aload_n _, 1, 0, _, _) => true
  | _ => false)))))
theorem gHead_k : gHead = true := by decide +kernel
theorem gHead_ok : (∃ a b t, vGet vt_law2 26 = some (.arraylength, 1, a, b, t)) ∧ (∃ x b t, vGet vt_law2 27 = some (.bipush x, 2, 6, b, t)) ∧ (∃ a b t, vGet vt_law2 29 = some (.isub, 1, a, b, t)) ∧ (∃ x b t, vGet vt_law2 30 = some (.if_icmp .gt x, 3, 1404, b, t)) ∧ (∃ x b t, vGet vt_law2 23 = some (.iload x, 2, 4, b, t)) ∧ (∃ x b t, vGet vt_law2 25 = some (.aload_n x, 1, 0, b, t)) := by
  have h := gHead_k
  unfold gHead at h
  rw [Bool.and_eq_true, Bool.and_eq_true, Bool.and_eq_true, Bool.and_eq_true, Bool.and_eq_true] at h
  obtain ⟨h1, h2, h3, h4, h5, h6⟩ := h
  refine ⟨?_, ?_, ?_, ?_, ?_, ?_⟩
  · split at h1
    · next a b t hg => exact ⟨a, b, t, hg⟩
    · cases h1
  · split at h2
    · next x b t hg => exact ⟨x, b, t, hg⟩
    · cases h2
  · split at h3
    · next a b t hg => exact ⟨a, b, t, hg⟩
    · cases h3
  · split at h4
    · next x b t hg => exact ⟨x, b, t, hg⟩
    · cases h4
  · split at h5
    · next x b t hg => exact ⟨x, b, t, hg⟩
    · cases h5
  · split at h6
    · next x b t hg => exact ⟨x, b, t, hg⟩
    · cases h6
theorem g1404_ok : ∃ x b t, vGet vt_law2 1404 = some (.iconst x, 1, 1, b, t) := by
  have h := g1404_k
  unfold g1404 at h
  split at h
  · next x b t hg => exact ⟨x, b, t, hg⟩
  · cases h
/-- from the loop's head to the test -/
theorem l_head {sc : List vAV} {i : Nat} {u v : Option vAV} {hp : List vOb} : lRe sc (23, kL i u v, [], hp) (26, kL i u v, [.inr (.inr (.inr (.inr 0))), .inl i], hp) := by
  obtain ⟨-, -, -, -, ⟨x, b, t, h5⟩, ⟨x', b', t', h6⟩⟩ := gHead_ok
  exact (lRe_step h5 (show vStep sc vTx (.iload x) 2 4 b t 23 (kL i u v) [] hp = some (25, kL i u v, [.inl i], hp) from rfl)).tr (lRe_step h6 (show vStep sc vTx (.aload_n x') 1 0 b' t' 25 (kL i u v) [.inl i] hp = some (26, kL i u v, [.inr (.inr (.inr (.inr 0))), .inl i], hp) from rfl))
theorem vLt_yes {x y : Nat} (h : x < y) : vLt (x, x) (y, y) = some true := by
  unfold vLt
  dsimp only
  rw [Nat.blt_eq.mpr h]
  rfl
theorem vLt_no {x y : Nat} (h : y ≤ x) : vLt (x, x) (y, y) = some false := by
  unfold vLt
  dsimp only
  have q1 : Nat.blt x y = false := by
    cases hb : Nat.blt x y with
    | false => rfl
    | true => have := Nat.blt_eq.mp hb; omega
  rw [q1, Nat.ble_eq_true_of_le h]
  rfl
theorem hd_yes {L i : Nat} (hL : L ≤ 3072) (hi : i ≤ 3072) (h : i + 6 ≤ L) : sBi i ≤ sBi (vSub L 6) := by
  unfold sBi vSub
  omega
theorem hd_no {L i : Nat} (hL : L ≤ 3072) (hi : i ≤ 3072) (h : ¬ i + 6 ≤ L) : sBi (vSub L 6) < sBi i := by
  unfold sBi vSub
  omega
theorem l_s3 {sc : List vAV} {L a3 b3 t3 y : Nat} {kl : vLs} {ks : List vAV} {hp : List vOb} (hy : vSub L 6 = y) : vStep sc vTx .isub 1 a3 b3 t3 29 kl (.inl 6 :: .inl L :: ks) hp = some (30, kl, .inl y :: ks, hp) := by
  show v2 vSub 30 kl (.inl 6 :: .inl L :: ks) hp = _
  rw [k2_eq, hy]
theorem l_s4 {sc : List vAV} {y i b4 t4 : Nat} {x4 : Int} {kl : vLs} {hp : List vOb} : vStep sc vTx (.if_icmp .gt x4) 3 1404 b4 t4 30 kl [.inl y, .inl i] hp = some ((bif kCmp 4 (sBi i) (sBi y) then 1404 else 33), kl, [], hp) := by
  show vIc (fun x y => vLt y x) 33 1404 kl [.inl y, .inl i] hp = _
  rw [vIc_k kf_gt]
theorem kgt_no {I Y : Nat} (h : I ≤ Y) : kCmp 4 I Y = false := by
  cases hb : kCmp 4 I Y with
  | false => rfl
  | true =>
    have : Nat.blt Y I = true := hb
    have := Nat.blt_eq.mp this
    omega
theorem kgt_yes {I Y : Nat} (h : Y < I) : kCmp 4 I Y = true := (show Nat.blt Y I = true from Nat.blt_eq.mpr h)
theorem l_test {sc : List vAV} {i : Nat} {u v : Option vAV} {hp : List vOb} (h0 : 0 < sc.length) (hL : sc.length ≤ 3072) (hi : i ≤ 3072) : lRe sc (26, kL i u v, [.inr (.inr (.inr (.inr 0))), .inl i], hp) (if i + 6 ≤ sc.length then (33, kL i u v, [], hp) else (1405, kL i u v, [.inl 1], hp)) := by
  obtain ⟨⟨a1, b1, t1, h1⟩, ⟨x2, b2, t2, h2⟩, ⟨a3, b3, t3, h3⟩, ⟨x4, b4, t4, h4⟩, -, -⟩ := gHead_ok
  have s1 : vStep sc vTx .arraylength 1 a1 b1 t1 26 (kL i u v) [.inr (.inr (.inr (.inr 0))), .inl i] hp = some (27, kL i u v, [.inl sc.length, .inl i], hp) := by
    show vAln 27 sc vTx (kL i u v) (.inr (.inr (.inr (.inr 0))) :: [.inl i]) hp = _
    unfold vAln
    have q1 : Nat.blt 0 sc.length = true := Nat.blt_eq.mpr h0
    have q2 : Nat.blt sc.length 65536 = true := Nat.blt_eq.mpr (by omega)
    simp only [q1, q2, Bool.and_self, cond_true]
  have s2 : vStep sc vTx (.bipush x2) 2 6 b2 t2 27 (kL i u v) [.inl sc.length, .inl i] hp = some (29, kL i u v, [.inl 6, .inl sc.length, .inl i], hp) := rfl
  generalize hy : vSub sc.length 6 = y
  have s3 : vStep sc vTx .isub 1 a3 b3 t3 29 (kL i u v) [.inl 6, .inl sc.length, .inl i] hp = some (30, kL i u v, [.inl y, .inl i], hp) := l_s3 hy
  have s4 : vStep sc vTx (.if_icmp .gt x4) 3 1404 b4 t4 30 (kL i u v) [.inl y, .inl i] hp = some ((bif kCmp 4 (sBi i) (sBi y) then 1404 else 33), kL i u v, [], hp) := l_s4
  have hk : kCmp 4 (sBi i) (sBi y) = (if i + 6 ≤ sc.length then false else true) := by
    rw [← hy]
    by_cases hc : i + 6 ≤ sc.length
    · have q := hd_yes hL hi hc
      generalize sBi (vSub sc.length 6) = Y at q ⊢
      generalize sBi i = I at q ⊢
      rw [if_pos hc]
      exact kgt_no q
    · have q := hd_no hL hi hc
      generalize sBi (vSub sc.length 6) = Y at q ⊢
      generalize sBi i = I at q ⊢
      rw [if_neg hc]
      exact kgt_yes q
  rw [hk] at s4
  have k := ((lRe_step h1 s1).tr (lRe_step h2 s2)).tr ((lRe_step h3 s3).tr (lRe_step h4 s4))
  by_cases hc : i + 6 ≤ sc.length
  · rw [if_pos hc, cond_false] at k
    rw [if_pos hc]
    exact k
  · rw [if_neg hc, cond_true] at k
    rw [if_neg hc]
    obtain ⟨x5, b5, t5, h5⟩ := g1404_ok
    exact k.tr (lRe_step h5 (show vStep sc vTx (.iconst x5) 1 1 b5 t5 1404 (kL i u v) [] hp = some (1405, kL i u v, [.inl 1], hp) from rfl))
end
section
/-! ===== a case of the law: two calls ===== -/
def wL (w : Nat → Nat) : Nat → List vAV
  | 0 => []
  | k + 1 => .inl (w (k + 1)) :: wL w k
def fA (w : Nat → Nat) : Nat → List vAV → List vAV
  | 0, acc => acc
  | k + 1, acc => fA w k (.inl (w (k + 1)) :: acc)
theorem vTk_wL {w : Nat → Nat} {rest : List vAV} : ∀ (k : Nat) (acc : List vAV), vTk k acc (wL w k ++ rest) = some (fA w k acc, rest)
  | 0, acc => by
    cases rest <;> rfl
  | k + 1, acc => vTk_wL k _
theorem fA_len {w : Nat → Nat} : ∀ (k : Nat) (acc : List vAV), (fA w k acc).length = k + acc.length
  | 0, acc => by rw [Nat.zero_add]; rfl
  | k + 1, acc => by
    show (fA w k (.inl (w (k + 1)) :: acc)).length = _
    rw [fA_len k]
    simp only [List.length_cons]
    omega
theorem fA_int {w : Nat → Nat} (hw : ∀ c, c < 6 → w c < 4294967296) : ∀ (k : Nat) (acc : List vAV), k < 6 → (∀ a ∈ acc, ∃ u, u < 4294967296 ∧ a = .inl u) → ∀ a ∈ fA w k acc, ∃ u, u < 4294967296 ∧ a = .inl u
  | 0, acc, _, h => h
  | k + 1, acc, hk, h => fA_int hw k _ (by omega) (fun a ha => by
    rcases List.mem_cons.mp ha with e | e
    · exact ⟨_, hw (k + 1) hk, e⟩
    · exact h a e)
theorem lArgs_of {ρ : List Nat} {w : Nat → Nat} {o : Nat} (hρ : ∀ c, c < 6 → w c < 4294967296 ∧ ρ[c + 1]? = some (sBi (w c))) : ∀ (k : Nat) {ks : List vAV}, k < 6 → nAr ρ (lArgs k ++ [yO o]) ks → ks = wL w k ++ [yV o]
  | 0, ks, _, h => by
    match ks, h with
    | [], h => exact h.elim
    | [x], h =>
      have e : x = yV o := h.1
      rw [e]
      rfl
    | _ :: _ :: _, h => exact h.2.elim
  | k + 1, ks, hk, h => by
    match ks, h with
    | [], h => exact h.elim
    | x :: xs, h =>
      obtain ⟨r, r1, r2⟩ := h.1
      have r1 : ρ[k + 1 + 1]? = some r := r1
      rw [(hρ (k + 1) hk).2] at r1
      have r1 := Option.some.inj r1
      rw [← r1, sUn_bi (hρ (k + 1) hk).1] at r2
      have e := lArgs_of hρ k (by omega) h.2
      rw [r2, e]
      rfl
noncomputable def zCl (pc j b t : Nat) : Bool := match vGet vt_law2 pc with
  | some (.invokevirtual _, _, a, b', t') => Nat.beq a j && (Nat.beq b' b && Nat.beq t' t)
  | _ => false
/-- a call of x or of m, from every state that the invariant has -/
def CallOK (Iv : List vOb → Prop) (o j k : Nat) : Prop := ∀ (hp : List vOb) (args : List vAV), Iv hp → args.length = k → (∀ a ∈ args, ∃ u, u < 4294967296 ∧ a = .inl u) → ∃ u hp', (∃ N, ∀ fuel, N ≤ fuel → vCalD vms vdf fuel 60 j (yV o :: args) hp = some (some (.inl u), hp', 0, 0)) ∧ u < 4294967296 ∧ Iv hp'
section LCASE
variable {p : Program} {l : Launch} {e : Env} {s : State} {m : MethodId} {below : List Frame} {meth : Method} {c : Code} {b sa sv : Nat} {D : va_G}
variable {Iv : List vOb → Prop} {sc : List vAV} {i : Nat} {w : Nat → Nat} {ce sl : Nat}
theorem l_call (K : lCx p s m meth c b sa sv) (hrc : ∀ hp, Iv hp → vRc 11 (yV 0) hp = true ∧ vRc 12 (yV 220) hp = true) (hce : ce ≤ 601024) (hsl : sl ≤ 7293034) (hw : ∀ c, c < 6 → w c < 4294967296) {pc o j k t : Nat} (hot : (o = 0 ∧ t = 11) ∨ (o = 220 ∧ t = 12)) (hk : k < 6) (hz : zCl pc j k t = true) (hC : CallOK Iv o j k) {hp : List vOb} (hI : Iv hp) {ls : vLs} (kk : ∀ u hp', u < 4294967296 → Iv hp' → LW p l e s m below meth c b sa sv D (pc + 3) ls [.inl u] hp' ce sl) : LW p l e s m below meth c b sa sv D pc ls (wL w k ++ [yV o]) hp ce sl := by
  obtain ⟨u, hp', h1, h2, h3⟩ := hC hp (fA w k []) hI (by rw [fA_len]; rfl) (fA_int hw k [] hk (fun a ha => by cases ha))
  unfold zCl at hz
  split at hz
  · next x len a b' t' hg =>
    rw [Bool.and_eq_true, Bool.and_eq_true] at hz
    have e1 := Nat.eq_of_beq_eq_true hz.1
    have e2 := Nat.eq_of_beq_eq_true hz.2.1
    have e3 := Nat.eq_of_beq_eq_true hz.2.2
    subst e1 e2 e3
    refine LW_virt K hg ⟨_, rfl⟩ (vTk_wL b' []) ?_ h1 hce hsl (kk u hp' h2 h3)
    rcases hot with ⟨rfl, rfl⟩ | ⟨rfl, rfl⟩
    · exact (hrc hp hI).1
    · exact (hrc hp hI).2
  · cases hz
theorem std_case (K : lCx p s m meth c b sa sv) (hsc : vScr b sa sv (fun q => s.heap.size ≤ q) s sc) (hrc : ∀ hp, Iv hp → vRc 11 (yV 0) hp = true ∧ vRc 12 (yV 220) hp = true) (hce : ce ≤ 601024) (hsl : sl ≤ 7293034) (hi : i ≤ 3066) (hw : ∀ c, c < 6 → w c < 4294967296 ∧ sc[i + c]? = some (.inl (w c)))
    {p0 pc1 pc2 jx jm k : Nat} (hk : k < 6) (ha : lChk lG [pc1] 3000 (p0, lL, [], []) [(pc1, lL, lArgs k ++ [yO 0], [])] = true) (hb : lChk lG [pc2] 3000 (pc1 + 3, lL, [zF], []) [(pc2, lL, lArgs k ++ [yO 220], [])] = true) (hc : lChk lG [1398] 3000 (pc2 + 3, lL, [zF], []) [(1398, lL, [], [])] = true)
    (z1 : zCl pc1 jx k 11 = true) (z2 : zCl pc2 jm k 12 = true) (hX : CallOK Iv 0 jx k) (hM : CallOK Iv 220 jm k) {hp : List vOb} (hI : Iv hp) {u v : Option vAV} (kk : ∀ hp' u v, Iv hp' → LW p l e s m below meth c b sa sv D 1398 (kL i u v) [] hp' ce sl) : LW p l e s m below meth c b sa sv D p0 (kL i u v) [] hp ce sl := by
  have hE := lEnv_of (sc := sc) (i := i) (w := w) (by omega) hw
  have hG := lG_of (i := i) (w := w) hi
  have hρ : ∀ (xs : List Nat) (c : Nat), c < 6 → w c < 4294967296 ∧ (lRho i w ++ xs)[c + 1]? = some (sBi (w c)) := fun xs c hc => by
    obtain ⟨w', q1, q2, q3⟩ := hE.2.2 c hc
    rw [(hw c hc).2] at q2
    have e : w c = w' := Sum.inl.inj (Option.some.inj q2)
    rw [e]
    exact ⟨q1, sApp_get xs q3⟩
  have h0 : ∀ xs : List Nat, (lRho i w ++ xs)[0]? = some (sBi i) := fun xs => rfl
  obtain ⟨pc', kl', ks', B, xs, b1, b2, b3, b4, b5⟩ := l_ok (hp := hp) (ks := []) ha hE hG ⟨rfl, kL_to (u := u) (v := v) rfl (by omega), trivial⟩
  rw [List.mem_singleton] at b1
  subst b1 b3
  obtain ⟨u1, v1, e1⟩ := kL_of (δ := 0) (h0 xs) (by omega) b4
  have e2 := lArgs_of (hρ xs) k hk b5
  subst e1 e2
  refine LW_steps K hsc b2 (l_call K hrc hce hsl (fun c hc => (hw c hc).1) (Or.inl ⟨rfl, rfl⟩) hk z1 hX hI (fun r hp1 hr hI1 => ?_))
  obtain ⟨pc', kl', ks', B, ys, b1, b2, b3, b4, b5⟩ := l_ok (hp := hp1) (ks := [.inl r]) hb hE hG ⟨rfl, kL_to (u := u1) (v := v1) rfl (by omega), ⟨r, hr, sIn_full (sBi_lt r), rfl⟩, trivial⟩
  rw [List.mem_singleton] at b1
  subst b1 b3
  obtain ⟨u2, v2, e1⟩ := kL_of (δ := 0) (h0 ys) (by omega) b4
  have e2 := lArgs_of (hρ ys) k hk b5
  subst e1 e2
  refine LW_steps K hsc b2 (l_call K hrc hce hsl (fun c hc => (hw c hc).1) (Or.inr ⟨rfl, rfl⟩) hk z2 hM hI1 (fun r2 hp2 hr2 hI2 => ?_))
  obtain ⟨pc', kl', ks', B, zs, b1, b2, b3, b4, b5⟩ := l_ok (hp := hp2) (ks := [.inl r2]) hc hE hG ⟨rfl, kL_to (u := u2) (v := v2) rfl (by omega), ⟨r2, hr2, sIn_full (sBi_lt r2), rfl⟩, trivial⟩
  rw [List.mem_singleton] at b1
  subst b1 b3
  obtain ⟨u3, v3, e1⟩ := kL_of (δ := 0) (h0 zs) (by omega) b4
  have e2 := nAr_eq (as := []) rfl b5
  subst e1 e2
  exact LW_steps K hsc b2 (kk hp2 u3 v3 hI2)
end LCASE
end
section
/-! ===== the law's loop ===== -/
section LLOOP
variable {p : Program} {l : Launch} {e : Env} {s : State} {m : MethodId} {below : List Frame} {meth : Method} {c : Code} {b sa sv : Nat} {D : va_G}
variable {Iv : List vOb → Prop} {sc : List vAV}
/-- a case keeps the invariant, and takes at most one cell of six slots -/
def caseOK (p : Program) (l : Launch) (e : Env) (s : State) (m : MethodId) (below : List Frame) (meth : Method) (c : Code) (b sa sv : Nat) (D : va_G) (Iv : List vOb → Prop) (sc : List vAV) (p0 : Nat) : Prop :=
  ∀ (i : Nat) (w : Nat → Nat) (hp : List vOb) (u v : Option vAV) (ce sl : Nat), i ≤ 3066 → (∀ c, c < 6 → w c < 4294967296 ∧ sc[i + c]? = some (.inl (w c))) → Iv hp → ce ≤ 249 + i → sl ≤ 7595 + i → (∀ (hp' : List vOb) (u v : Option vAV) (ce' sl' : Nat), Iv hp' → ce' ≤ ce + 1 → sl' ≤ sl + 6 → LW p l e s m below meth c b sa sv D 1398 (kL i u v) [] hp' ce' sl') → LW p l e s m below meth c b sa sv D p0 (kL i u v) [] hp ce sl
theorem law_loop (K : lCx p s m meth c b sa sv) (hsc : vScr b sa sv (fun q => s.heap.size ≤ q) s sc) (hint : ∀ j, j < sc.length → ∃ x, x < 4294967296 ∧ sc[j]? = some (.inl x)) (h0 : 0 < sc.length) (hL : sc.length ≤ 3072) (hcase : ∀ p0 ∈ lStarts, p0 ≠ 1398 → caseOK p l e s m below meth c b sa sv D Iv sc p0) (n : Nat) : ∀ (i : Nat) (hp : List vOb) (u v : Option vAV) (ce sl : Nat), sc.length ≤ i + n → i ≤ 3072 → Iv hp → ce ≤ 249 + i → sl ≤ 7595 + i → LW p l e s m below meth c b sa sv D 26 (kL i u v) [.inr (.inr (.inr (.inr 0))), .inl i] hp ce sl := by
  induction n with
  | zero =>
    intro i hp u v ce sl hn hi hI h1 h2
    have ht := l_test (sc := sc) (i := i) (u := u) (v := v) (hp := hp) h0 hL hi
    rw [if_neg (by omega)] at ht
    exact LW_steps K hsc ht (LW_end K (by omega) (by omega))
  | succ n ih =>
    intro i hp u v ce sl hn hi hI h1 h2
    have ht := l_test (sc := sc) (i := i) (u := u) (v := v) (hp := hp) h0 hL hi
    by_cases hc : i + 6 ≤ sc.length
    · rw [if_pos hc] at ht
      refine LW_steps K hsc ht ?_
      have hw : ∃ w : Nat → Nat, ∀ c, c < 6 → w c < 4294967296 ∧ sc[i + c]? = some (.inl (w c)) := by
        refine ⟨fun c => if h : c < 6 then (hint (i + c) (by omega)).choose else 0, fun c hc' => ?_⟩
        dsimp only
        rw [dif_pos hc']
        exact (hint (i + c) (by omega)).choose_spec
      obtain ⟨w, hw⟩ := hw
      have hE := lEnv_of (sc := sc) (i := i) (w := w) (by omega) hw
      have hG := lG_of (i := i) (w := w) (by omega)
      have next : ∀ (hp' : List vOb) (u v : Option vAV) (ce' sl' : Nat), Iv hp' → ce' ≤ ce + 1 → sl' ≤ sl + 6 → LW p l e s m below meth c b sa sv D 1398 (kL i u v) [] hp' ce' sl' := fun hp' u v ce' sl' hI' q1 q2 => by
        obtain ⟨pc', kl', ks', B, xs, b1, b2, b3, b4, b5⟩ := l_ok (hp := hp') (ks := []) lw_next hE hG ⟨rfl, kL_to (u := u) (v := v) rfl (by omega), trivial⟩
        rw [List.mem_singleton] at b1
        subst b1 b3
        obtain ⟨u1, v1, e1⟩ := kL_of (i := i) (δ := 6) rfl (by omega) b4
        have e2 := nAr_eq (as := []) rfl b5
        subst e1 e2
        exact LW_steps K hsc b2 (LW_steps K hsc l_head (ih (i + 6) hp' u1 v1 ce' sl' (by omega) (by omega) hI' (by omega) (by omega)))
      obtain ⟨pc', kl', ks', B, xs, b1, b2, b3, b4, b5⟩ := l_ok (hp := hp) (ks := []) lw_sw hE hG ⟨rfl, kL_to (u := u) (v := v) rfl (by omega), trivial⟩
      obtain ⟨p0, p1, p2⟩ := List.mem_map.mp b1
      subst p2 b3
      obtain ⟨u1, v1, e1⟩ := kL_of (i := i) (δ := 0) rfl (by omega) b4
      have e2 := nAr_eq (as := []) rfl b5
      subst e1 e2
      refine LW_steps K hsc b2 ?_
      by_cases hp0 : pc' = 1398
      · subst hp0
        exact next hp u1 v1 ce sl hI (by omega) (by omega)
      · exact hcase pc' p1 hp0 i w hp u1 v1 ce sl (by omega) hw hI h1 h2 next
    · rw [if_neg hc] at ht
      exact LW_steps K hsc ht (LW_end K (by omega) (by omega))
end LLOOP
end
section
/-! ===== the calls of the class, by their contracts ===== -/
def hTcN (c : Nat) : sHp := match c with
  | 0 => hTc0
  | 1 => hTc1
  | 2 => hTc2
  | _ => hTc3
theorem hTcN_is (c : Nat) : ∃ o, hTcN c = (0, o) :: hT := by
  unfold hTcN
  split
  · exact ⟨_, rfl⟩
  · exact ⟨_, rfl⟩
  · exact ⟨_, rfl⟩
  · exact ⟨_, rfl⟩
def mdX (md : sMd) : Bool := md.all (fun m => Nat.blt m.1 220)
theorem mdX_ok {md : sMd} (h : mdX md = true) {k i : Nat} (hm : sMin md k i) : k < 220 := by
  obtain ⟨m, m1, m2, -⟩ := hm
  have := Nat.blt_eq.mp (List.all_eq_true.mp h m m1)
  omega
def ints (args : List vAV) : Prop := ∀ a ∈ args, ∃ u, u < 4294967296 ∧ a = .inl u
theorem sAr_full : ∀ (k : Nat) {args : List vAV}, args.length = k → ints args → sAr (List.replicate k zF) args
  | 0, [], _, _ => trivial
  | 0, _ :: _, h, _ => by simp at h
  | k + 1, [], h, _ => by simp at h
  | k + 1, a :: as, h, hi => by
    obtain ⟨u, u1, u2⟩ := hi a List.mem_cons_self
    exact ⟨⟨u, u1, sIn_full (sBi_lt u), u2⟩, sAr_full k (by simpa using h) (fun x hx => hi x (List.mem_cons_of_mem _ hx))⟩
/-- a call of the class in one of its four shapes -/
def xOK (j k c : Nat) : Prop := ∀ (hp : List vOb) (args : List vAV), kTy (hTcN c) plC hp → args.length = k → ints args → ∃ u hp' md, (∃ N, ∀ fuel, N ≤ fuel → vCalD vms vdf fuel 60 j (yV 0 :: args) hp = some (some (.inl u), hp', 0, 0)) ∧ u < 4294967296 ∧ (∃ c', c' < 4 ∧ kTy (hTcN c') plC hp') ∧ sFr md hp hp' ∧ mdX md = true
def xB (e : sCtE) : Bool := e.2.2.1.all (fun k => Nat.blt k 220) && (mdX e.2.2.2.2 && plC.all (fun k => sStop k e.2.2.1 || !sHas k e.2.2.2.2))
theorem sRt_int {S : sSet} {r : Option vAV} (h : sRtC (some (.inr S)) r) : ∃ u, u < 4294967296 ∧ r = some (.inl u) := by
  cases r with
  | none => exact h.elim
  | some v =>
    obtain ⟨u, u1, -, u3⟩ := h
    exact ⟨u, u1, by rw [u3]⟩
theorem xOK_of {e : sCtE} {k c : Nat} {S : sSet} (hc4 : c < 4) (hc : cOK vms vdf 60 (hTcN c) e) (ha : e.2.1 = yO 0 :: List.replicate k zF) (hr : e.2.2.2.1 = some (.inr S)) (hB : xB e = true) : xOK e.1 k c := by
  intro hp args hty hl hi
  unfold xB at hB
  rw [Bool.and_eq_true, Bool.and_eq_true] at hB
  obtain ⟨b1, b2, b3⟩ := hB
  obtain ⟨r, hp', h1, h2, h3, h4⟩ := hc (yV 0 :: args) hp (by rw [ha]; exact ⟨rfl, sAr_full k hl hi⟩) (kTy_sub (plC_mem b1) hty)
  rw [hr] at h2
  obtain ⟨u, u1, u2⟩ := sRt_int h2
  subst u2
  exact ⟨u, hp', _, h1, u1, ⟨c, hc4, kTy_upd b3 h3 hty h4⟩, h3, b2⟩
theorem xOK_of0 {e : sCtE} {k c : Nat} {S : sSet} (hc4 : c < 4) (hc : cOK vms vdf 60 hT e) (ha : e.2.1 = yO 0 :: List.replicate k zF) (hr : e.2.2.2.1 = some (.inr S)) (hB : xB e = true) (hs : tSame 0 e.2.2.1 = true) : xOK e.1 k c := by
  intro hp args hty hl hi
  unfold xB at hB
  rw [Bool.and_eq_true, Bool.and_eq_true] at hB
  obtain ⟨b1, b2, b3⟩ := hB
  obtain ⟨o, ho⟩ := hTcN_is c
  have hty0 : kTy hT e.2.2.1 hp := by
    have h := kTy_sub (plC_mem b1) hty
    rw [ho] at h
    exact (kTy_cons hs).mp h
  obtain ⟨r, hp', h1, h2, h3, h4⟩ := hc (yV 0 :: args) hp (by rw [ha]; exact ⟨rfl, sAr_full k hl hi⟩) hty0
  rw [hr] at h2
  obtain ⟨u, u1, u2⟩ := sRt_int h2
  subst u2
  refine ⟨u, hp', _, h1, u1, ⟨c, hc4, kTy_upd b3 h3 hty ?_⟩, h3, b2⟩
  rw [ho]
  exact (kTy_cons hs).mpr h4
theorem xOK_ofS {e : sCtE} {k c c1 c2 : Nat} {S : sSet} (h1c : c1 < 4) (h2c : c2 < 4) (hc : pOK vms vdf 60 (hTcN c) [hTcN c1, hTcN c2] e) (ha : e.2.1 = yO 0 :: List.replicate k zF) (hr : e.2.2.2.1 = some (.inr S)) (hB : xB e = true) (h0 : sStop 0 e.2.2.1 = true) : xOK e.1 k c := by
  intro hp args hty hl hi
  unfold xB at hB
  rw [Bool.and_eq_true, Bool.and_eq_true] at hB
  obtain ⟨b1, b2, b3⟩ := hB
  obtain ⟨r, hp', h1, h2, h3, T', h4, h5⟩ := hc (yV 0 :: args) hp (by rw [ha]; exact ⟨rfl, sAr_full k hl hi⟩) (kTy_sub (plC_mem b1) hty)
  rw [hr] at h2
  obtain ⟨u, u1, u2⟩ := sRt_int h2
  subst u2
  have move : ∀ c', kTy (hTcN c') e.2.2.1 hp' → kTy (hTcN c') plC hp' := fun c' h => fun k hk => by
    by_cases hk0 : k = 0
    · subst hk0
      exact h 0 (sStop_mem h0)
    · rcases Bool.or_eq_true_iff.mp (List.all_eq_true.mp b3 k hk) with e1 | e1
      · exact h k (sStop_mem e1)
      · obtain ⟨o, ho⟩ := hTcN_is c
        obtain ⟨o', ho'⟩ := hTcN_is c'
        have hsame : tSame 0 [k] = true := by
          unfold tSame
          cases hb : sStop 0 [k] with
          | false => rfl
          | true =>
            have := sStop_mem hb
            rw [List.mem_singleton] at this
            exact absurd this.symm hk0
        have q1 : kTy (hTcN c) [k] hp := kTy_sub (fun k' hk' => by
          rw [List.mem_singleton] at hk'
          rw [hk']
          exact hk) hty
        rw [ho] at q1
        have q2 : kTy (hTcN c') [k] hp := by
          rw [ho']
          exact (kTy_cons hsame).mpr ((kTy_cons hsame).mp q1)
        obtain ⟨oT, ob, r1, r2, r3⟩ := q2 k (List.mem_singleton.mpr rfl)
        exact ⟨oT, ob, r1, row_same h3 (by cases hb : sHas k e.2.2.2.2 with
          | false => rfl
          | true => rw [hb] at e1; cases e1) r2, r3⟩
  simp only [List.mem_cons, List.not_mem_nil, or_false] at h4
  rcases h4 with rfl | rfl
  · exact ⟨u, hp', _, h1, u1, ⟨c1, h1c, move c1 h5⟩, h3, b2⟩
  · exact ⟨u, hp', _, h1, u1, ⟨c2, h2c, move c2 h5⟩, h3, b2⟩
end
