/-! ===== ranks as numbers; loops ===== -/
abbrev sCo : Type := Bool × (Nat ⊕ Nat)
def rDg (ρ : List Nat) (c : sCo) (n : Nat) : Prop := match c.2 with
  | .inl k => n = k ∧ k < 4294967296
  | .inr j => ∃ r, ρ[j]? = some r ∧ r < 4294967296 ∧ n = (bif c.1 then 4294967295 - r else r)
theorem rDg_lt {ρ : List Nat} {c : sCo} {n : Nat} (h : rDg ρ c n) : n < 4294967296 := by
  unfold rDg at h
  split at h
  · omega
  · obtain ⟨r, -, h2, h3⟩ := h
    cases hc : c.1 with
    | true => rw [hc, cond_true] at h3; omega
    | false => rw [hc, cond_false] at h3; omega
def rDs (ρ : List Nat) : List sCo → List Nat → Prop
  | [], [] => True
  | c :: cs, n :: ns => rDg ρ c n ∧ rDs ρ cs ns
  | [], _ :: _ => False
  | _ :: _, [] => False
theorem rDs_app {ρ : List Nat} (xs : List Nat) : ∀ {cs : List sCo} {ns : List Nat}, rDs ρ cs ns → rDs (ρ ++ xs) cs ns
  | [], [], _ => trivial
  | c :: cs, n :: ns, h => by
    refine ⟨?_, rDs_app xs h.2⟩
    have h1 := h.1
    unfold rDg at h1 ⊢
    split at h1
    · exact h1
    · obtain ⟨r, a, b⟩ := h1
      exact ⟨r, sApp_get xs a, b⟩
  | [], _ :: _, h => h.elim
  | _ :: _, [], h => h.elim
def rOk (G : sG) : List sCo → Bool
  | [] => true
  | c :: cs => (match c.2 with
    | .inl k => Nat.blt k 4294967296
    | .inr j => (match sFind j G.2.1 with
      | some _ => true
      | none => false)) && rOk G cs
theorem rDs_ex {ρ : List Nat} {G : sG} (hG : sGr ρ G) : ∀ {cs : List sCo}, rOk G cs = true → ∃ ns, rDs ρ cs ns
  | [], _ => ⟨[], trivial⟩
  | c :: cs, h => by
    unfold rOk at h
    rw [Bool.and_eq_true] at h
    obtain ⟨ns, hn⟩ := rDs_ex hG h.2
    have hd : ∃ n, rDg ρ c n := by
      obtain ⟨d0, cv⟩ := c
      rcases cv with k | j
      · have h1 : Nat.blt k 4294967296 = true := h.1
        exact ⟨k, rfl, Nat.blt_eq.mp h1⟩
      · have h1 : (match sFind j G.2.1 with
          | some _ => true
          | none => false) = true := h.1
        split at h1
        · next S hS =>
          obtain ⟨r, s1, s2, -⟩ := hG.2.1 _ (sFind_mem hS)
          exact ⟨bif d0 then 4294967295 - r else r, r, s1, s2, rfl⟩
        · cases h1
    obtain ⟨n, hn1⟩ := hd
    exact ⟨n :: ns, hn1, hn⟩
def rNum : List Nat → Nat
  | [] => 0
  | x :: xs => x * 4294967296 ^ xs.length + rNum xs
theorem rNum_lt {ρ : List Nat} : ∀ {cs : List sCo} {ns : List Nat}, rDs ρ cs ns → rNum ns < 4294967296 ^ ns.length
  | [], [], _ => by show 0 < 4294967296 ^ 0; decide
  | c :: cs, n :: ns, h => by
    have h1 := rDg_lt h.1
    have h2 := rNum_lt h.2
    show n * 4294967296 ^ ns.length + rNum ns < 4294967296 ^ (ns.length + 1)
    have h3 : (n + 1) * 4294967296 ^ ns.length ≤ 4294967296 * 4294967296 ^ ns.length := Nat.mul_le_mul_right _ (by omega)
    rw [Nat.pow_succ, Nat.mul_comm (4294967296 ^ ns.length)]
    rw [Nat.add_mul, Nat.one_mul] at h3
    omega
  | [], _ :: _, h => h.elim
  | _ :: _, [], h => h.elim
theorem rDs_len {ρ : List Nat} : ∀ {cs : List sCo} {ns : List Nat}, rDs ρ cs ns → ns.length = cs.length
  | [], [], _ => rfl
  | c :: cs, n :: ns, h => by simp [rDs_len h.2]
  | [], _ :: _, h => h.elim
  | _ :: _, [], h => h.elim
noncomputable def sLx1 (G : sG) (θ : List vAV) (o n : sCo) : Bool := match o.2, n.2 with
  | .inl k, .inl k' => Nat.blt k' k
  | .inr j, .inr j' => (match vNth θ j' with
    | some b => bif o.1 then n.1 && sLess G (.inr (.inl (j, 0))) b else !n.1 && sLess G b (.inr (.inl (j, 0)))
    | none => false)
  | _, _ => false
noncomputable def sEq1 (G : sG) (θ : List vAV) (o n : sCo) : Bool := match o.2, n.2 with
  | .inl k, .inl k' => Nat.beq k k'
  | .inr j, .inr j' => (match vNth θ j' with
    | some b => (bif o.1 then n.1 else !n.1) && sVeq (sSimp G (.inr (.inl (j, 0)))) (sSimp G b)
    | none => false)
  | _, _ => false
theorem sUn0 {r : Nat} (h : r < 4294967296) : sBi (sUn r 0) = r := by rw [sBi_un]; omega
theorem sLx1_ok {ρ ρ' : List Nat} {G : sG} {θ : List vAV} {o n : sCo} {x y : Nat} (hG : sGr ρ G) (hth : sThR ρ θ ρ') (hx : rDg ρ o x) (hy : rDg ρ' n y) (h : sLx1 G θ o n = true) : y < x := by
  obtain ⟨d, ov⟩ := o
  obtain ⟨d', nv⟩ := n
  rcases ov with k | j
  · rcases nv with k' | j'
    · have h1 := Nat.blt_eq.mp (show Nat.blt k' k = true from h)
      have e1 : x = k ∧ k < 4294967296 := hx
      have e2 : y = k' ∧ k' < 4294967296 := hy
      omega
    · cases h
  · rcases nv with k' | j'
    · cases h
    · obtain ⟨r, r1, r2, r3⟩ := hx
      obtain ⟨r', s1, s2, s3⟩ := hy
      have h : (match vNth θ j' with
        | some b => bif d then d' && sLess G (.inr (.inl (j, 0))) b else !d' && sLess G b (.inr (.inl (j, 0)))
        | none => false) = true := h
      rw [vNth_eq] at h
      split at h
      · next b hb =>
        obtain ⟨u, hu, hbv, hr⟩ := hth.2 j' b hb
        rw [s1] at hr
        have hr := Option.some.inj hr
        have hj : sV ρ (.inr (.inl (j, 0))) (.inl (sUn r 0)) := sV_sym r1 rfl
        cases d with
        | true =>
          rw [cond_true, Bool.and_eq_true] at h
          have hd : d' = true := h.1
          subst hd
          have hl := sLess_ok hG hj hbv (sUn_lt _ _) hu h.2
          rw [sUn0 r2] at hl
          have r3 : x = 4294967295 - r := r3
          have s3 : y = 4294967295 - r' := s3
          omega
        | false =>
          rw [cond_false, Bool.and_eq_true] at h
          have hd : d' = false := by
            cases d' with
            | false => rfl
            | true => cases h.1
          subst hd
          have hl := sLess_ok hG hbv hj hu (sUn_lt _ _) h.2
          rw [sUn0 r2] at hl
          have r3 : x = r := r3
          have s3 : y = r' := s3
          omega
      · cases h
theorem sEq1_ok {ρ ρ' : List Nat} {G : sG} {θ : List vAV} {o n : sCo} {x y : Nat} (hG : sGr ρ G) (hth : sThR ρ θ ρ') (hx : rDg ρ o x) (hy : rDg ρ' n y) (h : sEq1 G θ o n = true) : y = x := by
  obtain ⟨d, ov⟩ := o
  obtain ⟨d', nv⟩ := n
  rcases ov with k | j
  · rcases nv with k' | j'
    · have h1 := Nat.eq_of_beq_eq_true (show Nat.beq k k' = true from h)
      have e1 : x = k ∧ k < 4294967296 := hx
      have e2 : y = k' ∧ k' < 4294967296 := hy
      omega
    · cases h
  · rcases nv with k' | j'
    · cases h
    · obtain ⟨r, r1, r2, r3⟩ := hx
      obtain ⟨r', s1, s2, s3⟩ := hy
      have h : (match vNth θ j' with
        | some b => (bif d then d' else !d') && sVeq (sSimp G (.inr (.inl (j, 0)))) (sSimp G b)
        | none => false) = true := h
      rw [vNth_eq] at h
      split at h
      · next b hb =>
        obtain ⟨u, hu, hbv, hr⟩ := hth.2 j' b hb
        rw [s1] at hr
        have hr := Option.some.inj hr
        have hj : sV ρ (.inr (.inl (j, 0))) (.inl (sUn r 0)) := sV_sym r1 rfl
        rw [Bool.and_eq_true] at h
        have e := sVeq_ok h.2
        have h1 := sSimp_ok hG hbv
        rw [← e] at h1
        have h2 := sSimp_back hG rfl ⟨_, hj⟩ h1
        obtain ⟨rr, t1, t2⟩ := h2
        have t1 : ρ[j]? = some rr := t1
        rw [r1] at t1
        cases t1
        have e3 : u = sUn r 0 := Sum.inl.inj t2
        have e4 : sBi u = r := by rw [e3, sUn0 r2]
        have e5 : r' = r := hr.trans e4
        rw [r3, s3, e5]
        cases d with
        | true =>
          have hd : d' = true := h.1
          rw [hd]
        | false =>
          have hd : d' = false := by
            cases d' with
            | false => rfl
            | true => cases h.1
          rw [hd]
      · cases h
noncomputable def sLexB (G : sG) (θ : List vAV) : List sCo → List sCo → Bool
  | o :: os, n :: ns => sLx1 G θ o n || (sEq1 G θ o n && sLexB G θ os ns)
  | _, _ => false
theorem sLexB_ok {ρ ρ' : List Nat} {G : sG} {θ : List vAV} (hG : sGr ρ G) (hth : sThR ρ θ ρ') : ∀ {os ns : List sCo} {xs ys : List Nat}, rDs ρ os xs → rDs ρ' ns ys → os.length = ns.length → sLexB G θ os ns = true → rNum ys < rNum xs
  | [], _, _, _, _, _, _, h => by cases h
  | _ :: _, [], _, _, _, _, _, h => by cases h
  | o :: os, n :: ns, [], _, hx, _, _, _ => hx.elim
  | o :: os, n :: ns, _ :: _, [], _, hy, _, _ => hy.elim
  | o :: os, n :: ns, x :: xs, y :: ys, hx, hy, hl, h => by
    have hl2 : os.length = ns.length := by simpa using hl
    have l1 := rDs_len hx.2
    have l2 := rDs_len hy.2
    have l3 : ys.length = xs.length := by omega
    unfold sLexB at h
    rw [Bool.or_eq_true] at h
    show y * 4294967296 ^ ys.length + rNum ys < x * 4294967296 ^ xs.length + rNum xs
    rcases h with h | h
    · have h1 := sLx1_ok hG hth hx.1 hy.1 h
      have h2 := rNum_lt hy.2
      rw [l3] at h2 ⊢
      have h3 : (y + 1) * 4294967296 ^ xs.length ≤ x * 4294967296 ^ xs.length := Nat.mul_le_mul_right _ h1
      rw [Nat.add_mul, Nat.one_mul] at h3
      omega
    · rw [Bool.and_eq_true] at h
      have h1 := sEq1_ok hG hth hx.1 hy.1 h.1
      have h2 := sLexB_ok hG hth hx.2 hy.2 hl2 h.2
      rw [h1, l3]
      omega
/-- a cut point: the template, where its symbols come from, its rank -/
abbrev sCut : Type := sSt × List (Nat × Nat × Nat) × List sCo
noncomputable def sArr (old : Option (List sCo)) (σ : sSt) : List sCut → Bool
  | [] => false
  | c :: cs => (Nat.beq c.1.1 σ.1 && (match sTh σ.2.1 c.2.1 σ.2.2.2.1 σ.2.2.2.2 with
    | some (θ, h', G') => sLeq θ σ.2.1 σ.2.2.1 h' G' c.1 && (match old with
      | none => true
      | some o => Nat.beq o.length c.2.2.length && sLexB G' θ o c.2.2)
    | none => false)) || sArr old σ cs
theorem sArr_ok {md : sMd} {hp0 : List vOb} {ρ : List Nat} {old : Option (List sCo)} {σ : sSt} {kl : vLs} {ks : List vAV} {hp : List vOb} (hR : sR md hp0 ρ σ.2.1 σ.2.2.1 σ.2.2.2.1 σ.2.2.2.2 kl ks hp) : ∀ {cuts : List sCut}, sArr old σ cuts = true → ∃ c ∈ cuts, c.1.1 = σ.1 ∧ ∃ ρ', sR md hp0 ρ' c.1.2.1 c.1.2.2.1 c.1.2.2.2.1 c.1.2.2.2.2 kl ks hp ∧ ∀ o, old = some o → ∀ xs, rDs ρ o xs → ∀ ys, rDs ρ' c.2.2 ys → rNum ys < rNum xs
  | [], h => by cases h
  | c :: cs, h => by
    unfold sArr at h
    rw [Bool.or_eq_true] at h
    rcases h with h | h
    · rw [Bool.and_eq_true] at h
      have e := Nat.eq_of_beq_eq_true h.1
      have h2 := h.2
      split at h2
      · next θ h' G' hth =>
        obtain ⟨xs, r1, r2⟩ := sTh_ok hR hth
        rw [Bool.and_eq_true] at h2
        obtain ⟨ρ', t1, t2⟩ := sLeq_ok r1 r2 h2.1
        refine ⟨c, List.mem_cons_self, e, ρ', t2, fun o ho ds hds es hes => ?_⟩
        subst ho
        have h3 := h2.2
        dsimp only at h3
        rw [Bool.and_eq_true] at h3
        exact sLexB_ok r1.2.2.2.1 t1 (rDs_app xs hds) hes (Nat.eq_of_beq_eq_true h3.1) h3.2
      · cases h2
    · obtain ⟨c', h1, h2⟩ := sArr_ok hR h
      exact ⟨c', List.mem_cons_of_mem _ h1, h2⟩
/-- passed by, while a local is known and below a bound -/
def sSkp (σ : sSt) : List (Nat × Nat × Nat) → Bool
  | [] => false
  | s :: ss => (Nat.beq s.1 σ.1 && (match vNth σ.2.1 s.2.1 with
    | some (some (.inl u)) => Nat.blt u s.2.2
    | _ => false)) || sSkp σ ss
/-- stops besides the cuts; what is passed by; locals that are split by their numbers -/
abbrev sOp : Type := List Nat × List (Nat × Nat × Nat) × List (Nat × Nat)
/-- a value by its numbers, one after the other -/
noncomputable def sFk (pc : Nat) (ls : vLs) (st : List vAV) (h : sHp) (G : sG) (v : vAV) : Nat → Nat → List sSt
  | 0, _ => []
  | n + 1, x => match sRef G v [(x, x)] with
    | some G' => (pc, ls, st, h, G') :: sFk pc ls st h G v n (x + 1)
    | none => sFk pc ls st h G v n (x + 1)
/-- one of the states speaks of this one -/
def sSome (md : sMd) (hp0 : List vOb) (L : List sSt) (pc : Nat) (kl : vLs) (ks : List vAV) (hp : List vOb) : Prop := ∃ σ ∈ L, σ.1 = pc ∧ ∃ ρ, sR md hp0 ρ σ.2.1 σ.2.2.1 σ.2.2.2.1 σ.2.2.2.2 kl ks hp
theorem sFk_ok' {md : sMd} {hp0 : List vOb} {pc : Nat} {ls : vLs} {st : List vAV} {h : sHp} {G : sG} {v : vAV} {kl : vLs} {ks : List vAV} {hp : List vOb} {ρ : List Nat} {u : Nat} (hR : sR md hp0 ρ ls st h G kl ks hp) (hv : sV ρ v (.inl u)) : ∀ n x : Nat, x ≤ sBi u → sBi u < x + n → ∃ G', (pc, ls, st, h, G') ∈ sFk pc ls st h G v n x ∧ sR md hp0 ρ ls st h G' kl ks hp
  | 0, x, h1, h2 => by omega
  | n + 1, x, h1, h2 => by
    unfold sFk
    by_cases hx : sBi u = x
    · obtain ⟨G', g1, g2⟩ := sRef_ok hR.2.2.2.1 hv (S := [(x, x)]) (sIn_one (by omega) (by omega))
      rw [g1]
      exact ⟨G', List.mem_cons_self, hR.1, hR.2.1, hR.2.2.1, g2, hR.2.2.2.2⟩
    · obtain ⟨G', s1, s2⟩ := sFk_ok' hR hv n (x + 1) (by omega) (by omega)
      split
      · exact ⟨G', List.mem_cons_of_mem _ s1, s2⟩
      · exact ⟨G', s1, s2⟩
noncomputable def sQs (σ : sSt) (f : sSt → Bool) : List (Nat × Nat) → Bool
  | [] => false
  | q :: qs => (Nat.beq q.1 σ.1 && (match vNth σ.2.1 q.2 with
    | some (some a) => (match sSetOf σ.2.2.2.2 a with
      | some S => (sFk σ.1 σ.2.1 σ.2.2.1 σ.2.2.2.1 σ.2.2.2.2 a (sHi S + 1 - sLo S) (sLo S)).all f
      | none => false)
    | _ => false)) || sQs σ f qs
theorem sQs_ok {md : sMd} {hp0 : List vOb} {σ : sSt} {f : sSt → Bool} {kl : vLs} {ks : List vAV} {hp : List vOb} {ρ : List Nat} (hR : sR md hp0 ρ σ.2.1 σ.2.2.1 σ.2.2.2.1 σ.2.2.2.2 kl ks hp) : ∀ {qs : List (Nat × Nat)}, sQs σ f qs = true → ∃ G', f (σ.1, σ.2.1, σ.2.2.1, σ.2.2.2.1, G') = true ∧ sR md hp0 ρ σ.2.1 σ.2.2.1 σ.2.2.2.1 G' kl ks hp
  | [], h => by cases h
  | q :: qs, h => by
    unfold sQs at h
    rw [Bool.or_eq_true] at h
    rcases h with h | h
    · rw [Bool.and_eq_true, vNth_eq] at h
      have h := h.2
      split at h
      · next a ha =>
        obtain ⟨y, -, y2⟩ := sLr_get hR.1 _ a ha
        split at h
        · next S hS =>
          obtain ⟨u, -, rfl, i⟩ := sSetOf_ok hR.2.2.2.1 y2 hS
          have b := sIn_lohi i
          obtain ⟨G', g1, g2⟩ := sFk_ok' (pc := σ.1) hR y2 _ _ b.1 (show sBi u < sLo S + (sHi S + 1 - sLo S) by omega)
          exact ⟨G', List.all_eq_true.mp h _ g1, g2⟩
        · cases h
      · cases h
    · exact sQs_ok hR h
noncomputable def sMch (op : sOp) (scal : sCal) (md : sMd) (tbl : vTbl) (fuel : Nat) (cuts : List sCut) (fin : sSt → Bool) (old : Option (List sCo)) (σ0 : sSt) : Bool := match sRunL scal md tbl (fun σ => (sStop σ.1 (cuts.map (fun c => c.1.1)) && !sSkp σ op.2.1) || sStop σ.1 op.1) fuel σ0 with
  | none => false
  | some L => L.all (fun σ => (sArr old σ cuts || sQs σ (fun σ => sArr old σ cuts) op.2.2) || fin σ)
section SLP
variable {vms : List vMt} {df : List (List vAV)} {d : Nat} {md : sMd} {hp0 : List vOb} {scal : sCal} {tbl : vTbl} {mc ms fuel : Nat} {cuts : List sCut} {fin : sSt → Bool} {Q : kSt → Prop} {op : sOp}
theorem sMch_ok (hs : sCalOK vms df d md hp0 scal) (hfin : ∀ (σ : sSt) (ρ : List Nat) (kl : vLs) (ks : List vAV) (hp : List vOb), fin σ = true → sR md hp0 ρ σ.2.1 σ.2.2.1 σ.2.2.2.1 σ.2.2.2.2 kl ks hp → Q (σ.1, kl, ks, hp)) {old : Option (List sCo)} {σ0 : sSt} (h : sMch op scal md tbl fuel cuts fin old σ0 = true) {ρ : List Nat} {kl : vLs} {ks : List vAV} {hp : List vOb} (hR : sR md hp0 ρ σ0.2.1 σ0.2.2.1 σ0.2.2.2.1 σ0.2.2.2.2 kl ks hp) :
    ∃ κ, kRe vms df d tbl mc ms (σ0.1, kl, ks, hp) κ ∧ (Q κ ∨ ∃ c ∈ cuts, c.1.1 = κ.1 ∧ ∃ ρ', sR md hp0 ρ' c.1.2.1 c.1.2.2.1 c.1.2.2.2.1 c.1.2.2.2.2 κ.2.1 κ.2.2.1 κ.2.2.2 ∧ ∀ o, old = some o → ∀ xs, rDs ρ o xs → ∀ ys, rDs ρ' c.2.2 ys → rNum ys < rNum xs) := by
  unfold sMch at h
  split at h
  · cases h
  · next L hL =>
    obtain ⟨σ', s1, xs, kl', ks', hp', s2, s3, -⟩ := sRunL_ok (mc := mc) (ms := ms) hs fuel σ0 L hL ρ kl ks hp hR
    have h1 := List.all_eq_true.mp h σ' s1
    rw [Bool.or_eq_true, Bool.or_eq_true] at h1
    refine ⟨_, s2, ?_⟩
    rcases h1 with (h1 | h1) | h1
    rotate_left
    · obtain ⟨G', g1, g2⟩ := sQs_ok s3 h1
      obtain ⟨c, c1, c2, ρ', c3, c4⟩ := sArr_ok g2 g1
      exact Or.inr ⟨c, c1, c2, ρ', c3, fun o ho ds hds es hes => c4 o ho ds (rDs_app xs hds) es hes⟩
    rotate_left
    · obtain ⟨c, c1, c2, ρ', c3, c4⟩ := sArr_ok s3 h1
      exact Or.inr ⟨c, c1, c2, ρ', c3, fun o ho ds hds es hes => c4 o ho ds (rDs_app xs hds) es hes⟩
    · exact Or.inl (hfin σ' _ kl' ks' hp' h1 s3)
/-- from every cut point the method comes to an end -/
theorem sLoop (hs : sCalOK vms df d md hp0 scal) (hfin : ∀ (σ : sSt) (ρ : List Nat) (kl : vLs) (ks : List vAV) (hp : List vOb), fin σ = true → sR md hp0 ρ σ.2.1 σ.2.2.1 σ.2.2.2.1 σ.2.2.2.2 kl ks hp → Q (σ.1, kl, ks, hp)) (hc : ∀ c ∈ cuts, rOk c.1.2.2.2.2 c.2.2 = true ∧ sMch op scal md tbl fuel cuts fin (some c.2.2) c.1 = true) :
    ∀ (n : Nat) (c : sCut), c ∈ cuts → ∀ (ρ : List Nat) (kl : vLs) (ks : List vAV) (hp : List vOb), sR md hp0 ρ c.1.2.1 c.1.2.2.1 c.1.2.2.2.1 c.1.2.2.2.2 kl ks hp → ∀ xs, rDs ρ c.2.2 xs → rNum xs < n → ∃ κ, kRe vms df d tbl mc ms (c.1.1, kl, ks, hp) κ ∧ Q κ
  | 0, c, _, _, _, _, _, _, _, _, h => by omega
  | n + 1, c, hcm, ρ, kl, ks, hp, hR, xs, hxs, h => by
    obtain ⟨κ, k1, k2⟩ := sMch_ok (mc := mc) (ms := ms) hs hfin (hc c hcm).2 hR
    rcases k2 with k2 | ⟨c', c1, c2, ρ', c3, c4⟩
    · exact ⟨κ, k1, k2⟩
    · obtain ⟨ys, hys⟩ := rDs_ex c3.2.2.2.1 (hc c' c1).1
      have hlt := c4 _ rfl xs hxs ys hys
      obtain ⟨κ', k3, k4⟩ := sLoop hs hfin hc n c' c1 ρ' _ _ _ c3 ys hys (by omega)
      rw [c2] at k3
      exact ⟨κ', k1.tr k3, k4⟩
theorem sWhole (hs : sCalOK vms df d md hp0 scal) (hfin : ∀ (σ : sSt) (ρ : List Nat) (kl : vLs) (ks : List vAV) (hp : List vOb), fin σ = true → sR md hp0 ρ σ.2.1 σ.2.2.1 σ.2.2.2.1 σ.2.2.2.2 kl ks hp → Q (σ.1, kl, ks, hp)) (hc : ∀ c ∈ cuts, rOk c.1.2.2.2.2 c.2.2 = true ∧ sMch op scal md tbl fuel cuts fin (some c.2.2) c.1 = true) {σ0 : sSt} (h : sMch op scal md tbl fuel cuts fin none σ0 = true) {ρ : List Nat} {kl : vLs} {ks : List vAV} {hp : List vOb} (hR : sR md hp0 ρ σ0.2.1 σ0.2.2.1 σ0.2.2.2.1 σ0.2.2.2.2 kl ks hp) : ∃ κ, kRe vms df d tbl mc ms (σ0.1, kl, ks, hp) κ ∧ Q κ := by
  obtain ⟨κ, k1, k2⟩ := sMch_ok (mc := mc) (ms := ms) hs hfin h hR
  rcases k2 with k2 | ⟨c', c1, c2, ρ', c3, -⟩
  · exact ⟨κ, k1, k2⟩
  · obtain ⟨ys, hys⟩ := rDs_ex c3.2.2.2.1 (hc c' c1).1
    obtain ⟨κ', k3, k4⟩ := sLoop (mc := mc) (ms := ms) hs hfin hc (rNum ys + 1) c' c1 ρ' _ _ _ c3 ys hys (by omega)
    rw [c2] at k3
    exact ⟨κ', k1.tr k3, k4⟩
end SLP
