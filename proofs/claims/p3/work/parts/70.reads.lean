/-! ===== states, and reading ===== -/
def sR (md : sMd) (hp0 : List vOb) (ρ : List Nat) (ls : vLs) (st : List vAV) (h : sHp) (G : sG) (kl : vLs) (ks : List vAV) (hp : List vOb) : Prop := sLr ρ ls kl ∧ sTr ρ st ks ∧ sHr ρ h hp ∧ sGr ρ G ∧ sFr md hp0 hp
abbrev sSt : Type := Nat × vLs × List vAV × sHp × sG
/-- one of these states is what the machine comes to -/
def sOut (md : sMd) (hp0 : List vOb) (ρ : List Nat) (L : List sSt) (r : vR) : Prop := ∃ pc kl ks hp, r = some (pc, kl, ks, hp) ∧ ∃ σ ∈ L, σ.1 = pc ∧ ∃ xs, sR md hp0 (ρ ++ xs) σ.2.1 σ.2.2.1 σ.2.2.2.1 σ.2.2.2.2 kl ks hp
theorem sOut_one {md : sMd} {hp0 : List vOb} {ρ : List Nat} {L : List sSt} {r : vR} {pc : Nat} {ls : vLs} {st : List vAV} {h : sHp} {G : sG} {kl : vLs} {ks : List vAV} {hp : List vOb} (xs : List Nat) (hL : (pc, ls, st, h, G) ∈ L) (hr : r = some (pc, kl, ks, hp)) (hR : sR md hp0 (ρ ++ xs) ls st h G kl ks hp) : sOut md hp0 ρ L r := ⟨pc, kl, ks, hp, hr, _, hL, rfl, xs, hR⟩
theorem sR_app {md : sMd} {hp0 : List vOb} {ρ : List Nat} (xs : List Nat) {ls : vLs} {st : List vAV} {h : sHp} {G : sG} {kl : vLs} {ks : List vAV} {hp : List vOb} (hl : sLr ρ ls kl) (ht : sTr ρ st ks) (hh : sHr ρ h hp) (hf : sFr md hp0 hp) (hG : sGr (ρ ++ xs) G) : sR md hp0 (ρ ++ xs) ls st h G kl ks hp := ⟨sLr_app xs hl, sTr_app xs ht, sHr_app xs hh, hG, hf⟩
/-- a symbol that can be one number alone -/
noncomputable def sSimp (G : sG) (a : vAV) : vAV := match a with
  | .inr (.inl q) => match sFind q.1 G.2.1 with
    | some [p] => bif Nat.beq p.1 p.2 then vF ((p.1 + q.2 + 2147483648) % 4294967296) (fun u => .inl u) else a
    | _ => a
  | _ => a
theorem sSimp_ok {ρ : List Nat} {G : sG} {a v : vAV} (hG : sGr ρ G) (h : sV ρ a v) : sV ρ (sSimp G a) v := by
  unfold sSimp
  split
  · next q =>
    split
    · next p hf =>
      cases hb : Nat.beq p.1 p.2 with
      | false => exact h
      | true =>
        rw [cond_true, vF_eq]
        have e := Nat.eq_of_beq_eq_true hb
        obtain ⟨r, h1, h2⟩ := h
        obtain ⟨r', h3, h4, h5⟩ := hG.2.1 _ (sFind_mem hf)
        have h3 : ρ[q.1]? = some r' := h3
        rw [h1] at h3
        cases h3
        have h6 : r = p.1 := by
          rcases sIn_cons.mp h5 with h | h
          · omega
          · exact (sIn_nil h).elim
        refine ⟨Nat.mod_lt _ (by decide), ?_⟩
        rw [h2, h6]
        rfl
    · exact h
  · exact h
/-- the cell at a known index -/
noncomputable def sReadK (h : sHp) (G : sG) (k i : Nat) (o : sOb) : Option (sHp × sG × vAV) := match sRd o.2.1 i with
  | some (.inl a) => some (h, G, sSimp G a)
  | some (.inr S) => match sMk G S with
    | (G', v) => some (sPo h k (o.1, sWr o.2.1 i (.inl v), o.2.2), G', v)
  | none => none
theorem sReadK_ok {ρ : List Nat} {h h' : sHp} {G G' : sG} {k i : Nat} {o : sOb} {v : vAV} {hp : List vOb} {ob : vOb} (hh : sHr ρ h hp) (hG : sGr ρ G) (hk : hp[k]? = some ob) (ho : sOr ρ o ob) (he : sReadK h G k i o = some (h', G', v)) : ∃ xs w, ob.2[i]? = some w ∧ sHr (ρ ++ xs) h' hp ∧ sGr (ρ ++ xs) G' ∧ sV (ρ ++ xs) v w := by
  unfold sReadK at he
  split at he
  · next a hr =>
    cases he
    obtain ⟨w, h1, h2⟩ := sRr_get ho.2.1 hr
    refine ⟨[], w, h1, ?_⟩
    rw [List.append_nil]
    exact ⟨hh, hG, sSimp_ok hG h2⟩
  · next S hr =>
    obtain ⟨w, h1, u, hu, hS, rfl⟩ := sRr_get ho.2.1 hr
    obtain ⟨xs, m1, m2⟩ := sMk_ok hG hu hS
    cases he
    refine ⟨xs, _, h1, ?_, m1, m2⟩
    refine sHr_tell (sHr_app xs hh) hk ?_
    have ho2 := sOr_app xs ho
    exact ⟨ho2.1, sRr_tell ho2.2.1 (sRd_lt hr) h1 m2, ho2.2.2⟩
  · cases he
noncomputable def sGf (a b t pc : Nat) (ls : vLs) (st : List vAV) (h : sHp) (G : sG) : Option (List sSt) := match st with
  | .inr (.inr (.inr (.inl (some k)))) :: st' => match sGo h k with
    | some o => bif Nat.beq o.1 (8 * a) && Nat.blt t 7 then match sReadK h G k b o with
      | some (h', G', v) => some [(pc, ls, v :: st', h', G')]
      | none => none
      else none
    | none => none
  | _ => none
theorem sGf_ok {md : sMd} {hp0 : List vOb} {ρ : List Nat} {a b t pc : Nat} {ls : vLs} {st : List vAV} {h : sHp} {G : sG} {kl : vLs} {ks : List vAV} {hp : List vOb} {L : List sSt} (hR : sR md hp0 ρ ls st h G kl ks hp) (he : sGf a b t pc ls st h G = some L) : sOut md hp0 ρ L (vGf a b t pc kl ks hp) := by
  obtain ⟨hl, ht, hh, hG, hf⟩ := hR
  unfold sGf at he
  split at he
  · next k st' =>
    match ks, ht with
    | kv :: ks', ht =>
      obtain ⟨hv, ht⟩ := ht
      have hv : kv = .inr (.inr (.inr (.inl (some k)))) := hv
      subst hv
      split at he
      · next o ho =>
        obtain ⟨ob, h1, h2⟩ := sHr_get hh ho
        cases hb : (Nat.beq o.1 (8 * a) && Nat.blt t 7) with
        | false => rw [hb] at he; cases he
        | true =>
          rw [hb, cond_true] at he
          split at he
          · next h' G' v hr =>
            cases he
            obtain ⟨xs, w, r1, r2, r3, r4⟩ := sReadK_ok hh hG h1 h2 hr
            refine sOut_one xs List.mem_cons_self (kl := kl) (ks := w :: ks') (hp := hp) ?_ ⟨sLr_app xs hl, ⟨r4, sTr_app xs ht⟩, r2, r3, hf⟩
            unfold vGf
            simp only [vNth_eq, h1, h2.1, hb, cond_true, r1]
          · cases he
      · cases he
  · cases he
/-- all sets of some cells -/
noncomputable def sUni (G : sG) : List sC → Option sSet
  | [] => some []
  | .inr S :: cs => match sUni G cs with
    | some T => some (S ++ T)
    | none => none
  | .inl a :: cs => match sSetOf G a, sUni G cs with
    | some S, some T => some (S ++ T)
    | _, _ => none
theorem sUni_ok {ρ : List Nat} {G : sG} (hG : sGr ρ G) : ∀ {cs : List sC} {S : sSet} {c : sC} {v : vAV}, sUni G cs = some S → c ∈ cs → sCr ρ c v → ∃ u, u < 4294967296 ∧ v = .inl u ∧ sIn S (sBi u)
  | [], _, _, _, _, h, _ => by cases h
  | .inr S0 :: cs, S, c, v, h, hc, hv => by
    unfold sUni at h
    split at h
    · next T hT =>
      cases h
      rcases List.mem_cons.mp hc with e | e
      · subst e
        obtain ⟨u, q1, q2, q3⟩ := hv
        exact ⟨u, q1, q3, sIn_app.mpr (Or.inl q2)⟩
      · obtain ⟨u, q1, q2, q3⟩ := sUni_ok hG hT e hv
        exact ⟨u, q1, q2, sIn_app.mpr (Or.inr q3)⟩
    · cases h
  | .inl a :: cs, S, c, v, h, hc, hv => by
    unfold sUni at h
    split at h
    · next S1 T hS1 hT =>
      cases h
      rcases List.mem_cons.mp hc with e | e
      · subst e
        obtain ⟨u, q1, q2, q3⟩ := sSetOf_ok hG hv hS1
        exact ⟨u, q1, q2, sIn_app.mpr (Or.inl q3)⟩
      · obtain ⟨u, q1, q2, q3⟩ := sUni_ok hG hT e hv
        exact ⟨u, q1, q2, sIn_app.mpr (Or.inr q3)⟩
    · cases h
/-- all of them longs -/
def sLng (c : sC) : Bool := match c with
  | .inl (.inr (.inr (.inl _))) => true
  | .inl (.inr (.inr (.inr (.inr 4)))) => true
  | _ => false
theorem sLng_ok {ρ : List Nat} {c : sC} {v : vAV} (h : sLng c = true) (hv : sCr ρ c v) : ∃ u, u < 18446744073709551616 ∧ v = .inr (.inr (.inl u)) := by
  unfold sLng at h
  split at h
  · exact ⟨_, hv.1, hv.2⟩
  · exact hv
  · cases h
def sCfd (q : Nat × Nat) : List ((Nat × Nat) × vAV) → Option vAV
  | [] => none
  | e :: es => bif Nat.beq e.1.1 q.1 && Nat.beq e.1.2 q.2 then some e.2 else sCfd q es
theorem sCfd_mem {q : Nat × Nat} : ∀ {es : List ((Nat × Nat) × vAV)} {v : vAV}, sCfd q es = some v → (q, v) ∈ es
  | [], _, h => by cases h
  | e :: es, v, h => by
    unfold sCfd at h
    cases hb : (Nat.beq e.1.1 q.1 && Nat.beq e.1.2 q.2) with
    | true =>
      rw [hb, cond_true] at h
      rw [Bool.and_eq_true] at hb
      have e1 := Nat.eq_of_beq_eq_true hb.1
      have e2 := Nat.eq_of_beq_eq_true hb.2
      have e3 := Option.some.inj h
      have e4 : e = (q, v) := Prod.ext (Prod.ext e1 e2) e3
      rw [e4]
      exact List.mem_cons_self
    | false => rw [hb, cond_false] at h; exact List.mem_cons_of_mem _ (sCfd_mem h)
