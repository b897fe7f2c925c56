/-! ===== a step, whatever it is ===== -/
section SSP
variable {md : sMd} {hp0 : List vOb} {ρ : List Nat} {ls : vLs} {st : List vAV} {h : sHp} {G : sG} {kl : vLs} {ks : List vAV} {hp : List vOb} {L : List sSt}
noncomputable def sLoo (pc : Nat) (dflt : Int) (x : vAV) (ls : vLs) (st : List vAV) (h : sHp) : List (Int × Int) → sG → Option (List sSt)
  | [], G => if 0 ≤ (pc : Int) + dflt then some [(((pc : Int) + dflt).toNat, ls, st, h, G)] else none
  | p :: ps, G => if 0 ≤ p.1 ∧ p.1 < 2147483648 ∧ 0 ≤ (pc : Int) + p.2 then (match sEqG G x (.inl p.1.toNat) with
    | some (T, F) => (match (match F with
      | some G' => sLoo pc dflt x ls st h ps G'
      | none => some []) with
      | some R => (match T with
        | some G' => some ((((pc : Int) + p.2).toNat, ls, st, h, G') :: R)
        | none => some R)
      | none => none)
    | none => none) else none
theorem kn_key {u : Nat} {a : Int} (hu : u < 4294967296) (h0 : 0 ≤ a) (h1 : a < 2147483648) : (a = (nI u).toInt) ↔ sBi u = sBi a.toNat := by
  have e := kn_bi (nI u)
  rw [kn_nI hu] at e
  have e2 : sBi a.toNat = a.toNat + 2147483648 := sBi_of (by omega)
  omega
theorem sLoo_ok {pc : Nat} {dflt : Int} {x : vAV} {u : Nat} (hl : sLr ρ ls kl) (ht : sTr ρ st ks) (hh : sHr ρ h hp) (hf : sFr md hp0 hp) (hu : u < 4294967296) (hx : sV ρ x (.inl u)) : ∀ (ps : List (Int × Int)) (G : sG) (L : List sSt), sGr ρ G → sLoo pc dflt x ls st h ps G = some L → 0 ≤ (pc : Int) + Op.lookupswitch.offset ps dflt (nI u).toInt ∧ sOut md hp0 ρ L (some (((pc : Int) + Op.lookupswitch.offset ps dflt (nI u).toInt).toNat, kl, ks, hp))
  | [], G, L, hG, he => by
    unfold sLoo at he
    by_cases c : 0 ≤ (pc : Int) + dflt
    · rw [if_pos c] at he
      cases he
      exact ⟨c, sOut_now rfl ⟨hl, ht, hh, hG, hf⟩⟩
    · rw [if_neg c] at he; cases he
  | p :: ps, G, L, hG, he => by
    unfold sLoo at he
    by_cases c : 0 ≤ p.1 ∧ p.1 < 2147483648 ∧ 0 ≤ (pc : Int) + p.2
    · rw [if_pos c] at he
      have hoff : Op.lookupswitch.offset (p :: ps) dflt (nI u).toInt = if p.1 = (nI u).toInt then p.2 else Op.lookupswitch.offset ps dflt (nI u).toInt := rfl
      have hkey := kn_key hu c.1 c.2.1
      split at he
      · next T F hc =>
        obtain ⟨e1, e2⟩ := sEqG_ok (y := .inl p.1.toNat) (w := p.1.toNat) hG hx ⟨by omega, rfl⟩ hc
        by_cases hk : sBi u = sBi p.1.toNat
        · obtain ⟨G', rfl, g2⟩ := e1 hk
          rw [hoff, if_pos (hkey.mpr hk)]
          split at he
          · cases he
            exact ⟨c.2.2, sOut_one [] List.mem_cons_self rfl (by rw [List.append_nil]; exact ⟨hl, ht, hh, g2, hf⟩)⟩
          · cases he
        · obtain ⟨G', rfl, g2⟩ := e2 hk
          rw [hoff, if_neg (fun q => hk (hkey.mp q))]
          dsimp only at he
          split at he
          · next R hR =>
            obtain ⟨r1, r2⟩ := sLoo_ok hl ht hh hf hu hx ps G' R g2 hR
            refine ⟨r1, ?_⟩
            split at he
            · cases he
              obtain ⟨a1, a2, a3, a4, a5, σ, a6, a7⟩ := r2
              exact ⟨a1, a2, a3, a4, a5, σ, List.mem_cons_of_mem _ a6, a7⟩
            · cases he; exact r2
          · cases he
      · cases he
    · rw [if_neg c] at he; cases he
noncomputable def sLook (pc : Nat) (dflt : Int) (ps : Array (Int × Int)) (ls : vLs) (st : List vAV) (h : sHp) (G : sG) : Option (List sSt) := match st with
  | x :: st' => bif Nat.beq (sKd x) 0 && (ps.toList.zip (ps.toList.drop 1)).all (fun (a, next) => a.1 < next.1) then sLoo pc dflt x ls st' h ps.toList G else none
  | _ => none
theorem sLook_ok {pc : Nat} {dflt : Int} {ps : Array (Int × Int)} (hR : sR md hp0 ρ ls st h G kl ks hp) (he : sLook pc dflt ps ls st h G = some L) : sOut md hp0 ρ L (vLoo pc dflt ps kl ks hp) := by
  obtain ⟨hl, ht, hh, hG, hf⟩ := hR
  unfold sLook at he
  split at he
  · next x st' =>
    match ks, ht with
    | kx :: ks', ht =>
      cases hb : (Nat.beq (sKd x) 0 && (ps.toList.zip (ps.toList.drop 1)).all (fun (a, next) => a.1 < next.1)) with
      | false => rw [hb] at he; cases he
      | true =>
        rw [hb, cond_true] at he
        rw [Bool.and_eq_true] at hb
        obtain ⟨u, hu, rfl⟩ := sInt ht.1 hb.1
        obtain ⟨r1, r2⟩ := sLoo_ok hl ht.2 hh hf hu ht.1 _ _ _ hG he
        unfold vLoo
        dsimp only
        rw [hb.2, cond_true, if_pos r1]
        exact r2
  · cases he
noncomputable def sDup (pc : Nat) (ls : vLs) (st : List vAV) (h : sHp) (G : sG) : Option (List sSt) := match st with
  | v :: st' => bif Nat.beq (sKd v) 1 then none else some [(pc, ls, v :: v :: st', h, G)]
  | _ => none
noncomputable def sDup2 (pc : Nat) (ls : vLs) (st : List vAV) (h : sHp) (G : sG) : Option (List sSt) := match st with
  | v :: w :: st' => bif Nat.beq (sKd v) 1 || Nat.beq (sKd w) 1 then none else some [(pc, ls, v :: w :: v :: w :: st', h, G)]
  | _ => none
noncomputable def sPop (pc : Nat) (ls : vLs) (st : List vAV) (h : sHp) (G : sG) : Option (List sSt) := match st with
  | v :: st' => bif Nat.beq (sKd v) 1 then none else some [(pc, ls, st', h, G)]
  | _ => none
theorem sDup_ok {pc : Nat} (hR : sR md hp0 ρ ls st h G kl ks hp) (he : sDup pc ls st h G = some L) : sOut md hp0 ρ L (vDup pc kl ks hp) := by
  obtain ⟨hl, ht, hh, hG, hf⟩ := hR
  unfold sDup at he
  split at he
  · next v st' =>
    match ks, ht with
    | w :: ks', ht =>
      cases hb : Nat.beq (sKd v) 1 with
      | true => rw [hb] at he; cases he
      | false =>
        rw [hb, cond_false] at he
        cases he
        refine sOut_now (kl' := kl) (ks' := w :: w :: ks') (hp' := hp) ?_ ⟨hl, ⟨ht.1, ht⟩, hh, hG, hf⟩
        unfold vDup
        simp only [sKd_ok ht.1, hb, cond_false]
  · cases he
theorem sDup2_ok {pc : Nat} (hR : sR md hp0 ρ ls st h G kl ks hp) (he : sDup2 pc ls st h G = some L) : sOut md hp0 ρ L (vDup2 pc kl ks hp) := by
  obtain ⟨hl, ht, hh, hG, hf⟩ := hR
  unfold sDup2 at he
  split at he
  · next v w st' =>
    match ks, ht with
    | [_], ht => exact ht.2.elim
    | kv :: kw :: ks', ht =>
      cases hb : (Nat.beq (sKd v) 1 || Nat.beq (sKd w) 1) with
      | true => rw [hb] at he; cases he
      | false =>
        rw [hb, cond_false] at he
        cases he
        refine sOut_now (kl' := kl) (ks' := kv :: kw :: kv :: kw :: ks') (hp' := hp) ?_ ⟨hl, ⟨ht.1, ht.2.1, ht⟩, hh, hG, hf⟩
        unfold vDup2
        simp only [sKd_ok ht.1, sKd_ok ht.2.1, hb, cond_false]
  · cases he
theorem sPop_ok {pc : Nat} (hR : sR md hp0 ρ ls st h G kl ks hp) (he : sPop pc ls st h G = some L) : sOut md hp0 ρ L (vPop pc kl ks hp) := by
  obtain ⟨hl, ht, hh, hG, hf⟩ := hR
  unfold sPop at he
  split at he
  · next v st' =>
    match ks, ht with
    | w :: ks', ht =>
      cases hb : Nat.beq (sKd v) 1 with
      | true => rw [hb] at he; cases he
      | false =>
        rw [hb, cond_false] at he
        cases he
        refine sOut_now (kl' := kl) (ks' := ks') (hp' := hp) ?_ ⟨hl, ht.2, hh, hG, hf⟩
        unfold vPop
        simp only [sKd_ok ht.1, hb, cond_false]
  · cases he
noncomputable def sAln (pc : Nat) (ls : vLs) (st : List vAV) (h : sHp) (G : sG) : Option (List sSt) := match st with
  | .inr (.inr (.inr (.inl (some k)))) :: st' => match sGo h k with
    | some o => bif (Nat.beq (o.1 % 8) 0 || Nat.ble 6 (o.1 % 8)) then none else bif Nat.blt (sLen o.2.1) 65536 then vF (sLen o.2.1) (fun n => some [(pc, ls, .inl n :: st', h, G)]) else none
    | none => none
  | _ => none
theorem sAln_ok {pc : Nat} {sc : List vAV} {tx : List Nat} (hR : sR md hp0 ρ ls st h G kl ks hp) (he : sAln pc ls st h G = some L) : sOut md hp0 ρ L (vAln pc sc tx kl ks hp) := by
  obtain ⟨hl, ht, hh, hG, hf⟩ := hR
  unfold sAln at he
  split at he
  · next k st' =>
    match ks, ht with
    | kv :: ks', ht =>
      obtain ⟨hv, ht⟩ := ht
      have hv : kv = .inr (.inr (.inr (.inl (some k)))) := hv
      subst hv
      split at he
      · next o ho =>
        obtain ⟨ob, h1, h2⟩ := sHr_get hh ho
        cases hb : (Nat.beq (o.1 % 8) 0 || Nat.ble 6 (o.1 % 8)) with
        | true => rw [hb] at he; cases he
        | false =>
          rw [hb, cond_false] at he
          cases hn : Nat.blt (sLen o.2.1) 65536 with
          | false => rw [hn] at he; cases he
          | true =>
            rw [hn, cond_true, vF_eq] at he
            cases he
            have hn2 := Nat.blt_eq.mp hn
            refine sOut_now (kl' := kl) (ks' := .inl (sLen o.2.1) :: ks') (hp' := hp) ?_ ⟨hl, ⟨⟨by omega, rfl⟩, ht⟩, hh, hG, hf⟩
            unfold vAln
            simp only [vNth_eq, h1, h2.1, h2.2.1.1, hb, hn, cond_true, cond_false]
      · cases he
  · cases he
noncomputable def sInc (a b pc : Nat) (ls : vLs) (st : List vAV) (h : sHp) (G : sG) : Option (List sSt) := match vNth ls a with
  | some (some v) => bif Nat.beq (sKd v) 0 && Nat.blt b 4294967296 then (match sBin 0 G (sSimp G v) (.inl b) with
    | some L => some (L.map (fun e => (pc, sSet1 ls a e.2, st, h, e.1)))
    | none => none) else none
  | _ => none
theorem sInc_ok {a b pc : Nat} (hR : sR md hp0 ρ ls st h G kl ks hp) (he : sInc a b pc ls st h G = some L) : sOut md hp0 ρ L (vInc a b pc kl ks hp) := by
  obtain ⟨hl, ht, hh, hG, hf⟩ := hR
  unfold sInc at he
  rw [vNth_eq] at he
  split at he
  · next v hv =>
    obtain ⟨y, y1, y2⟩ := sLr_get hl a v hv
    cases hb : (Nat.beq (sKd v) 0 && Nat.blt b 4294967296) with
    | false => rw [hb] at he; cases he
    | true =>
      rw [hb, cond_true] at he
      rw [Bool.and_eq_true] at hb
      obtain ⟨u, hu, rfl⟩ := sInt y2 hb.1
      split at he
      · next L0 hL0 =>
        cases he
        obtain ⟨-, e, e1, xs, e2, e3⟩ := sBin_ok (op := 0) (y := .inl b) (w := b) (by omega) hG (sSimp_ok hG y2) ⟨Nat.blt_eq.mp hb.2, rfl⟩ hL0
        refine sOut_one xs (List.mem_map.mpr ⟨e, e1, rfl⟩) (kl := vSet1 kl a (.inl (sKop 0 u b))) (ks := ks) (hp := hp) ?_ ⟨sSet1_ok (sLr_app xs hl) a e3, sTr_app xs ht, sHr_app xs hh, e2, hf⟩
        unfold vInc
        simp only [vNth_eq, y1]
        unfold vB
        simp only [vF_eq]
        rfl
      · cases he
  · cases he
end SSP
