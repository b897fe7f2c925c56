/-! ===== arrays: loads ===== -/
/-- an index by its numbers, one after the other -/
noncomputable def sPt (h : sHp) (G : sG) (k : Nat) (o : sOb) (q : Nat × Nat) (pc : Nat) (ls : vLs) (st : List vAV) : Nat → Nat → Option (List sSt)
  | 0, _ => some []
  | n + 1, i => match sPt h G k o q pc ls st n (i + 1) with
    | none => none
    | some R => match sRef G (.inr (.inl q)) [(i + 2147483648, i + 2147483648)] with
      | none => some R
      | some G' => match sReadK h G' k i o with
        | some (h2, G2, v) => some ((pc, ls, v :: st, h2, G2) :: R)
        | none => none
/-- an index run by run -/
noncomputable def sPr (h : sHp) (G : sG) (k : Nat) (o : sOb) (q : Nat × Nat) (pc : Nat) (ls : vLs) (st : List vAV) : List (Nat × sC) → Nat → Option (List sSt)
  | [], _ => some []
  | r :: rs, p => match sPr h G k o q pc ls st rs (p + r.1) with
    | none => none
    | some R => bif Nat.beq r.1 0 then some R else (match sRef G (.inr (.inl q)) [(p + 2147483648, p + r.1 + 2147483647)] with
      | none => some R
      | some G' => (match r.2 with
        | .inr S => (match sMk G' S with
          | (G2, v) => some ((pc, ls, v :: st, sPo h k (o.1, o.2.1, (q, v) :: o.2.2), G2) :: R))
        | .inl a => some ((pc, ls, sSimp G' a :: st, h, G') :: R)))
def sSets : List sC → Bool
  | [] => true
  | .inr _ :: cs => sSets cs
  | .inl _ :: _ => false
def sTwo : List sC → Bool
  | _ :: _ :: _ => true
  | _ => false
noncomputable def sAld (kd1 kd2 pc : Nat) (ls : vLs) (st : List vAV) (h : sHp) (G : sG) : Option (List sSt) := match st with
  | idx :: .inr (.inr (.inr (.inl (some k)))) :: st' => match sGo h k with
    | some o => bif Nat.beq (o.1 % 8) kd1 || Nat.beq (o.1 % 8) kd2 then (match sSimp G idx with
      | .inl u => bif Nat.blt u 65536 then (match sReadK h G k u o with
        | some (h', G', v) => some [(pc, ls, v :: st', h', G')]
        | none => none) else none
      | .inr (.inl q) => (match sCfd q o.2.2 with
        | some v => (match sIdx G (.inr (.inl q)) with
          | some _ => some [(pc, ls, sSimp G v :: st', h, G)]
          | none => none)
        | none => (match sIdx G (.inr (.inl q)) with
          | some (lo, hi) => bif Nat.blt hi (sLen o.2.1) then
              (bif Nat.beq kd1 5 then sPt h G k o q pc ls st' (hi + 1 - lo) lo
               else bif Nat.beq kd1 4 then (bif (sRg o.2.1 lo hi).all sLng then some [(pc, ls, .inr (.inr (.inr (.inr 4))) :: st', h, G)] else none)
               else bif sTwo (sRg o.2.1 lo hi) && sSets (sRg o.2.1 lo hi) then sPr h G k o q pc ls st' o.2.1 0
               else (match sUni G (sRg o.2.1 lo hi) with
                 | some S => (match sMk G S with
                   | (G', v) => some [(pc, ls, v :: st', sPo h k (o.1, o.2.1, (q, v) :: o.2.2), G')])
                 | none => none)) else none
          | none => none))
      | _ => none) else none
    | none => none
  | _ => none
theorem vAld_eq {kd1 kd2 pc : Nat} {sc : List vAV} {tx : List Nat} {ls : vLs} {st : List vAV} {hp : List vOb} {k u : Nat} {ob : vOb} {w : vAV} (hk : hp[k]? = some ob) (hd : (Nat.beq (ob.1 % 8) kd1 || Nat.beq (ob.1 % 8) kd2) = true) (hu : u < 65536) (hw : ob.2[u]? = some w) : vAld kd1 kd2 pc sc tx ls (.inl u :: .inr (.inr (.inr (.inl (some k)))) :: st) hp = some (pc, ls, w :: st, hp) := by
  unfold vAld
  simp only [vNth_eq, hk, hd, Nat.blt_eq.mpr hu, hw, Bool.and_self, cond_true]
section SLD
variable {md : sMd} {hp0 : List vOb} {ρ : List Nat} {ls : vLs} {st : List vAV} {h : sHp} {G : sG} {kl : vLs} {ks : List vAV} {hp : List vOb} {L : List sSt}
theorem sPt_ok {k : Nat} {o : sOb} {q : Nat × Nat} {pc u : Nat} {ob : vOb} {kd1 kd2 : Nat} {sc : List vAV} {tx : List Nat} (hl : sLr ρ ls kl) (ht : sTr ρ st ks) (hh : sHr ρ h hp) (hG : sGr ρ G) (hf : sFr md hp0 hp) (hk : hp[k]? = some ob) (ho : sOr ρ o ob) (hd : (Nat.beq (ob.1 % 8) kd1 || Nat.beq (ob.1 % 8) kd2) = true) (hv : sV ρ (.inr (.inl q)) (.inl u)) (hu : u < 65536) :
    ∀ (n i : Nat) (L : List sSt), sPt h G k o q pc ls st n i = some L → i ≤ u → u < i + n → sOut md hp0 ρ L (vAld kd1 kd2 pc sc tx kl (.inl u :: .inr (.inr (.inr (.inl (some k)))) :: ks) hp)
  | 0, i, L, _, h1, h2 => by omega
  | n + 1, i, L, he, h1, h2 => by
    unfold sPt at he
    split at he
    · cases he
    · next R hr =>
      by_cases hi : i = u
      · subst hi
        obtain ⟨G', g1, g2⟩ := sRef_ok hG hv (S := [(i + 2147483648, i + 2147483648)]) (by rw [sBi_of (by omega)]; exact sIn_one (Nat.le_refl _) (Nat.le_refl _))
        rw [g1] at he
        dsimp only at he
        split at he
        · next h3 G3 v hrd =>
          cases he
          obtain ⟨xs, w, r1, r2, r3, r4⟩ := sReadK_ok hh g2 hk ho hrd
          exact sOut_one xs List.mem_cons_self (vAld_eq hk hd hu r1) ⟨sLr_app xs hl, ⟨r4, sTr_app xs ht⟩, r2, r3, hf⟩
        · cases he
      · have ih := sPt_ok (sc := sc) (tx := tx) hl ht hh hG hf hk ho hd hv hu n (i + 1) R hr (by omega) (by omega)
        split at he
        · cases he; exact ih
        · split at he
          · cases he
            obtain ⟨a1, a2, a3, a4, a5, σ, a6, a7⟩ := ih
            exact ⟨a1, a2, a3, a4, a5, σ, List.mem_cons_of_mem _ a6, a7⟩
          · cases he
theorem sPr_ok {k : Nat} {o : sOb} {q : Nat × Nat} {pc u : Nat} {ob : vOb} {w : vAV} {kd1 kd2 : Nat} {sc : List vAV} {tx : List Nat} (hl : sLr ρ ls kl) (ht : sTr ρ st ks) (hh : sHr ρ h hp) (hG : sGr ρ G) (hf : sFr md hp0 hp) (hk : hp[k]? = some ob) (ho : sOr ρ o ob) (hd : (Nat.beq (ob.1 % 8) kd1 || Nat.beq (ob.1 % 8) kd2) = true) (hv : sV ρ (.inr (.inl q)) (.inl u)) (hu : u < 65536) (hw : ob.2[u]? = some w) :
    ∀ (rs : List (Nat × sC)) (p : Nat) (c : sC) (L : List sSt), sPr h G k o q pc ls st rs p = some L → p ≤ u → sRd rs (u - p) = some c → sCr ρ c w → sOut md hp0 ρ L (vAld kd1 kd2 pc sc tx kl (.inl u :: .inr (.inr (.inr (.inl (some k)))) :: ks) hp)
  | [], p, c, L, _, _, hr, _ => by cases hr
  | r :: rs, p, c, L, he, h1, hr, hc => by
    unfold sPr at he
    split at he
    · cases he
    · next R hR =>
      rw [sRd_cons] at hr
      by_cases hi : u - p < r.1
      · rw [if_pos hi] at hr
        have hr := Option.some.inj hr
        have hz : Nat.beq r.1 0 = false := by
          cases hb : Nat.beq r.1 0 with
          | false => rfl
          | true => have := Nat.eq_of_beq_eq_true hb; omega
        rw [hz, cond_false] at he
        obtain ⟨G', g1, g2⟩ := sRef_ok hG hv (S := [(p + 2147483648, p + r.1 + 2147483647)]) (by rw [sBi_of (by omega)]; exact sIn_one (by omega) (by omega))
        rw [g1] at he
        dsimp only at he
        rw [hr] at he
        split at he
        · next S =>
          have he := Option.some.inj he
          obtain ⟨x, x1, x3, rfl⟩ := hc
          obtain ⟨xs, m1, m2⟩ := sMk_ok g2 x1 x3
          subst he
          refine sOut_one xs List.mem_cons_self (vAld_eq hk hd hu hw) ⟨sLr_app xs hl, ⟨m2, sTr_app xs ht⟩, ?_, m1, hf⟩
          refine sHr_tell (sHr_app xs hh) hk ?_
          have ho2 := sOr_app xs ho
          refine ⟨ho2.1, ho2.2.1, fun e he => ?_⟩
          rcases List.mem_cons.mp he with e1 | e1
          · rw [e1]
            exact ⟨u, _, sIx_app xs (sIx_of hv hu), hw, m2⟩
          · exact ho2.2.2 e e1
        · next a =>
          have he := Option.some.inj he
          subst he
          refine sOut_one [] List.mem_cons_self (vAld_eq hk hd hu hw) ?_
          rw [List.append_nil]
          exact ⟨hl, ⟨sSimp_ok g2 hc, ht⟩, hh, g2, hf⟩
      · rw [if_neg hi] at hr
        have e : u - p - r.1 = u - (p + r.1) := by omega
        rw [e] at hr
        have ih := sPr_ok (sc := sc) (tx := tx) hl ht hh hG hf hk ho hd hv hu hw rs (p + r.1) c R hR (by omega) hr hc
        have more : ∀ σ, sOut md hp0 ρ (σ :: R) (vAld kd1 kd2 pc sc tx kl (.inl u :: .inr (.inr (.inr (.inl (some k)))) :: ks) hp) := fun σ => by
          obtain ⟨a1, a2, a3, a4, a5, σ', a6, a7⟩ := ih
          exact ⟨a1, a2, a3, a4, a5, σ', List.mem_cons_of_mem _ a6, a7⟩
        cases hz : Nat.beq r.1 0 with
        | true => rw [hz, cond_true] at he; cases he; exact ih
        | false =>
          rw [hz, cond_false] at he
          split at he
          · cases he; exact ih
          · split at he
            · have he := Option.some.inj he; subst he; exact more _
            · have he := Option.some.inj he; subst he; exact more _
theorem sAld_ok {kd1 kd2 pc : Nat} {sc : List vAV} {tx : List Nat} (hR : sR md hp0 ρ ls st h G kl ks hp) (he : sAld kd1 kd2 pc ls st h G = some L) : sOut md hp0 ρ L (vAld kd1 kd2 pc sc tx kl ks hp) := by
  obtain ⟨hl, ht, hh, hG, hf⟩ := hR
  unfold sAld at he
  split at he
  · next idx k st' =>
    match ks, ht with
    | [_], ht => exact ht.2.elim
    | ki :: kv :: ks', ht =>
      obtain ⟨hi, hv, ht⟩ := ht
      have hv : kv = .inr (.inr (.inr (.inl (some k)))) := hv
      subst hv
      split at he
      · next o ho =>
        obtain ⟨ob, h1, h2⟩ := sHr_get hh ho
        cases hb : (Nat.beq (o.1 % 8) kd1 || Nat.beq (o.1 % 8) kd2) with
        | false => rw [hb] at he; cases he
        | true =>
          rw [hb, cond_true] at he
          have hd : (Nat.beq (ob.1 % 8) kd1 || Nat.beq (ob.1 % 8) kd2) = true := by rw [h2.1]; exact hb
          have hi := sSimp_ok hG hi
          split at he
          · next u hs =>
            rw [hs] at hi
            obtain ⟨-, rfl⟩ := hi
            cases hu : Nat.blt u 65536 with
            | false => rw [hu] at he; cases he
            | true =>
              rw [hu, cond_true] at he
              have hu := Nat.blt_eq.mp hu
              split at he
              · next h' G' v hr =>
                cases he
                obtain ⟨xs, w, r1, r2, r3, r4⟩ := sReadK_ok hh hG h1 h2 hr
                exact sOut_one xs List.mem_cons_self (vAld_eq h1 hd hu r1) ⟨sLr_app xs hl, ⟨r4, sTr_app xs ht⟩, r2, r3, hf⟩
              · cases he
          · next q hs =>
            rw [hs] at hi
            split at he
            · next v hc =>
              split at he
              case h_2 => cases he
              next lh hix =>
              cases he
              obtain ⟨i, w, c1, c2, c3⟩ := h2.2.2 _ (sCfd_mem hc)
              obtain ⟨u, c5, rfl, -, -⟩ := sIdx_ok (lo := lh.1) (hi := lh.2) hG hi hix
              have c6 : u = i := sIx_inj (sIx_of hi c5) c1
              subst c6
              refine sOut_one [] List.mem_cons_self (vAld_eq h1 hd c5 c2) ?_
              rw [List.append_nil]
              exact ⟨hl, ⟨sSimp_ok hG c3, ht⟩, hh, hG, hf⟩
            · split at he
              · next lo hi' hix =>
                obtain ⟨u, u1, rfl, u2, u3⟩ := sIdx_ok hG hi hix
                cases hlen : Nat.blt hi' (sLen o.2.1) with
                | false => rw [hlen] at he; cases he
                | true =>
                  rw [hlen, cond_true] at he
                  have hlen := Nat.blt_eq.mp hlen
                  obtain ⟨c, hc⟩ := sRd_ex (rs := o.2.1) (i := u) (by omega)
                  obtain ⟨w, w1, w2⟩ := sRr_get h2.2.1 hc
                  have hm := sRg_mem u2 u3 hc
                  cases h5 : Nat.beq kd1 5 with
                  | true =>
                    rw [h5, cond_true] at he
                    exact sPt_ok hl ht hh hG hf h1 h2 hd hi u1 _ _ _ he u2 (by omega)
                  | false =>
                    rw [h5, cond_false] at he
                    cases h4 : Nat.beq kd1 4 with
                    | true =>
                      rw [h4, cond_true] at he
                      cases hal : (sRg o.2.1 lo hi').all sLng with
                      | false => rw [hal] at he; cases he
                      | true =>
                        rw [hal, cond_true] at he
                        cases he
                        obtain ⟨x, x1, rfl⟩ := sLng_ok (List.all_eq_true.mp hal c hm) w2
                        refine sOut_one [] List.mem_cons_self (vAld_eq h1 hd u1 w1) ?_
                        rw [List.append_nil]
                        exact ⟨hl, ⟨⟨x, x1, rfl⟩, ht⟩, hh, hG, hf⟩
                    | false =>
                      rw [h4, cond_false] at he
                      cases h6 : (sTwo (sRg o.2.1 lo hi') && sSets (sRg o.2.1 lo hi')) with
                      | true =>
                        rw [h6, cond_true] at he
                        exact sPr_ok hl ht hh hG hf h1 h2 hd hi u1 w1 _ 0 c _ he (Nat.zero_le _) hc w2
                      | false =>
                      rw [h6, cond_false] at he
                      split at he
                      · next S hS =>
                        cases he
                        obtain ⟨x, x1, rfl, x3⟩ := sUni_ok hG hS hm w2
                        obtain ⟨xs, m1, m2⟩ := sMk_ok hG x1 x3
                        refine sOut_one xs List.mem_cons_self (vAld_eq h1 hd u1 w1) ⟨sLr_app xs hl, ⟨m2, sTr_app xs ht⟩, ?_, m1, hf⟩
                        refine sHr_tell (sHr_app xs hh) h1 ?_
                        have ho2 := sOr_app xs h2
                        refine ⟨ho2.1, ho2.2.1, fun e he => ?_⟩
                        rcases List.mem_cons.mp he with e1 | e1
                        · rw [e1]
                          exact ⟨u, _, sIx_app xs (sIx_of hi u1), w1, m2⟩
                        · exact ho2.2.2 e e1
                      · cases he
              · cases he
          · cases he
      · cases he
  · cases he
end SLD
