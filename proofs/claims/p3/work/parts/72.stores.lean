/-! ===== stores ===== -/
noncomputable def sFit (t : Nat) (G : sG) (v : vAV) : Bool := match t with
  | 0 => (match sSetOf G v with
    | some _ => true
    | none => false)
  | 1 => (match sSetOf G v with
    | some S => sSub S [(2147483648, 2147483649)]
    | none => false)
  | 2 => sLng (.inl v)
  | 3 => (match v with
    | .inr (.inr (.inr (.inl _))) => true
    | _ => false)
  | _ => false
theorem sBit {u : Nat} {S : sSet} (hu : u < 4294967296) (h : sIn S (sBi u)) (hs : sSub S [(2147483648, 2147483649)] = true) : u ≤ 1 := by
  rcases sIn_cons.mp (sSub_ok _ _ _ hs h) with h1 | h1
  · have h2 : 2147483648 ≤ sBi u := h1.1
    have h3 : sBi u ≤ 2147483649 := h1.2
    have := sBi_pos hu h2
    omega
  · exact (sIn_nil h1).elim
theorem sFit_ok {ρ : List Nat} {G : sG} {t : Nat} {v w : vAV} (hG : sGr ρ G) (hv : sV ρ v w) (h : sFit t G v = true) : vFit t w = true := by
  unfold sFit at h
  split at h
  · split at h
    · next S hS =>
      obtain ⟨u, -, rfl, -⟩ := sSetOf_ok hG hv hS
      rfl
    · cases h
  · split at h
    · next S hS =>
      obtain ⟨u, hu, rfl, i⟩ := sSetOf_ok hG hv hS
      exact Nat.ble_eq_true_of_le (sBit hu i h)
    · cases h
  · obtain ⟨u, -, rfl⟩ := sLng_ok (c := .inl v) h hv
    rfl
  · split at h
    · next o =>
      have hv : w = .inr (.inr (.inr (.inl o))) := hv
      subst hv
      cases o <;> rfl
    · cases h
  · cases h
noncomputable def sPf (md : sMd) (a b t pc : Nat) (ls : vLs) (st : List vAV) (h : sHp) (G : sG) : Option (List sSt) := match st with
  | v :: .inr (.inr (.inr (.inl (some k)))) :: st' => match sGo h k with
    | some o => bif ((Nat.beq o.1 (8 * a) && sFit t G v) && (Nat.blt b (sLen o.2.1) && sMc md k b b)) then some [(pc, ls, st', sPo h k (o.1, sWr o.2.1 b (.inl v), []), G)] else none
    | none => none
  | _ => none
section SST
variable {md : sMd} {hp0 : List vOb} {ρ : List Nat} {ls : vLs} {st : List vAV} {h : sHp} {G : sG} {kl : vLs} {ks : List vAV} {hp : List vOb} {L : List sSt}
theorem sPf_ok {a b t pc : Nat} (hR : sR md hp0 ρ ls st h G kl ks hp) (he : sPf md a b t pc ls st h G = some L) : sOut md hp0 ρ L (vPf a b t pc kl ks hp) := by
  obtain ⟨hl, ht, hh, hG, hf⟩ := hR
  unfold sPf at he
  split at he
  · next v k st' =>
    match ks, ht with
    | [_], ht => exact ht.2.elim
    | kv :: kr :: ks', ht =>
      obtain ⟨hv, hr, ht⟩ := ht
      have hr : kr = .inr (.inr (.inr (.inl (some k)))) := hr
      subst hr
      split at he
      · next o ho =>
        obtain ⟨ob, h1, h2⟩ := sHr_get hh ho
        cases hb : ((Nat.beq o.1 (8 * a) && sFit t G v) && (Nat.blt b (sLen o.2.1) && sMc md k b b)) with
        | false => rw [hb] at he; cases he
        | true =>
          rw [hb, cond_true] at he
          cases he
          rw [Bool.and_eq_true, Bool.and_eq_true, Bool.and_eq_true] at hb
          obtain ⟨⟨b1, b2⟩, b3, b4⟩ := hb
          have b3 := Nat.blt_eq.mp b3
          have b5 := sFit_ok hG hv b2
          have b6 : b < ob.2.length := by rw [h2.2.1.1]; exact b3
          refine sOut_one [] List.mem_cons_self (kl := kl) (ks := ks') (hp := hp.set k (ob.1, ob.2.set b kv)) ?_ ?_
          · unfold vPf
            simp only [vNth_eq, h1, h2.1, b1, b5, Bool.and_self, cond_true, List.getElem?_eq_getElem b6]
          · rw [List.append_nil]
            refine ⟨hl, ht, sHr_set hh (List.getElem?_eq_some_iff.mp h1).1 ⟨h2.1, sRr_set h2.2.1 b3 hv, fun e he => by cases he⟩, hG, hf.tr (sFr_set h1 (sMc_ok b4 (Nat.le_refl _) (Nat.le_refl _)))⟩
      · cases he
  · cases he
noncomputable def sNar (G : sG) (kd : Nat) (v : vAV) : Option (sG × vAV) := match kd with
  | 1 => (match sSetOf G v with
    | some _ => some (G, v)
    | none => none)
  | 2 => (match sSetOf G v with
    | some _ => some (sMk G [(2147483520, 2147483775)])
    | none => none)
  | 3 => (match sSetOf G v with
    | some S => bif sSub S [(2147483648, 2147483649)] then some (G, v) else none
    | none => none)
  | 4 => bif sLng (.inl v) then some (G, v) else none
  | _ => none
theorem kNarB_eq (u : Nat) : kNarB u = kI2b u := rfl
theorem sNar_ok {kd : Nat} {v v' w : vAV} {G' : sG} (hG : sGr ρ G) (hv : sV ρ v w) (h : sNar G kd v = some (G', v')) : ∃ xs w', vNar kd w = some w' ∧ sGr (ρ ++ xs) G' ∧ sV (ρ ++ xs) v' w' := by
  unfold sNar at h
  split at h
  · split at h
    · next S hS =>
      cases h
      obtain ⟨u, hu, rfl, -⟩ := sSetOf_ok hG hv hS
      exact ⟨[], _, rfl, by rw [List.append_nil]; exact hG, by rw [List.append_nil]; exact hv⟩
    · cases h
  · split at h
    · next S hS =>
      have h := Option.some.inj h
      obtain ⟨u, hu, rfl, -⟩ := sSetOf_ok hG hv hS
      have hb := kI2b_in u
      obtain ⟨xs, m1, m2⟩ := sMk_ok (S := [(2147483520, 2147483775)]) hG (kn_lt ((nI u).toInt8.toInt32)) (sIn_one hb.1 hb.2)
      rw [h] at m1 m2
      exact ⟨xs, .inl (kNarB u), rfl, m1, m2⟩
    · cases h
  · split at h
    · next S hS =>
      cases hb : sSub S [(2147483648, 2147483649)] with
      | false => rw [hb] at h; cases h
      | true =>
        rw [hb, cond_true] at h
        cases h
        obtain ⟨u, hu, rfl, i⟩ := sSetOf_ok hG hv hS
        refine ⟨[], .inl u, ?_, by rw [List.append_nil]; exact hG, by rw [List.append_nil]; exact hv⟩
        show (bif Nat.ble u 1 then some (Sum.inl u) else none) = _
        rw [Nat.ble_eq_true_of_le (sBit hu i hb)]
        rfl
    · cases h
  · cases hb : sLng (.inl v) with
    | false => rw [hb] at h; cases h
    | true =>
      rw [hb, cond_true] at h
      cases h
      obtain ⟨u, hu, rfl⟩ := sLng_ok hb hv
      exact ⟨[], _, rfl, by rw [List.append_nil]; exact hG, by rw [List.append_nil]; exact hv⟩
  · cases h
/-- can any cell of a run hold it, told as before -/
noncomputable def sHld (G : sG) (v : vAV) (c : sC) : Bool := match c with
  | .inr S => (match sSetOf G v with
    | some V => sSub V S
    | none => false)
  | .inl (.inr (.inr (.inr (.inr 4)))) => sLng (.inl v)
  | _ => false
theorem sHld_ok {v w : vAV} {c : sC} (hG : sGr ρ G) (hv : sV ρ v w) (h : sHld G v c = true) : sCr ρ c w := by
  unfold sHld at h
  split at h
  · next S =>
    split at h
    · next V hV =>
      obtain ⟨u, hu, rfl, i⟩ := sSetOf_ok hG hv hV
      exact ⟨u, hu, sSub_ok _ _ _ h i, rfl⟩
    · cases h
  · exact sLng_ok (c := .inl v) h hv
  · cases h
noncomputable def sAst (md : sMd) (kd1 kd2 pc : Nat) (ls : vLs) (st : List vAV) (h : sHp) (G : sG) : Option (List sSt) := match st with
  | v :: idx :: .inr (.inr (.inr (.inl (some k)))) :: st' => match sGo h k with
    | some o => bif Nat.beq (o.1 % 8) kd1 || Nat.beq (o.1 % 8) kd2 then (match sNar G (o.1 % 8) v with
      | some (G', v') => (match sSimp G' idx with
        | .inl u => bif Nat.blt u 65536 && (Nat.blt u (sLen o.2.1) && sMc md k u u) then some [(pc, ls, st', sPo h k (o.1, sWr o.2.1 u (.inl v'), []), G')] else none
        | .inr (.inl q) => (match sIdx G' (.inr (.inl q)) with
          | some (lo, hi) => bif Nat.blt hi (sLen o.2.1) && (sMc md k lo hi && (sRg o.2.1 lo hi).all (sHld G' v')) then some [(pc, ls, st', sPo h k (o.1, o.2.1, [(q, v')]), G')] else none
          | none => none)
        | _ => none)
      | none => none) else none
    | none => none
  | _ => none
theorem vAst_eq {kd1 kd2 pc : Nat} {ls : vLs} {st : List vAV} {k u : Nat} {ob : vOb} {w w' : vAV} (hk : hp[k]? = some ob) (hd : (Nat.beq (ob.1 % 8) kd1 || Nat.beq (ob.1 % 8) kd2) = true) (hu : u < 65536) (hlen : u < ob.2.length) (hn : vNar (ob.1 % 8) w = some w') : vAst kd1 kd2 pc ls (w :: .inl u :: .inr (.inr (.inr (.inl (some k)))) :: st) hp = some (pc, ls, st, hp.set k (ob.1, ob.2.set u w')) := by
  unfold vAst
  simp only [vNth_eq, hk, hd, Nat.blt_eq.mpr hu, List.getElem?_eq_getElem hlen, hn, Bool.and_self, cond_true]
theorem sAst_ok {kd1 kd2 pc : Nat} (hR : sR md hp0 ρ ls st h G kl ks hp) (he : sAst md kd1 kd2 pc ls st h G = some L) : sOut md hp0 ρ L (vAst kd1 kd2 pc kl ks hp) := by
  obtain ⟨hl, ht, hh, hG, hf⟩ := hR
  unfold sAst at he
  split at he
  · next v idx k st' =>
    match ks, ht with
    | [_], ht => exact ht.2.elim
    | [_, _], ht => exact ht.2.2.elim
    | kv :: ki :: kr :: ks', ht =>
      obtain ⟨hv, hi, hr, ht⟩ := ht
      have hr : kr = .inr (.inr (.inr (.inl (some k)))) := hr
      subst hr
      split at he
      · next o ho =>
        obtain ⟨ob, h1, h2⟩ := sHr_get hh ho
        have hkl := (List.getElem?_eq_some_iff.mp h1).1
        cases hb : (Nat.beq (o.1 % 8) kd1 || Nat.beq (o.1 % 8) kd2) with
        | false => rw [hb] at he; cases he
        | true =>
          rw [hb, cond_true] at he
          have hd : (Nat.beq (ob.1 % 8) kd1 || Nat.beq (ob.1 % 8) kd2) = true := by rw [h2.1]; exact hb
          split at he
          · next G' v' hn =>
            obtain ⟨xs, w', n1, n2, n3⟩ := sNar_ok hG hv hn
            rw [← h2.1] at n1
            have hi := sSimp_ok n2 (sV_app xs hi)
            have ho2 := sOr_app xs h2
            split at he
            · next u hs =>
              rw [hs] at hi
              obtain ⟨-, rfl⟩ := hi
              cases hc : (Nat.blt u 65536 && (Nat.blt u (sLen o.2.1) && sMc md k u u)) with
              | false => rw [hc] at he; cases he
              | true =>
                rw [hc, cond_true] at he
                cases he
                rw [Bool.and_eq_true, Bool.and_eq_true] at hc
                have c1 := Nat.blt_eq.mp hc.1
                have c2 := Nat.blt_eq.mp hc.2.1
                exact sOut_one xs List.mem_cons_self (vAst_eq h1 hd c1 (by rw [h2.2.1.1]; exact c2) n1) ⟨sLr_app xs hl, sTr_app xs ht, sHr_set (sHr_app xs hh) hkl ⟨h2.1, sRr_set ho2.2.1 c2 n3, fun e he => by cases he⟩, n2, hf.tr (sFr_set h1 (sMc_ok hc.2.2 (Nat.le_refl _) (Nat.le_refl _)))⟩
            · next q hs =>
              rw [hs] at hi
              split at he
              · next lo hi' hix =>
                obtain ⟨u, u1, rfl, u2, u3⟩ := sIdx_ok n2 hi hix
                cases hc : (Nat.blt hi' (sLen o.2.1) && (sMc md k lo hi' && (sRg o.2.1 lo hi').all (sHld G' v'))) with
                | false => rw [hc] at he; cases he
                | true =>
                  rw [hc, cond_true] at he
                  cases he
                  rw [Bool.and_eq_true, Bool.and_eq_true] at hc
                  have c1 := Nat.blt_eq.mp hc.1
                  have c2 : u < sLen o.2.1 := by omega
                  refine sOut_one xs List.mem_cons_self (vAst_eq h1 hd u1 (by rw [h2.2.1.1]; exact c2) n1) ⟨sLr_app xs hl, sTr_app xs ht, sHr_set (sHr_app xs hh) hkl ⟨h2.1, ⟨by rw [List.length_set]; exact h2.2.1.1, fun j c x hj hx => ?_⟩, fun e he => ?_⟩, n2, hf.tr (sFr_set h1 (sMc_ok hc.2.1 u2 u3))⟩
                  · by_cases e1 : u = j
                    · subst e1
                      rw [List.getElem?_set_self (by rw [h2.2.1.1]; exact c2)] at hx
                      cases hx
                      exact sHld_ok n2 n3 (List.all_eq_true.mp hc.2.2 c (sRg_mem u2 u3 hj))
                    · rw [List.getElem?_set_ne e1] at hx
                      exact ho2.2.1.2 j c x hj hx
                  · have e1 := List.mem_singleton.mp he
                    rw [e1]
                    exact ⟨u, w', sIx_of hi u1, List.getElem?_set_self (by rw [h2.2.1.1]; exact c2), n3⟩
              · cases he
            · cases he
          · cases he
      · cases he
  · cases he
end SST
