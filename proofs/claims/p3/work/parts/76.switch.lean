/-! ===== switches ===== -/
def sCvr : List (Nat × Nat) → Nat → Bool
  | [], n => Nat.ble 4294967296 n
  | q :: ps, n => Nat.beq q.1 n && sCvr ps (q.2 + 1)
theorem sCvr_ok : ∀ {ps : List (Nat × Nat)} {n x : Nat}, sCvr ps n = true → n ≤ x → x < 4294967296 → ∃ q ∈ ps, q.1 ≤ x ∧ x ≤ q.2
  | [], n, x, h, h1, h2 => by
    have := Nat.le_of_ble_eq_true h
    omega
  | q :: ps, n, x, h, h1, h2 => by
    have h : (Nat.beq q.1 n && sCvr ps (q.2 + 1)) = true := h
    rw [Bool.and_eq_true] at h
    have e := Nat.eq_of_beq_eq_true h.1
    by_cases hx : x ≤ q.2
    · exact ⟨q, List.mem_cons_self, by omega, hx⟩
    · obtain ⟨r, r1, r2⟩ := sCvr_ok h.2 (show q.2 + 1 ≤ x by omega) h2
      exact ⟨r, List.mem_cons_of_mem _ r1, r2⟩
theorem vTab_in {pc : Nat} {dflt lo hi : Int} {offs : Array Int} {q : Nat × Nat} {pc' : Nat} {r : vLs × List vAV × List vOb} (h : vTab pc dflt lo hi offs [] [.inr (.inl q)] [] = some (pc', r)) {x : vAV} {b : Nat} (hx : vIv x = some (b, b)) (h1 : q.1 ≤ b) (h2 : b ≤ q.2) (kl : vLs) (ks : List vAV) (hp : List vOb) : vTab pc dflt lo hi offs kl (x :: ks) hp = some (pc', kl, ks, hp) := by
  unfold vTab at h ⊢
  have e : vIv (.inr (.inl q)) = some q := rfl
  simp only [e] at h
  simp only [hx]
  by_cases c1 : (q.2 : Int) - 2147483648 < lo ∨ hi < (q.1 : Int) - 2147483648
  · rw [if_pos c1] at h
    have c2 : (b : Int) - 2147483648 < lo ∨ hi < (b : Int) - 2147483648 := by omega
    rw [if_pos c2]
    by_cases c3 : 0 ≤ (pc : Int) + dflt
    · rw [if_pos c3] at h ⊢
      have e1 := (Prod.mk.inj (Option.some.inj h)).1
      rw [e1]
    · rw [if_neg c3] at h; cases h
  · rw [if_neg c1] at h
    by_cases c4 : q.1 = q.2 ∧ lo ≤ (q.1 : Int) - 2147483648 ∧ (q.1 : Int) - 2147483648 ≤ hi
    · rw [if_pos c4] at h
      have eb : b = q.1 := by omega
      subst eb
      have c5 : ¬ ((q.1 : Int) - 2147483648 < lo ∨ hi < (q.1 : Int) - 2147483648) := by omega
      rw [if_neg c5, if_pos ⟨trivial, c4.2⟩]
      split at h
      · next off ho =>
        by_cases c3 : 0 ≤ (pc : Int) + off
        · rw [if_pos c3] at h ⊢
          have e1 := (Prod.mk.inj (Option.some.inj h)).1
          rw [e1]
        · rw [if_neg c3] at h; cases h
      · cases h
    · rw [if_neg c4] at h; cases h
noncomputable def sSwt (pc : Nat) (dflt lo hi : Int) (offs : Array Int) (x : vAV) (ls : vLs) (st : List vAV) (h : sHp) (G : sG) : List (Nat × Nat) → Option (List sSt)
  | [] => some []
  | q :: ps => match sSwt pc dflt lo hi offs x ls st h G ps with
    | none => none
    | some R => match sRef G x [q] with
      | none => some R
      | some G' => match vTab pc dflt lo hi offs [] [.inr (.inl q)] [] with
        | some (pc', _) => vF pc' (fun pc' => some ((pc', ls, st, h, G') :: R))
        | none => none
def sOnes : Nat → Nat → List (Nat × Nat) → List (Nat × Nat)
  | 0, _, t => t
  | n + 1, a, t => (a, a) :: sOnes n (a + 1) t
def sPcs (a b : Nat) : List (Nat × Nat) := (0, a - 1) :: sOnes (b + 1 - a) a [(b + 1, 4294967295)]
noncomputable def sTab (pc : Nat) (dflt lo hi : Int) (offs : Array Int) (ls : vLs) (st : List vAV) (h : sHp) (G : sG) : Option (List sSt) := match st with
  | x :: st' => bif Nat.beq (sKd x) 0 && sCvr (sPcs (lo + 2147483648).toNat (hi + 2147483648).toNat) 0 then sSwt pc dflt lo hi offs x ls st' h G (sPcs (lo + 2147483648).toNat (hi + 2147483648).toNat) else none
  | _ => none
section SSW
variable {md : sMd} {hp0 : List vOb} {ρ : List Nat} {ls : vLs} {st : List vAV} {h : sHp} {G : sG} {kl : vLs} {ks : List vAV} {hp : List vOb}
theorem sSwt_ok {pc : Nat} {dflt lo hi : Int} {offs : Array Int} {x : vAV} {u : Nat} (hl : sLr ρ ls kl) (ht : sTr ρ st ks) (hh : sHr ρ h hp) (hG : sGr ρ G) (hf : sFr md hp0 hp) (hx : sV ρ x (.inl u)) : ∀ (ps : List (Nat × Nat)) (L : List sSt), sSwt pc dflt lo hi offs x ls st h G ps = some L → (∃ q ∈ ps, q.1 ≤ sBi u ∧ sBi u ≤ q.2) → sOut md hp0 ρ L (vTab pc dflt lo hi offs kl (.inl u :: ks) hp)
  | [], L, _, ⟨q, hq, _⟩ => by cases hq
  | q :: ps, L, he, hq => by
    unfold sSwt at he
    split at he
    · cases he
    · next R hR =>
      by_cases hin : q.1 ≤ sBi u ∧ sBi u ≤ q.2
      · obtain ⟨G', g1, g2⟩ := sRef_ok hG hx (S := [q]) (sIn_one hin.1 hin.2)
        rw [g1] at he
        dsimp only at he
        split at he
        · next pc' r hv =>
          rw [vF_eq] at he
          cases he
          exact sOut_one [] List.mem_cons_self (vTab_in hv (vIv_k u) hin.1 hin.2 kl ks hp) (by rw [List.append_nil]; exact ⟨hl, ht, hh, g2, hf⟩)
        · cases he
      · have ih := sSwt_ok hl ht hh hG hf hx ps R hR (by
          obtain ⟨r, r1, r2⟩ := hq
          rcases List.mem_cons.mp r1 with e | e
          · rw [e] at r2; exact absurd r2 hin
          · exact ⟨r, e, r2⟩)
        split at he
        · cases he; exact ih
        · split at he
          · rw [vF_eq] at he
            cases he
            obtain ⟨a1, a2, a3, a4, a5, σ, a6, a7⟩ := ih
            exact ⟨a1, a2, a3, a4, a5, σ, List.mem_cons_of_mem _ a6, a7⟩
          · cases he
theorem sTab_ok {pc : Nat} {dflt lo hi : Int} {offs : Array Int} {L : List sSt} (hR : sR md hp0 ρ ls st h G kl ks hp) (he : sTab pc dflt lo hi offs ls st h G = some L) : sOut md hp0 ρ L (vTab pc dflt lo hi offs kl ks hp) := by
  obtain ⟨hl, ht, hh, hG, hf⟩ := hR
  unfold sTab at he
  split at he
  · next x st' =>
    match ks, ht with
    | kx :: ks', ht =>
      cases hb : (Nat.beq (sKd x) 0 && sCvr (sPcs (lo + 2147483648).toNat (hi + 2147483648).toNat) 0) with
      | false => rw [hb] at he; cases he
      | true =>
        rw [hb, cond_true] at he
        rw [Bool.and_eq_true] at hb
        obtain ⟨u, hu, rfl⟩ := sInt ht.1 hb.1
        exact sSwt_ok hl ht.2 hh hG hf ht.1 _ _ he (sCvr_ok hb.2 (Nat.zero_le _) (sBi_lt u))
  · cases he
end SSW
