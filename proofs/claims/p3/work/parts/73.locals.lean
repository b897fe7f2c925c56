/-! ===== locals and the stack ===== -/
def sKd (a : vAV) : Nat := match a with
  | .inr (.inr (.inr (.inr 4))) => 1
  | a => vKd a
theorem sKd_ok {ρ : List Nat} {a v : vAV} (h : sV ρ a v) : vKd v = sKd a := by
  rcases a with u | q | u | o | z
  · obtain ⟨-, rfl⟩ := h; rfl
  · obtain ⟨r, -, rfl⟩ := h; rfl
  · obtain ⟨-, rfl⟩ := h; rfl
  · have h : v = .inr (.inr (.inr (.inl o))) := h
    subst h; rfl
  · by_cases h4 : z = 4
    · subst h4
      obtain ⟨u, -, rfl⟩ := h
      rfl
    · have h : v = .inr (.inr (.inr (.inr z))) := by
        unfold sV at h
        split at h
        · next h1 => cases h1
        · next h1 => cases h1
        · next h1 => cases h1
        · next h1 => cases h1
        · next h1 => cases h1; exact absurd rfl h4
        · next h1 => cases h1; exact h
      subst h
      unfold sKd
      split
      · next h1 => cases h1; exact absurd rfl h4
      · rfl
theorem sLr_len {ρ : List Nat} : ∀ {ls kl : vLs}, sLr ρ ls kl → kl.length = ls.length
  | [], [], _ => rfl
  | _ :: _, _ :: _, h => by simp [sLr_len h.2]
  | [], _ :: _, h => h.elim
  | _ :: _, [], h => h.elim
theorem sLr_get {ρ : List Nat} : ∀ {ls kl : vLs}, sLr ρ ls kl → ∀ (j : Nat) (x : vAV), ls[j]? = some (some x) → ∃ y, kl[j]? = some (some y) ∧ sV ρ x y
  | [], [], _, j, x, h => by simp at h
  | a :: as, v :: vs, hl, 0, x, h => by
    have h : a = some x := by simpa using h
    obtain ⟨y, h1, h2⟩ := hl.1 x h
    exact ⟨y, by simp [h1], h2⟩
  | a :: as, v :: vs, hl, j + 1, x, h => by
    obtain ⟨y, h1, h2⟩ := sLr_get hl.2 j x (by simpa using h)
    exact ⟨y, by simpa using h1, h2⟩
  | [], _ :: _, h, _, _, _ => h.elim
  | _ :: _, [], h, _, _, _ => h.elim
theorem sLr_of {ρ : List Nat} : ∀ {ls kl : vLs}, kl.length = ls.length → (∀ (j : Nat) (x : vAV), ls[j]? = some (some x) → ∃ y, kl[j]? = some (some y) ∧ sV ρ x y) → sLr ρ ls kl
  | [], [], _, _ => trivial
  | a :: as, v :: vs, hl, h => ⟨fun x hx => by
      obtain ⟨y, h1, h2⟩ := h 0 x (by simp [hx])
      exact ⟨y, by simpa using h1, h2⟩, sLr_of (by simpa using hl) (fun j x hx => by
      obtain ⟨y, h1, h2⟩ := h (j + 1) x (by simpa using hx)
      exact ⟨y, by simpa using h1, h2⟩)⟩
  | [], _ :: _, hl, _ => by simp at hl
  | _ :: _, [], hl, _ => by simp at hl
def sSet1 (ls : vLs) (a : Nat) (v : vAV) : vLs := match a with
  | 0 => ls.set 0 (some v)
  | a' + 1 => match ls.getD a' none with
    | some x => bif Nat.beq (sKd x) 1 then (ls.set a' none).set (a' + 1) (some v) else ls.set (a' + 1) (some v)
    | none => ls.set (a' + 1) (some v)
theorem sLr_put {ρ : List Nat} {ls kl : vLs} (hl : sLr ρ ls kl) (a : Nat) {v w : vAV} (hv : sV ρ v w) : sLr ρ (ls.set a (some v)) (kl.set a (some w)) := by
  have hlen := sLr_len hl
  refine sLr_of (by simpa using hlen) (fun j x hx => ?_)
  by_cases hj : a = j
  · subst hj
    have ha : a < ls.length := by
      have := (List.getElem?_eq_some_iff.mp hx).1
      simpa using this
    rw [List.getElem?_set_self ha] at hx
    cases hx
    exact ⟨w, List.getElem?_set_self (by omega), hv⟩
  · rw [List.getElem?_set_ne hj] at hx
    rw [List.getElem?_set_ne hj]
    exact sLr_get hl j x hx
theorem sLr_del {ρ : List Nat} {ls kl : vLs} (hl : sLr ρ ls kl) (a : Nat) (w : Option vAV) : sLr ρ (ls.set a none) (kl.set a w) := by
  have hlen := sLr_len hl
  refine sLr_of (by simpa using hlen) (fun j x hx => ?_)
  by_cases hj : a = j
  · subst hj
    have ha : a < ls.length := by
      have := (List.getElem?_eq_some_iff.mp hx).1
      simpa using this
    rw [List.getElem?_set_self ha] at hx
    cases hx
  · rw [List.getElem?_set_ne hj] at hx
    rw [List.getElem?_set_ne hj]
    exact sLr_get hl j x hx
theorem sLr_non {ρ : List Nat} {ls kl : vLs} (hl : sLr ρ ls kl) {a : Nat} (h : ls.getD a none = none) (w : Option vAV) : sLr ρ ls (kl.set a w) := by
  have hlen := sLr_len hl
  refine sLr_of (by simpa using hlen) (fun j x hx => ?_)
  by_cases hj : a = j
  · subst hj
    rw [List.getD_eq_getElem?_getD, hx] at h
    cases h
  · rw [List.getElem?_set_ne hj]
    exact sLr_get hl j x hx
theorem sSet1_ok {ρ : List Nat} {ls kl : vLs} (hl : sLr ρ ls kl) (a : Nat) {v w : vAV} (hv : sV ρ v w) : sLr ρ (sSet1 ls a v) (vSet1 kl a w) := by
  match a with
  | 0 => exact sLr_put hl 0 hv
  | a' + 1 =>
    show sLr ρ (match ls.getD a' none with
      | some x => bif Nat.beq (sKd x) 1 then (ls.set a' none).set (a' + 1) (some v) else ls.set (a' + 1) (some v)
      | none => ls.set (a' + 1) (some v)) (match kl.getD a' none with
      | some (.inr (.inr (.inl _))) => (kl.set a' none).set (a' + 1) (some w)
      | _ => kl.set (a' + 1) (some w))
    cases hx : ls.getD a' none with
    | none =>
      dsimp only
      split
      · exact sLr_put (sLr_non hl hx none) _ hv
      · exact sLr_put hl _ hv
    | some x =>
      dsimp only
      have hx2 : ls[a']? = some (some x) := by
        rw [List.getD_eq_getElem?_getD] at hx
        cases h3 : ls[a']? with
        | none => rw [h3] at hx; cases hx
        | some o => rw [h3] at hx; have hx : o = some x := hx; rw [hx]
      obtain ⟨y, y1, y2⟩ := sLr_get hl a' x hx2
      have y3 : kl.getD a' none = some y := by rw [List.getD_eq_getElem?_getD, y1]; rfl
      rw [y3]
      cases hb : Nat.beq (sKd x) 1 with
      | true =>
        rw [cond_true]
        split
        · exact sLr_put (sLr_del hl _ _) _ hv
        · have e : sLr ρ (ls.set a' none) kl := by
            refine sLr_of (by simpa using sLr_len hl) (fun j z hz => ?_)
            by_cases hj : a' = j
            · subst hj
              have ha : a' < ls.length := (List.getElem?_eq_some_iff.mp hx2).1
              rw [List.getElem?_set_self ha] at hz
              cases hz
            · rw [List.getElem?_set_ne hj] at hz
              exact sLr_get hl j z hz
          exact sLr_put e _ hv
      | false =>
        rw [cond_false]
        split
        · next u h9 =>
          have h9 := Option.some.inj h9
          have k1 := sKd_ok y2
          rw [h9] at k1
          have k1 : 1 = sKd x := k1
          rw [← k1] at hb
          cases hb
        · exact sLr_put hl _ hv
section SLS
variable {md : sMd} {hp0 : List vOb} {ρ : List Nat} {ls : vLs} {st : List vAV} {h : sHp} {G : sG} {kl : vLs} {ks : List vAV} {hp : List vOb} {L : List sSt}
theorem sOut_now {r : vR} {pc : Nat} {ls' : vLs} {st' : List vAV} {h' : sHp} {G' : sG} {kl' : vLs} {ks' : List vAV} {hp' : List vOb} (hr : r = some (pc, kl', ks', hp')) (hR : sR md hp0 ρ ls' st' h' G' kl' ks' hp') : sOut md hp0 ρ [(pc, ls', st', h', G')] r := sOut_one [] List.mem_cons_self hr (by rw [List.append_nil]; exact hR)
noncomputable def sLd (kd a pc : Nat) (ls : vLs) (st : List vAV) (h : sHp) (G : sG) : Option (List sSt) := match vNth ls a with
  | some (some v) => bif Nat.beq (sKd v) kd then some [(pc, ls, sSimp G v :: st, h, G)] else none
  | _ => none
theorem sLd_ok {kd a pc : Nat} (hR : sR md hp0 ρ ls st h G kl ks hp) (he : sLd kd a pc ls st h G = some L) : sOut md hp0 ρ L (vLd kd a pc kl ks hp) := by
  obtain ⟨hl, ht, hh, hG, hf⟩ := hR
  unfold sLd at he
  rw [vNth_eq] at he
  split at he
  · next v hv =>
    obtain ⟨y, y1, y2⟩ := sLr_get hl a v hv
    cases hb : Nat.beq (sKd v) kd with
    | false => rw [hb] at he; cases he
    | true =>
      rw [hb, cond_true] at he
      cases he
      refine sOut_now (kl' := kl) (ks' := y :: ks) (hp' := hp) ?_ ⟨hl, ⟨sSimp_ok hG y2, ht⟩, hh, hG, hf⟩
      unfold vLd
      simp only [vNth_eq, y1, sKd_ok y2, hb, cond_true]
  · cases he
def sSt1 (kd a pc : Nat) (ls : vLs) (st : List vAV) (h : sHp) (G : sG) : Option (List sSt) := match st with
  | v :: st' => bif Nat.beq (sKd v) kd && Nat.blt a ls.length then some [(pc, sSet1 ls a v, st', h, G)] else none
  | _ => none
theorem sSt1_ok {kd a pc : Nat} (hR : sR md hp0 ρ ls st h G kl ks hp) (he : sSt1 kd a pc ls st h G = some L) : sOut md hp0 ρ L (vSt1 kd a pc kl ks hp) := by
  obtain ⟨hl, ht, hh, hG, hf⟩ := hR
  unfold sSt1 at he
  split at he
  · next v st' =>
    match ks, ht with
    | w :: ks', ht =>
      cases hb : (Nat.beq (sKd v) kd && Nat.blt a ls.length) with
      | false => rw [hb] at he; cases he
      | true =>
        rw [hb, cond_true] at he
        cases he
        refine sOut_now (kl' := vSet1 kl a w) (ks' := ks') (hp' := hp) ?_ ⟨sSet1_ok hl a ht.1, ht.2, hh, hG, hf⟩
        unfold vSt1
        simp only [sKd_ok ht.1, sLr_len hl, hb, cond_true]
  · cases he
def sSt2 (a pc : Nat) (ls : vLs) (st : List vAV) (h : sHp) (G : sG) : Option (List sSt) := match st with
  | v :: st' => bif Nat.beq (sKd v) 1 && Nat.blt (a + 1) ls.length then some [(pc, (sSet1 ls a v).set (a + 1) none, st', h, G)] else none
  | _ => none
theorem sSt2_ok {a pc : Nat} (hR : sR md hp0 ρ ls st h G kl ks hp) (he : sSt2 a pc ls st h G = some L) : sOut md hp0 ρ L (vSt2 a pc kl ks hp) := by
  obtain ⟨hl, ht, hh, hG, hf⟩ := hR
  unfold sSt2 at he
  split at he
  · next v st' =>
    match ks, ht with
    | w :: ks', ht =>
      cases hb : (Nat.beq (sKd v) 1 && Nat.blt (a + 1) ls.length) with
      | false => rw [hb] at he; cases he
      | true =>
        rw [hb, cond_true] at he
        cases he
        refine sOut_now (kl' := vSet2 kl a w) (ks' := ks') (hp' := hp) ?_ ⟨sLr_del (sSet1_ok hl a ht.1) _ _, ht.2, hh, hG, hf⟩
        unfold vSt2
        simp only [sKd_ok ht.1, sLr_len hl, hb, cond_true]
  · cases he
end SLS
