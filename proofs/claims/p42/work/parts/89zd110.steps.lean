/-! ===== exact runs: steps ===== -/
/-- place, locals, stack, told cells, written cells -/
abbrev eS : Type := Nat × List (Option eV) × List eV × eD × List (Nat × eX)
abbrev eO : Type := Option (eS × eCs × List Bool)
def eSr (ρ : Nat → Nat → Nat) (hp0 : List vOb) (σ : eS) (κ : kSt) : Prop := κ.1 = σ.1 ∧ eLr ρ σ.2.1 κ.2.1 ∧ eTr ρ σ.2.2.1 κ.2.2.1 ∧ eDr ρ σ.2.2.2.1 κ.2.2.2 ∧ sFr (eMd ρ σ.2.2.2.2) hp0 κ.2.2.2
def eOk (ρ : Nat → Nat → Nat) (hp0 : List vOb) (σ : eS) (r : vR) : Prop := ∃ κ, r = some κ ∧ eSr ρ hp0 σ κ
def eKd (v : eV) : Nat := match v with
  | .inl _ => 0
  | .inr (.inl _) => 1
  | .inr (.inr none) => 2
  | .inr (.inr (some _)) => 3
theorem eKd_ok {ρ : Nat → Nat → Nat} {x : eV} {v : vAV} (h : eRv ρ x v) : vKd v = eKd x := by
  rcases x with x | x | o
  · obtain ⟨u, -, e⟩ := h
    rw [e]
    rfl
  · obtain ⟨u, -, e⟩ := h
    rw [e]
    rfl
  · have e : v = .inr (.inr (.inr (.inl o))) := h
    rw [e]
    cases o <;> rfl
theorem eLr_len {ρ : Nat → Nat → Nat} : ∀ {ls : List (Option eV)} {kl : vLs}, eLr ρ ls kl → ls.length = kl.length
  | [], [], _ => rfl
  | [], _ :: _, h => h.elim
  | _ :: _, [], h => h.elim
  | _ :: ls, _ :: kl, h => by
    rw [List.length_cons, List.length_cons, eLr_len h.2]
theorem eLr_get {ρ : Nat → Nat → Nat} : ∀ {ls : List (Option eV)} {kl : vLs} {a : Nat} {x : eV}, eLr ρ ls kl → ls[a]? = some (some x) → ∃ y, kl[a]? = some (some y) ∧ eRv ρ x y
  | [], [], a, x, _, h => by simp at h
  | [], _ :: _, _, _, h, _ => h.elim
  | _ :: _, [], _, _, h, _ => h.elim
  | b :: ls, v :: kl, 0, x, h, hx => by
    have hx : some b = some (some x) := hx
    have hx := Option.some.inj hx
    obtain ⟨y, y1, y2⟩ := h.1 x hx
    exact ⟨y, by rw [y1]; rfl, y2⟩
  | b :: ls, v :: kl, a + 1, x, h, hx => by
    have hx : ls[a]? = some (some x) := by simpa using hx
    obtain ⟨y, y1, y2⟩ := eLr_get h.2 hx
    exact ⟨y, by simpa using y1, y2⟩
theorem eLr_set {ρ : Nat → Nat → Nat} {x : eV} {v : vAV} (hv : eRv ρ x v) : ∀ {ls : List (Option eV)} {kl : vLs} (a : Nat), eLr ρ ls kl → eLr ρ (ls.set a (some x)) (kl.set a (some v))
  | [], [], _, _ => trivial
  | [], _ :: _, _, h => h.elim
  | _ :: _, [], _, h => h.elim
  | _ :: _, _ :: _, 0, h => ⟨fun y hy => ⟨v, rfl, by have e := Option.some.inj hy; rw [← e]; exact hv⟩, h.2⟩
  | _ :: _, _ :: _, a + 1, h => ⟨h.1, eLr_set hv a h.2⟩
theorem eLr_non {ρ : Nat → Nat → Nat} {w : Option vAV} : ∀ {ls : List (Option eV)} {kl : vLs} (a : Nat), eLr ρ ls kl → eLr ρ (ls.set a none) (kl.set a w)
  | [], [], _, _ => trivial
  | [], _ :: _, _, h => h.elim
  | _ :: _, [], _, h => h.elim
  | _ :: _, _ :: _, 0, h => ⟨fun y hy => (by cases hy), h.2⟩
  | _ :: _, _ :: _, a + 1, h => ⟨h.1, eLr_non a h.2⟩
theorem eLr_clr {ρ : Nat → Nat → Nat} {w : Option vAV} : ∀ {ls : List (Option eV)} {kl : vLs} (a : Nat), (∀ x, ls[a]? ≠ some (some x)) → eLr ρ ls kl → eLr ρ ls (kl.set a w)
  | [], [], _, _, _ => trivial
  | [], _ :: _, _, _, h => h.elim
  | _ :: _, [], _, _, h => h.elim
  | b :: _, _ :: _, 0, hn, h => ⟨fun y hy => absurd (by rw [hy]; rfl) (hn y), h.2⟩
  | _ :: _, _ :: _, a + 1, hn, h => ⟨h.1, eLr_clr a (fun x hx => hn x (by simpa using hx)) h.2⟩
def eSet1 (ls : List (Option eV)) (a : Nat) (v : eV) : List (Option eV) := match a with
  | 0 => ls.set 0 (some v)
  | a' + 1 => match ls[a']? with
    | some (some (.inr (.inl _))) => (ls.set a' none).set (a' + 1) (some v)
    | _ => ls.set (a' + 1) (some v)
theorem vSet1_long {kl : vLs} {a u : Nat} {v : vAV} (h : kl[a]? = some (some (.inr (.inr (.inl u))))) : vSet1 kl (a + 1) v = (kl.set a none).set (a + 1) (some v) := by
  show (match kl.getD a none with
    | some (.inr (.inr (.inl _))) => (kl.set a none).set (a + 1) (some v)
    | _ => kl.set (a + 1) (some v)) = _
  rw [List.getD_eq_getElem?_getD, h]
  rfl
theorem vSet1_or {kl : vLs} {a : Nat} {v : vAV} : vSet1 kl (a + 1) v = (kl.set a none).set (a + 1) (some v) ∨ vSet1 kl (a + 1) v = kl.set (a + 1) (some v) := by
  show (match kl.getD a none with
    | some (.inr (.inr (.inl _))) => (kl.set a none).set (a + 1) (some v)
    | _ => kl.set (a + 1) (some v)) = _ ∨ (match kl.getD a none with
    | some (.inr (.inr (.inl _))) => (kl.set a none).set (a + 1) (some v)
    | _ => kl.set (a + 1) (some v)) = _
  split
  · exact Or.inl rfl
  · exact Or.inr rfl
theorem vSet1_not {kl : vLs} {a : Nat} {v w : vAV} (h : kl[a]? = some (some w)) (hw : vKd w ≠ 1) : vSet1 kl (a + 1) v = kl.set (a + 1) (some v) := by
  show (match kl.getD a none with
    | some (.inr (.inr (.inl _))) => (kl.set a none).set (a + 1) (some v)
    | _ => kl.set (a + 1) (some v)) = _
  rw [List.getD_eq_getElem?_getD, h]
  split
  · next x hx =>
    have hx : some w = some (.inr (.inr (.inl x))) := hx
    have hx := Option.some.inj hx
    rw [hx] at hw
    exact absurd rfl hw
  · rfl
theorem eSet1_ok {ρ : Nat → Nat → Nat} {ls : List (Option eV)} {kl : vLs} {x : eV} {v : vAV} (a : Nat) (hl : eLr ρ ls kl) (hv : eRv ρ x v) : eLr ρ (eSet1 ls a x) (vSet1 kl a v) := by
  cases a with
  | zero => exact eLr_set hv 0 hl
  | succ a =>
    show eLr ρ (match ls[a]? with
      | some (some (.inr (.inl _))) => (ls.set a none).set (a + 1) (some x)
      | _ => ls.set (a + 1) (some x)) _
    split
    · next y hy =>
      obtain ⟨w, w1, u, -, w3⟩ := eLr_get hl hy
      rw [w3] at w1
      rw [vSet1_long w1]
      exact eLr_set hv _ (eLr_non _ hl)
    · next hn =>
      by_cases hs : ∃ y, ls[a]? = some (some y)
      · obtain ⟨y, hy⟩ := hs
        obtain ⟨w, w1, w2⟩ := eLr_get hl hy
        have hk : vKd w ≠ 1 := by
          rw [eKd_ok w2]
          rcases y with y | y | o
          · intro h; cases h
          · exact absurd hy (hn y)
          · cases o <;> (intro h; cases h)
        rw [vSet1_not w1 hk]
        exact eLr_set hv _ hl
      · rcases vSet1_or (kl := kl) (a := a) (v := v) with e | e
        · rw [e]
          exact eLr_set hv _ (eLr_clr _ (fun y hy => hs ⟨y, hy⟩) hl)
        · rw [e]
          exact eLr_set hv _ hl
def eSet2 (ls : List (Option eV)) (a : Nat) (v : eV) : List (Option eV) := (eSet1 ls a v).set (a + 1) none
theorem eSet2_ok {ρ : Nat → Nat → Nat} {ls : List (Option eV)} {kl : vLs} {x : eV} {v : vAV} (a : Nat) (hl : eLr ρ ls kl) (hv : eRv ρ x v) : eLr ρ (eSet2 ls a x) (vSet2 kl a v) := eLr_non _ (eSet1_ok a hl hv)
section EST
variable {ρ : Nat → Nat → Nat} {hp0 : List vOb} {ls : List (Option eV)} {st : List eV} {D : eD} {W : List (Nat × eX)} {path path' : List Bool} {kl : vLs} {ks : List vAV} {hp : List vOb} {σ : eS} {C : eCs} {sh : List (Nat × Nat × Nat)}
def eLd (kd a pc : Nat) (ls : List (Option eV)) (st : List eV) (D : eD) (W : List (Nat × eX)) (path : List Bool) : eO := match ls[a]? with
  | some (some x) => bif Nat.beq (eKd x) kd then some ((pc, ls, x :: st, D, W), [], path) else none
  | _ => none
theorem eLd_ok {kd a pc : Nat} (hl : eLr ρ ls kl) (ht : eTr ρ st ks) (hd : eDr ρ D hp) (hf : sFr (eMd ρ W) hp0 hp) (h : eLd kd a pc ls st D W path = some (σ, C, path')) : eOk ρ hp0 σ (vLd kd a pc kl ks hp) := by
  unfold eLd at h
  split at h
  · next x hx =>
    obtain ⟨y, y1, y2⟩ := eLr_get hl hx
    cases hb : Nat.beq (eKd x) kd with
    | false => rw [hb] at h; cases h
    | true =>
      rw [hb, cond_true] at h
      have e := (Prod.mk.inj (Option.some.inj h)).1
      subst e
      refine ⟨(pc, kl, y :: ks, hp), ?_, rfl, hl, ⟨y2, ht⟩, hd, hf⟩
      unfold vLd
      rw [vNth_eq, y1]
      dsimp only
      rw [eKd_ok y2, hb]
      rfl
  · cases h
def eSt1 (kd a pc : Nat) (ls : List (Option eV)) (st : List eV) (D : eD) (W : List (Nat × eX)) (path : List Bool) : eO := match st with
  | x :: st' => bif Nat.beq (eKd x) kd && Nat.blt a ls.length then some ((pc, eSet1 ls a x, st', D, W), [], path) else none
  | _ => none
theorem eSt1_ok {kd a pc : Nat} (hl : eLr ρ ls kl) (ht : eTr ρ st ks) (hd : eDr ρ D hp) (hf : sFr (eMd ρ W) hp0 hp) (h : eSt1 kd a pc ls st D W path = some (σ, C, path')) : eOk ρ hp0 σ (vSt1 kd a pc kl ks hp) := by
  unfold eSt1 at h
  split at h
  · next x st' =>
    match ks, ht with
    | [], ht => exact ht.elim
    | v :: ks', ht =>
      cases hb : (Nat.beq (eKd x) kd && Nat.blt a ls.length) with
      | false => rw [hb] at h; cases h
      | true =>
        rw [hb, cond_true] at h
        have e := (Prod.mk.inj (Option.some.inj h)).1
        subst e
        refine ⟨(pc, vSet1 kl a v, ks', hp), ?_, rfl, eSet1_ok a hl ht.1, ht.2, hd, hf⟩
        unfold vSt1
        dsimp only
        rw [eKd_ok ht.1, ← eLr_len hl, hb]
        rfl
  · cases h
def eSt2 (a pc : Nat) (ls : List (Option eV)) (st : List eV) (D : eD) (W : List (Nat × eX)) (path : List Bool) : eO := match st with
  | x :: st' => bif Nat.beq (eKd x) 1 && Nat.blt (a + 1) ls.length then some ((pc, eSet2 ls a x, st', D, W), [], path) else none
  | _ => none
theorem eSt2_ok {a pc : Nat} (hl : eLr ρ ls kl) (ht : eTr ρ st ks) (hd : eDr ρ D hp) (hf : sFr (eMd ρ W) hp0 hp) (h : eSt2 a pc ls st D W path = some (σ, C, path')) : eOk ρ hp0 σ (vSt2 a pc kl ks hp) := by
  unfold eSt2 at h
  split at h
  · next x st' =>
    match ks, ht with
    | [], ht => exact ht.elim
    | v :: ks', ht =>
      cases hb : (Nat.beq (eKd x) 1 && Nat.blt (a + 1) ls.length) with
      | false => rw [hb] at h; cases h
      | true =>
        rw [hb, cond_true] at h
        have e := (Prod.mk.inj (Option.some.inj h)).1
        subst e
        refine ⟨(pc, vSet2 kl a v, ks', hp), ?_, rfl, eSet2_ok a hl ht.1, ht.2, hd, hf⟩
        unfold vSt2
        dsimp only
        rw [eKd_ok ht.1, ← eLr_len hl, hb]
        rfl
  · cases h
/-- sums of numbers are numbers -/
def eOp2 (op : Nat) (x y : eX) : eX := match eCn x, eCn y with
  | some a, some b => bif Nat.beq op 0 then [(0, vAdd a b)] else x ++ (y ++ [(2, op)])
  | _, _ => x ++ (y ++ [(2, op)])
theorem eOp2_ok {op u w : Nat} {x y : eX} (hx : eR ρ x u) (hy : eR ρ y w) : eR ρ (eOp2 op x y) (eBn op u w) := by
  unfold eOp2
  split
  · next a b ha hb =>
    cases ho : Nat.beq op 0 with
    | false => exact eR_b op hx hy
    | true =>
      have e := Nat.eq_of_beq_eq_true ho
      have e1 := eCn_val ha hx
      have e2 := eCn_val hb hy
      subst e e1 e2
      exact eR_c ρ _
  · exact eR_b op hx hy
def eInc (a b pc : Nat) (ls : List (Option eV)) (st : List eV) (D : eD) (W : List (Nat × eX)) (path : List Bool) : eO := match ls[a]? with
  | some (some (.inl x)) => some ((pc, eSet1 ls a (.inl (eOp2 0 x [(0, b)])), st, D, W), [], path)
  | _ => none
theorem eInc_ok {a b pc : Nat} (hl : eLr ρ ls kl) (ht : eTr ρ st ks) (hd : eDr ρ D hp) (hf : sFr (eMd ρ W) hp0 hp) (h : eInc a b pc ls st D W path = some (σ, C, path')) : eOk ρ hp0 σ (vInc a b pc kl ks hp) := by
  unfold eInc at h
  split at h
  · next x hx =>
    obtain ⟨y, y1, u, y2, y3⟩ := eLr_get hl hx
    have e := (Prod.mk.inj (Option.some.inj h)).1
    subst e
    refine ⟨(pc, vSet1 kl a (.inl (vAdd u b)), ks, hp), ?_, rfl, eSet1_ok a hl ⟨_, eOp2_ok (op := 0) y2 (eR_c ρ b), rfl⟩, ht, hd, hf⟩
    unfold vInc
    rw [vNth_eq, y1, y3]
    show (match vF (vAdd u b) (fun r => some (.inl r : vAV)) with
      | some r => some (pc, vSet1 kl a r, ks, hp)
      | none => none) = _
    rw [vF_eq]
  · cases h
/-- two ints -/
def eI2 (op pc : Nat) (ls : List (Option eV)) (st : List eV) (D : eD) (W : List (Nat × eX)) (path : List Bool) : eO := match st with
  | .inl y :: .inl x :: st' => some ((pc, ls, .inl (eOp2 op x y) :: st', D, W), [], path)
  | _ => none
theorem eI2_ok {op pc : Nat} (hl : eLr ρ ls kl) (ht : eTr ρ st ks) (hd : eDr ρ D hp) (hf : sFr (eMd ρ W) hp0 hp) (h : eI2 op pc ls st D W path = some (σ, C, path')) : ∃ u w ks', ks = .inl w :: .inl u :: ks' ∧ ∀ r, r = some (pc, kl, .inl (eBn op u w) :: ks', hp) → eOk ρ hp0 σ r := by
  unfold eI2 at h
  split at h
  · next y x st' =>
    match ks, ht with
    | [_], ht => exact ht.2.elim
    | vy :: vx :: ks', ht =>
      obtain ⟨⟨w, w1, w2⟩, ⟨u, u1, u2⟩, ht⟩ := ht
      have e := (Prod.mk.inj (Option.some.inj h)).1
      subst e
      exact ⟨u, w, ks', by rw [w2, u2], fun r hr => ⟨_, hr, rfl, hl, ⟨⟨_, eOp2_ok u1 w1, rfl⟩, ht⟩, hd, hf⟩⟩
  · cases h
def eDv (op pc : Nat) (ls : List (Option eV)) (st : List eV) (D : eD) (W : List (Nat × eX)) (path : List Bool) : eO := match st with
  | .inl y :: .inl x :: st' => (match eCn y with
    | some c => bif Nat.beq c 0 then none else some ((pc, ls, .inl (x ++ (y ++ [(2, op)])) :: st', D, W), [], path)
    | none => none)
  | _ => none
theorem eDv_ok {op pc : Nat} (hl : eLr ρ ls kl) (ht : eTr ρ st ks) (hd : eDr ρ D hp) (hf : sFr (eMd ρ W) hp0 hp) (h : eDv op pc ls st D W path = some (σ, C, path')) : ∃ u w ks', w ≠ 0 ∧ ks = .inl w :: .inl u :: ks' ∧ ∀ r, r = some (pc, kl, .inl (eBn op u w) :: ks', hp) → eOk ρ hp0 σ r := by
  unfold eDv at h
  split at h
  · next y x st' =>
    match ks, ht with
    | [_], ht => exact ht.2.elim
    | vy :: vx :: ks', ht =>
      obtain ⟨⟨w, w1, w2⟩, ⟨u, u1, u2⟩, ht⟩ := ht
      split at h
      · next c hc =>
        cases hb : Nat.beq c 0 with
        | true => rw [hb] at h; cases h
        | false =>
          rw [hb, cond_false] at h
          have e := (Prod.mk.inj (Option.some.inj h)).1
          subst e
          have hw : w ≠ 0 := fun e0 => by
            have e1 := eCn_val hc w1
            rw [← e1, e0] at hb
            cases hb
          exact ⟨u, w, ks', hw, by rw [w2, u2], fun r hr => ⟨_, hr, rfl, hl, ⟨⟨_, eR_b op u1 w1, rfl⟩, ht⟩, hd, hf⟩⟩
      · cases h
  · cases h
/-- two longs: 11, 12, 13 -/
def eL2 (op pc : Nat) (ls : List (Option eV)) (st : List eV) (D : eD) (W : List (Nat × eX)) (path : List Bool) : eO := match st with
  | .inr (.inl y) :: .inr (.inl x) :: st' => some ((pc, ls, .inr (.inl (x ++ (y ++ [(2, op)]))) :: st', D, W), [], path)
  | _ => none
theorem eL2_ok {op pc : Nat} {f : Nat → Nat → Nat} (hop : ∀ u w, eBn op u w = f u w) (hl : eLr ρ ls kl) (ht : eTr ρ st ks) (hd : eDr ρ D hp) (hf : sFr (eMd ρ W) hp0 hp) (h : eL2 op pc ls st D W path = some (σ, C, path')) : eOk ρ hp0 σ (vL2 f pc kl ks hp) := by
  unfold eL2 at h
  split at h
  · next y x st' =>
    match ks, ht with
    | [_], ht => exact ht.2.elim
    | vy :: vx :: ks', ht =>
      obtain ⟨⟨w, w1, w2⟩, ⟨u, u1, u2⟩, ht⟩ := ht
      have e := (Prod.mk.inj (Option.some.inj h)).1
      subst e
      subst w2 u2
      rw [vL2_k]
      exact ⟨_, rfl, rfl, hl, ⟨⟨_, eR_b op u1 w1, by rw [hop]⟩, ht⟩, hd, hf⟩
  · cases h
def eLcm (pc : Nat) (ls : List (Option eV)) (st : List eV) (D : eD) (W : List (Nat × eX)) (path : List Bool) : eO := match st with
  | .inr (.inl y) :: .inr (.inl x) :: st' => some ((pc, ls, .inl (x ++ (y ++ [(2, 15)])) :: st', D, W), [], path)
  | _ => none
theorem vLc_aux (pc x y : Nat) : (bif Nat.blt x y then some (pc, kl, (.inl 4294967295 : vAV) :: ks, hp) else bif Nat.beq x y then some (pc, kl, .inl 0 :: ks, hp) else some (pc, kl, .inl 1 :: ks, hp)) = some (pc, kl, .inl (bif Nat.blt x y then 4294967295 else bif Nat.beq x y then 0 else 1) :: ks, hp) := by
  cases Nat.blt x y with
  | true => rfl
  | false => cases Nat.beq x y <;> rfl
theorem vLc_k (pc u w : Nat) : vLc pc kl (.inr (.inr (.inl w)) :: .inr (.inr (.inl u)) :: ks) hp = some (pc, kl, .inl (eLc u w) :: ks, hp) := by
  unfold vLc eLc
  simp only [vF_eq]
  exact vLc_aux pc _ _
theorem eLcm_ok {pc : Nat} (hl : eLr ρ ls kl) (ht : eTr ρ st ks) (hd : eDr ρ D hp) (hf : sFr (eMd ρ W) hp0 hp) (h : eLcm pc ls st D W path = some (σ, C, path')) : eOk ρ hp0 σ (vLc pc kl ks hp) := by
  unfold eLcm at h
  split at h
  · next y x st' =>
    match ks, ht with
    | [_], ht => exact ht.2.elim
    | vy :: vx :: ks', ht =>
      obtain ⟨⟨w, w1, w2⟩, ⟨u, u1, u2⟩, ht⟩ := ht
      have e := (Prod.mk.inj (Option.some.inj h)).1
      subst e
      subst w2 u2
      rw [vLc_k]
      exact ⟨_, rfl, rfl, hl, ⟨⟨_, eR_b 15 u1 w1, rfl⟩, ht⟩, hd, hf⟩
  · cases h
def eLsh (pc : Nat) (ls : List (Option eV)) (st : List eV) (D : eD) (W : List (Nat × eX)) (path : List Bool) : eO := match st with
  | .inl y :: .inr (.inl x) :: st' => some ((pc, ls, .inr (.inl (x ++ (y ++ [(2, 14)]))) :: st', D, W), [], path)
  | _ => none
theorem eLsh_ok {pc : Nat} (hl : eLr ρ ls kl) (ht : eTr ρ st ks) (hd : eDr ρ D hp) (hf : sFr (eMd ρ W) hp0 hp) (h : eLsh pc ls st D W path = some (σ, C, path')) : eOk ρ hp0 σ (vLsh pc kl ks hp) := by
  unfold eLsh at h
  split at h
  · next y x st' =>
    match ks, ht with
    | [_], ht => exact ht.2.elim
    | vy :: vx :: ks', ht =>
      obtain ⟨⟨w, w1, w2⟩, ⟨u, u1, u2⟩, ht⟩ := ht
      have e := (Prod.mk.inj (Option.some.inj h)).1
      subst e
      subst w2 u2
      exact ⟨_, rfl, rfl, hl, ⟨⟨_, eR_b 14 u1 w1, rfl⟩, ht⟩, hd, hf⟩
  · cases h
def eI2l (pc : Nat) (ls : List (Option eV)) (st : List eV) (D : eD) (W : List (Nat × eX)) (path : List Bool) : eO := match st with
  | .inl x :: st' => some ((pc, ls, .inr (.inl (x ++ [(3, 0)])) :: st', D, W), [], path)
  | _ => none
theorem vI2l_k (pc u : Nat) : vI2l pc kl (.inl u :: ks) hp = some (pc, kl, .inr (.inr (.inl (eUn 0 u))) :: ks, hp) := by
  show (bif Nat.blt u 2147483648 then some (pc, kl, .inr (.inr (.inl u)) :: ks, hp) else vF (u + 18446744069414584320) (fun r => some (pc, kl, .inr (.inr (.inl r)) :: ks, hp))) = some (pc, kl, .inr (.inr (.inl (bif Nat.blt u 2147483648 then u else u + 18446744069414584320))) :: ks, hp)
  rw [vF_eq]
  cases Nat.blt u 2147483648 <;> rfl
theorem eI2l_ok {pc : Nat} (hl : eLr ρ ls kl) (ht : eTr ρ st ks) (hd : eDr ρ D hp) (hf : sFr (eMd ρ W) hp0 hp) (h : eI2l pc ls st D W path = some (σ, C, path')) : eOk ρ hp0 σ (vI2l pc kl ks hp) := by
  unfold eI2l at h
  split at h
  · next x st' =>
    match ks, ht with
    | [], ht => exact ht.elim
    | vx :: ks', ht =>
      obtain ⟨⟨u, u1, u2⟩, ht⟩ := ht
      have e := (Prod.mk.inj (Option.some.inj h)).1
      subst e
      subst u2
      rw [vI2l_k]
      exact ⟨_, rfl, rfl, hl, ⟨⟨_, eR_u 0 u1, rfl⟩, ht⟩, hd, hf⟩
  · cases h
def eI2b (pc : Nat) (ls : List (Option eV)) (st : List eV) (D : eD) (W : List (Nat × eX)) (path : List Bool) : eO := match st with
  | .inl x :: st' => some ((pc, ls, .inl (x ++ [(3, 2)]) :: st', D, W), [], path)
  | _ => none
theorem eI2b_ok {pc : Nat} (hl : eLr ρ ls kl) (ht : eTr ρ st ks) (hd : eDr ρ D hp) (hf : sFr (eMd ρ W) hp0 hp) (h : eI2b pc ls st D W path = some (σ, C, path')) : eOk ρ hp0 σ (vI2b pc kl ks hp) := by
  unfold eI2b at h
  split at h
  · next x st' =>
    match ks, ht with
    | [], ht => exact ht.elim
    | vx :: ks', ht =>
      obtain ⟨⟨u, u1, u2⟩, ht⟩ := ht
      have e := (Prod.mk.inj (Option.some.inj h)).1
      subst e
      subst u2
      exact ⟨_, rfl, rfl, hl, ⟨⟨_, eR_u 2 u1, rfl⟩, ht⟩, hd, hf⟩
  · cases h
noncomputable def eBr (c : Nat) (x y : eX) (pc a : Nat) (ls : List (Option eV)) (st : List eV) (D : eD) (W : List (Nat × eX)) (path : List Bool) : eO := match eCn x, eCn y with
  | some u, some w => some (((bif kCmp c (sBi u) (sBi w) then a else pc), ls, st, D, W), [], path)
  | _, _ => (match path with
    | p :: path' => some (((bif p then a else pc), ls, st, D, W), [(c, x, y, p)], path')
    | [] => none)
theorem eBr_ok {c pc a u w : Nat} {x y : eX} (hc : c ≠ 100) (hx : eR ρ x u) (hy : eR ρ y w) (hl : eLr ρ ls kl) (ht : eTr ρ st ks) (hd : eDr ρ D hp) (hf : sFr (eMd ρ W) hp0 hp) (h : eBr c x y pc a ls st D W path = some (σ, C, path')) (hC : ∀ q ∈ C, eCo ρ q) : eOk ρ hp0 σ (some ((bif kCmp c (sBi u) (sBi w) then a else pc), kl, ks, hp)) := by
  unfold eBr at h
  split at h
  · next u' w' h1 h2 =>
    have e := (Prod.mk.inj (Option.some.inj h)).1
    subst e
    have e1 := eCn_val h1 hx
    have e2 := eCn_val h2 hy
    subst e1 e2
    exact ⟨_, rfl, rfl, hl, ht, hd, hf⟩
  · split at h
    · next p path9 =>
      have e := Prod.mk.inj (Option.some.inj h)
      have e1 := e.1
      have e2 := (Prod.mk.inj e.2).1
      subst e1 e2
      have hq := hC _ List.mem_cons_self
      unfold eCo at hq
      rw [if_neg hc] at hq
      dsimp only at hq
      rw [eR_val hx, eR_val hy] at hq
      rw [hq]
      exact ⟨_, rfl, rfl, hl, ht, hd, hf⟩
    · cases h
noncomputable def eIf (c pc a : Nat) (ls : List (Option eV)) (st : List eV) (D : eD) (W : List (Nat × eX)) (path : List Bool) : eO := match st with
  | .inl x :: st' => eBr c x [(0, 0)] pc a ls st' D W path
  | _ => none
theorem eIf_ok {c pc a : Nat} {f : Nat × Nat → Nat × Nat → Option Bool} (hc : c ≠ 100) (hk : ∀ r s, f (r, r) (s, s) = some (kCmp c r s)) (hl : eLr ρ ls kl) (ht : eTr ρ st ks) (hd : eDr ρ D hp) (hf : sFr (eMd ρ W) hp0 hp) (h : eIf c pc a ls st D W path = some (σ, C, path')) (hC : ∀ q ∈ C, eCo ρ q) : eOk ρ hp0 σ (vIf f pc a kl ks hp) := by
  unfold eIf at h
  split at h
  · next x st' =>
    match ks, ht with
    | [], ht => exact ht.elim
    | vx :: ks', ht =>
      obtain ⟨⟨u, u1, u2⟩, ht⟩ := ht
      subst u2
      rw [vIf_k hk]
      exact eBr_ok (w := 0) hc u1 (eR_c ρ 0) hl ht hd hf h hC
  · cases h
noncomputable def eIc (c pc a : Nat) (ls : List (Option eV)) (st : List eV) (D : eD) (W : List (Nat × eX)) (path : List Bool) : eO := match st with
  | .inl y :: .inl x :: st' => eBr c x y pc a ls st' D W path
  | _ => none
theorem eIc_ok {c pc a : Nat} {f : Nat × Nat → Nat × Nat → Option Bool} (hc : c ≠ 100) (hk : ∀ r s, f (r, r) (s, s) = some (kCmp c r s)) (hl : eLr ρ ls kl) (ht : eTr ρ st ks) (hd : eDr ρ D hp) (hf : sFr (eMd ρ W) hp0 hp) (h : eIc c pc a ls st D W path = some (σ, C, path')) (hC : ∀ q ∈ C, eCo ρ q) : eOk ρ hp0 σ (vIc f pc a kl ks hp) := by
  unfold eIc at h
  split at h
  · next y x st' =>
    match ks, ht with
    | [_], ht => exact ht.2.elim
    | vy :: vx :: ks', ht =>
      obtain ⟨⟨w, w1, w2⟩, ⟨u, u1, u2⟩, ht⟩ := ht
      subst w2 u2
      rw [vIc_k hk]
      exact eBr_ok hc u1 w1 hl ht hd hf h hC
  · cases h
noncomputable def vTabO (pc : Nat) (dflt lo hi : Int) (offs : Array Int) (o : Option (Nat × Nat)) (ls : vLs) (st : List vAV) (hp : List vOb) : vR := match o with
  | some q => if (q.2 : Int) - 2147483648 < lo ∨ hi < (q.1 : Int) - 2147483648 then (if 0 ≤ (pc : Int) + dflt then some (((pc : Int) + dflt).toNat, ls, st, hp) else none)
    else if q.1 = q.2 ∧ lo ≤ (q.1 : Int) - 2147483648 ∧ (q.1 : Int) - 2147483648 ≤ hi then match offs[((q.1 : Int) - 2147483648 - lo).toNat]? with
      | some off => if 0 ≤ (pc : Int) + off then some (((pc : Int) + off).toNat, ls, st, hp) else none
      | none => none
    else none
  | none => none
theorem vTab_o (pc : Nat) (d lo hi : Int) (offs : Array Int) (x : vAV) (kl : vLs) (ks : List vAV) (hp : List vOb) : vTab pc d lo hi offs kl (x :: ks) hp = vTabO pc d lo hi offs (vIv x) kl ks hp := by
  unfold vTab vTabO
  rfl
theorem vTabO_k {pc : Nat} {d lo hi : Int} {offs : Array Int} {o : Option (Nat × Nat)} {r : Nat × vLs × List vAV × List vOb} (h : vTabO pc d lo hi offs o [] [] [] = some r) : vTabO pc d lo hi offs o kl ks hp = some (r.1, kl, ks, hp) := by
  cases o with
  | none => cases h
  | some q =>
    unfold vTabO at h ⊢
    dsimp only at h ⊢
    split at h
    · next h1 =>
      rw [if_pos h1]
      split at h
      · next h2 =>
        have h := Option.some.inj h
        rw [if_pos h2, ← h]
      · cases h
    · next h1 =>
      rw [if_neg h1]
      split at h
      · next h2 =>
        rw [if_pos h2]
        split at h
        · next off ho =>
          split at h
          · next h3 =>
            have h := Option.some.inj h
            rw [if_pos h3, ← h]
          · cases h
        · cases h
      · cases h
theorem vTab_k {pc : Nat} {d lo hi : Int} {offs : Array Int} {x : vAV} {r : Nat × vLs × List vAV × List vOb} (h : vTab pc d lo hi offs [] [x] [] = some r) : vTab pc d lo hi offs kl (x :: ks) hp = some (r.1, kl, ks, hp) := by
  rw [vTab_o] at h ⊢
  exact vTabO_k h
/-- where a switch goes with a known number -/
noncomputable def eTabT (pc : Nat) (d lo hi : Int) (offs : Array Int) (o : Option (Nat × Nat)) : Option Nat := match vTabO pc d lo hi offs o [] [] [] with
  | some r => some r.1
  | none => none
theorem eTabT_ok {pc p : Nat} {d lo hi : Int} {offs : Array Int} {o : Option (Nat × Nat)} (h : eTabT pc d lo hi offs o = some p) : vTabO pc d lo hi offs o kl ks hp = some (p, kl, ks, hp) := by
  unfold eTabT at h
  split at h
  · next r hr =>
    have h := Option.some.inj h
    rw [← h]
    exact vTabO_k hr
  · cases h
noncomputable def eTabP (p : Option Nat) (ls : List (Option eV)) (st : List eV) (D : eD) (W : List (Nat × eX)) (path : List Bool) : eO := match p with
  | some p => some ((p, ls, st, D, W), [], path)
  | none => none
noncomputable def eTab (pc : Nat) (d lo hi : Int) (offs : Array Int) (ls : List (Option eV)) (st : List eV) (D : eD) (W : List (Nat × eX)) (path : List Bool) : eO := match st with
  | .inl x :: st' => (match eCn x with
    | some c => eTabP (eTabT pc d lo hi offs (vIv (.inl c))) ls st' D W path
    | none => none)
  | _ => none
theorem eTabP_ok {p : Option Nat} (h : eTabP p ls st D W path = some (σ, C, path')) : ∃ q, p = some q ∧ σ = (q, ls, st, D, W) := by
  cases p with
  | none => cases h
  | some q => exact ⟨q, rfl, (Prod.mk.inj (Option.some.inj h)).1.symm⟩
theorem eTab_ok {pc : Nat} {d lo hi : Int} {offs : Array Int} (hl : eLr ρ ls kl) (ht : eTr ρ st ks) (hd : eDr ρ D hp) (hf : sFr (eMd ρ W) hp0 hp) (h : eTab pc d lo hi offs ls st D W path = some (σ, C, path')) : eOk ρ hp0 σ (vTab pc d lo hi offs kl ks hp) := by
  unfold eTab at h
  split at h
  · next x st' =>
    match ks, ht with
    | [], ht => exact ht.elim
    | vx :: ks', ht =>
      obtain ⟨⟨u, u1, u2⟩, ht⟩ := ht
      split at h
      · next c hc =>
        have e1 := eCn_val hc u1
        obtain ⟨q, q1, q2⟩ := eTabP_ok h
        rw [u2, e1, vTab_o, eTabT_ok q1, q2]
        exact ⟨_, rfl, rfl, hl, ht, hd, hf⟩
      · cases h
  · cases h
def eGf (sh : List (Nat × Nat × Nat)) (a b t pc : Nat) (ls : List (Option eV)) (st : List eV) (D : eD) (W : List (Nat × eX)) (path : List Bool) : eO := match st with
  | .inr (.inr (some k)) :: st' => (match eSl k sh, eGet k [(0, b)] D with
    | some q, some x => bif Nat.beq q.1 (8 * a) && Nat.blt t 7 then some ((pc, ls, x.1 :: st', D, W), x.2, path) else none
    | _, _ => none)
  | _ => none
theorem eGf_ok {a b t pc : Nat} (hs : eSh sh hp0) (hl : eLr ρ ls kl) (ht : eTr ρ st ks) (hd : eDr ρ D hp) (hf : sFr (eMd ρ W) hp0 hp) (h : eGf sh a b t pc ls st D W path = some (σ, C, path')) (hC : ∀ q ∈ C, eCo ρ q) : eOk ρ hp0 σ (vGf a b t pc kl ks hp) := by
  unfold eGf at h
  split at h
  · next k st' =>
    match ks, ht with
    | [], ht => exact ht.elim
    | vx :: ks', ht =>
      obtain ⟨e0, ht⟩ := ht
      have e0 : vx = .inr (.inr (.inr (.inl (some k)))) := e0
      subst e0
      split at h
      · next q x hq hx =>
        obtain ⟨ob, o1, o2, o3⟩ := eSl_row (eSh_fr hf hs) hq
        cases hb : (Nat.beq q.1 (8 * a) && Nat.blt t 7) with
        | false => rw [hb] at h; cases h
        | true =>
          rw [hb, cond_true] at h
          have e := Prod.mk.inj (Option.some.inj h)
          have e8 := e.1
          have e9 := (Prod.mk.inj e.2).1
          subst e8 e9
          obtain ⟨i, v, i1, ⟨ob', c1, c2⟩, i3⟩ := hd _ (eGet_ok hx) hC
          have e1 := eR_fun i1 (eR_c ρ b)
          subst e1
          rw [o1] at c1
          have c1 := Option.some.inj c1
          subst c1
          refine ⟨(pc, kl, v :: ks', hp), ?_, rfl, hl, ⟨i3, ht⟩, hd, hf⟩
          unfold vGf
          dsimp only
          rw [vNth_eq, o1]
          dsimp only
          rw [o2, hb, cond_true, vNth_eq, c2]
      · cases h
  · cases h
def eFit (t : Nat) (v : eV) : Bool := match t with
  | 0 => Nat.beq (eKd v) 0
  | 1 => (match v with
    | .inl x => (match eCn x with
      | some c => Nat.ble c 1
      | none => false)
    | _ => false)
  | 2 => Nat.beq (eKd v) 1
  | 3 => Nat.ble 2 (eKd v)
  | _ => false
theorem eFit_ok {t : Nat} {x : eV} {v : vAV} (hx : eRv ρ x v) (h : eFit t x = true) : vFit t v = true := by
  unfold eFit at h
  unfold vFit
  split at h
  · rw [eKd_ok hx]; exact h
  · split at h
    · next x' =>
      split at h
      · next c hc =>
        obtain ⟨u, u1, u2⟩ := hx
        rw [u2]
        dsimp only
        rw [eCn_val hc u1]
        exact h
      · cases h
    · cases h
  · rw [eKd_ok hx]; exact h
  · rw [eKd_ok hx]; exact h
  · cases h
def ePf (sh : List (Nat × Nat × Nat)) (a b t pc : Nat) (ls : List (Option eV)) (st : List eV) (D : eD) (W : List (Nat × eX)) (path : List Bool) : eO := match st with
  | x :: .inr (.inr (some k)) :: st' => (match eSl k sh with
    | some q => bif Nat.beq q.1 (8 * a) && (eFit t x && Nat.blt b q.2) then some ((pc, ls, st', (k, [(0, b)], x, []) :: eDel k [(0, b)] D, (k, [(0, b)]) :: W), eDob k [(0, b)] D, path) else none
    | none => none)
  | _ => none
theorem ePf_ok {a b t pc : Nat} (hs : eSh sh hp0) (hl : eLr ρ ls kl) (ht : eTr ρ st ks) (hd : eDr ρ D hp) (hf : sFr (eMd ρ W) hp0 hp) (h : ePf sh a b t pc ls st D W path = some (σ, C, path')) (hC : ∀ q ∈ C, eCo ρ q) : eOk ρ hp0 σ (vPf a b t pc kl ks hp) := by
  unfold ePf at h
  split at h
  · next x k st' =>
    match ks, ht with
    | [_], ht => exact ht.2.elim
    | vx :: vk :: ks', ht =>
      obtain ⟨hx, e0, ht⟩ := ht
      have e0 : vk = .inr (.inr (.inr (.inl (some k)))) := e0
      subst e0
      split at h
      · next q hq =>
        obtain ⟨ob, o1, o2, o3⟩ := eSl_row (eSh_fr hf hs) hq
        cases hb : (Nat.beq q.1 (8 * a) && (eFit t x && Nat.blt b q.2)) with
        | false => rw [hb] at h; cases h
        | true =>
          rw [hb, cond_true] at h
          rw [Bool.and_eq_true, Bool.and_eq_true] at hb
          have e := Prod.mk.inj (Option.some.inj h)
          have e8 := e.1
          have e9 := (Prod.mk.inj e.2).1
          subst e8 e9
          have hlt : b < ob.2.length := by rw [o3]; exact Nat.blt_eq.mp hb.2.2
          refine ⟨(pc, kl, ks', hp.set k (ob.1, ob.2.set b vx)), ?_, rfl, hl, ht, eDr_put hC hd o1 (eR_c ρ b) hlt hx, sFr_one hf o1 (eR_c ρ b)⟩
          unfold vPf
          dsimp only
          rw [vNth_eq, o1]
          dsimp only
          rw [o2, hb.1, eFit_ok hx hb.2.1, Bool.and_self, cond_true, vNth_eq, List.getElem?_eq_getElem hlt]
      · cases h
  · cases h
def eAld (sh : List (Nat × Nat × Nat)) (kd1 kd2 pc : Nat) (ls : List (Option eV)) (st : List eV) (D : eD) (W : List (Nat × eX)) (path : List Bool) : eO := match st with
  | .inl x :: .inr (.inr (some k)) :: st' => (match eSl k sh, eGet k x D with
    | some q, some y => bif (Nat.beq (q.1 % 8) kd1 || Nat.beq (q.1 % 8) kd2) && Nat.ble q.2 65536 then some ((pc, ls, y.1 :: st', D, W), y.2, path) else none
    | _, _ => none)
  | _ => none
theorem eAld_ok {kd1 kd2 pc : Nat} {sc : List vAV} {tx : List Nat} (hs : eSh sh hp0) (hl : eLr ρ ls kl) (ht : eTr ρ st ks) (hd : eDr ρ D hp) (hf : sFr (eMd ρ W) hp0 hp) (h : eAld sh kd1 kd2 pc ls st D W path = some (σ, C, path')) (hC : ∀ q ∈ C, eCo ρ q) : eOk ρ hp0 σ (vAld kd1 kd2 pc sc tx kl ks hp) := by
  unfold eAld at h
  split at h
  · next x k st' =>
    match ks, ht with
    | [_], ht => exact ht.2.elim
    | vx :: vk :: ks', ht =>
      obtain ⟨⟨u, u1, u2⟩, e0, ht⟩ := ht
      have e0 : vk = .inr (.inr (.inr (.inl (some k)))) := e0
      subst e0 u2
      split at h
      · next q y hq hy =>
        obtain ⟨ob, o1, o2, o3⟩ := eSl_row (eSh_fr hf hs) hq
        cases hb : ((Nat.beq (q.1 % 8) kd1 || Nat.beq (q.1 % 8) kd2) && Nat.ble q.2 65536) with
        | false => rw [hb] at h; cases h
        | true =>
          rw [hb, cond_true] at h
          rw [Bool.and_eq_true] at hb
          have e := Prod.mk.inj (Option.some.inj h)
          have e8 := e.1
          have e9 := (Prod.mk.inj e.2).1
          subst e8 e9
          obtain ⟨i, v, i1, ⟨ob', c1, c2⟩, i3⟩ := hd _ (eGet_ok hy) hC
          have e1 := eR_fun i1 u1
          subst e1
          rw [o1] at c1
          have c1 := Option.some.inj c1
          subst c1
          have hi : i < ob.2.length := (List.getElem?_eq_some_iff.mp c2).1
          have hlt : Nat.blt i 65536 = true := Nat.blt_eq.mpr (by have := Nat.le_of_ble_eq_true hb.2; omega)
          refine ⟨(pc, kl, v :: ks', hp), ?_, rfl, hl, ⟨i3, ht⟩, hd, hf⟩
          unfold vAld
          dsimp only
          rw [vNth_eq, o1]
          dsimp only
          rw [o2, hb.1, hlt, Bool.and_self, cond_true, vNth_eq, c2]
      · cases h
  · cases h
def eNar (kd : Nat) (v : eV) : Option eV := match kd, v with
  | 1, .inl x => some (.inl x)
  | 2, .inl x => some (.inl (x ++ [(3, 3)]))
  | 3, .inl x => (match eCn x with
    | some c => bif Nat.ble c 1 then some (.inl x) else none
    | none => none)
  | 4, .inr (.inl x) => some (.inr (.inl x))
  | _, _ => none
theorem eNar_ok {kd : Nat} {x y : eV} {v : vAV} (hx : eRv ρ x v) (h : eNar kd x = some y) : ∃ w, vNar kd v = some w ∧ eRv ρ y w := by
  unfold eNar at h
  split at h
  · next x' =>
    obtain ⟨u, u1, u2⟩ := hx
    have h := Option.some.inj h
    subst h u2
    exact ⟨_, rfl, u, u1, rfl⟩
  · next x' =>
    obtain ⟨u, u1, u2⟩ := hx
    have h := Option.some.inj h
    subst h u2
    exact ⟨_, rfl, _, eR_u 3 u1, rfl⟩
  · next x' =>
    split at h
    · next c hc =>
      obtain ⟨u, u1, u2⟩ := hx
      cases hb : Nat.ble c 1 with
      | false => rw [hb] at h; cases h
      | true =>
        rw [hb, cond_true] at h
        have h := Option.some.inj h
        subst h u2
        have e1 := eCn_val hc u1
        subst e1
        refine ⟨.inl u, ?_, u, u1, rfl⟩
        show (bif Nat.ble u 1 then some (.inl u : vAV) else none) = some (.inl u)
        rw [hb]
        rfl
    · cases h
  · next x' =>
    obtain ⟨u, u1, u2⟩ := hx
    have h := Option.some.inj h
    subst h u2
    exact ⟨_, rfl, u, u1, rfl⟩
  · cases h
def eIxC (x : eX) (n : Nat) : Option eCs := match eCn x with
  | some c => bif Nat.blt c n then some [] else none
  | none => some [(100, x, [(0, n)], true)]
theorem eIxC_ok {x : eX} {n u : Nat} {C : eCs} (hx : eR ρ x u) (h : eIxC x n = some C) (hC : ∀ q ∈ C, eCo ρ q) : u < n := by
  unfold eIxC at h
  split at h
  · next c hc =>
    cases hb : Nat.blt c n with
    | false => rw [hb] at h; cases h
    | true =>
      have e1 := eCn_val hc hx
      rw [e1]
      exact Nat.blt_eq.mp hb
  · have h := Option.some.inj h
    subst h
    have hq := hC _ List.mem_cons_self
    unfold eCo at hq
    rw [if_pos rfl] at hq
    dsimp only at hq
    rw [eR_val hx, eR_val (eR_c ρ n)] at hq
    exact hq
def eAst (sh : List (Nat × Nat × Nat)) (kd1 kd2 pc : Nat) (ls : List (Option eV)) (st : List eV) (D : eD) (W : List (Nat × eX)) (path : List Bool) : eO := match st with
  | v :: .inl x :: .inr (.inr (some k)) :: st' => (match eSl k sh with
    | some q => (match eNar (q.1 % 8) v, eIxC x q.2 with
      | some w, some C => bif (Nat.beq (q.1 % 8) kd1 || Nat.beq (q.1 % 8) kd2) && Nat.ble q.2 65536 then some ((pc, ls, st', (k, x, w, []) :: eDel k x D, (k, x) :: W), C ++ eDob k x D, path) else none
      | _, _ => none)
    | none => none)
  | _ => none
theorem eAst_ok {kd1 kd2 pc : Nat} (hs : eSh sh hp0) (hl : eLr ρ ls kl) (ht : eTr ρ st ks) (hd : eDr ρ D hp) (hf : sFr (eMd ρ W) hp0 hp) (h : eAst sh kd1 kd2 pc ls st D W path = some (σ, C, path')) (hC : ∀ q ∈ C, eCo ρ q) : eOk ρ hp0 σ (vAst kd1 kd2 pc kl ks hp) := by
  unfold eAst at h
  split at h
  · next v x k st' =>
    match ks, ht with
    | [_], ht => exact ht.2.elim
    | [_, _], ht => exact ht.2.2.elim
    | vv :: vx :: vk :: ks', ht =>
      obtain ⟨hv, ⟨u, u1, u2⟩, e0, ht⟩ := ht
      have e0 : vk = .inr (.inr (.inr (.inl (some k)))) := e0
      subst e0 u2
      split at h
      · next q hq =>
        split at h
        · next w C' hw hC' =>
          obtain ⟨ob, o1, o2, o3⟩ := eSl_row (eSh_fr hf hs) hq
          cases hb : ((Nat.beq (q.1 % 8) kd1 || Nat.beq (q.1 % 8) kd2) && Nat.ble q.2 65536) with
          | false => rw [hb] at h; cases h
          | true =>
            rw [hb, cond_true] at h
            rw [Bool.and_eq_true] at hb
            have e := Prod.mk.inj (Option.some.inj h)
            have e1 := e.1
            have e2 := (Prod.mk.inj e.2).1
            subst e1 e2
            have hu := eIxC_ok u1 hC' (fun q h => hC q (List.mem_append_left _ h))
            obtain ⟨y, y1, y2⟩ := eNar_ok hv hw
            have hi : u < ob.2.length := by rw [o3]; exact hu
            have hlt : Nat.blt u 65536 = true := Nat.blt_eq.mpr (by have := Nat.le_of_ble_eq_true hb.2; omega)
            refine ⟨(pc, kl, ks', hp.set k (ob.1, ob.2.set u y)), ?_, rfl, hl, ht, eDr_put (fun q h => hC q (List.mem_append_right _ h)) hd o1 u1 hi y2, sFr_one hf o1 u1⟩
            unfold vAst
            dsimp only
            rw [vNth_eq, o1]
            dsimp only
            rw [o2, hb.1, hlt, Bool.and_self, cond_true, vNth_eq, List.getElem?_eq_getElem hi, y1]
        · cases h
      · cases h
  · cases h
def eDup (pc : Nat) (ls : List (Option eV)) (st : List eV) (D : eD) (W : List (Nat × eX)) (path : List Bool) : eO := match st with
  | x :: st' => bif Nat.beq (eKd x) 1 then none else some ((pc, ls, x :: x :: st', D, W), [], path)
  | _ => none
theorem eDup_ok {pc : Nat} (hl : eLr ρ ls kl) (ht : eTr ρ st ks) (hd : eDr ρ D hp) (hf : sFr (eMd ρ W) hp0 hp) (h : eDup pc ls st D W path = some (σ, C, path')) : eOk ρ hp0 σ (vDup pc kl ks hp) := by
  unfold eDup at h
  split at h
  · next x st' =>
    match ks, ht with
    | [], ht => exact ht.elim
    | vx :: ks', ht =>
      cases hb : Nat.beq (eKd x) 1 with
      | true => rw [hb] at h; cases h
      | false =>
        rw [hb, cond_false] at h
        have e := (Prod.mk.inj (Option.some.inj h)).1
        subst e
        refine ⟨(pc, kl, vx :: vx :: ks', hp), ?_, rfl, hl, ⟨ht.1, ht.1, ht.2⟩, hd, hf⟩
        unfold vDup
        dsimp only
        rw [eKd_ok ht.1, hb]
        rfl
  · cases h
def eDup2 (pc : Nat) (ls : List (Option eV)) (st : List eV) (D : eD) (W : List (Nat × eX)) (path : List Bool) : eO := match st with
  | x :: y :: st' => bif Nat.beq (eKd x) 1 || Nat.beq (eKd y) 1 then none else some ((pc, ls, x :: y :: x :: y :: st', D, W), [], path)
  | _ => none
theorem eDup2_ok {pc : Nat} (hl : eLr ρ ls kl) (ht : eTr ρ st ks) (hd : eDr ρ D hp) (hf : sFr (eMd ρ W) hp0 hp) (h : eDup2 pc ls st D W path = some (σ, C, path')) : eOk ρ hp0 σ (vDup2 pc kl ks hp) := by
  unfold eDup2 at h
  split at h
  · next x y st' =>
    match ks, ht with
    | [_], ht => exact ht.2.elim
    | vx :: vy :: ks', ht =>
      cases hb : (Nat.beq (eKd x) 1 || Nat.beq (eKd y) 1) with
      | true => rw [hb] at h; cases h
      | false =>
        rw [hb, cond_false] at h
        have e := (Prod.mk.inj (Option.some.inj h)).1
        subst e
        refine ⟨(pc, kl, vx :: vy :: vx :: vy :: ks', hp), ?_, rfl, hl, ⟨ht.1, ht.2.1, ht.1, ht.2.1, ht.2.2⟩, hd, hf⟩
        unfold vDup2
        dsimp only
        rw [eKd_ok ht.1, eKd_ok ht.2.1, hb]
        rfl
  · cases h
def ePop (pc : Nat) (ls : List (Option eV)) (st : List eV) (D : eD) (W : List (Nat × eX)) (path : List Bool) : eO := match st with
  | x :: st' => bif Nat.beq (eKd x) 1 then none else some ((pc, ls, st', D, W), [], path)
  | _ => none
theorem ePop_ok {pc : Nat} (hl : eLr ρ ls kl) (ht : eTr ρ st ks) (hd : eDr ρ D hp) (hf : sFr (eMd ρ W) hp0 hp) (h : ePop pc ls st D W path = some (σ, C, path')) : eOk ρ hp0 σ (vPop pc kl ks hp) := by
  unfold ePop at h
  split at h
  · next x st' =>
    match ks, ht with
    | [], ht => exact ht.elim
    | vx :: ks', ht =>
      cases hb : Nat.beq (eKd x) 1 with
      | true => rw [hb] at h; cases h
      | false =>
        rw [hb, cond_false] at h
        have e := (Prod.mk.inj (Option.some.inj h)).1
        subst e
        refine ⟨(pc, kl, ks', hp), ?_, rfl, hl, ht.2, hd, hf⟩
        unfold vPop
        dsimp only
        rw [eKd_ok ht.1, hb]
        rfl
  · cases h
end EST
