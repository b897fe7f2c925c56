/-! ===== sums and branches ===== -/
theorem sInt {ρ : List Nat} {a v : vAV} (h : sV ρ a v) (hk : Nat.beq (sKd a) 0 = true) : ∃ u, u < 4294967296 ∧ v = .inl u := by
  rcases a with u | q | u | o | z
  · exact ⟨u, h.1, h.2⟩
  · obtain ⟨r, -, e⟩ := h
    exact ⟨_, sUn_lt _ _, e⟩
  · cases hk
  · cases o <;> cases hk
  · exfalso
    unfold sKd at hk
    split at hk
    · cases hk
    · unfold vKd at hk
      split at hk
      · next h1 => cases h1
      · next h1 => cases h1
      · cases hk
      · cases hk
      · cases hk
      · cases hk
      · cases hk
noncomputable def sBi2 (op pc : Nat) (ls : vLs) (st : List vAV) (h : sHp) (G : sG) : Option (List sSt) := match st with
  | y :: x :: st' => bif Nat.beq (sKd x) 0 && Nat.beq (sKd y) 0 then (match sBin op G (sSimp G x) (sSimp G y) with
    | some L => some (L.map (fun e => (pc, ls, e.2 :: st', h, e.1)))
    | none => none) else none
  | _ => none
section SBR
variable {md : sMd} {hp0 : List vOb} {ρ : List Nat} {ls : vLs} {st : List vAV} {h : sHp} {G : sG} {kl : vLs} {ks : List vAV} {hp : List vOb} {L : List sSt}
theorem sBi2_ok {op pc : Nat} (hop : op ≤ 10) (hR : sR md hp0 ρ ls st h G kl ks hp) (he : sBi2 op pc ls st h G = some L) : ∃ u w ks', u < 4294967296 ∧ w < 4294967296 ∧ ks = .inl w :: .inl u :: ks' ∧ (9 ≤ op → w ≠ 0) ∧ sOut md hp0 ρ L (some (pc, kl, .inl (sKop op u w) :: ks', hp)) := by
  obtain ⟨hl, ht, hh, hG, hf⟩ := hR
  unfold sBi2 at he
  split at he
  · next y x st' =>
    match ks, ht with
    | [_], ht => exact ht.2.elim
    | ky :: kx :: ks', ht =>
      obtain ⟨hy, hx, ht⟩ := ht
      cases hb : (Nat.beq (sKd x) 0 && Nat.beq (sKd y) 0) with
      | false => rw [hb] at he; cases he
      | true =>
        rw [hb, cond_true] at he
        rw [Bool.and_eq_true] at hb
        obtain ⟨u, hu, rfl⟩ := sInt hx hb.1
        obtain ⟨w, hw, rfl⟩ := sInt hy hb.2
        split at he
        · next L0 hL0 =>
          cases he
          obtain ⟨h9, e, e1, xs, e2, e3⟩ := sBin_ok hop hG (sSimp_ok hG hx) (sSimp_ok hG hy) hL0
          exact ⟨u, w, ks', hu, hw, rfl, h9, sOut_one xs (List.mem_map.mpr ⟨e, e1, rfl⟩) rfl ⟨sLr_app xs hl, ⟨e3, sTr_app xs ht⟩, sHr_app xs hh, e2, hf⟩⟩
        · cases he
  · cases he
theorem k2_eq (f : Nat → Nat → Nat) (pc u w : Nat) : v2 f pc kl (.inl w :: .inl u :: ks) hp = some (pc, kl, .inl (f u w) :: ks, hp) := by
  unfold v2 vB
  simp only [vF_eq]
theorem kDiv_eq (pc : Nat) {u w : Nat} (h0 : w ≠ 0) : v2d Nat.div kDiv pc kl (.inl w :: .inl u :: ks) hp = some (pc, kl, .inl (kDiv u w) :: ks, hp) := by
  unfold v2d
  dsimp only
  cases hb : (Nat.blt u 2147483648 && Nat.blt w 2147483648 && Nat.blt 0 w) with
  | true =>
    rw [cond_true, vF_eq]
    rw [Bool.and_eq_true, Bool.and_eq_true] at hb
    have e : kDiv u w = Nat.div u w := kDiv_pos (Nat.blt_eq.mp hb.1.1) (Nat.blt_eq.mp hb.2) (Nat.blt_eq.mp hb.1.2)
    rw [e]
  | false =>
    have e : Nat.beq w 0 = false := by
      cases h1 : Nat.beq w 0 with
      | false => rfl
      | true => exact absurd (Nat.eq_of_beq_eq_true h1) h0
    rw [cond_false, e, cond_false]
theorem kRem_eq (pc : Nat) {u w : Nat} (h0 : w ≠ 0) : v2d Nat.mod kRem pc kl (.inl w :: .inl u :: ks) hp = some (pc, kl, .inl (kRem u w) :: ks, hp) := by
  unfold v2d
  dsimp only
  cases hb : (Nat.blt u 2147483648 && Nat.blt w 2147483648 && Nat.blt 0 w) with
  | true =>
    rw [cond_true, vF_eq]
    rw [Bool.and_eq_true, Bool.and_eq_true] at hb
    have e : kRem u w = Nat.mod u w := kRem_pos (Nat.blt_eq.mp hb.1.1) (Nat.blt_eq.mp hb.2) (Nat.blt_eq.mp hb.1.2)
    rw [e]
  | false =>
    have e : Nat.beq w 0 = false := by
      cases h1 : Nat.beq w 0 with
      | false => rfl
      | true => exact absurd (Nat.eq_of_beq_eq_true h1) h0
    rw [cond_false, e, cond_false]
theorem kShr_eq (pc : Nat) {u w : Nat} (hw : w < 4294967296) : vShrD pc kl (.inl w :: .inl u :: ks) hp = some (pc, kl, .inl (kShr u w) :: ks, hp) := by
  unfold vShrD
  dsimp only
  cases hb : Nat.blt u 2147483648 with
  | true => rw [cond_true, vF_eq, kShr_pos (Nat.blt_eq.mp hb) hw]
  | false => rfl
/-- two numbers compared -/
def kCmp (c a b : Nat) : Bool := match c with
  | 0 => Nat.beq a b
  | 1 => !Nat.beq a b
  | 2 => Nat.blt a b
  | 3 => !Nat.blt a b
  | 4 => Nat.blt b a
  | _ => !Nat.blt b a
def sSwp (r : Option (Option sG × Option sG)) : Option (Option sG × Option sG) := match r with
  | some (a, b) => some (b, a)
  | none => none
noncomputable def sCmpG (c : Nat) (G : sG) (x y : vAV) : Option (Option sG × Option sG) := match c with
  | 0 => sEqG G x y
  | 1 => sSwp (sEqG G x y)
  | 2 => sLtG G x y
  | 3 => sSwp (sLtG G x y)
  | 4 => sLtG G y x
  | _ => sSwp (sLtG G y x)
theorem sSwp_eq {r : Option (Option sG × Option sG)} {a b : Option sG} (h : sSwp r = some (a, b)) : r = some (b, a) := by
  unfold sSwp at h
  split at h
  · cases h; rfl
  · cases h
theorem kblt {a b : Nat} (h : Nat.blt a b = false) : ¬ a < b := fun h1 => by rw [Nat.blt_eq.mpr h1] at h; cases h
theorem kbeq {a b : Nat} (h : Nat.beq a b = false) : ¬ a = b := fun h1 => by
  subst h1
  have e : Nat.beq a a = true := by simp
  rw [e] at h
  cases h
theorem kCmp_le {c : Nat} (h0 : c = 0 → False) (h1 : c = 1 → False) (h2 : c = 2 → False) (h3 : c = 3 → False) (h4 : c = 4 → False) {a b : Nat} : kCmp c a b = !Nat.blt b a := by
  match c with
  | 0 => exact (h0 rfl).elim
  | 1 => exact (h1 rfl).elim
  | 2 => exact (h2 rfl).elim
  | 3 => exact (h3 rfl).elim
  | 4 => exact (h4 rfl).elim
  | n + 5 => rfl
theorem sCmpG_ok {c : Nat} {x y : vAV} {u w : Nat} {T F : Option sG} (hG : sGr ρ G) (hx : sV ρ x (.inl u)) (hy : sV ρ y (.inl w)) (h : sCmpG c G x y = some (T, F)) : ∃ G', (bif kCmp c (sBi u) (sBi w) then T else F) = some G' ∧ sGr ρ G' := by
  unfold sCmpG at h
  split at h
  · obtain ⟨a, b⟩ := sEqG_ok hG hx hy h
    show ∃ G', (bif Nat.beq (sBi u) (sBi w) then T else F) = some G' ∧ sGr ρ G'
    cases hb : Nat.beq (sBi u) (sBi w) with
    | true => exact a (Nat.eq_of_beq_eq_true hb)
    | false => exact b (kbeq hb)
  · obtain ⟨a, b⟩ := sEqG_ok hG hx hy (sSwp_eq h)
    show ∃ G', (bif !Nat.beq (sBi u) (sBi w) then T else F) = some G' ∧ sGr ρ G'
    cases hb : Nat.beq (sBi u) (sBi w) with
    | true => exact a (Nat.eq_of_beq_eq_true hb)
    | false => exact b (kbeq hb)
  · obtain ⟨a, b⟩ := sLtG_ok hG hx hy h
    show ∃ G', (bif Nat.blt (sBi u) (sBi w) then T else F) = some G' ∧ sGr ρ G'
    cases hb : Nat.blt (sBi u) (sBi w) with
    | true => exact a (Nat.blt_eq.mp hb)
    | false => exact b (kblt hb)
  · obtain ⟨a, b⟩ := sLtG_ok hG hx hy (sSwp_eq h)
    show ∃ G', (bif !Nat.blt (sBi u) (sBi w) then T else F) = some G' ∧ sGr ρ G'
    cases hb : Nat.blt (sBi u) (sBi w) with
    | true => exact a (Nat.blt_eq.mp hb)
    | false => exact b (kblt hb)
  · obtain ⟨a, b⟩ := sLtG_ok hG hy hx h
    show ∃ G', (bif Nat.blt (sBi w) (sBi u) then T else F) = some G' ∧ sGr ρ G'
    cases hb : Nat.blt (sBi w) (sBi u) with
    | true => exact a (Nat.blt_eq.mp hb)
    | false => exact b (kblt hb)
  · next h0 h1 h2 h3 h4 =>
    obtain ⟨a, b⟩ := sLtG_ok hG hy hx (sSwp_eq h)
    rw [kCmp_le h0 h1 h2 h3 h4]
    cases hb : Nat.blt (sBi w) (sBi u) with
    | true => exact a (Nat.blt_eq.mp hb)
    | false => exact b (kblt hb)
def sBoth (pc a : Nat) (ls : vLs) (st : List vAV) (h : sHp) (T F : Option sG) : List sSt := (match T with
  | some G' => [(a, ls, st, h, G')]
  | none => []) ++ (match F with
  | some G' => [(pc, ls, st, h, G')]
  | none => [])
noncomputable def sIc (c pc a : Nat) (ls : vLs) (st : List vAV) (h : sHp) (G : sG) : Option (List sSt) := match st with
  | y :: x :: st' => bif Nat.beq (sKd x) 0 && Nat.beq (sKd y) 0 then (match sCmpG c G x y with
    | some (T, F) => some (sBoth pc a ls st' h T F)
    | none => none) else none
  | _ => none
noncomputable def sIf (c pc a : Nat) (ls : vLs) (st : List vAV) (h : sHp) (G : sG) : Option (List sSt) := match st with
  | x :: st' => bif Nat.beq (sKd x) 0 then (match sCmpG c G x (.inl 0) with
    | some (T, F) => some (sBoth pc a ls st' h T F)
    | none => none) else none
  | _ => none
theorem sBoth_ok {c pc a : Nat} {T F : Option sG} {bu bw : Nat} (hl : sLr ρ ls kl) (ht : sTr ρ st ks) (hh : sHr ρ h hp) (hf : sFr md hp0 hp) (hc : ∃ G', (bif kCmp c bu bw then T else F) = some G' ∧ sGr ρ G') : sOut md hp0 ρ (sBoth pc a ls st h T F) (some ((bif kCmp c bu bw then a else pc), kl, ks, hp)) := by
  obtain ⟨G', h1, h2⟩ := hc
  cases hb : kCmp c bu bw with
  | true =>
    rw [hb, cond_true] at h1
    subst h1
    exact sOut_one [] (List.mem_append_left _ List.mem_cons_self) rfl (by rw [List.append_nil]; exact ⟨hl, ht, hh, h2, hf⟩)
  | false =>
    rw [hb, cond_false] at h1
    subst h1
    exact sOut_one [] (List.mem_append_right _ List.mem_cons_self) rfl (by rw [List.append_nil]; exact ⟨hl, ht, hh, h2, hf⟩)
theorem sIc_ok {c pc a : Nat} (hR : sR md hp0 ρ ls st h G kl ks hp) (he : sIc c pc a ls st h G = some L) : ∃ u w ks', u < 4294967296 ∧ w < 4294967296 ∧ ks = .inl w :: .inl u :: ks' ∧ sOut md hp0 ρ L (some ((bif kCmp c (sBi u) (sBi w) then a else pc), kl, ks', hp)) := by
  obtain ⟨hl, ht, hh, hG, hf⟩ := hR
  unfold sIc at he
  split at he
  · next y x st' =>
    match ks, ht with
    | [_], ht => exact ht.2.elim
    | ky :: kx :: ks', ht =>
      obtain ⟨hy, hx, ht⟩ := ht
      cases hb : (Nat.beq (sKd x) 0 && Nat.beq (sKd y) 0) with
      | false => rw [hb] at he; cases he
      | true =>
        rw [hb, cond_true] at he
        rw [Bool.and_eq_true] at hb
        obtain ⟨u, hu, rfl⟩ := sInt hx hb.1
        obtain ⟨w, hw, rfl⟩ := sInt hy hb.2
        split at he
        · next T F hc =>
          cases he
          exact ⟨u, w, ks', hu, hw, rfl, sBoth_ok hl ht hh hf (sCmpG_ok hG hx hy hc)⟩
        · cases he
  · cases he
theorem sIf_ok {c pc a : Nat} (hR : sR md hp0 ρ ls st h G kl ks hp) (he : sIf c pc a ls st h G = some L) : ∃ u ks', u < 4294967296 ∧ ks = .inl u :: ks' ∧ sOut md hp0 ρ L (some ((bif kCmp c (sBi u) 2147483648 then a else pc), kl, ks', hp)) := by
  obtain ⟨hl, ht, hh, hG, hf⟩ := hR
  unfold sIf at he
  split at he
  · next x st' =>
    match ks, ht with
    | kx :: ks', ht =>
      obtain ⟨hx, ht⟩ := ht
      cases hb : Nat.beq (sKd x) 0 with
      | false => rw [hb] at he; cases he
      | true =>
        rw [hb, cond_true] at he
        obtain ⟨u, hu, rfl⟩ := sInt hx hb
        split at he
        · next T F hc =>
          cases he
          exact ⟨u, ks', hu, rfl, sBoth_ok hl ht hh hf (sCmpG_ok (u := u) (w := 0) (y := .inl 0) hG hx (show sV ρ (.inl 0) (.inl 0) from ⟨by decide, rfl⟩) hc)⟩
        · cases he
  · cases he
end SBR
