/-! ===== longs, conversions, what is left ===== -/
theorem vIv_k (u : Nat) : vIv (.inl u) = some (sBi u, sBi u) := by
  unfold vIv
  simp only [vF_eq]
  rfl
theorem vLt_k (r s : Nat) : vLt (r, r) (s, s) = some (Nat.blt r s) := by
  unfold vLt
  dsimp only
  cases hb : Nat.blt r s with
  | true => rfl
  | false =>
    have h := kblt hb
    rw [cond_false, Nat.ble_eq_true_of_le (show s ≤ r by omega), cond_true]
theorem vEq_k (r s : Nat) : vEq (r, r) (s, s) = some (Nat.beq r s) := by
  unfold vEq
  dsimp only
  cases hb : Nat.beq r s with
  | true =>
    have e := Nat.eq_of_beq_eq_true hb
    subst e
    have e2 : Nat.blt r r = false := by
      cases h1 : Nat.blt r r with
      | false => rfl
      | true => exact absurd (Nat.blt_eq.mp h1) (Nat.lt_irrefl _)
    have e3 : Nat.beq r r = true := by simp
    rw [e2, cond_false, cond_false, e3]
    rfl
  | false =>
    have h := kbeq hb
    by_cases h1 : r < s
    · rw [Nat.blt_eq.mpr h1, cond_true]
    · have e2 : Nat.blt r s = false := by
        cases h2 : Nat.blt r s with
        | false => rfl
        | true => exact absurd (Nat.blt_eq.mp h2) h1
      rw [e2, cond_false, Nat.blt_eq.mpr (show s < r by omega), cond_true]
section SMO
variable {md : sMd} {hp0 : List vOb} {ρ : List Nat} {ls : vLs} {st : List vAV} {h : sHp} {G : sG} {kl : vLs} {ks : List vAV} {hp : List vOb} {L : List sSt}
theorem vBr_k (b : Bool) (pc a : Nat) : vBr (some b) pc a kl ks hp = some ((bif b then a else pc), kl, ks, hp) := by cases b <;> rfl
theorem vIc_e {f : Nat × Nat → Nat × Nat → Option Bool} {pc a : Nat} {x y : vAV} {q r : Nat × Nat} (h1 : vIv x = some q) (h2 : vIv y = some r) : vIc f pc a kl (y :: x :: ks) hp = vBr (f q r) pc a kl ks hp := by
  unfold vIc
  simp only [h1, h2]
theorem vIf_e {f : Nat × Nat → Nat × Nat → Option Bool} {pc a : Nat} {x : vAV} {q : Nat × Nat} (h1 : vIv x = some q) : vIf f pc a kl (x :: ks) hp = vBr (f q (2147483648, 2147483648)) pc a kl ks hp := by
  unfold vIf
  simp only [h1]
theorem vIc_k {f : Nat × Nat → Nat × Nat → Option Bool} {c pc a u w : Nat} (hf : ∀ r s, f (r, r) (s, s) = some (kCmp c r s)) : vIc f pc a kl (.inl w :: .inl u :: ks) hp = some ((bif kCmp c (sBi u) (sBi w) then a else pc), kl, ks, hp) :=
  (vIc_e (vIv_k u) (vIv_k w)).trans ((congrArg (fun o => vBr o pc a kl ks hp) (hf (sBi u) (sBi w))).trans (vBr_k _ pc a))
theorem vIf_k {f : Nat × Nat → Nat × Nat → Option Bool} {c pc a u : Nat} (hf : ∀ r s, f (r, r) (s, s) = some (kCmp c r s)) : vIf f pc a kl (.inl u :: ks) hp = some ((bif kCmp c (sBi u) 2147483648 then a else pc), kl, ks, hp) :=
  (vIf_e (vIv_k u)).trans ((congrArg (fun o => vBr o pc a kl ks hp) (hf (sBi u) 2147483648)).trans (vBr_k _ pc a))
theorem kf_eq : ∀ r s, vEq (r, r) (s, s) = some (kCmp 0 r s) := fun r s => vEq_k r s
theorem kf_ne : ∀ r s, (fun x y => vNot (vEq x y)) (r, r) (s, s) = some (kCmp 1 r s) := fun r s => by
  show vNot (vEq (r, r) (s, s)) = some (!Nat.beq r s)
  rw [vEq_k]
  cases Nat.beq r s <;> rfl
theorem kf_lt : ∀ r s, vLt (r, r) (s, s) = some (kCmp 2 r s) := fun r s => vLt_k r s
theorem kf_ge : ∀ r s, (fun x y => vNot (vLt x y)) (r, r) (s, s) = some (kCmp 3 r s) := fun r s => by
  show vNot (vLt (r, r) (s, s)) = some (!Nat.blt r s)
  rw [vLt_k]
  cases Nat.blt r s <;> rfl
theorem kf_gt : ∀ r s, (fun x y => vLt y x) (r, r) (s, s) = some (kCmp 4 r s) := fun r s => vLt_k s r
theorem kf_le : ∀ r s, (fun x y => vNot (vLt y x)) (r, r) (s, s) = some (kCmp 5 r s) := fun r s => by
  show vNot (vLt (s, s) (r, r)) = some (!Nat.blt s r)
  rw [vLt_k]
  cases Nat.blt s r <;> rfl
/-- some long -/
def sUnk : vAV := .inr (.inr (.inr (.inr 4)))
theorem sUnk_ok {u : Nat} (hu : u < 18446744073709551616) : sV ρ sUnk (.inr (.inr (.inl u))) := ⟨u, hu, rfl⟩
/-- two longs: some long; 'd' says that the second must not be 0 -/
def sNz (y : vAV) : Bool := match y with
  | .inr (.inr (.inl w)) => !Nat.beq w 0
  | _ => false
def sL2 (d : Bool) (pc : Nat) (ls : vLs) (st : List vAV) (h : sHp) (G : sG) : Option (List sSt) := match st with
  | y :: x :: st' => bif (sLng (.inl x) && sLng (.inl y)) && (!d || sNz y) then some [(pc, ls, sUnk :: st', h, G)] else none
  | _ => none
theorem sL2_ok {d : Bool} {pc : Nat} (hR : sR md hp0 ρ ls st h G kl ks hp) (he : sL2 d pc ls st h G = some L) : ∃ u w ks', u < 18446744073709551616 ∧ w < 18446744073709551616 ∧ ks = .inr (.inr (.inl w)) :: .inr (.inr (.inl u)) :: ks' ∧ (d = true → w ≠ 0) ∧ ∀ z, z < 18446744073709551616 → sOut md hp0 ρ L (some (pc, kl, .inr (.inr (.inl z)) :: ks', hp)) := by
  obtain ⟨hl, ht, hh, hG, hf⟩ := hR
  unfold sL2 at he
  split at he
  · next y x st' =>
    match ks, ht with
    | [_], ht => exact ht.2.elim
    | ky :: kx :: ks', ht =>
      obtain ⟨hy, hx, ht⟩ := ht
      cases hb : ((sLng (.inl x) && sLng (.inl y)) && (!d || sNz y)) with
      | false => rw [hb] at he; cases he
      | true =>
        rw [hb, cond_true] at he
        cases he
        rw [Bool.and_eq_true, Bool.and_eq_true] at hb
        obtain ⟨u, hu, rfl⟩ := sLng_ok (c := .inl x) hb.1.1 hx
        obtain ⟨w, hw, rfl⟩ := sLng_ok (c := .inl y) hb.1.2 hy
        refine ⟨u, w, ks', hu, hw, rfl, fun hd h0 => ?_, fun z hz => sOut_now rfl ⟨hl, ⟨sUnk_ok hz, ht⟩, hh, hG, hf⟩⟩
        subst hd h0
        have hb2 := hb.2
        rw [Bool.not_true, Bool.false_or] at hb2
        unfold sNz at hb2
        split at hb2
        · next w' =>
          have e : (Sum.inr (Sum.inr (Sum.inl 0)) : vAV) = .inr (.inr (.inl w')) := hy.2
          cases e
          cases hb2
        · cases hb2
  · cases he
theorem vL2_k (f : Nat → Nat → Nat) (pc u w : Nat) : vL2 f pc kl (.inr (.inr (.inl w)) :: .inr (.inr (.inl u)) :: ks) hp = some (pc, kl, .inr (.inr (.inl (f u w))) :: ks, hp) := by
  unfold vL2
  simp only [vF_eq]
theorem vL2d_k {f g : Nat → Nat → Nat} {pc u w : Nat} (h0 : w ≠ 0) (hf : f u w < 18446744073709551616) (hg : g u w < 18446744073709551616) : ∃ z, z < 18446744073709551616 ∧ vL2d f g pc kl (.inr (.inr (.inl w)) :: .inr (.inr (.inl u)) :: ks) hp = some (pc, kl, .inr (.inr (.inl z)) :: ks, hp) := by
  unfold vL2d
  dsimp only
  cases hb : (Nat.blt u 9223372036854775808 && Nat.blt w 9223372036854775808 && Nat.blt 0 w) with
  | true => rw [cond_true, vF_eq]; exact ⟨_, hf, rfl⟩
  | false =>
    have e : Nat.beq w 0 = false := by
      cases h1 : Nat.beq w 0 with
      | false => rfl
      | true => exact absurd (Nat.eq_of_beq_eq_true h1) h0
    rw [cond_false, e, cond_false]
    exact ⟨_, hg, rfl⟩
noncomputable def sLcmp (pc : Nat) (ls : vLs) (st : List vAV) (h : sHp) (G : sG) : Option (List sSt) := match st with
  | y :: x :: st' => bif sLng (.inl x) && sLng (.inl y) then (match sMk G [(2147483647, 2147483649)] with
    | (G', v) => some [(pc, ls, v :: st', h, G')]) else none
  | _ => none
theorem sLcmp_ok {pc : Nat} (hR : sR md hp0 ρ ls st h G kl ks hp) (he : sLcmp pc ls st h G = some L) : sOut md hp0 ρ L (vLc pc kl ks hp) := by
  obtain ⟨hl, ht, hh, hG, hf⟩ := hR
  unfold sLcmp at he
  split at he
  · next y x st' =>
    match ks, ht with
    | [_], ht => exact ht.2.elim
    | ky :: kx :: ks', ht =>
      obtain ⟨hy, hx, ht⟩ := ht
      cases hb : (sLng (.inl x) && sLng (.inl y)) with
      | false => rw [hb] at he; cases he
      | true =>
        rw [hb, cond_true] at he
        have he := Option.some.inj he
        rw [Bool.and_eq_true] at hb
        obtain ⟨u, hu, rfl⟩ := sLng_ok (c := .inl x) hb.1 hx
        obtain ⟨w, hw, rfl⟩ := sLng_ok (c := .inl y) hb.2 hy
        have hr : ∃ z, (z = 4294967295 ∨ z = 0 ∨ z = 1) ∧ vLc pc kl (.inr (.inr (.inl w)) :: .inr (.inr (.inl u)) :: ks') hp = some (pc, kl, .inl z :: ks', hp) := by
          unfold vLc
          simp only [vF_eq]
          cases Nat.blt ((u + 9223372036854775808) % 18446744073709551616) ((w + 9223372036854775808) % 18446744073709551616) with
          | true => exact ⟨_, Or.inl rfl, rfl⟩
          | false =>
            cases Nat.beq ((u + 9223372036854775808) % 18446744073709551616) ((w + 9223372036854775808) % 18446744073709551616) with
            | true => exact ⟨_, Or.inr (Or.inl rfl), rfl⟩
            | false => exact ⟨_, Or.inr (Or.inr rfl), rfl⟩
        obtain ⟨z, hz, hr⟩ := hr
        have hz2 : z < 4294967296 ∧ sIn [(2147483647, 2147483649)] (sBi z) := by
          rcases hz with rfl | rfl | rfl
          · exact ⟨by decide, sIn_one (by decide) (by decide)⟩
          · exact ⟨by decide, sIn_one (by decide) (by decide)⟩
          · exact ⟨by decide, sIn_one (by decide) (by decide)⟩
        obtain ⟨xs, m1, m2⟩ := sMk_ok hG hz2.1 hz2.2
        subst he
        exact sOut_one xs List.mem_cons_self hr ⟨sLr_app xs hl, ⟨m2, sTr_app xs ht⟩, sHr_app xs hh, m1, hf⟩
  · cases he
/-- an int of which a set is known -/
noncomputable def sI1 (S : sSet) (pc : Nat) (ls : vLs) (st : List vAV) (h : sHp) (G : sG) : Option (List sSt) := match st with
  | x :: st' => bif Nat.beq (sKd x) 0 then (match sMk G S with
    | (G', v) => some [(pc, ls, v :: st', h, G')]) else none
  | _ => none
theorem sI1_ok {S : sSet} {pc : Nat} {f : Nat → Nat} (hS : ∀ u, f u < 4294967296 ∧ sIn S (sBi (f u))) (hR : sR md hp0 ρ ls st h G kl ks hp) (he : sI1 S pc ls st h G = some L) : ∃ u ks', u < 4294967296 ∧ ks = .inl u :: ks' ∧ sOut md hp0 ρ L (some (pc, kl, .inl (f u) :: ks', hp)) := by
  obtain ⟨hl, ht, hh, hG, hf⟩ := hR
  unfold sI1 at he
  split at he
  · next x st' =>
    match ks, ht with
    | kx :: ks', ht =>
      cases hb : Nat.beq (sKd x) 0 with
      | false => rw [hb] at he; cases he
      | true =>
        rw [hb, cond_true] at he
        have he := Option.some.inj he
        obtain ⟨u, hu, rfl⟩ := sInt ht.1 hb
        obtain ⟨xs, m1, m2⟩ := sMk_ok hG (hS u).1 (hS u).2
        subst he
        exact ⟨u, ks', hu, rfl, sOut_one xs List.mem_cons_self rfl ⟨sLr_app xs hl, ⟨m2, sTr_app xs ht.2⟩, sHr_app xs hh, m1, hf⟩⟩
  · cases he
def sI2l (pc : Nat) (ls : vLs) (st : List vAV) (h : sHp) (G : sG) : Option (List sSt) := match st with
  | x :: st' => bif Nat.beq (sKd x) 0 then some [(pc, ls, sUnk :: st', h, G)] else none
  | _ => none
theorem sI2l_ok {pc : Nat} (hR : sR md hp0 ρ ls st h G kl ks hp) (he : sI2l pc ls st h G = some L) : sOut md hp0 ρ L (vI2l pc kl ks hp) := by
  obtain ⟨hl, ht, hh, hG, hf⟩ := hR
  unfold sI2l at he
  split at he
  · next x st' =>
    match ks, ht with
    | kx :: ks', ht =>
      cases hb : Nat.beq (sKd x) 0 with
      | false => rw [hb] at he; cases he
      | true =>
        rw [hb, cond_true] at he
        cases he
        obtain ⟨u, hu, rfl⟩ := sInt ht.1 hb
        unfold vI2l
        dsimp only
        cases Nat.blt u 2147483648 with
        | true => exact sOut_now rfl ⟨hl, ⟨sUnk_ok (by omega), ht.2⟩, hh, hG, hf⟩
        | false => exact sOut_now (kl' := kl) (ks' := .inr (.inr (.inl (u + 18446744069414584320))) :: ks') (hp' := hp) (by rw [cond_false, vF_eq]) ⟨hl, ⟨sUnk_ok (by omega), ht.2⟩, hh, hG, hf⟩
  · cases he
noncomputable def sL2i (pc : Nat) (ls : vLs) (st : List vAV) (h : sHp) (G : sG) : Option (List sSt) := match st with
  | x :: st' => bif sLng (.inl x) then (match sMk G sFull with
    | (G', v) => some [(pc, ls, v :: st', h, G')]) else none
  | _ => none
theorem sL2i_ok {pc : Nat} (hR : sR md hp0 ρ ls st h G kl ks hp) (he : sL2i pc ls st h G = some L) : sOut md hp0 ρ L (vL2i pc kl ks hp) := by
  obtain ⟨hl, ht, hh, hG, hf⟩ := hR
  unfold sL2i at he
  split at he
  · next x st' =>
    match ks, ht with
    | kx :: ks', ht =>
      cases hb : sLng (.inl x) with
      | false => rw [hb] at he; cases he
      | true =>
        rw [hb, cond_true] at he
        have he := Option.some.inj he
        obtain ⟨u, hu, rfl⟩ := sLng_ok (c := .inl x) hb ht.1
        have hlt : u % 4294967296 < 4294967296 := Nat.mod_lt _ (by decide)
        obtain ⟨xs, m1, m2⟩ := sMk_ok hG hlt (sIn_full (sBi_lt _))
        subst he
        refine sOut_one xs List.mem_cons_self (kl := kl) (ks := .inl (u % 4294967296) :: ks') (hp := hp) ?_ ⟨sLr_app xs hl, ⟨m2, sTr_app xs ht.2⟩, sHr_app xs hh, m1, hf⟩
        unfold vL2i
        dsimp only
        rw [vF_eq]
  · cases he
end SMO
