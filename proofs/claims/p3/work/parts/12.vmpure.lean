/-! ===== what the machine's numbers say of the JVM's ===== -/
theorem vn_ext {x : Int32} {n : Nat} (h : x.toBitVec.toNat = n) : x = nI n := by
  have hl : x.toBitVec.toNat < 2 ^ 32 := x.toBitVec.isLt
  apply Int32.toBitVec_inj.mp
  apply BitVec.eq_of_toNat_eq
  rw [pk_tn (by omega), h]
theorem vn_tn (n : Nat) : (nI n).toBitVec.toNat = n % 4294967296 := by
  show (BitVec.ofNat 32 n).toNat = _
  rw [BitVec.toNat_ofNat]
theorem vn_mod (n : Nat) : nI (n % 4294967296) = nI n := (vn_ext (vn_tn n)).symm
theorem vn_add {u w : Nat} : nI u + nI w = nI (vAdd u w) := by rw [nI_add, vAdd, vn_mod]
theorem vn_mul {u w : Nat} : nI u * nI w = nI (vMul u w) := by rw [pk_mul, vMul, vn_mod]
theorem vn_sub {u w : Nat} (hu : u < 4294967296) (hw : w < 4294967296) : nI u - nI w = nI (vSub u w) := by
  apply vn_ext
  rw [Int32.toBitVec_sub, BitVec.toNat_sub, pk_tn (by omega), pk_tn (by omega), vSub]
  omega
theorem vn_and {u w : Nat} (hu : u < 4294967296) (hw : w < 4294967296) : nI u &&& nI w = nI (Nat.land u w) := by
  apply vn_ext
  rw [Int32.toBitVec_and, BitVec.toNat_and, pk_tn (by omega), pk_tn (by omega)]
  rfl
theorem vn_or {u w : Nat} (hu : u < 4294967296) (hw : w < 4294967296) : nI u ||| nI w = nI (Nat.lor u w) := by
  apply vn_ext
  rw [Int32.toBitVec_or, BitVec.toNat_or, pk_tn (by omega), pk_tn (by omega)]
  rfl
theorem vn_xor {u w : Nat} (hu : u < 4294967296) (hw : w < 4294967296) : nI u ^^^ nI w = nI (Nat.xor u w) := by
  apply vn_ext
  rw [Int32.toBitVec_xor, BitVec.toNat_xor, pk_tn (by omega), pk_tn (by omega)]
  rfl
theorem vn_31 {w : Nat} (hw : w < 4294967296) : nI w &&& 31 = nI (w % 32) := pk_andN (by omega) 5 (by decide)
theorem vn_s1 : ∀ n, n < 32 → ((nI n).toBitVec.smod 32).toNat = n := by decide +kernel
theorem vn_s2 : ∀ n, n < 32 → ((nI n).toUInt32.toBitVec % 32).toNat = n := by decide +kernel
theorem vn_shl {u w : Nat} (hu : u < 4294967296) (hw : w < 4294967296) : nI u <<< (nI w &&& 31) = nI (vShl u w) := by
  apply vn_ext
  rw [pk_shl (nI u) (nI w &&& 31) (w % 32) (by rw [vn_31 hw]; exact vn_s1 _ (Nat.mod_lt _ (by decide))), pk_tn (by omega)]
  rfl
theorem vn_ush {u w : Nat} (hu : u < 4294967296) (hw : w < 4294967296) : ((nI u).toUInt32 >>> ((nI w).toUInt32 &&& Int32.toUInt32 31)).toInt32 = nI (vUsh u w) := by
  apply vn_ext
  rw [pk_ushr (nI u) (nI w) (w % 32) ?_, pk_tn (by omega)]
  · rfl
  · have e : (nI w).toUInt32 &&& Int32.toUInt32 31 = (nI w &&& 31).toUInt32 := rfl
    rw [e, vn_31 hw]
    exact vn_s2 _ (Nat.mod_lt _ (by decide))
theorem vn_toInt {u : Nat} (hu : u < 4294967296) : (nI u).toInt = if 2 * u < 4294967296 then (u : Int) else (u : Int) - 4294967296 := by
  show (nI u).toBitVec.toInt = _
  rw [BitVec.toInt_eq_toNat_cond, pk_tn (by omega)]
  rfl
theorem vn_bias {u : Nat} (hu : u < 4294967296) : (nI u).toInt + 2147483648 = (((u + 2147483648) % 4294967296 : Nat) : Int) := by
  rw [vn_toInt hu]
  split <;> omega
theorem vIv_ok {b sa sv : Nat} {ad : List Nat} {c : vAV} {v : Value} {q : Nat × Nat} (h : vG b sa sv ad c v) (hq : vIv c = some q) : ∃ x : Int32, v = .int x ∧ (q.1 : Int) ≤ x.toInt + 2147483648 ∧ x.toInt + 2147483648 ≤ (q.2 : Int) := by
  rcases c with u | q' | u | r | z
  · obtain ⟨hu, rfl⟩ := h
    have hq : vF ((u + 2147483648) % 4294967296) (fun r => some (r, r)) = some q := hq
    rw [vF_eq] at hq
    have hq := Option.some.inj hq
    subst hq
    exact ⟨nI u, rfl, by rw [vn_bias hu]; exact Int.le_refl _, by rw [vn_bias hu]; exact Int.le_refl _⟩
  · have hq : some q' = some q := hq
    have hq := Option.some.inj hq
    subst hq
    exact h
  · have hq : (none : Option (Nat × Nat)) = some q := hq
    cases hq
  · have hq : (none : Option (Nat × Nat)) = some q := hq
    cases hq
  · have hq : (none : Option (Nat × Nat)) = some q := hq
    cases hq
theorem vKdz (z : Nat) : vKd (.inr (.inr (.inr (.inr z)))) = 2 ∨ vKd (.inr (.inr (.inr (.inr z)))) = 3 := by
  unfold vKd
  split <;> simp_all
theorem vKd0 {b sa sv : Nat} {ad : List Nat} {c : vAV} {v : Value} (h : vG b sa sv ad c v) (hk : Nat.beq (vKd c) 0 = true) : ∃ x : Int32, v = .int x := by
  match c, h, hk with
  | .inl u, h, _ => exact ⟨_, h.2⟩
  | .inr (.inl q'), h, _ => exact ⟨_, h.choose_spec.1⟩
  | .inr (.inr (.inl _)), _, hk => cases hk
  | .inr (.inr (.inr (.inl none))), _, hk => cases hk
  | .inr (.inr (.inr (.inl (some _)))), _, hk => cases hk
  | .inr (.inr (.inr (.inr z))), _, hk => (have h3 : vKd (.inr (.inr (.inr (.inr z)))) = 2 ∨ vKd (.inr (.inr (.inr (.inr z)))) = 3 := vKdz z; rcases h3 with h3 | h3 <;> rw [h3] at hk <;> cases hk)
theorem vKd1 {b sa sv : Nat} {ad : List Nat} {c : vAV} {v : Value} (h : vG b sa sv ad c v) (hk : Nat.beq (vKd c) 1 = true) : ∃ x : Int64, v = .long x := by
  match c, h, hk with
  | .inl u, _, hk => cases hk
  | .inr (.inl q'), _, hk => cases hk
  | .inr (.inr (.inl _)), h, _ => exact ⟨_, h.2⟩
  | .inr (.inr (.inr (.inl none))), _, hk => cases hk
  | .inr (.inr (.inr (.inl (some _)))), _, hk => cases hk
  | .inr (.inr (.inr (.inr z))), _, hk => (have h3 : vKd (.inr (.inr (.inr (.inr z)))) = 2 ∨ vKd (.inr (.inr (.inr (.inr z)))) = 3 := vKdz z; rcases h3 with h3 | h3 <;> rw [h3] at hk <;> cases hk)
theorem vKd3 {b sa sv : Nat} {ad : List Nat} {c : vAV} {v : Value} (h : vG b sa sv ad c v) (hk : Nat.beq (vKd c) 3 = true) : ∃ x : Nat, v = .ref x := by
  match c, h, hk with
  | .inl u, _, hk => cases hk
  | .inr (.inl q'), _, hk => cases hk
  | .inr (.inr (.inl _)), _, hk => cases hk
  | .inr (.inr (.inr (.inl none))), _, hk => cases hk
  | .inr (.inr (.inr (.inl (some _)))), h, _ =>
    obtain ⟨a, -, h⟩ := h
    exact ⟨a, h⟩
  | .inr (.inr (.inr (.inr z))), h, hk =>
    rcases h with ⟨-, h⟩ | ⟨-, h⟩ | ⟨-, h⟩ | ⟨h9, -⟩
    · exact ⟨_, h⟩
    · exact ⟨_, h⟩
    · exact ⟨_, h⟩
    · subst h9
      cases hk
/-- not a long: one slot -/
theorem vKd_cat {b sa sv : Nat} {ad : List Nat} {c : vAV} {v : Value} (h : vG b sa sv ad c v) (hk : Nat.beq (vKd c) 1 = false) : v.category = 1 := by
  match c, h, hk with
  | .inl u, h, _ => rw [h.2]; rfl
  | .inr (.inl q'), h, _ =>
    obtain ⟨x, rfl, -⟩ := h
    rfl
  | .inr (.inr (.inl _)), _, hk => cases hk
  | .inr (.inr (.inr (.inl none))), h, _ =>
    have h : v = .null := h
    rw [h]; rfl
  | .inr (.inr (.inr (.inl (some _)))), h, _ =>
    obtain ⟨a, -, rfl⟩ := h
    rfl
  | .inr (.inr (.inr (.inr _))), h, _ =>
    rcases h with ⟨-, rfl⟩ | ⟨-, rfl⟩ | ⟨-, rfl⟩ | ⟨-, rfl | ⟨t, rfl⟩⟩ <;> rfl
theorem vLt_t {x y : Nat × Nat} (h : vLt x y = some true) : x.2 < y.1 := by
  unfold vLt at h
  cases h1 : Nat.blt x.2 y.1 with
  | true => exact Nat.blt_eq.mp h1
  | false =>
    rw [h1] at h
    cases h2 : Nat.ble y.2 x.1 <;> rw [h2] at h <;> cases h
theorem vLt_f {x y : Nat × Nat} (h : vLt x y = some false) : y.2 ≤ x.1 := by
  unfold vLt at h
  cases h1 : Nat.blt x.2 y.1 with
  | true =>
    rw [h1] at h
    cases h
  | false =>
    rw [h1] at h
    cases h2 : Nat.ble y.2 x.1 with
    | true => exact Nat.le_of_ble_eq_true h2
    | false =>
      rw [h2] at h
      cases h
theorem vEq_t {x y : Nat × Nat} (h : vEq x y = some true) : x.1 = x.2 ∧ y.1 = y.2 ∧ x.1 = y.1 := by
  unfold vEq at h
  cases h1 : Nat.blt x.2 y.1 with
  | true =>
    rw [h1] at h
    cases h
  | false =>
    rw [h1] at h
    cases h2 : Nat.blt y.2 x.1 with
    | true =>
      rw [h2] at h
      cases h
    | false =>
      rw [h2] at h
      cases h3 : (Nat.beq x.1 x.2 && Nat.beq y.1 y.2 && Nat.beq x.1 y.1) with
      | true =>
        rw [Bool.and_eq_true, Bool.and_eq_true] at h3
        exact ⟨Nat.eq_of_beq_eq_true h3.1.1, Nat.eq_of_beq_eq_true h3.1.2, Nat.eq_of_beq_eq_true h3.2⟩
      | false =>
        rw [h3] at h
        cases h
theorem vEq_f {x y : Nat × Nat} (h : vEq x y = some false) : x.2 < y.1 ∨ y.2 < x.1 := by
  unfold vEq at h
  cases h1 : Nat.blt x.2 y.1 with
  | true => exact Or.inl (Nat.blt_eq.mp h1)
  | false =>
    rw [h1] at h
    cases h2 : Nat.blt y.2 x.1 with
    | true => exact Or.inr (Nat.blt_eq.mp h2)
    | false =>
      rw [h2] at h
      cases h3 : (Nat.beq x.1 x.2 && Nat.beq y.1 y.2 && Nat.beq x.1 y.1) <;> rw [h3] at h <;> cases h
theorem vNot_t {o : Option Bool} (h : vNot o = some true) : o = some false := by
  match o, h with
  | some true, h => cases h
  | some false, _ => rfl
  | none, h => cases h
theorem vNot_f {o : Option Bool} (h : vNot o = some false) : o = some true := by
  match o, h with
  | some true, _ => rfl
  | some false, h => cases h
  | none, h => cases h
theorem vAny_ok {b sa sv : Nat} {ad : List Nat} (x : Int32) : vG b sa sv ad vAny (.int x) := by
  refine ⟨x, rfl, ?_, ?_⟩
  · have := Int32.le_toInt x
    show ((0 : Nat) : Int) ≤ _
    simp at this ⊢
    omega
  · have := Int32.toInt_lt x
    show _ ≤ ((4294967295 : Nat) : Int)
    simp at this ⊢
    omega
theorem vB_ok {b sa sv : Nat} {ad : List Nat} {op : Nat → Nat → Nat} {f : Int32 → Int32 → Int32} (hop : ∀ u w, u < 4294967296 → w < 4294967296 → op u w < 4294967296 ∧ f (nI u) (nI w) = nI (op u w))
    {x y r : vAV} {X Y : Int32} (hx : vG b sa sv ad x (.int X)) (hy : vG b sa sv ad y (.int Y)) (h : vB op x y = some r) : vG b sa sv ad r (.int (f X Y)) := by
  match x, y, hx, hy, h with
  | .inl u, .inl w, hx, hy, h =>
    obtain ⟨hu, hx⟩ := hx
    obtain ⟨hw, hy⟩ := hy
    cases hx
    cases hy
    have h : vF (op u w) (fun r => some (.inl r : vAV)) = some r := h
    rw [vF_eq] at h
    cases h
    obtain ⟨h1, h2⟩ := hop u w hu hw
    exact ⟨h1, by rw [h2]⟩
  | .inl _, .inr (.inl _), _, _, h => cases h; exact vAny_ok _
  | .inr (.inl _), .inl _, _, _, h => cases h; exact vAny_ok _
  | .inr (.inl _), .inr (.inl _), _, _, h => cases h; exact vAny_ok _
  | .inl _, .inr (.inr _), _, _, h => cases h
  | .inr (.inl _), .inr (.inr _), _, _, h => cases h
  | .inr (.inr _), .inl _, _, _, h => cases h
  | .inr (.inr _), .inr _, _, _, h => cases h
theorem vB_ints {b sa sv : Nat} {ad : List Nat} {op : Nat → Nat → Nat} {x y r : vAV} {v w : Value} (hx : vG b sa sv ad x v) (hy : vG b sa sv ad y w) (h : vB op x y = some r) : (∃ X : Int32, v = .int X) ∧ ∃ Y : Int32, w = .int Y := by
  match x, y, hx, hy, h with
  | .inl u, .inl w, hx, hy, _ => exact ⟨⟨_, hx.2⟩, ⟨_, hy.2⟩⟩
  | .inl _, .inr (.inl _), hx, hy, _ => exact ⟨⟨_, hx.2⟩, ⟨_, hy.choose_spec.1⟩⟩
  | .inr (.inl _), .inl _, hx, hy, _ => exact ⟨⟨_, hx.choose_spec.1⟩, ⟨_, hy.2⟩⟩
  | .inr (.inl _), .inr (.inl _), hx, hy, _ => exact ⟨⟨_, hx.choose_spec.1⟩, ⟨_, hy.choose_spec.1⟩⟩
  | .inl _, .inr (.inr _), _, _, h => cases h
  | .inr (.inl _), .inr (.inr _), _, _, h => cases h
  | .inr (.inr _), .inl _, _, _, h => cases h
  | .inr (.inr _), .inr _, _, _, h => cases h
/-- more objects: what was said stays -/
def vSub2 (ad ad' : List Nat) : Prop := ∀ (k a : Nat), ad[k]? = some a → ad'[k]? = some a
theorem vG_mono {b sa sv : Nat} {ad ad' : List Nat} (hs : vSub2 ad ad') {c : vAV} {v : Value} (h : vG b sa sv ad c v) : vG b sa sv ad' c v := by
  match c, h with
  | .inl _, h => exact h
  | .inr (.inl _), h => exact h
  | .inr (.inr (.inl _)), h => exact h
  | .inr (.inr (.inr (.inl none))), h => exact h
  | .inr (.inr (.inr (.inl (some k)))), h =>
    obtain ⟨a, h1, h2⟩ := h
    exact ⟨a, hs k a h1, h2⟩
  | .inr (.inr (.inr (.inr _))), h => exact h
