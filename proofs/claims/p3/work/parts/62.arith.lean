/-! ===== what sets say of sums, products and bits ===== -/
noncomputable def sAddS (a b c d : Nat) : sSet := bif Nat.ble 2147483648 (a + c) && Nat.blt (b + d) 6442450944 then vF (a + c - 2147483648) (fun x => vF (b + d - 2147483648) (fun y => [(x, y)])) else sFull
theorem sAddS_ok {a b c d u w : Nat} (hu : u < 4294967296) (hw : w < 4294967296) (h1 : a ≤ sBi u) (h2 : sBi u ≤ b) (h3 : c ≤ sBi w) (h4 : sBi w ≤ d) : sIn (sAddS a b c d) (sBi (vAdd u w)) := by
  unfold sAddS
  cases hb : (Nat.ble 2147483648 (a + c) && Nat.blt (b + d) 6442450944) with
  | false => exact sIn_full (sBi_lt _)
  | true =>
    rw [cond_true, vF_eq, vF_eq]
    rw [Bool.and_eq_true] at hb
    have e1 := Nat.le_of_ble_eq_true hb.1
    have e2 := Nat.blt_eq.mp hb.2
    unfold sBi at *
    unfold vAdd
    exact sIn_one (by omega) (by omega)
noncomputable def sSubS (a b c d : Nat) : sSet := bif Nat.ble d (a + 2147483648) && Nat.blt (b + 2147483648) (c + 4294967296) then vF (a + 2147483648 - d) (fun x => vF (b + 2147483648 - c) (fun y => [(x, y)])) else sFull
theorem sSubS_ok {a b c d u w : Nat} (hu : u < 4294967296) (hw : w < 4294967296) (h1 : a ≤ sBi u) (h2 : sBi u ≤ b) (h3 : c ≤ sBi w) (h4 : sBi w ≤ d) : sIn (sSubS a b c d) (sBi (vSub u w)) := by
  unfold sSubS
  cases hb : (Nat.ble d (a + 2147483648) && Nat.blt (b + 2147483648) (c + 4294967296)) with
  | false => exact sIn_full (sBi_lt _)
  | true =>
    rw [cond_true, vF_eq, vF_eq]
    rw [Bool.and_eq_true] at hb
    have e1 := Nat.le_of_ble_eq_true hb.1
    have e2 := Nat.blt_eq.mp hb.2
    unfold sBi at *
    unfold vSub
    exact sIn_one (by omega) (by omega)
/-- numbers that aren't negative -/
theorem sBi_pos {u : Nat} (hu : u < 4294967296) (h : 2147483648 ≤ sBi u) : u < 2147483648 ∧ sBi u = u + 2147483648 := by unfold sBi at *; omega
theorem sBi_of {u : Nat} (hu : u < 2147483648) : sBi u = u + 2147483648 := by unfold sBi; omega
noncomputable def sMulS (a b c d : Nat) : sSet := bif (Nat.ble 2147483648 a && Nat.ble 2147483648 c) && Nat.blt ((b - 2147483648) * (d - 2147483648)) 2147483648 then vF ((a - 2147483648) * (c - 2147483648) + 2147483648) (fun x => vF ((b - 2147483648) * (d - 2147483648) + 2147483648) (fun y => [(x, y)])) else sFull
theorem sMulS_ok {a b c d u w : Nat} (hu : u < 4294967296) (hw : w < 4294967296) (h1 : a ≤ sBi u) (h2 : sBi u ≤ b) (h3 : c ≤ sBi w) (h4 : sBi w ≤ d) : sIn (sMulS a b c d) (sBi (vMul u w)) := by
  unfold sMulS
  cases hb : ((Nat.ble 2147483648 a && Nat.ble 2147483648 c) && Nat.blt ((b - 2147483648) * (d - 2147483648)) 2147483648) with
  | false => exact sIn_full (sBi_lt _)
  | true =>
    rw [cond_true, vF_eq, vF_eq]
    rw [Bool.and_eq_true, Bool.and_eq_true] at hb
    have e1 := Nat.le_of_ble_eq_true hb.1.1
    have e2 := Nat.le_of_ble_eq_true hb.1.2
    have e3 := Nat.blt_eq.mp hb.2
    obtain ⟨p1, p2⟩ := sBi_pos hu (by omega)
    obtain ⟨p3, p4⟩ := sBi_pos hw (by omega)
    have m1 : (a - 2147483648) * (c - 2147483648) ≤ u * w := Nat.mul_le_mul (by omega) (by omega)
    have m2 : u * w ≤ (b - 2147483648) * (d - 2147483648) := Nat.mul_le_mul (by omega) (by omega)
    have e4 : vMul u w = u * w := by unfold vMul; exact Nat.mod_eq_of_lt (by omega)
    rw [e4, sBi_of (by omega)]
    exact sIn_one (by omega) (by omega)
noncomputable def sAndS (a b c d : Nat) : sSet := bif Nat.ble 2147483648 a then (bif Nat.ble 2147483648 c then (bif Nat.ble b d then [(2147483648, b)] else [(2147483648, d)]) else [(2147483648, b)]) else bif Nat.ble 2147483648 c then [(2147483648, d)] else sFull
theorem sAndS_ok {a b c d u w : Nat} (hu : u < 4294967296) (hw : w < 4294967296) (h1 : a ≤ sBi u) (h2 : sBi u ≤ b) (h3 : c ≤ sBi w) (h4 : sBi w ≤ d) : Nat.land u w < 4294967296 ∧ sIn (sAndS a b c d) (sBi (Nat.land u w)) := by
  have l1 : Nat.land u w ≤ u := Nat.and_le_left
  have l2 : Nat.land u w ≤ w := Nat.and_le_right
  refine ⟨by omega, ?_⟩
  unfold sAndS
  cases ha : Nat.ble 2147483648 a with
  | true =>
    have e1 := Nat.le_of_ble_eq_true ha
    obtain ⟨p1, p2⟩ := sBi_pos hu (by omega)
    have e3 : sBi (Nat.land u w) = Nat.land u w + 2147483648 := sBi_of (by omega)
    rw [cond_true]
    cases hc : Nat.ble 2147483648 c with
    | true =>
      have e2 := Nat.le_of_ble_eq_true hc
      obtain ⟨p3, p4⟩ := sBi_pos hw (by omega)
      rw [cond_true]
      cases Nat.ble b d with
      | true => rw [cond_true]; exact sIn_one (by omega) (by omega)
      | false => rw [cond_false]; exact sIn_one (by omega) (by omega)
    | false => rw [cond_false]; exact sIn_one (by omega) (by omega)
  | false =>
    rw [cond_false]
    cases hc : Nat.ble 2147483648 c with
    | true =>
      have e2 := Nat.le_of_ble_eq_true hc
      obtain ⟨p3, p4⟩ := sBi_pos hw (by omega)
      have e3 : sBi (Nat.land u w) = Nat.land u w + 2147483648 := sBi_of (by omega)
      rw [cond_true]
      exact sIn_one (by omega) (by omega)
    | false => exact sIn_full (sBi_lt _)
/-- a power of 2 above both -/
noncomputable def sP2 (x : Nat) : Nat → Nat → Nat
  | 0, _ => 31
  | n + 1, k => bif Nat.blt x (2 ^ k) then k else sP2 x n (k + 1)
theorem sP2_ok (x : Nat) : ∀ n k : Nat, k + n = 31 → x < 2147483648 → x < 2 ^ (sP2 x n k) ∧ sP2 x n k ≤ 31
  | 0, k, _, hx => ⟨hx, Nat.le_refl _⟩
  | n + 1, k, hk, hx => by
    unfold sP2
    cases hb : Nat.blt x (2 ^ k) with
    | true => rw [cond_true]; exact ⟨Nat.blt_eq.mp hb, by omega⟩
    | false => rw [cond_false]; exact sP2_ok x n (k + 1) (by omega) hx
noncomputable def sOrS (a b c d : Nat) : sSet := bif (Nat.ble 2147483648 a && Nat.ble 2147483648 c) && (Nat.blt b 4294967296 && Nat.blt d 4294967296) then vF (2 ^ sP2 (bif Nat.ble b d then d - 2147483648 else b - 2147483648) 31 0 + 2147483647) (fun y => [(2147483648, y)]) else sFull
theorem sOrS_ok {a b c d u w : Nat} (hu : u < 4294967296) (hw : w < 4294967296) (h1 : a ≤ sBi u) (h2 : sBi u ≤ b) (h3 : c ≤ sBi w) (h4 : sBi w ≤ d) : (Nat.lor u w < 4294967296 ∧ sIn (sOrS a b c d) (sBi (Nat.lor u w))) ∧ (Nat.xor u w < 4294967296 ∧ sIn (sOrS a b c d) (sBi (Nat.xor u w))) := by
  have o1 : Nat.lor u w < 2 ^ 32 := Nat.or_lt_two_pow hu hw
  have x1 : Nat.xor u w < 2 ^ 32 := Nat.xor_lt_two_pow hu hw
  unfold sOrS
  cases hb : ((Nat.ble 2147483648 a && Nat.ble 2147483648 c) && (Nat.blt b 4294967296 && Nat.blt d 4294967296)) with
  | false => exact ⟨⟨o1, sIn_full (sBi_lt _)⟩, ⟨x1, sIn_full (sBi_lt _)⟩⟩
  | true =>
    rw [cond_true, vF_eq]
    rw [Bool.and_eq_true, Bool.and_eq_true, Bool.and_eq_true] at hb
    have e1 := Nat.le_of_ble_eq_true hb.1.1
    have e2 := Nat.le_of_ble_eq_true hb.1.2
    have e3 := Nat.blt_eq.mp hb.2.1
    have e4 := Nat.blt_eq.mp hb.2.2
    obtain ⟨p1, p2⟩ := sBi_pos hu (by omega)
    obtain ⟨p3, p4⟩ := sBi_pos hw (by omega)
    have hm : ∃ m, (bif Nat.ble b d then d - 2147483648 else b - 2147483648) = m ∧ u ≤ m ∧ w ≤ m ∧ m < 2147483648 := by
      refine ⟨_, rfl, ?_⟩
      cases hbd : Nat.ble b d with
      | true =>
        have := Nat.le_of_ble_eq_true hbd
        rw [cond_true]
        omega
      | false =>
        have h9 : ¬ b ≤ d := fun h3 => by rw [Nat.ble_eq_true_of_le h3] at hbd; cases hbd
        rw [cond_false]
        omega
    obtain ⟨m, hm0, hm1, hm2, hm3⟩ := hm
    rw [hm0]
    obtain ⟨q1, q2⟩ := sP2_ok m 31 0 rfl hm3
    generalize sP2 m 31 0 = k at q1 q2
    have o2 : Nat.lor u w < 2 ^ k := Nat.or_lt_two_pow (by omega) (by omega)
    have x2 : Nat.xor u w < 2 ^ k := Nat.xor_lt_two_pow (by omega) (by omega)
    have hk : 2 ^ k ≤ 2 ^ 31 := Nat.pow_le_pow_right (by decide) q2
    have hk2 : (2 : Nat) ^ 31 = 2147483648 := by decide
    rw [sBi_of (by omega), sBi_of (by omega)]
    exact ⟨⟨o1, sIn_one (by omega) (by omega)⟩, ⟨x1, sIn_one (by omega) (by omega)⟩⟩
noncomputable def sIorS (a b c d : Nat) : sSet := bif (Nat.ble 2147483648 a && Nat.ble 2147483648 c) && (Nat.blt b 4294967296 && Nat.blt d 4294967296) then vF (2 ^ sP2 (bif Nat.ble b d then d - 2147483648 else b - 2147483648) 31 0 + 2147483647) (fun y => bif Nat.ble a c then [(c, y)] else [(a, y)]) else sFull
theorem sIorS_ok {a b c d u w : Nat} (hu : u < 4294967296) (hw : w < 4294967296) (h1 : a ≤ sBi u) (h2 : sBi u ≤ b) (h3 : c ≤ sBi w) (h4 : sBi w ≤ d) : Nat.lor u w < 4294967296 ∧ sIn (sIorS a b c d) (sBi (Nat.lor u w)) := by
  obtain ⟨o1, o2⟩ := (sOrS_ok hu hw h1 h2 h3 h4).1
  refine ⟨o1, ?_⟩
  unfold sOrS at o2
  unfold sIorS
  cases hb : ((Nat.ble 2147483648 a && Nat.ble 2147483648 c) && (Nat.blt b 4294967296 && Nat.blt d 4294967296)) with
  | false => exact sIn_full (sBi_lt _)
  | true =>
    rw [hb, cond_true, vF_eq] at o2
    rw [cond_true, vF_eq]
    generalize 2 ^ sP2 (bif Nat.ble b d then d - 2147483648 else b - 2147483648) 31 0 + 2147483647 = y at o2
    rw [Bool.and_eq_true, Bool.and_eq_true, Bool.and_eq_true] at hb
    have e1 := Nat.le_of_ble_eq_true hb.1.1
    have e2 := Nat.le_of_ble_eq_true hb.1.2
    obtain ⟨p1, p2⟩ := sBi_pos hu (by omega)
    obtain ⟨p3, p4⟩ := sBi_pos hw (by omega)
    have l1 : u ≤ Nat.lor u w := Nat.left_le_or
    have l2 : w ≤ Nat.lor u w := Nat.right_le_or
    have hlt : Nat.lor u w < 2 ^ 31 := Nat.or_lt_two_pow (by omega) (by omega)
    have hk2 : (2 : Nat) ^ 31 = 2147483648 := by decide
    rw [sBi_of (by omega)] at o2 ⊢
    have hy : Nat.lor u w + 2147483648 ≤ y := by
      rcases sIn_cons.mp o2 with h | h
      · exact h.2
      · exact (sIn_nil h).elim
    cases Nat.ble a c with
    | true => exact sIn_one (by omega) hy
    | false => exact sIn_one (by omega) hy
noncomputable def sShlS (a b c d : Nat) : sSet := bif (Nat.ble 2147483648 a && Nat.ble 2147483648 c) && (Nat.blt d 2147483680 && Nat.blt ((b - 2147483648) * 2 ^ (d - 2147483648)) 2147483648) then vF ((a - 2147483648) * 2 ^ (c - 2147483648) + 2147483648) (fun x => vF ((b - 2147483648) * 2 ^ (d - 2147483648) + 2147483648) (fun y => [(x, y)])) else sFull
theorem sShlS_ok {a b c d u w : Nat} (hu : u < 4294967296) (hw : w < 4294967296) (h1 : a ≤ sBi u) (h2 : sBi u ≤ b) (h3 : c ≤ sBi w) (h4 : sBi w ≤ d) : sIn (sShlS a b c d) (sBi (vShl u w)) := by
  unfold sShlS
  cases hb : ((Nat.ble 2147483648 a && Nat.ble 2147483648 c) && (Nat.blt d 2147483680 && Nat.blt ((b - 2147483648) * 2 ^ (d - 2147483648)) 2147483648)) with
  | false => exact sIn_full (sBi_lt _)
  | true =>
    rw [cond_true, vF_eq, vF_eq]
    rw [Bool.and_eq_true, Bool.and_eq_true, Bool.and_eq_true] at hb
    have e1 := Nat.le_of_ble_eq_true hb.1.1
    have e2 := Nat.le_of_ble_eq_true hb.1.2
    have e3 := Nat.blt_eq.mp hb.2.1
    have e4 := Nat.blt_eq.mp hb.2.2
    obtain ⟨p1, p2⟩ := sBi_pos hu (by omega)
    obtain ⟨p3, p4⟩ := sBi_pos hw (by omega)
    have ew : w % 32 = w := Nat.mod_eq_of_lt (by omega)
    have k1 : 2 ^ (c - 2147483648) ≤ 2 ^ w := Nat.pow_le_pow_right (by decide) (by omega)
    have k2 : 2 ^ w ≤ 2 ^ (d - 2147483648) := Nat.pow_le_pow_right (by decide) (by omega)
    have m1 : (a - 2147483648) * 2 ^ (c - 2147483648) ≤ u * 2 ^ w := Nat.mul_le_mul (by omega) k1
    have m2 : u * 2 ^ w ≤ (b - 2147483648) * 2 ^ (d - 2147483648) := Nat.mul_le_mul (by omega) k2
    have e5 : vShl u w = u * 2 ^ w := by unfold vShl; rw [ew]; exact Nat.mod_eq_of_lt (by omega)
    rw [e5, sBi_of (by omega)]
    exact sIn_one (by omega) (by omega)
noncomputable def sUshS (a b c d : Nat) : sSet := bif Nat.ble 2147483648 a then [(2147483648, b)] else bif (Nat.ble 2147483649 c && Nat.beq c d) && Nat.blt c 2147483680 then vF (4294967295 / 2 ^ (c - 2147483648) + 2147483648) (fun y => [(2147483648, y)]) else sFull
theorem sUshS_ok {a b c d u w : Nat} (hu : u < 4294967296) (hw : w < 4294967296) (h1 : a ≤ sBi u) (h2 : sBi u ≤ b) (h3 : c ≤ sBi w) (h4 : sBi w ≤ d) : vUsh u w < 4294967296 ∧ sIn (sUshS a b c d) (sBi (vUsh u w)) := by
  have l1 : vUsh u w ≤ u := Nat.div_le_self _ _
  refine ⟨by omega, ?_⟩
  unfold sUshS
  cases ha : Nat.ble 2147483648 a with
  | true =>
    have e1 := Nat.le_of_ble_eq_true ha
    obtain ⟨p1, p2⟩ := sBi_pos hu (by omega)
    rw [cond_true, sBi_of (by omega)]
    exact sIn_one (by omega) (by omega)
  | false =>
    rw [cond_false]
    cases hb : ((Nat.ble 2147483649 c && Nat.beq c d) && Nat.blt c 2147483680) with
    | false => exact sIn_full (sBi_lt _)
    | true =>
      rw [Bool.and_eq_true, Bool.and_eq_true] at hb
      have e1 := Nat.le_of_ble_eq_true hb.1.1
      have e2 := Nat.eq_of_beq_eq_true hb.1.2
      have e3 := Nat.blt_eq.mp hb.2
      obtain ⟨p3, p4⟩ := sBi_pos hw (by omega)
      rw [cond_true, vF_eq]
      have ew : w % 32 = c - 2147483648 := by omega
      have e5 : vUsh u w = u / 2 ^ (c - 2147483648) := by unfold vUsh; rw [ew]
      have e6 : u / 2 ^ (c - 2147483648) ≤ 4294967295 / 2 ^ (c - 2147483648) := Nat.div_le_div_right (by omega)
      have e7 : 2 ^ 1 ≤ 2 ^ (c - 2147483648) := Nat.pow_le_pow_right (by decide) (by omega)
      have e8 : u / 2 ^ (c - 2147483648) ≤ u / 2 := by
        refine Nat.div_le_div_left (by omega) (by decide)
      rw [e5, sBi_of (by omega)]
      exact sIn_one (by omega) (by omega)
