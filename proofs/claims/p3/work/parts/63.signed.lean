/-! ===== signed division, remainder and shift, as the JVM has them ===== -/
theorem kn_bi (x : Int32) : (sBi x.toBitVec.toNat : Int) = x.toInt + 2147483648 := by
  have h : x.toInt = x.toBitVec.toInt := rfl
  have h1 := x.toBitVec.isLt
  rw [h, BitVec.toInt_eq_toNat_cond]
  unfold sBi
  split <;> omega
theorem kn_nI {u : Nat} (hu : u < 4294967296) : (nI u).toBitVec.toNat = u := by
  show (BitVec.ofNat 32 u).toNat = u
  rw [BitVec.toNat_ofNat]
  exact Nat.mod_eq_of_lt hu
theorem kDiv_pos {u w : Nat} (hu : u < 2147483648) (hw : 0 < w) (hw2 : w < 2147483648) : kDiv u w = u / w := by
  unfold kDiv
  rw [pk_div hu hw hw2]
  exact kn_nI (Nat.lt_of_le_of_lt (Nat.div_le_self _ _) (by omega))
theorem kRem_pos {u w : Nat} (hu : u < 2147483648) (hw : 0 < w) (hw2 : w < 2147483648) : kRem u w = u % w := by
  unfold kRem
  rw [pk_rem hu hw hw2]
  exact kn_nI (Nat.lt_of_le_of_lt (Nat.mod_le _ _) (by omega))
theorem kRem_int (x y : Int32) (h : 0 < y.toInt) : (x - x / y * y).toInt = x.toInt.tmod y.toInt := by
  rw [Int32.toInt_sub, Int32.toInt_mul, Int32.toInt_div, Int.sub_bmod_bmod]
  have e : ((x.toInt - (x.toInt.tdiv y.toInt).bmod (2 ^ 32) * y.toInt).bmod (2 ^ 32)) = (x.toInt - x.toInt.tdiv y.toInt * y.toInt).bmod (2 ^ 32) := by
    rw [← Int.sub_bmod_bmod, Int.bmod_mul_bmod, Int.sub_bmod_bmod]
  rw [e]
  have e2 : x.toInt - x.toInt.tdiv y.toInt * y.toInt = x.toInt.tmod y.toInt := by
    rw [Int.tmod_def, Int.mul_comm]
  rw [e2]
  have a1 := Int.tmod_lt_of_pos x.toInt h
  have a2 := Int.lt_tmod_of_pos x.toInt h
  have a3 := Int32.toInt_lt y
  refine Int.bmod_eq_of_le_mul_two ?_ ?_ <;> omega
theorem kRem_any {u w : Nat} (hw : 0 < w) (hw2 : w < 2147483648) : 2147483648 < sBi (kRem u w) + w ∧ sBi (kRem u w) < 2147483648 + w := by
  have e1 := kn_bi (nI u - nI u / nI w * nI w)
  have e2 : (nI w).toInt = (w : Int) := by
    have h := kn_bi (nI w)
    rw [kn_nI (by omega), sBi_of hw2] at h
    omega
  have e3 := kRem_int (nI u) (nI w) (by omega)
  have e4 := Int.tmod_lt_of_pos (nI u).toInt (b := (nI w).toInt) (by omega)
  have e5 := Int.lt_tmod_of_pos (nI u).toInt (b := (nI w).toInt) (by omega)
  unfold kRem
  omega
theorem kI2b_in (u : Nat) : 2147483520 ≤ sBi (kI2b u) ∧ sBi (kI2b u) ≤ 2147483775 := by
  have e1 := kn_bi (nI u).toInt8.toInt32
  have e2 : (nI u).toInt8.toInt32.toInt = (nI u).toInt8.toInt := Int8.toInt_toInt32 _
  have e3 := Int8.le_toInt (nI u).toInt8
  have e4 := Int8.toInt_lt (nI u).toInt8
  unfold kI2b
  omega
