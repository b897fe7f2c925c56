/-! ===== for omega ===== -/
theorem eCo_i {ρ : Nat → Nat → Nat} {c u w : Nat} {x y : eX} {p : Bool} (hc : c ≠ 100) (hx : eR ρ x u) (hy : eR ρ y w) (h : eCo ρ (c, x, y, p)) : kCmp c (sBi u) (sBi w) = p := by
  unfold eCo at h
  rw [if_neg hc] at h
  dsimp only at h
  rw [eR_val hx, eR_val hy] at h
  exact h
theorem eCo_em {ρ : Nat → Nat → Nat} {c : Nat} {x y : eX} (hc : c ≠ 100) : eCo ρ (c, x, y, true) ∨ eCo ρ (c, x, y, false) := by
  unfold eCo
  rw [if_neg hc, if_neg hc]
  dsimp only
  cases kCmp c (sBi (eVal ρ x)) (sBi (eVal ρ y)) with
  | true => exact Or.inl rfl
  | false => exact Or.inr rfl
theorem ka0t {u w : Nat} (h : kCmp 0 (sBi u) (sBi w) = true) : (u + 2147483648) % 4294967296 = (w + 2147483648) % 4294967296 := Nat.eq_of_beq_eq_true h
theorem ka0f {u w : Nat} (h : kCmp 0 (sBi u) (sBi w) = false) : (u + 2147483648) % 4294967296 ≠ (w + 2147483648) % 4294967296 := fun e => by
  rw [kc0t (show sBi u = sBi w from e)] at h
  cases h
theorem ka1t {u w : Nat} (h : kCmp 1 (sBi u) (sBi w) = true) : (u + 2147483648) % 4294967296 ≠ (w + 2147483648) % 4294967296 := fun e => by
  rw [kc1f (show sBi u = sBi w from e)] at h
  cases h
theorem ka1f {u w : Nat} (h : kCmp 1 (sBi u) (sBi w) = false) : (u + 2147483648) % 4294967296 = (w + 2147483648) % 4294967296 := Classical.byContradiction (fun e => by
  rw [kc1t (show sBi u ≠ sBi w from e)] at h
  cases h)
theorem ka2t {u w : Nat} (h : kCmp 2 (sBi u) (sBi w) = true) : (u + 2147483648) % 4294967296 < (w + 2147483648) % 4294967296 := Nat.blt_eq.mp h
theorem ka2f {u w : Nat} (h : kCmp 2 (sBi u) (sBi w) = false) : (w + 2147483648) % 4294967296 ≤ (u + 2147483648) % 4294967296 := Nat.le_of_not_lt (fun e => by
  rw [kc2t (show sBi u < sBi w from e)] at h
  cases h)
theorem ka3t {u w : Nat} (h : kCmp 3 (sBi u) (sBi w) = true) : (w + 2147483648) % 4294967296 ≤ (u + 2147483648) % 4294967296 := Nat.le_of_not_lt (fun e => by
  rw [kc3f (show sBi u < sBi w from e)] at h
  cases h)
theorem ka3f {u w : Nat} (h : kCmp 3 (sBi u) (sBi w) = false) : (u + 2147483648) % 4294967296 < (w + 2147483648) % 4294967296 := Nat.lt_of_not_le (fun e => by
  rw [kc3t (show sBi w ≤ sBi u from e)] at h
  cases h)
theorem ka4t {u w : Nat} (h : kCmp 4 (sBi u) (sBi w) = true) : (w + 2147483648) % 4294967296 < (u + 2147483648) % 4294967296 := Nat.blt_eq.mp h
theorem ka4f {u w : Nat} (h : kCmp 4 (sBi u) (sBi w) = false) : (u + 2147483648) % 4294967296 ≤ (w + 2147483648) % 4294967296 := Nat.le_of_not_lt (fun e => by
  rw [kc4t (show sBi w < sBi u from e)] at h
  cases h)
theorem ka5t {u w : Nat} (h : kCmp 5 (sBi u) (sBi w) = true) : (u + 2147483648) % 4294967296 ≤ (w + 2147483648) % 4294967296 := Nat.le_of_not_lt (fun e => by
  rw [kc5f (show sBi w < sBi u from e)] at h
  cases h)
theorem ka5f {u w : Nat} (h : kCmp 5 (sBi u) (sBi w) = false) : (w + 2147483648) % 4294967296 < (u + 2147483648) % 4294967296 := Nat.lt_of_not_le (fun e => by
  rw [kc5t (show sBi u ≤ sBi w from e)] at h
  cases h)
theorem eB0 (a b : Nat) : eBn 0 a b = (a + b) % 4294967296 := rfl
theorem eB1 (a b : Nat) : eBn 1 a b = (a + (4294967296 - b)) % 4294967296 := rfl
theorem eB2 (a b : Nat) : eBn 2 a b = (a * b) % 4294967296 := rfl
theorem eB15 (a b : Nat) : eBn 15 a b = eLc a b := rfl
theorem eB9 (a : Nat) : a < 2147483648 → eBn 9 a 8 = a / 8 := fun h => kDiv_pos h (by decide) (by decide)
theorem eB10 (a : Nat) : a < 2147483648 → eBn 10 a 8 = a % 8 := fun h => kRem_pos h (by decide) (by decide)
theorem eS8 (a g f : Nat) : a < 64 → g < 8 → f = g → eBn 8 a f = eBn 7 a (eBn 10 g 8) := fun h1 h2 h3 => by
  rw [h3, eB10 g (by omega), Nat.mod_eq_of_lt h2]
  exact kShr_pos (by omega) (by omega)
theorem eBand (a : Nat) : eBn 3 a 1 = a % 2 := Nat.and_one_is_mod a
theorem eBt1 (a : Nat) : a < 32 → (a < 8 ∧ eBn 3 (eBn 7 1 (eBn 9 a 8)) 1 = 1) ∨ (8 ≤ a ∧ eBn 3 (eBn 7 1 (eBn 9 a 8)) 1 = 0) := fun h => by
  rw [eB9 a (by omega)]
  rcases (show a / 8 = 0 ∨ a / 8 = 1 ∨ a / 8 = 2 ∨ a / 8 = 3 by omega) with e | e | e | e
  · rw [e]; exact Or.inl ⟨by omega, rfl⟩
  · rw [e]; exact Or.inr ⟨by omega, rfl⟩
  · rw [e]; exact Or.inr ⟨by omega, rfl⟩
  · rw [e]; exact Or.inr ⟨by omega, rfl⟩
theorem eBt2 (a : Nat) : a < 32 → (8 ≤ a ∧ a < 16 ∧ eBn 3 (eBn 7 2 (eBn 9 a 8)) 1 = 1) ∨ ((a < 8 ∨ 16 ≤ a) ∧ eBn 3 (eBn 7 2 (eBn 9 a 8)) 1 = 0) := fun h => by
  rw [eB9 a (by omega)]
  rcases (show a / 8 = 0 ∨ a / 8 = 1 ∨ a / 8 = 2 ∨ a / 8 = 3 by omega) with e | e | e | e
  · rw [e]; exact Or.inr ⟨by omega, rfl⟩
  · rw [e]; exact Or.inl ⟨by omega, by omega, rfl⟩
  · rw [e]; exact Or.inr ⟨by omega, rfl⟩
  · rw [e]; exact Or.inr ⟨by omega, rfl⟩
theorem eBt4 (a : Nat) : a < 32 → (16 ≤ a ∧ a < 24 ∧ eBn 3 (eBn 7 4 (eBn 9 a 8)) 1 = 1) ∨ ((a < 16 ∨ 24 ≤ a) ∧ eBn 3 (eBn 7 4 (eBn 9 a 8)) 1 = 0) := fun h => by
  rw [eB9 a (by omega)]
  rcases (show a / 8 = 0 ∨ a / 8 = 1 ∨ a / 8 = 2 ∨ a / 8 = 3 by omega) with e | e | e | e
  · rw [e]; exact Or.inr ⟨by omega, rfl⟩
  · rw [e]; exact Or.inr ⟨by omega, rfl⟩
  · rw [e]; exact Or.inl ⟨by omega, by omega, rfl⟩
  · rw [e]; exact Or.inr ⟨by omega, rfl⟩
def shc4 : List (Nat × Nat × Nat) := [(1, 48, 13), (2, 2, 940), (3, 4, 25), (4, 72, 19), (5, 1, 6), (6, 1, 5), (7, 1, 5), (8, 1, 5), (9, 1, 5), (10, 1, 8), (11, 1, 8), (12, 1, 8), (13, 1, 8), (14, 1, 8), (15, 4, 24), (16, 1, 24), (30, 80, 3)]
def oC4 : eCalT := eOr oAdv (eOr (oFdC 4) (oFdD 4 10))
def shc17 : List (Nat × Nat × Nat) := [(1, 48, 13), (2, 2, 940), (3, 4, 25), (17, 72, 19), (18, 1, 6), (19, 1, 5), (20, 1, 5), (21, 1, 5), (22, 1, 5), (23, 1, 8), (24, 1, 8), (25, 1, 8), (26, 1, 8), (27, 1, 8), (28, 4, 24), (29, 1, 24), (30, 80, 3)]
def oC17 : eCalT := eOr oAdv (eOr (oFdC 17) (oFdD 17 10))
def oM : eCalT := eOr oNxt (eOr oNam (oFdM [(24, 1, 13), (30, 2, 14), (35, 4, 15), (40, 3, 16)]))
/-- what a LINE that fails may have written -/
def clW (t : Nat) (W : List (Nat × eX)) : Bool := W.all (fun e => (Nat.beq e.1 1 && (match eCn e.2 with
  | some c => Nat.ble 4 c
  | none => false)) || (Nat.beq e.1 30 || (Nat.ble t e.1 && Nat.ble e.1 (t + 12))))
def rlW (W : List (Nat × eX)) : Bool := W.all (fun e => (Nat.beq e.1 220 && (match eCn e.2 with
  | some c => Nat.beq c 4 || (Nat.ble 11 c && Nat.ble c 22)
  | none => false)) || (Nat.beq e.1 223 || (Nat.beq e.1 225 && (match e.2 with
  | [(0, c), (1, j), (2, 0)] => Nat.ble 24 c && (Nat.ble c 40 && (Nat.ble 1 j && Nat.ble j 4))
  | _ => false))))
