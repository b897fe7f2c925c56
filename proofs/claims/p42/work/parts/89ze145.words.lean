/-! ===== words by 256 ===== -/
theorem lN_nat {w : Nat} (h : w < 18446744073709551616) : (lN w).toBitVec.toNat = w := by
  show (BitVec.ofNat 64 w).toNat = w
  rw [BitVec.toNat_ofNat]
  exact Nat.mod_eq_of_lt h
theorem kLshl_8 {w : Nat} (h : w < 72057594037927936) : kLshl w 8 = w * 256 := by
  unfold kLshl
  rw [Int64.toBitVec_shiftLeft, show (((nI 8).toInt64 &&& 63).toBitVec.smod 64) = 8#64 from by decide, BitVec.shiftLeft_eq', BitVec.toNat_shiftLeft, show (8#64).toNat = 8 from rfl, Nat.shiftLeft_eq, lN_nat (by omega)]
  exact Nat.mod_eq_of_lt (by omega)
theorem kLor_8 {w c : Nat} (h : w < 72057594037927936) (hc : c < 256) : kLor (w * 256) c = w * 256 + c := by
  unfold kLor
  rw [Int64.toBitVec_or, BitVec.toNat_or, lN_nat (by omega), lN_nat (by omega)]
  have h1 := Nat.shiftLeft_add_eq_or_of_lt (show c < 2 ^ 8 from hc) w
  rw [Nat.shiftLeft_eq] at h1
  exact h1.symm
theorem eBn_13 (u w : Nat) : eBn 13 u w = kLor u w := rfl
theorem eBn_14 (u w : Nat) : eBn 14 u w = kLshl u w := rfl
def xE256 (cs : List Nat) : Nat := cs.foldl (fun w c => w * 256 + c) 0
theorem rnW_eq : ∀ (cs : List Nat) (s w : Nat), cs.all xSm = true → w < 256 ^ s → s + cs.length ≤ 7 → rnW s w cs = cs.foldl (fun w c => w * 256 + c) w ∧ rnW s w cs < 256 ^ (s + cs.length)
  | [], s, w, _, hw, _ => ⟨rfl, hw⟩
  | c :: cs, s, w, h, hw, hk => by
    rw [List.all_cons, Bool.and_eq_true] at h
    obtain ⟨c3, c4⟩ := xSm_i h.1
    rw [List.length_cons] at hk
    have hp : 256 ^ s ≤ 256 ^ 6 := Nat.pow_le_pow_right (by decide) (by omega)
    have hp1 : 256 ^ (s + 1) = 256 ^ s * 256 := Nat.pow_succ 256 s
    have e0 : (256 : Nat) ^ 6 = 281474976710656 := by decide
    have ew : nW s w c = w * 256 + c := by
      unfold nW
      rw [if_pos (show s < 7 by omega), eBn_13, eBn_14, kLshl_8 (by omega), eUn_0 (by omega), kLor_8 (by omega) (by omega)]
    unfold rnW
    rw [ew]
    obtain ⟨i1, i2⟩ := rnW_eq cs (s + 1) (w * 256 + c) h.2 (by omega) (by omega)
    refine ⟨i1, ?_⟩
    rw [List.length_cons]
    have e : s + (cs.length + 1) = s + 1 + cs.length := by omega
    rw [e]
    exact i2
/-- words are alike where their numbers are -/
theorem xE32_inj : ∀ (cs ds : List Nat) (v w : Nat), cs.all xSm = true → ds.all xSm = true → cs.foldl (fun w c => w * 32 + (c - 96)) v = ds.foldl (fun w c => w * 32 + (c - 96)) w → cs.length = ds.length → cs = ds ∧ v = w
  | [], [], v, w, _, _, h, _ => ⟨rfl, h⟩
  | [], _ :: _, _, _, _, _, _, h => by cases h
  | _ :: _, [], _, _, _, _, _, h => by cases h
  | c :: cs, d :: ds, v, w, h1, h2, h, hl => by
    rw [List.all_cons, Bool.and_eq_true] at h1 h2
    obtain ⟨c3, c4⟩ := xSm_i h1.1
    obtain ⟨d3, d4⟩ := xSm_i h2.1
    obtain ⟨e1, e2⟩ := xE32_inj cs ds (v * 32 + (c - 96)) (w * 32 + (d - 96)) h1.2 h2.2 h (by simpa using hl)
    have e3 : c = d := by omega
    refine ⟨by rw [e1, e3], by omega⟩
theorem xE256_inj : ∀ (cs ds : List Nat) (v w : Nat), cs.all xSm = true → ds.all xSm = true → cs.foldl (fun w c => w * 256 + c) v = ds.foldl (fun w c => w * 256 + c) w → cs.length = ds.length → cs = ds ∧ v = w
  | [], [], v, w, _, _, h, _ => ⟨rfl, h⟩
  | [], _ :: _, _, _, _, _, _, h => by cases h
  | _ :: _, [], _, _, _, _, _, h => by cases h
  | c :: cs, d :: ds, v, w, h1, h2, h, hl => by
    rw [List.all_cons, Bool.and_eq_true] at h1 h2
    obtain ⟨c3, c4⟩ := xSm_i h1.1
    obtain ⟨d3, d4⟩ := xSm_i h2.1
    obtain ⟨e1, e2⟩ := xE256_inj cs ds (v * 256 + c) (w * 256 + d) h1.2 h2.2 h (by simpa using hl)
    have e3 : c = d := by omega
    refine ⟨by rw [e1, e3], by omega⟩
theorem xE32_len : ∀ (cs : List Nat) (v k : Nat), cs.all xSm = true → 32 ^ k ≤ v → v < 32 ^ (k + 1) → 32 ^ (k + cs.length) ≤ cs.foldl (fun w c => w * 32 + (c - 96)) v ∧ cs.foldl (fun w c => w * 32 + (c - 96)) v < 32 ^ (k + cs.length + 1)
  | [], v, k, _, h1, h2 => ⟨h1, h2⟩
  | c :: cs, v, k, h, h1, h2 => by
    rw [List.all_cons, Bool.and_eq_true] at h
    obtain ⟨c3, c4⟩ := xSm_i h.1
    have p1 : 32 ^ (k + 1) = 32 ^ k * 32 := Nat.pow_succ 32 k
    have p2 : 32 ^ (k + 1 + 1) = 32 ^ (k + 1) * 32 := Nat.pow_succ 32 (k + 1)
    have := xE32_len cs (v * 32 + (c - 96)) (k + 1) h.2 (by omega) (by omega)
    rw [List.length_cons]
    have e : k + (cs.length + 1) = k + 1 + cs.length := by omega
    rw [e]
    exact this
theorem xE256_len : ∀ (cs : List Nat) (v k : Nat), cs.all xSm = true → 256 ^ k ≤ v → v < 256 ^ (k + 1) → 256 ^ (k + cs.length) ≤ cs.foldl (fun w c => w * 256 + c) v ∧ cs.foldl (fun w c => w * 256 + c) v < 256 ^ (k + cs.length + 1)
  | [], v, k, _, h1, h2 => ⟨h1, h2⟩
  | c :: cs, v, k, h, h1, h2 => by
    rw [List.all_cons, Bool.and_eq_true] at h
    obtain ⟨c3, c4⟩ := xSm_i h.1
    have p1 : 256 ^ (k + 1) = 256 ^ k * 256 := Nat.pow_succ 256 k
    have p2 : 256 ^ (k + 1 + 1) = 256 ^ (k + 1) * 256 := Nat.pow_succ 256 (k + 1)
    have := xE256_len cs (v * 256 + c) (k + 1) h.2 (by omega) (by omega)
    rw [List.length_cons]
    have e : k + (cs.length + 1) = k + 1 + cs.length := by omega
    rw [e]
    exact this
theorem pow_btw {b a c v w : Nat} (hb : 1 < b) (h1 : b ^ a ≤ v) (h2 : v < b ^ (a + 1)) (h3 : b ^ c ≤ w) (h4 : w < b ^ (c + 1)) (e : v = w) : a = c := by
  subst e
  rcases Nat.lt_trichotomy a c with h | h | h
  · have := Nat.pow_le_pow_right (show 0 < b by omega) (show a + 1 ≤ c by omega)
    omega
  · exact h
  · have := Nat.pow_le_pow_right (show 0 < b by omega) (show c + 1 ≤ a by omega)
    omega
/-- a word that may be -/
def xWd (cs : List Nat) : Prop := cs.all xSm = true ∧ 0 < cs.length ∧ cs.length ≤ 7
theorem xE32_eq {cs ds : List Nat} (h1 : xWd cs) (h2 : xWd ds) : xE32 cs = xE32 ds ↔ cs = ds := by
  refine ⟨fun h => ?_, fun h => by rw [h]⟩
  match cs, ds, h1, h2 with
  | [], _, h1, _ => exact absurd h1.2.1 (by decide)
  | _ :: _, [], _, h2 => exact absurd h2.2.1 (by decide)
  | c :: cs, d :: ds, h1, h2 =>
    have a := h1.1
    have b := h2.1
    rw [List.all_cons, Bool.and_eq_true] at a b
    obtain ⟨c3, c4⟩ := xSm_i a.1
    obtain ⟨d3, d4⟩ := xSm_i b.1
    have l1 := xE32_len cs (0 * 32 + (c - 96)) 0 a.2 (by show 1 ≤ _; omega) (by show _ < 32; omega)
    have l2 := xE32_len ds (0 * 32 + (d - 96)) 0 b.2 (by show 1 ≤ _; omega) (by show _ < 32; omega)
    have hl := pow_btw (by decide) l1.1 l1.2 l2.1 l2.2 h
    exact (xE32_inj (c :: cs) (d :: ds) 0 0 h1.1 h2.1 h (by rw [List.length_cons, List.length_cons]; omega)).1
theorem xE256_eq {cs ds : List Nat} (h1 : xWd cs) (h2 : xWd ds) : xE256 cs = xE256 ds ↔ cs = ds := by
  refine ⟨fun h => ?_, fun h => by rw [h]⟩
  match cs, ds, h1, h2 with
  | [], _, h1, _ => exact absurd h1.2.1 (by decide)
  | _ :: _, [], _, h2 => exact absurd h2.2.1 (by decide)
  | c :: cs, d :: ds, h1, h2 =>
    have a := h1.1
    have b := h2.1
    rw [List.all_cons, Bool.and_eq_true] at a b
    obtain ⟨c3, c4⟩ := xSm_i a.1
    obtain ⟨d3, d4⟩ := xSm_i b.1
    have l1 := xE256_len cs (0 * 256 + c) 0 a.2 (by show 1 ≤ _; omega) (by show _ < 256; omega)
    have l2 := xE256_len ds (0 * 256 + d) 0 b.2 (by show 1 ≤ _; omega) (by show _ < 256; omega)
    have hl := pow_btw (by decide) l1.1 l1.2 l2.1 l2.2 h
    exact (xE256_inj (c :: cs) (d :: ds) 0 0 h1.1 h2.1 h (by rw [List.length_cons, List.length_cons]; omega)).1
/-- the same word for class and reference -/
def WR (u w : Nat) : Prop := ∃ cs, xWd cs ∧ u = xE32 cs ∧ w = xE256 cs
theorem WR_iff {u w u' w' : Nat} (h : WR u w) (h' : WR u' w') : u = u' ↔ w = w' := by
  obtain ⟨cs, a1, a2, a3⟩ := h
  obtain ⟨ds, b1, b2, b3⟩ := h'
  rw [a2, a3, b2, b3, xE32_eq a1 b1, xE256_eq a1 b1]
theorem xE256_lt {cs : List Nat} (h : cs.all xSm = true) (h7 : cs.length ≤ 7) : xE256 cs < 18446744073709551616 := by
  obtain ⟨h1, h2⟩ := rnW_eq cs 0 0 h (by decide) (by omega)
  rw [h1] at h2
  have h3 : 256 ^ (0 + cs.length) ≤ 256 ^ 7 := Nat.pow_le_pow_right (by decide) (by omega)
  have h4 : (256 : Nat) ^ 7 = 72057594037927936 := by decide
  have h5 : xE256 cs < 256 ^ (0 + cs.length) := h2
  omega
