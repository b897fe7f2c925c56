/-! ===== one row for all that takes two ints ===== -/
theorem sAll_lt (u w : Nat) : vAdd u w < 4294967296 ∧ vSub u w < 4294967296 ∧ vMul u w < 4294967296 ∧ vShl u w < 4294967296 ∧ kShr u w < 4294967296 ∧ kDiv u w < 4294967296 ∧ kRem u w < 4294967296 :=
  ⟨Nat.mod_lt _ (by decide), Nat.mod_lt _ (by decide), Nat.mod_lt _ (by decide), Nat.mod_lt _ (by decide), kn_lt _, kn_lt _, kn_lt _⟩
noncomputable def sShrS (a b : Nat) : sSet := bif Nat.ble 2147483648 a then [(2147483648, b)] else sFull
theorem kShr_pos {u w : Nat} (hu : u < 2147483648) (hw : w < 4294967296) : kShr u w = u / 2 ^ (w % 32) := by
  unfold kShr
  have hk : ((nI w &&& 31).toBitVec.smod 32).toNat = w % 32 := by
    have e : nI w &&& 31 = nI (w % 32) := by
      have h := pk_and (nI w) (m := 31) 5 (by decide)
      rw [kn_nI hw] at h
      exact h
    rw [e]
    have h2 : ∀ n : Fin 32, ((nI n.val).toBitVec.smod 32).toNat = n.val := by decide
    exact h2 ⟨w % 32, Nat.mod_lt _ (by decide)⟩
  rw [pk_shrN hu _ (w % 32) hk]
  exact kn_nI (Nat.lt_of_le_of_lt (Nat.div_le_self _ _) (by omega))
theorem sShrS_ok {a b u w : Nat} (hu : u < 4294967296) (hw : w < 4294967296) (h1 : a ≤ sBi u) (h2 : sBi u ≤ b) : sIn (sShrS a b) (sBi (kShr u w)) := by
  unfold sShrS
  cases ha : Nat.ble 2147483648 a with
  | false => exact sIn_full (sBi_lt _)
  | true =>
    have e1 := Nat.le_of_ble_eq_true ha
    obtain ⟨p1, p2⟩ := sBi_pos hu (by omega)
    have l1 : u / 2 ^ (w % 32) ≤ u := Nat.div_le_self _ _
    rw [cond_true, kShr_pos p1 hw]
    generalize u / 2 ^ (w % 32) = z at l1
    rw [sBi_of (by omega)]
    exact sIn_one (by omega) (by omega)
noncomputable def sDivS (a b c d : Nat) : sSet := bif (Nat.ble 2147483648 a && Nat.blt 2147483648 c) && Nat.blt d 4294967296 then vF ((a - 2147483648) / (d - 2147483648) + 2147483648) (fun x => vF ((b - 2147483648) / (c - 2147483648) + 2147483648) (fun y => [(x, y)])) else sFull
theorem sDivS_ok {a b c d u w : Nat} (hu : u < 4294967296) (hw : w < 4294967296) (h1 : a ≤ sBi u) (h2 : sBi u ≤ b) (h3 : c ≤ sBi w) (h4 : sBi w ≤ d) : sIn (sDivS a b c d) (sBi (kDiv u w)) := by
  unfold sDivS
  cases hb : ((Nat.ble 2147483648 a && Nat.blt 2147483648 c) && Nat.blt d 4294967296) with
  | false => exact sIn_full (sBi_lt _)
  | true =>
    rw [cond_true, vF_eq, vF_eq]
    rw [Bool.and_eq_true, Bool.and_eq_true] at hb
    have e1 := Nat.le_of_ble_eq_true hb.1.1
    have e2 := Nat.blt_eq.mp hb.1.2
    have e3 := Nat.blt_eq.mp hb.2
    obtain ⟨p1, p2⟩ := sBi_pos hu (by omega)
    obtain ⟨p3, p4⟩ := sBi_pos hw (by omega)
    have l1 : u / w ≤ u := Nat.div_le_self _ _
    rw [kDiv_pos p1 (by omega) p3, sBi_of (by omega)]
    have m1 : (a - 2147483648) / (d - 2147483648) ≤ u / w := Nat.div_le_div (by omega) (by omega) (by omega)
    have m2 : u / w ≤ (b - 2147483648) / (c - 2147483648) := Nat.div_le_div (by omega) (by omega) (by omega)
    exact sIn_one (by omega) (by omega)
noncomputable def sRemS (a b c d : Nat) : sSet := bif Nat.blt 2147483648 c && Nat.blt d 4294967296 then (bif Nat.ble 2147483648 a then (bif Nat.ble b (d - 1) then [(2147483648, b)] else vF (d - 1) (fun y => [(2147483648, y)])) else vF (4294967297 - d) (fun x => vF (d - 1) (fun y => [(x, y)]))) else sFull
theorem sRemS_ok {a b c d u w : Nat} (hu : u < 4294967296) (hw : w < 4294967296) (h1 : a ≤ sBi u) (h2 : sBi u ≤ b) (h3 : c ≤ sBi w) (h4 : sBi w ≤ d) : sIn (sRemS a b c d) (sBi (kRem u w)) := by
  unfold sRemS
  cases hb : (Nat.blt 2147483648 c && Nat.blt d 4294967296) with
  | false => exact sIn_full (sBi_lt _)
  | true =>
    rw [cond_true]
    rw [Bool.and_eq_true] at hb
    have e2 := Nat.blt_eq.mp hb.1
    have e3 := Nat.blt_eq.mp hb.2
    obtain ⟨p3, p4⟩ := sBi_pos hw (by omega)
    cases ha : Nat.ble 2147483648 a with
    | true =>
      have e1 := Nat.le_of_ble_eq_true ha
      obtain ⟨p1, p2⟩ := sBi_pos hu (by omega)
      have l1 : u % w ≤ u := Nat.mod_le _ _
      have l2 : u % w < w := Nat.mod_lt _ (by omega)
      rw [cond_true, kRem_pos p1 (by omega) p3, sBi_of (by omega)]
      cases Nat.ble b (d - 1) with
      | true => rw [cond_true]; exact sIn_one (by omega) (by omega)
      | false => rw [cond_false, vF_eq]; exact sIn_one (by omega) (by omega)
    | false =>
      rw [cond_false, vF_eq, vF_eq]
      have h9 := kRem_any (u := u) (w := w) (by omega) p3
      exact sIn_one (by omega) (by omega)
/-- the known int -/
noncomputable def sKop (op u w : Nat) : Nat := match op with
  | 0 => vAdd u w
  | 1 => vSub u w
  | 2 => vMul u w
  | 3 => Nat.land u w
  | 4 => Nat.lor u w
  | 5 => Nat.xor u w
  | 6 => vShl u w
  | 7 => vUsh u w
  | 8 => kShr u w
  | 9 => kDiv u w
  | _ => kRem u w
noncomputable def sOpS (op a b c d : Nat) : sSet := match op with
  | 0 => sAddS a b c d
  | 1 => sSubS a b c d
  | 2 => sMulS a b c d
  | 3 => sAndS a b c d
  | 4 => sIorS a b c d
  | 5 => sOrS a b c d
  | 6 => sShlS a b c d
  | 7 => sUshS a b c d
  | 8 => sShrS a b
  | 9 => sDivS a b c d
  | _ => sRemS a b c d
theorem sOpS_ok (op : Nat) {a b c d u w : Nat} (hu : u < 4294967296) (hw : w < 4294967296) (h1 : a ≤ sBi u) (h2 : sBi u ≤ b) (h3 : c ≤ sBi w) (h4 : sBi w ≤ d) : sKop op u w < 4294967296 ∧ sIn (sOpS op a b c d) (sBi (sKop op u w)) := by
  have hl := sAll_lt u w
  unfold sKop sOpS
  split
  · exact ⟨hl.1, sAddS_ok hu hw h1 h2 h3 h4⟩
  · exact ⟨hl.2.1, sSubS_ok hu hw h1 h2 h3 h4⟩
  · exact ⟨hl.2.2.1, sMulS_ok hu hw h1 h2 h3 h4⟩
  · exact sAndS_ok hu hw h1 h2 h3 h4
  · exact sIorS_ok hu hw h1 h2 h3 h4
  · exact (sOrS_ok hu hw h1 h2 h3 h4).2
  · exact ⟨hl.2.2.2.1, sShlS_ok hu hw h1 h2 h3 h4⟩
  · exact sUshS_ok hu hw h1 h2 h3 h4
  · exact ⟨hl.2.2.2.2.1, sShrS_ok hu hw h1 h2⟩
  · exact ⟨hl.2.2.2.2.2.1, sDivS_ok hu hw h1 h2 h3 h4⟩
  · exact ⟨hl.2.2.2.2.2.2, sRemS_ok hu hw h1 h2 h3 h4⟩
/-- a value in a set, as a new symbol (or the one number that is in it) -/
noncomputable def sMk (G : sG) (S : sSet) : sG × vAV := match S with
  | [q] => bif Nat.beq q.1 q.2 && Nat.blt q.1 4294967296 then vF ((q.1 + 2147483648) % 4294967296) (fun r => (G, .inl r)) else (sNew G S, .inr (.inl (G.1, 0)))
  | _ => (sNew G S, .inr (.inl (G.1, 0)))
theorem sMk_ok {ρ : List Nat} {G : sG} {S : sSet} {u : Nat} (hG : sGr ρ G) (hu : u < 4294967296) (hS : sIn S (sBi u)) : ∃ xs, sGr (ρ ++ xs) (sMk G S).1 ∧ sV (ρ ++ xs) (sMk G S).2 (.inl u) := by
  have hnew : sGr (ρ ++ [sBi u]) (sNew G S) ∧ sV (ρ ++ [sBi u]) (.inr (.inl (G.1, 0))) (.inl u) := ⟨sGr_new hG (sBi_lt u) hS, sV_new hG hu⟩
  unfold sMk
  split
  · next q =>
    cases hb : (Nat.beq q.1 q.2 && Nat.blt q.1 4294967296) with
    | true =>
      rw [cond_true, vF_eq]
      rw [Bool.and_eq_true] at hb
      have e1 := Nat.eq_of_beq_eq_true hb.1
      have e2 : sBi u = q.1 := by
        rcases sIn_cons.mp hS with h | h
        · omega
        · exact (sIn_nil h).elim
      refine ⟨[], ?_, ?_⟩
      · rw [List.append_nil]; exact hG
      · have e3 : (q.1 + 2147483648) % 4294967296 = u := by
          rw [← e2]
          exact sBi_bi hu
        exact ⟨Nat.mod_lt _ (by decide), by rw [e3]⟩
    | false => exact ⟨_, hnew⟩
  · exact ⟨_, hnew⟩
