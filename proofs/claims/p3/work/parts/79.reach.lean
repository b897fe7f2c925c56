/-! ===== runs of the known machine, whatever the fuel ===== -/
abbrev kSt : Type := Nat × vLs × List vAV × List vOb
def kRe (vms : List vMt) (df : List (List vAV)) (d : Nat) (tbl : vTbl) (mc ms : Nat) (κ κ' : kSt) : Prop := ∃ N n, ∀ fuel, N ≤ fuel → ∀ f ce sl, ce ≤ mc → sl ≤ ms → vRun (vCalD vms df fuel d) df tbl [] vTx mc ms (n + f) κ.1 κ.2.1 κ.2.2.1 κ.2.2.2 ce sl = vRun (vCalD vms df fuel d) df tbl [] vTx mc ms f κ'.1 κ'.2.1 κ'.2.2.1 κ'.2.2.2 ce sl
section KRE
variable {vms : List vMt} {df : List (List vAV)} {d : Nat} {tbl : vTbl} {mc ms : Nat}
theorem kRe.rf (κ : kSt) : kRe vms df d tbl mc ms κ κ := ⟨0, 0, fun fuel _ f ce sl _ _ => by rw [Nat.zero_add]⟩
theorem kRe.tr {κ κ1 κ2 : kSt} (h1 : kRe vms df d tbl mc ms κ κ1) (h2 : kRe vms df d tbl mc ms κ1 κ2) : kRe vms df d tbl mc ms κ κ2 := by
  obtain ⟨N1, n1, h1⟩ := h1
  obtain ⟨N2, n2, h2⟩ := h2
  refine ⟨max N1 N2, n1 + n2, fun fuel hf f ce sl hc hs => ?_⟩
  rw [Nat.add_assoc, h1 fuel (by omega) _ ce sl hc hs, h2 fuel (by omega) f ce sl hc hs]
theorem kRe_step {pc pc' : Nat} {i : Instr} {len a b t : Nat} {ls ls' : vLs} {st st' : List vAV} {hp hp' : List vOb} (hg : vGet tbl pc = some (i, len, a, b, t)) (hs : vStep [] vTx i len a b t pc ls st hp = some (pc', ls', st', hp')) : kRe vms df d tbl mc ms (pc, ls, st, hp) (pc', ls', st', hp') := by
  refine ⟨0, 1, fun fuel _ f ce sl _ _ => ?_⟩
  rw [Nat.add_comm 1 f]
  simp only [vRun, hg, hs, vF_eq]
theorem kRe_call {pc : Nat} {i : Instr} {len a b t : Nat} {ls : vLs} {st st' : List vAV} {hp hp' : List vOb} (hg : vGet tbl pc = some (i, len, a, b, t)) (h1 : vStep [] vTx i len a b t pc ls st hp = none) (h2 : vAl df i a t st hp = none) (h3 : ∃ N, ∀ fuel, N ≤ fuel → vInv (vCalD vms df fuel d) i a b t st hp = some (st', hp', 0, 0)) : kRe vms df d tbl mc ms (pc, ls, st, hp) (pc + 3, ls, st', hp') := by
  obtain ⟨N, h3⟩ := h3
  refine ⟨N, 1, fun fuel hf f ce sl hc hs => ?_⟩
  rw [Nat.add_comm 1 f]
  simp only [vRun, hg, h1, h2, h3 fuel hf, vF_eq, Nat.add_zero, Nat.ble_eq_true_of_le hc, Nat.ble_eq_true_of_le hs, Bool.and_self, cond_true]
end KRE
/-! ===== parts of runs ===== -/
def sTk : List (Nat × sC) → Nat → List (Nat × sC)
  | [], _ => []
  | q :: rs, n => bif Nat.ble n q.1 then [(n, q.2)] else q :: sTk rs (n - q.1)
def sDp : List (Nat × sC) → Nat → List (Nat × sC)
  | [], _ => []
  | q :: rs, n => bif Nat.blt n q.1 then (q.1 - n, q.2) :: rs else sDp rs (n - q.1)
theorem kble {a b : Nat} (h : Nat.ble a b = false) : ¬ a ≤ b := fun h1 => by rw [Nat.ble_eq_true_of_le h1] at h; cases h
theorem sLen_tk : ∀ (rs : List (Nat × sC)) (n : Nat), n ≤ sLen rs → sLen (sTk rs n) = n
  | [], n, h => by have h : n ≤ 0 := h; show 0 = n; omega
  | q :: rs, n, h => by
    have h : n ≤ q.1 + sLen rs := h
    unfold sTk
    cases hb : Nat.ble n q.1 with
    | true => rw [cond_true]; rfl
    | false =>
      have := kble hb
      rw [cond_false]
      show q.1 + sLen (sTk rs (n - q.1)) = n
      rw [sLen_tk rs (n - q.1) (by omega)]
      omega
theorem sRd_tk : ∀ (rs : List (Nat × sC)) (n i : Nat), n ≤ sLen rs → i < n → sRd (sTk rs n) i = sRd rs i
  | [], n, i, h, hi => by have h : n ≤ 0 := h; omega
  | q :: rs, n, i, h, hi => by
    have h : n ≤ q.1 + sLen rs := h
    unfold sTk
    cases hb : Nat.ble n q.1 with
    | true =>
      have := Nat.le_of_ble_eq_true hb
      rw [cond_true, sRd_cons, sRd_cons, if_pos (show i < ((n, q.2) : Nat × sC).1 from hi), if_pos (by omega)]
    | false =>
      have := kble hb
      rw [cond_false, sRd_cons, sRd_cons]
      by_cases h2 : i < q.1
      · rw [if_pos h2, if_pos h2]
      · rw [if_neg h2, if_neg h2, sRd_tk rs (n - q.1) (i - q.1) (by omega) (by omega)]
theorem sLen_dp : ∀ (rs : List (Nat × sC)) (n : Nat), n ≤ sLen rs → sLen (sDp rs n) = sLen rs - n
  | [], n, h => by have h : n ≤ 0 := h; show 0 = 0 - n; omega
  | q :: rs, n, h => by
    have h : n ≤ q.1 + sLen rs := h
    unfold sDp
    cases hb : Nat.blt n q.1 with
    | true =>
      have := Nat.blt_eq.mp hb
      rw [cond_true]
      show q.1 - n + sLen rs = q.1 + sLen rs - n
      omega
    | false =>
      have := kblt hb
      rw [cond_false, sLen_dp rs (n - q.1) (by omega)]
      show sLen rs - (n - q.1) = q.1 + sLen rs - n
      omega
theorem sRd_dp : ∀ (rs : List (Nat × sC)) (n i : Nat), sRd (sDp rs n) i = sRd rs (n + i)
  | [], n, i => rfl
  | q :: rs, n, i => by
    unfold sDp
    cases hb : Nat.blt n q.1 with
    | true =>
      have := Nat.blt_eq.mp hb
      rw [cond_true, sRd_cons, sRd_cons]
      dsimp only
      by_cases h2 : n + i < q.1
      · rw [if_pos h2, if_pos (by omega)]
      · rw [if_neg h2, if_neg (by omega)]
        congr 1
        omega
    | false =>
      have := kblt hb
      rw [cond_false, sRd_cons, if_neg (by omega), sRd_dp rs (n - q.1) i]
      congr 1
      omega
theorem sLen_app : ∀ (xs ys : List (Nat × sC)), sLen (xs ++ ys) = sLen xs + sLen ys
  | [], ys => (Nat.zero_add _).symm
  | q :: xs, ys => by
    show q.1 + sLen (xs ++ ys) = q.1 + sLen xs + sLen ys
    rw [sLen_app xs ys]
    omega
theorem sRd_app : ∀ (xs ys : List (Nat × sC)) (i : Nat), sRd (xs ++ ys) i = if i < sLen xs then sRd xs i else sRd ys (i - sLen xs)
  | [], ys, i => by
    rw [if_neg (show ¬ i < sLen [] from Nat.not_lt_zero i)]
    rfl
  | q :: xs, ys, i => by
    have hl : sLen (q :: xs) = q.1 + sLen xs := rfl
    rw [List.cons_append, sRd_cons, sRd_cons, hl]
    by_cases h : i < q.1
    · rw [if_pos h, if_pos h, if_pos (show i < q.1 + sLen xs by omega)]
    · rw [if_neg h, if_neg h, sRd_app xs ys (i - q.1)]
      by_cases h2 : i - q.1 < sLen xs
      · rw [if_pos h2, if_pos (show i < q.1 + sLen xs by omega)]
      · rw [if_neg h2, if_neg (show ¬ i < q.1 + sLen xs by omega)]
        congr 1
        show i - q.1 - sLen xs = i - (q.1 + sLen xs)
        omega
/-! ===== calls ===== -/
def sCs : List vAV → Nat
  | [] => 0
  | c :: cs => (bif Nat.beq (sKd c) 1 then 2 else 1) + sCs cs
theorem sCs_ok {ρ : List Nat} : ∀ {as vs : List vAV}, sTr ρ as vs → vCs vs = sCs as
  | [], [], _ => rfl
  | a :: as, v :: vs, h => by
    show (bif Nat.beq (vKd v) 1 then 2 else 1) + vCs vs = (bif Nat.beq (sKd a) 1 then 2 else 1) + sCs as
    rw [sKd_ok h.1, sCs_ok h.2]
  | [], _ :: _, h => h.elim
  | _ :: _, [], h => h.elim
theorem sTk_tr {ρ : List Nat} : ∀ (n : Nat) {acc kacc st ks as rest : List vAV}, sTr ρ acc kacc → sTr ρ st ks → vTk n acc st = some (as, rest) → ∃ kas krest, vTk n kacc ks = some (kas, krest) ∧ sTr ρ as kas ∧ sTr ρ rest krest
  | 0, acc, kacc, st, ks, as, rest, ha, hs, h => by
    have h : some (acc, st) = some (as, rest) := h
    cases h
    exact ⟨kacc, ks, rfl, ha, hs⟩
  | n + 1, acc, kacc, [], ks, as, rest, ha, hs, h => by cases h
  | n + 1, acc, kacc, v :: st, [], as, rest, ha, hs, h => hs.elim
  | n + 1, acc, kacc, v :: st, w :: ks, as, rest, ha, hs, h => sTk_tr n (acc := v :: acc) (kacc := w :: kacc) ⟨hs.1, ha⟩ hs.2 h
def sRc (t : Nat) (rv : vAV) (h : sHp) : Bool := match rv with
  | .inr (.inr (.inr (.inl (some k)))) => match sGo h k with
    | some o => Nat.beq o.1 (8 * t) && Nat.blt t 99
    | none => false
  | _ => false
theorem sRc_ok {ρ : List Nat} {t : Nat} {rv kv : vAV} {h : sHp} {hp : List vOb} (hh : sHr ρ h hp) (hv : sV ρ rv kv) (hb : sRc t rv h = true) : vRc t kv hp = true := by
  unfold sRc at hb
  split at hb
  · next k =>
    have hv : kv = .inr (.inr (.inr (.inl (some k)))) := hv
    subst hv
    split at hb
    · next o ho =>
      obtain ⟨ob, h1, h2⟩ := sHr_get hh ho
      unfold vRc
      simp only [vNth_eq, h1, h2.1]
      exact hb
    · cases hb
  · cases hb
abbrev sCal : Type := Nat → List vAV → sHp → sG → Option (List (Option vAV × sHp × sG))
def sRt (ρ : List Nat) : Option vAV → Option vAV → Prop
  | none, none => True
  | some a, some v => sV ρ a v
  | _, _ => False
/-- a table of callees that says what the known machine's calls come to -/
def sCalOK (vms : List vMt) (df : List (List vAV)) (d : Nat) (md : sMd) (hp0 : List vOb) (scal : sCal) : Prop := ∀ (j : Nat) (av : List vAV) (h : sHp) (G : sG) (L : List (Option vAV × sHp × sG)), scal j av h G = some L → ∀ (ρ : List Nat) (kav : List vAV) (hp : List vOb), sTr ρ av kav → sHr ρ h hp → sGr ρ G → sFr md hp0 hp →
  ∃ e ∈ L, ∃ xs r hp', (∃ N, ∀ fuel, N ≤ fuel → vCalD vms df fuel d j kav hp = some (r, hp', 0, 0)) ∧ sRt (ρ ++ xs) e.1 r ∧ sHr (ρ ++ xs) e.2.1 hp' ∧ sGr (ρ ++ xs) e.2.2 ∧ sFr md hp0 hp'
