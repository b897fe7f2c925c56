/-! ===== exact runs: conditions ===== -/
theorem eCo_of {ρ : Nat → Nat → Nat} {c u w : Nat} {x y : eX} {p : Bool} (hx : eVal ρ x = u) (hy : eVal ρ y = w) (hc : c ≠ 100) (h : kCmp c (sBi u) (sBi w) = p) : eCo ρ (c, x, y, p) := by
  unfold eCo
  rw [if_neg hc]
  dsimp only
  rw [hx, hy]
  exact h
theorem eCo_ix {ρ : Nat → Nat → Nat} {u w : Nat} {x y : eX} {p : Bool} (hx : eVal ρ x = u) (hy : eVal ρ y = w) (h : u < w) : eCo ρ (100, x, y, p) := by
  unfold eCo
  rw [if_pos rfl]
  dsimp only
  rw [hx, hy]
  exact h
theorem blt_f {a b : Nat} (h : b ≤ a) : Nat.blt a b = false := by
  cases hb : Nat.blt a b with
  | false => rfl
  | true =>
    have := Nat.blt_eq.mp hb
    omega
theorem beq_f {a b : Nat} (h : a ≠ b) : Nat.beq a b = false := by
  cases hb : Nat.beq a b with
  | false => rfl
  | true => exact absurd (Nat.eq_of_beq_eq_true hb) h
theorem kc0t {a b : Nat} (h : a = b) : kCmp 0 a b = true := by
  rw [h]
  exact Nat.beq_refl b
theorem kc0f {a b : Nat} (h : a ≠ b) : kCmp 0 a b = false := beq_f h
theorem kc1t {a b : Nat} (h : a ≠ b) : kCmp 1 a b = true := by
  show (!Nat.beq a b) = true
  rw [beq_f h]
  rfl
theorem kc1f {a b : Nat} (h : a = b) : kCmp 1 a b = false := by
  show (!Nat.beq a b) = false
  rw [h, Nat.beq_refl]
  rfl
theorem kc2t {a b : Nat} (h : a < b) : kCmp 2 a b = true := Nat.blt_eq.mpr h
theorem kc2f {a b : Nat} (h : b ≤ a) : kCmp 2 a b = false := blt_f h
theorem kc3t {a b : Nat} (h : b ≤ a) : kCmp 3 a b = true := by
  show (!Nat.blt a b) = true
  rw [blt_f h]
  rfl
theorem kc3f {a b : Nat} (h : a < b) : kCmp 3 a b = false := by
  show (!Nat.blt a b) = false
  rw [Nat.blt_eq.mpr h]
  rfl
theorem kc4t {a b : Nat} (h : b < a) : kCmp 4 a b = true := Nat.blt_eq.mpr h
theorem kc4f {a b : Nat} (h : a ≤ b) : kCmp 4 a b = false := blt_f h
theorem kc5t {a b : Nat} (h : a ≤ b) : kCmp 5 a b = true := by
  show (!Nat.blt b a) = true
  rw [blt_f h]
  rfl
theorem kc5f {a b : Nat} (h : b < a) : kCmp 5 a b = false := by
  show (!Nat.blt b a) = false
  rw [Nat.blt_eq.mpr h]
  rfl
theorem all_nil {α : Type} {P : α → Prop} : ∀ q ∈ ([] : List α), P q := fun q hq => by cases hq
theorem all_cons {α : Type} {P : α → Prop} {a : α} {l : List α} (h : P a) (hs : ∀ q ∈ l, P q) : ∀ q ∈ a :: l, P q := fun q hq => by
  rcases List.mem_cons.mp hq with e | e
  · rw [e]
    exact h
  · exact hs q e
/-- the rows' shapes out of a typing -/
def eShB (T : sHp) (pl : List Nat) (sh : List (Nat × Nat × Nat)) : Bool := sh.all (fun e => sStop e.1 pl && (match sGo T e.1 with
  | some o => Nat.beq o.1 e.2.1 && Nat.beq (sLen o.2.1) e.2.2
  | none => false))
theorem eSh_of {T : sHp} {pl : List Nat} {hp : List vOb} {sh : List (Nat × Nat × Nat)} (h : kTy T pl hp) (hs : eShB T pl sh = true) : eSh sh hp := fun e he => by
  have h1 := List.all_eq_true.mp hs e he
  rw [Bool.and_eq_true] at h1
  obtain ⟨oT, ob, g1, g2, g3⟩ := h e.1 (sStop_mem h1.1)
  have h2 := h1.2
  rw [g1] at h2
  dsimp only at h2
  rw [Bool.and_eq_true] at h2
  exact ⟨ob, g2, g3.1.trans (Nat.eq_of_beq_eq_true h2.1), g3.2.1.1.trans (Nat.eq_of_beq_eq_true h2.2)⟩
/-! ===== the tokens of a text ===== -/
def xSm (c : Nat) : Bool := Nat.ble 97 c && Nat.ble c 122
def xDg (c : Nat) : Bool := Nat.ble 48 c && Nat.ble c 57
def xBl (c : Nat) : Bool := Nat.beq c 32 || Nat.beq c 10
def xSg (c : Nat) : Bool := Nat.beq c 59 || (Nat.beq c 40 || (Nat.beq c 41 || (Nat.ble 60 c && Nat.ble c 62)))
/-- the first that is no blank, k ahead at most -/
def xSk (τ : Nat → Nat) : Nat → Nat → Nat
  | 0, n => n
  | k + 1, n => bif xBl (τ n) then xSk τ k (n + 1) else n
/-- letters and digits, k at most -/
def xRn (τ : Nat → Nat) : Nat → Nat → List Nat
  | 0, _ => []
  | k + 1, n => bif xSm (τ n) || xDg (τ n) then τ n :: xRn τ k (n + 1) else []
/-- what letters and digits say: a word of letters, a number, or nothing that may stand there -/
def xTk (cs : List Nat) : Nat × List Nat := bif cs.all xSm && Nat.ble cs.length 7 then (2, cs) else bif cs.all xDg && Nat.ble cs.length 3 then (3, [cs.foldl (fun a c => 10 * a + (c - 48)) 0]) else (1, [])
/-- the token at a place, where it stands, and the place behind it: 0 the end, 1 none that may stand, 2 a word, 3 a number, 4 a sign -/
def xLex (τ : Nat → Nat) (len most n : Nat) : (Nat × List Nat) × Nat × Nat :=
  if min len most ≤ xSk τ (min len most - n) n then ((if most < len then 1 else 0, []), min len most, xSk τ (min len most - n) n)
  else if (xSm (τ (xSk τ (min len most - n) n)) || xDg (τ (xSk τ (min len most - n) n))) = true then (xTk (xRn τ (len - xSk τ (min len most - n) n) (xSk τ (min len most - n) n)), xSk τ (min len most - n) n, xSk τ (min len most - n) n + (xRn τ (len - xSk τ (min len most - n) n) (xSk τ (min len most - n) n)).length)
  else ((if xSg (τ (xSk τ (min len most - n) n)) = true then (4, [τ (xSk τ (min len most - n) n)]) else (1, [])), xSk τ (min len most - n) n, xSk τ (min len most - n) n + 1)
theorem xSk_le {τ : Nat → Nat} : ∀ (k n : Nat), n ≤ xSk τ k n ∧ xSk τ k n ≤ n + k
  | 0, n => ⟨Nat.le_refl _, Nat.le_refl _⟩
  | k + 1, n => by
    unfold xSk
    cases xBl (τ n) with
    | true =>
      rw [cond_true]
      have := xSk_le (τ := τ) k (n + 1)
      omega
    | false =>
      rw [cond_false]
      omega
/-! values by their terms -/
/-- symbols alone -/
def rL (l : List Nat) : Nat → Nat → Nat
  | 0, j => l.getD j 0
  | _ + 1, _ => 0
theorem eR_s {ρ : Nat → Nat → Nat} {j u : Nat} (h : ρ 0 j = u) : eR ρ [(1, j)] u := fun st => by
  show ρ 0 j :: st = u :: st
  rw [h]
theorem eCv_i {ρ : Nat → Nat → Nat} {x : eX} {u : Nat} (h : eR ρ x u) : eCv ρ (.inl x) = .inl u := congrArg Sum.inl (eR_val h)
theorem eCv_l {ρ : Nat → Nat → Nat} {x : eX} {u : Nat} (h : eR ρ x u) : eCv ρ (.inr (.inl x)) = .inr (.inr (.inl u)) := congrArg (fun n => (Sum.inr (Sum.inr (Sum.inl n)) : vAV)) (eR_val h)
theorem eCv_r {ρ : Nat → Nat → Nat} {k : Nat} : eCv ρ (.inr (.inr (some k))) = .inr (.inr (.inr (.inl (some k)))) := rfl
theorem eSt_nil {ρ : Nat → Nat → Nat} : List.map (eCv ρ) [] = [] := rfl
theorem eSt_cons {ρ : Nat → Nat → Nat} {a : eV} {v : vAV} {as : List eV} {vs : List vAV} (h : eCv ρ a = v) (hs : List.map (eCv ρ) as = vs) : List.map (eCv ρ) (a :: as) = v :: vs := by
  rw [List.map_cons, h, hs]
theorem eDt_v {ρ : Nat → Nat → Nat} {D : eD} {hp : List vOb} {k i : Nat} {x : eX} {y : eV} {v : vAV} (h : eDt ρ D hp) (hm : (k, x, y, []) ∈ D) (hx : eR ρ x i) (hy : eCv ρ y = v) : hC hp k i v := by
  have h1 : hC hp k (eVal ρ x) (eCv ρ y) := h _ hm (fun q hq => by cases hq)
  rw [eR_val hx, hy] at h1
  exact h1
theorem eDt_add {ρ : Nat → Nat → Nat} {hp : List vOb} {k i : Nat} {x : eX} {y : eV} {v : vAV} {D : eD} (hx : eR ρ x i) (hy : eCv ρ y = v) (h : hC hp k i v) (hs : eDt ρ D hp) : eDt ρ ((k, x, y, []) :: D) hp := by
  refine eDt_cons (fun _ => ?_) hs
  show hC hp k (eVal ρ x) (eCv ρ y)
  rw [eR_val hx, hy]
  exact h
theorem eMd_nil {ρ : Nat → Nat → Nat} : eMd ρ [] = [] := rfl
theorem eMd_cons {ρ : Nat → Nat → Nat} {k i : Nat} {x : eX} {W : List (Nat × eX)} {md : sMd} (hx : eR ρ x i) (hs : eMd ρ W = md) : eMd ρ ((k, x) :: W) = (k, i, i) :: md := by
  show (k, eVal ρ x, eVal ρ x) :: eMd ρ W = _
  rw [eR_val hx, hs]
theorem land255 (u : Nat) : eBn 3 u 255 = u % 256 := Nat.and_two_pow_sub_one_eq_mod u 8
theorem vAdd_s {a b : Nat} (h : a + b < 4294967296) : eBn 0 a b = a + b := Nat.mod_eq_of_lt h
/-- locals that speak of no symbol -/
def eKl : List (Option eV) → Bool
  | [] => true
  | none :: ls => eKl ls
  | some (.inl x) :: ls => (match eCn x with
    | some _ => eKl ls
    | none => false)
  | some (.inr (.inl _)) :: _ => false
  | some (.inr (.inr _)) :: ls => eKl ls
theorem eLm_k {ρ ρ' : Nat → Nat → Nat} : ∀ {ls : List (Option eV)} {kl : vLs}, eKl ls = true → eLm ρ ls kl → eLm ρ' ls kl
  | [], [], _, _ => trivial
  | [], _ :: _, _, h => h.elim
  | none :: _, [], _, h => h.elim
  | some _ :: _, [], _, h => h.elim
  | none :: ls, _ :: kl, hk, h => eLm_k (ls := ls) hk h
  | some (.inl x) :: ls, v :: kl, hk, h => by
    unfold eKl at hk
    split at hk
    · next c hc =>
      refine ⟨?_, eLm_k hk h.2⟩
      rw [h.1, eCv_i (eCn_ok hc), eCv_i (eCn_ok hc)]
    · cases hk
  | some (.inr (.inl _)) :: _, _ :: _, hk, _ => by cases hk
  | some (.inr (.inr o)) :: ls, v :: kl, hk, h => ⟨h.1, eLm_k (ls := ls) hk h.2⟩
theorem eC_fr0 {hp hp' : List vOb} {k i : Nat} {v : vAV} (hf : sFr [] hp hp') (h : hC hp k i v) : hC hp' k i v := hC_fr hf (fun ⟨m, m1, _⟩ => by cases m1) h
theorem eFr_nil {md : sMd} {hp hp' : List vOb} (h : sFr [] hp hp') : sFr md hp hp' := h.mono (fun k i ⟨m, m1, _⟩ => by cases m1)
/-- a local is forgotten -/
theorem eLm_n1 {ρ : Nat → Nat → Nat} {a x : eV} {ls : List (Option eV)} : ∀ {kl : vLs}, eLm ρ (some a :: some x :: ls) kl → eLm ρ (some a :: none :: ls) kl
  | [], h => h.elim
  | [_], h => h.2.elim
  | _ :: _ :: _, h => ⟨h.1, h.2.2⟩
/-- locals by their values; none is not looked at -/
def cLm : List (Option vAV) → vLs → Prop
  | [], [] => True
  | none :: as, _ :: vs => cLm as vs
  | some a :: as, v :: vs => v = some a ∧ cLm as vs
  | [], _ :: _ => False
  | _ :: _, [] => False
def eLe (ρ : Nat → Nat → Nat) : List (Option eV) → List (Option vAV) → Prop
  | [], [] => True
  | none :: as, none :: bs => eLe ρ as bs
  | some a :: as, some v :: bs => eCv ρ a = v ∧ eLe ρ as bs
  | _, _ => False
theorem eLm_in {ρ : Nat → Nat → Nat} : ∀ {ls : List (Option eV)} {vs : List (Option vAV)} {kl : vLs}, eLe ρ ls vs → cLm vs kl → eLm ρ ls kl
  | [], [], [], _, _ => trivial
  | [], [], _ :: _, _, h => h.elim
  | none :: as, none :: bs, [], _, h => h.elim
  | none :: as, none :: bs, _ :: kl, h1, h2 => eLm_in (ls := as) (vs := bs) h1 h2
  | some a :: as, some b :: bs, [], _, h => h.elim
  | some a :: as, some b :: bs, _ :: kl, h1, h2 => ⟨by rw [h1.1]; exact h2.1, eLm_in h1.2 h2.2⟩
  | none :: _, some _ :: _, _, h, _ => h.elim
  | some _ :: _, none :: _, _, h, _ => h.elim
  | [], _ :: _, _, h, _ => h.elim
  | none :: _, [], _, h, _ => h.elim
  | some _ :: _, [], _, h, _ => h.elim
theorem eLm_out {ρ : Nat → Nat → Nat} : ∀ {ls : List (Option eV)} {vs : List (Option vAV)} {kl : vLs}, eLe ρ ls vs → eLm ρ ls kl → cLm vs kl
  | [], [], [], _, _ => trivial
  | [], [], _ :: _, _, h => h.elim
  | none :: as, none :: bs, [], _, h => h.elim
  | none :: as, none :: bs, _ :: kl, h1, h2 => eLm_out (ls := as) (vs := bs) h1 h2
  | some a :: as, some b :: bs, [], _, h => h.elim
  | some a :: as, some b :: bs, _ :: kl, h1, h2 => ⟨by rw [← h1.1]; exact h2.1, eLm_out h1.2 h2.2⟩
  | none :: _, some _ :: _, _, h, _ => h.elim
  | some _ :: _, none :: _, _, h, _ => h.elim
  | [], _ :: _, _, h, _ => h.elim
  | none :: _, [], _, h, _ => h.elim
  | some _ :: _, [], _, h, _ => h.elim
/-- some locals are forgotten -/
def cLwk : List (Option vAV) → List (Option vAV) → Prop
  | [], [] => True
  | _ :: as, none :: bs => cLwk as bs
  | some a :: as, some b :: bs => a = b ∧ cLwk as bs
  | _, _ => False
theorem cLm_wk : ∀ {ls ls' : List (Option vAV)} {kl : vLs}, cLwk ls ls' → cLm ls kl → cLm ls' kl
  | [], [], [], _, _ => trivial
  | [], [], _ :: _, _, h => h.elim
  | [], _ :: _, _, h, _ => by
    rename_i b bs _
    cases b <;> exact h.elim
  | none :: _, [], _, h, _ => h.elim
  | some _ :: _, [], _, h, _ => h.elim
  | none :: as, none :: bs, [], _, h => h.elim
  | some a :: as, none :: bs, [], _, h => h.elim
  | none :: as, none :: bs, v :: kl, h, hl => cLm_wk (ls := as) (ls' := bs) h hl
  | some a :: as, none :: bs, v :: kl, h, hl => cLm_wk (ls := as) (ls' := bs) h hl.2
  | none :: as, some b :: bs, _, h, _ => h.elim
  | some a :: as, some b :: bs, [], _, h => h.elim
  | some a :: as, some b :: bs, v :: kl, h, hl => ⟨by rw [← h.1]; exact hl.1, cLm_wk h.2 hl.2⟩
