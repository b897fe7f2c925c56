/-! ===== a step of the machine is a step of the JVM: what the pieces say ===== -/
/-- what is left to show behind a step -/
def vK (p : Program) (l : Launch) (e : Env) (R : Room) (s : State) (m : MethodId) (args : Array Value) (below : List Frame) (meth : Method) (c : Code) (Q : State → Prop) (cl : List vw_C) (D : va_G) (A : Nat → Prop) (b sa sv nL : Nat) (ws0 : va_W) (pc' : Nat) (ls' : vLs) (st' : List vAV) (hp' : List vOb) (cells slots : Nat) : Prop :=
  ∀ (ws' : va_W) (tys' : List (ClassId × FieldType)) (H' : Heap) (locs' : List Loc) (lsA' : Array Slot) (stV' : List Value), vW cl D A s b sa sv hp' ws' tys' H' locs' → vL b sa sv (vAd ws') nL ls' lsA' → vT b sa sv (vAd ws') st' stV' → vSub2 (vAd ws0) (vAd ws') →
    W p l e R s m args below meth c H' locs' cells slots Q (F0 m pc' lsA' stV')
theorem vL_at {b sa sv : Nat} {ad : List Nat} {nL : Nat} {ls : vLs} {lsA : Array Slot} (h : vL b sa sv ad nL ls lsA) {i : Nat} {c : vAV} (hi : ls[i]? = some (some c)) : ∃ v, lsA[i]? = some (.val v) ∧ vG b sa sv ad c v := by
  obtain ⟨lv, h1, h2, h3⟩ := h
  obtain ⟨v, q1, q2⟩ := h3 i c hi
  exact ⟨v, h1.2.2 (i, v) q1, q2⟩
theorem vSet1_len (ls : vLs) (a : Nat) (v : vAV) : (vSet1 ls a v).length = ls.length := by
  unfold vSet1
  split
  · simp
  · split <;> simp
theorem vSet1_at {ls : vLs} {a : Nat} {v : vAV} (h : a < ls.length) : (vSet1 ls a v)[a]? = some (some v) := by
  unfold vSet1
  split
  · simp [h]
  · split <;> simp [h]
theorem vSet1_ne {ls : vLs} {a i : Nat} {v c : vAV} (hi : i ≠ a) (h : (vSet1 ls a v)[i]? = some (some c)) : ls[i]? = some (some c) ∧ (i + 1 = a → Nat.beq (vKd c) 1 = false) := by
  unfold vSet1 at h
  split at h
  · rw [List.getElem?_set_ne (fun e => hi e.symm)] at h
    exact ⟨h, fun e => by omega⟩
  · next a' =>
    split at h
    · next w hw =>
      rw [List.getElem?_set_ne (fun e => hi e.symm)] at h
      by_cases e : a' = i
      · subst e
        rw [List.getElem?_set] at h
        split at h
        · split at h <;> cases h
        · next hn => exact absurd rfl hn
      · rw [List.getElem?_set_ne e] at h
        exact ⟨h, fun q => by omega⟩
    · next hw =>
      rw [List.getElem?_set_ne (fun e => hi e.symm)] at h
      refine ⟨h, fun e => ?_⟩
      have e : i = a' := by omega
      subst e
      have hg : ls.getD i none = some c := by rw [List.getD_eq_getElem?_getD, h]; rfl
      match c, hg with
      | .inl _, _ => rfl
      | .inr (.inl _), _ => rfl
      | .inr (.inr (.inl w)), hg => exact absurd hg (hw w)
      | .inr (.inr (.inr (.inl none))), _ => rfl
      | .inr (.inr (.inr (.inl (some _)))), _ => rfl
      | .inr (.inr (.inr (.inr z))), _ => rcases vKdz z with h3 | h3 <;> rw [h3] <;> rfl
theorem vL_st1 {b sa sv : Nat} {ad : List Nat} {nL a : Nat} {ls : vLs} {lsA : Array Slot} {lv : List (Nat × Value)} {c0 : vAV} {v0 : Value} (hlen : ls.length = nL) (h1 : ∀ (i : Nat) (c : vAV), ls[i]? = some (some c) → ∃ v, (i, v) ∈ lv ∧ vG b sa sv ad c v)
    (hv : vG b sa sv ad c0 v0) (ha : a < nL) (h2 : lv_has lsA nL ((a, v0) :: lv.filter (fun q => !(q.1 == a) && !(q.1 + 1 == a && q.2.category == 2)))) : vL b sa sv ad nL (vSet1 ls a c0) lsA := by
  refine ⟨_, h2, by rw [vSet1_len]; exact hlen, fun i c hc => ?_⟩
  by_cases e : i = a
  · subst e
    rw [vSet1_at (by omega)] at hc
    cases hc
    exact ⟨v0, List.mem_cons_self, hv⟩
  · obtain ⟨q1, q2⟩ := vSet1_ne e hc
    obtain ⟨v, q3, q4⟩ := h1 i c q1
    refine ⟨v, List.mem_cons_of_mem _ (List.mem_filter.mpr ⟨q3, ?_⟩), q4⟩
    by_cases e2 : i + 1 = a
    · have hc1 := vKd_cat q4 (q2 e2)
      simp [e, hc1]
    · simp [e, e2]
theorem vL_st2 {b sa sv : Nat} {ad : List Nat} {nL a : Nat} {ls : vLs} {lsA : Array Slot} {lv : List (Nat × Value)} {c0 : vAV} {v0 : Value} (hlen : ls.length = nL) (h1 : ∀ (i : Nat) (c : vAV), ls[i]? = some (some c) → ∃ v, (i, v) ∈ lv ∧ vG b sa sv ad c v)
    (hv : vG b sa sv ad c0 v0) (ha : a + 1 < nL) (h2 : lv_has lsA nL ((a, v0) :: lv.filter (fun q => !(q.1 == a) && (!(q.1 == a + 1) && !(q.1 + 1 == a && q.2.category == 2))))) : vL b sa sv ad nL (vSet2 ls a c0) lsA := by
  refine ⟨_, h2, by rw [vSet2, List.length_set, vSet1_len]; exact hlen, fun i c hc => ?_⟩
  unfold vSet2 at hc
  by_cases e1 : i = a + 1
  · subst e1
    rw [List.getElem?_set] at hc
    split at hc
    · split at hc <;> cases hc
    · next hn => exact absurd rfl hn
  · rw [List.getElem?_set_ne (fun q => e1 q.symm)] at hc
    by_cases e : i = a
    · subst e
      rw [vSet1_at (by omega)] at hc
      cases hc
      exact ⟨v0, List.mem_cons_self, hv⟩
    · obtain ⟨q1, q2⟩ := vSet1_ne e hc
      obtain ⟨v, q3, q4⟩ := h1 i c q1
      refine ⟨v, List.mem_cons_of_mem _ (List.mem_filter.mpr ⟨q3, ?_⟩), q4⟩
      by_cases e2 : i + 1 = a
      · have hc1 := vKd_cat q4 (q2 e2)
        simp [e, e1, hc1]
      · simp [e, e1, e2]
theorem vLd_ok {kd a pc1 pc' : Nat} {ls ls' : vLs} {st st' : List vAV} {hp hp' : List vOb} (h : vLd kd a pc1 ls st hp = some (pc', ls', st', hp')) : ∃ v, ls[a]? = some (some v) ∧ Nat.beq (vKd v) kd = true ∧ pc' = pc1 ∧ ls' = ls ∧ st' = v :: st ∧ hp' = hp := by
  unfold vLd at h
  split at h
  · next v hv =>
    rw [vNth_eq] at hv
    cases hk : Nat.beq (vKd v) kd with
    | true =>
      rw [hk] at h
      cases h
      exact ⟨v, hv, hk, rfl, rfl, rfl, rfl⟩
    | false =>
      rw [hk] at h
      cases h
  · cases h
theorem vSt1_ok {kd a pc1 pc' : Nat} {ls ls' : vLs} {st st' : List vAV} {hp hp' : List vOb} (h : vSt1 kd a pc1 ls st hp = some (pc', ls', st', hp')) : ∃ v, st = v :: st' ∧ Nat.beq (vKd v) kd = true ∧ a < ls.length ∧ pc' = pc1 ∧ ls' = vSet1 ls a v ∧ hp' = hp := by
  unfold vSt1 at h
  split at h
  · next v r =>
    cases hk : (Nat.beq (vKd v) kd && Nat.blt a ls.length) with
    | true =>
      rw [hk] at h
      cases h
      rw [Bool.and_eq_true] at hk
      exact ⟨v, rfl, hk.1, Nat.blt_eq.mp hk.2, rfl, rfl, rfl⟩
    | false =>
      rw [hk] at h
      cases h
  · cases h
theorem vSt2_ok {a pc1 pc' : Nat} {ls ls' : vLs} {st st' : List vAV} {hp hp' : List vOb} (h : vSt2 a pc1 ls st hp = some (pc', ls', st', hp')) : ∃ v, st = v :: st' ∧ Nat.beq (vKd v) 1 = true ∧ a + 1 < ls.length ∧ pc' = pc1 ∧ ls' = vSet2 ls a v ∧ hp' = hp := by
  unfold vSt2 at h
  split at h
  · next v r =>
    cases hk : (Nat.beq (vKd v) 1 && Nat.blt (a + 1) ls.length) with
    | true =>
      rw [hk] at h
      cases h
      rw [Bool.and_eq_true] at hk
      exact ⟨v, rfl, hk.1, Nat.blt_eq.mp hk.2, rfl, rfl, rfl⟩
    | false =>
      rw [hk] at h
      cases h
  · cases h
theorem v2_ok {op : Nat → Nat → Nat} {pc1 pc' : Nat} {ls ls' : vLs} {st st' : List vAV} {hp hp' : List vOb} (h : v2 op pc1 ls st hp = some (pc', ls', st', hp')) : ∃ x y r st0, st = y :: x :: st0 ∧ vB op x y = some r ∧ pc' = pc1 ∧ ls' = ls ∧ st' = r :: st0 ∧ hp' = hp := by
  unfold v2 at h
  split at h
  · next y x st0 =>
    split at h
    · next r hr =>
      cases h
      exact ⟨x, y, r, st0, rfl, hr, rfl, rfl, rfl, rfl⟩
    · cases h
  · cases h
theorem vBr_ok {o : Option Bool} {pc1 a pc' : Nat} {ls ls' : vLs} {st st' : List vAV} {hp hp' : List vOb} (h : vBr o pc1 a ls st hp = some (pc', ls', st', hp')) : ls' = ls ∧ st' = st ∧ hp' = hp ∧ ((o = some true ∧ pc' = a) ∨ (o = some false ∧ pc' = pc1)) := by
  unfold vBr at h
  split at h
  · cases h
    exact ⟨rfl, rfl, rfl, Or.inl ⟨rfl, rfl⟩⟩
  · cases h
    exact ⟨rfl, rfl, rfl, Or.inr ⟨rfl, rfl⟩⟩
  · cases h
theorem vIf_ok {f : Nat × Nat → Nat × Nat → Option Bool} {pc1 a pc' : Nat} {ls ls' : vLs} {st st' : List vAV} {hp hp' : List vOb} (h : vIf f pc1 a ls st hp = some (pc', ls', st', hp')) : ∃ x q, st = x :: st' ∧ vIv x = some q ∧ ls' = ls ∧ hp' = hp ∧ ((f q (2147483648, 2147483648) = some true ∧ pc' = a) ∨ (f q (2147483648, 2147483648) = some false ∧ pc' = pc1)) := by
  unfold vIf at h
  split at h
  · next x st0 =>
    split at h
    · next q hq =>
      obtain ⟨h1, h2, h3, h4⟩ := vBr_ok h
      exact ⟨x, q, by rw [h2], hq, h1, h3, h4⟩
    · cases h
  · cases h
theorem vIc_ok {f : Nat × Nat → Nat × Nat → Option Bool} {pc1 a pc' : Nat} {ls ls' : vLs} {st st' : List vAV} {hp hp' : List vOb} (h : vIc f pc1 a ls st hp = some (pc', ls', st', hp')) : ∃ x y q r, st = y :: x :: st' ∧ vIv x = some q ∧ vIv y = some r ∧ ls' = ls ∧ hp' = hp ∧ ((f q r = some true ∧ pc' = a) ∨ (f q r = some false ∧ pc' = pc1)) := by
  unfold vIc at h
  split at h
  · next y x st0 =>
    split at h
    · next q r hq hr =>
      obtain ⟨h1, h2, h3, h4⟩ := vBr_ok h
      exact ⟨x, y, q, r, by rw [h2], hq, hr, h1, h3, h4⟩
    · cases h
  · cases h
