/-! ===== the machine's state and the JVM's ===== -/
abbrev vAd (ws : va_W) : List Nat := ws.map (fun q => q.1)
def vT (b sa sv : Nat) (ad : List Nat) : List vAV → List Value → Prop
  | [], [] => True
  | c :: cs, v :: vs => vG b sa sv ad c v ∧ vT b sa sv ad cs vs
  | [], _ :: _ => False
  | _ :: _, [] => False
def vC (cl : List vw_C) (b sa sv : Nat) (ad : List Nat) (tys : List (ClassId × FieldType)) (o : vOb) (e : va_E) : Prop := match o.1 % 8 with
  | 0 => ∃ fs : List Value, e = .inr (o.1 / 8, fs) ∧ fs.length = o.2.length ∧ ∀ (j : Nat) (c : vAV), o.2[j]? = some c → ∃ v, fs[j]? = some v ∧ vG b sa sv ad c v
  | 1 => ∃ (cA : ClassId) (f : Nat → Int32) (t0 : Nat), e = .inl (cA, o.2.length, .inl f) ∧ tys[t0]? = some (cA, .int) ∧ ∀ (j : Nat) (c : vAV), o.2[j]? = some c → vG b sa sv ad c (.int (f j))
  | 2 => ∃ (cA : ClassId) (f : Nat → Int32) (t0 : Nat), e = .inl (cA, o.2.length, .inl f) ∧ tys[t0]? = some (cA, .byte) ∧ ∀ (j : Nat) (c : vAV), o.2[j]? = some c → vG b sa sv ad c (.int (f j))
  | 3 => ∃ (cA : ClassId) (f : Nat → Int32) (t0 : Nat), e = .inl (cA, o.2.length, .inl f) ∧ tys[t0]? = some (cA, .boolean) ∧ ∀ (j : Nat) (c : vAV), o.2[j]? = some c → vG b sa sv ad c (.int (f j))
  | 4 => ∃ (cA : ClassId) (f : Nat → Int64) (t0 : Nat), e = .inl (cA, o.2.length, .inr (.inl f)) ∧ tys[t0]? = some (cA, .long) ∧ ∀ (j : Nat) (c : vAV), o.2[j]? = some c → vG b sa sv ad c (.long (f j))
  | 5 => ∃ (cA : ClassId) (f : Nat → Option Nat) (t0 : Nat) (r : vw_C), e = .inl (cA, o.2.length, .inr (.inr (.inr (.inr f)))) ∧ cl[o.1 / 8]? = some r ∧ tys[t0]? = some (cA, .object r.1) ∧ ∀ (j : Nat) (c : vAV), o.2[j]? = some c → vG b sa sv ad c (va_rf (f j))
  | _ => False
def vH (cl : List vw_C) (b sa sv : Nat) (tys : List (ClassId × FieldType)) (hp : List vOb) (ws : va_W) : Prop :=
  ws.length = hp.length ∧ ∀ (k : Nat) (o : vOb), hp[k]? = some o → ∃ (a : Nat) (e : va_E), ws[k]? = some (a, e) ∧ vC cl b sa sv (vAd ws) tys o e
def vL (b sa sv : Nat) (ad : List Nat) (nL : Nat) (ls : vLs) (lsA : Array Slot) : Prop :=
  ∃ lv : List (Nat × Value), lv_has lsA nL lv ∧ ls.length = nL ∧ ∀ (i : Nat) (c : vAV), ls[i]? = some (some c) → ∃ v, (i, v) ∈ lv ∧ vG b sa sv ad c v
/-- the objects, the heap, the tables: 'D A s cl' of the method, 'hp' the machine's, 'ws tys H locs' the JVM's -/
def vW (cl : List vw_C) (D : va_G) (A : Nat → Prop) (s : State) (b sa sv : Nat) (hp : List vOb) (ws : va_W) (tys : List (ClassId × FieldType)) (H : Heap) (locs : List Loc) : Prop :=
  va_P D cl ws H ∧ va_D A ws ∧ va_S A s.heap H locs ∧ va_K D cl tys s ∧ vH cl b sa sv tys hp ws
theorem vC_mono {cl : List vw_C} {b sa sv : Nat} {ad ad' : List Nat} {tys : List (ClassId × FieldType)} (hs : vSub2 ad ad') {o : vOb} {e : va_E} (h : vC cl b sa sv ad tys o e) : vC cl b sa sv ad' tys o e := by
  unfold vC at h ⊢
  split at h
  · obtain ⟨fs, h1, h2, h3⟩ := h
    exact ⟨fs, h1, h2, fun j c hc => by obtain ⟨v, q1, q2⟩ := h3 j c hc; exact ⟨v, q1, vG_mono hs q2⟩⟩
  · obtain ⟨cA, f, t0, h1, h2, h3⟩ := h
    exact ⟨cA, f, t0, h1, h2, fun j c hc => vG_mono hs (h3 j c hc)⟩
  · obtain ⟨cA, f, t0, h1, h2, h3⟩ := h
    exact ⟨cA, f, t0, h1, h2, fun j c hc => vG_mono hs (h3 j c hc)⟩
  · obtain ⟨cA, f, t0, h1, h2, h3⟩ := h
    exact ⟨cA, f, t0, h1, h2, fun j c hc => vG_mono hs (h3 j c hc)⟩
  · obtain ⟨cA, f, t0, h1, h2, h3⟩ := h
    exact ⟨cA, f, t0, h1, h2, fun j c hc => vG_mono hs (h3 j c hc)⟩
  · obtain ⟨cA, f, t0, r, h1, h2, h3, h4⟩ := h
    exact ⟨cA, f, t0, r, h1, h2, h3, fun j c hc => vG_mono hs (h4 j c hc)⟩
  · exact h
theorem vT_mono {b sa sv : Nat} {ad ad' : List Nat} (hs : vSub2 ad ad') : ∀ {st : List vAV} {vs : List Value}, vT b sa sv ad st vs → vT b sa sv ad' st vs
  | [], [], _ => trivial
  | c :: cs, v :: vs, h => ⟨vG_mono hs h.1, vT_mono hs h.2⟩
  | [], _ :: _, h => h.elim
  | _ :: _, [], h => h.elim
theorem vL_mono {b sa sv : Nat} {ad ad' : List Nat} (hs : vSub2 ad ad') {nL : Nat} {ls : vLs} {lsA : Array Slot} (h : vL b sa sv ad nL ls lsA) : vL b sa sv ad' nL ls lsA := by
  obtain ⟨lv, h1, h2, h3⟩ := h
  exact ⟨lv, h1, h2, fun i c hc => by obtain ⟨v, q1, q2⟩ := h3 i c hc; exact ⟨v, q1, vG_mono hs q2⟩⟩
theorem vSub2.rf (ad : List Nat) : vSub2 ad ad := fun _ _ h => h
theorem vSub2.tr {a b c : List Nat} (h1 : vSub2 a b) (h2 : vSub2 b c) : vSub2 a c := fun k x h => h2 k x (h1 k x h)
theorem vAd_set {ws : va_W} {k a : Nat} {e0 e : va_E} (h : ws[k]? = some (a, e0)) : vAd (ws.set k (a, e)) = vAd ws := by
  apply List.ext_getElem?
  intro j
  simp only [vAd, List.getElem?_map, List.getElem?_set]
  by_cases hj : k = j
  · subst hj
    obtain ⟨hl, he⟩ := List.getElem?_eq_some_iff.mp h
    simp [hl, he]
  · simp [hj]
theorem vAd_at {ws : va_W} {k a : Nat} {e : va_E} (h : ws[k]? = some (a, e)) : (vAd ws)[k]? = some a := by
  simp [vAd, List.getElem?_map, h]
/-- the cell of an object -/
theorem vH_at {cl : List vw_C} {b sa sv : Nat} {tys : List (ClassId × FieldType)} {hp : List vOb} {ws : va_W} (h : vH cl b sa sv tys hp ws) {k : Nat} {o : vOb} (ho : hp[k]? = some o) {v : Value} (hv : vG b sa sv (vAd ws) (.inr (.inr (.inr (.inl (some k))))) v) :
    ∃ (a : Nat) (e : va_E), v = .ref a ∧ ws[k]? = some (a, e) ∧ vC cl b sa sv (vAd ws) tys o e := by
  obtain ⟨a, e, h1, h2⟩ := h.2 k o ho
  obtain ⟨a', h3, h4⟩ := hv
  rw [vAd_at h1] at h3
  cases h3
  exact ⟨a, e, h4, h1, h2⟩
/-- one cell anew -/
theorem vH_set {cl : List vw_C} {b sa sv : Nat} {tys : List (ClassId × FieldType)} {hp : List vOb} {ws : va_W} (h : vH cl b sa sv tys hp ws) {k a : Nat} {e0 e : va_E} {o : vOb} (hw : ws[k]? = some (a, e0)) (hc : vC cl b sa sv (vAd ws) tys o e) : vH cl b sa sv tys (hp.set k o) (ws.set k (a, e)) := by
  refine ⟨by simpa using h.1, fun j o' hj => ?_⟩
  rw [vAd_set hw]
  by_cases hjk : k = j
  · subst hjk
    have hl := (List.getElem?_eq_some_iff.mp hw).1
    have hl2 : k < hp.length := by rw [← h.1]; exact hl
    rw [List.getElem?_set_self hl2] at hj
    cases hj
    exact ⟨a, e, by rw [List.getElem?_set_self hl], hc⟩
  · rw [List.getElem?_set_ne hjk] at hj
    obtain ⟨a', e', h1, h2⟩ := h.2 j o' hj
    exact ⟨a', e', by rw [List.getElem?_set_ne hjk]; exact h1, h2⟩
