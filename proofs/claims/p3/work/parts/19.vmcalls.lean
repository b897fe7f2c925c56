/-! ===== calls and new cells ===== -/
def vOj (k : Nat) : vAV := .inr (.inr (.inr (.inl (some k))))
def vTk : Nat → List vAV → List vAV → Option (List vAV × List vAV)
  | 0, acc, st => some (acc, st)
  | n + 1, acc, v :: st => vTk n (v :: acc) st
  | _ + 1, _, [] => none
theorem vTk_ok : ∀ (n : Nat) (acc st as rest : List vAV), vTk n acc st = some (as, rest) → ∃ xs : List vAV, xs.length = n ∧ st = xs ++ rest ∧ as = xs.reverse ++ acc
  | 0, acc, st, as, rest, h => by
    have h : some (acc, st) = some (as, rest) := h
    cases h
    exact ⟨[], rfl, rfl, rfl⟩
  | n + 1, acc, [], as, rest, h => by
    have h : (none : Option (List vAV × List vAV)) = some (as, rest) := h
    cases h
  | n + 1, acc, v :: st, as, rest, h => by
    have h : vTk n (v :: acc) st = some (as, rest) := h
    obtain ⟨xs, h1, h2, h3⟩ := vTk_ok n (v :: acc) st as rest h
    exact ⟨v :: xs, by simp [h1], by simp [h2], by simp [h3]⟩
theorem vT_split {b sa sv : Nat} {ad : List Nat} : ∀ (xs rest : List vAV) (vs : List Value), vT b sa sv ad (xs ++ rest) vs → ∃ v1 v2, vs = v1 ++ v2 ∧ vT b sa sv ad xs v1 ∧ vT b sa sv ad rest v2
  | [], rest, vs, h => ⟨[], vs, rfl, trivial, h⟩
  | c :: xs, rest, v :: vs, h => by
    have h : vG b sa sv ad c v ∧ vT b sa sv ad (xs ++ rest) vs := h
    obtain ⟨v1, v2, h1, h2, h3⟩ := vT_split xs rest vs h.2
    exact ⟨v :: v1, v2, by rw [h1]; rfl, ⟨h.1, h2⟩, h3⟩
  | _ :: _, _, [], h => by exact h.elim
theorem vT_app {b sa sv : Nat} {ad : List Nat} : ∀ (xs ys : List vAV) (vs ws : List Value), vT b sa sv ad xs vs → vT b sa sv ad ys ws → vT b sa sv ad (xs ++ ys) (vs ++ ws)
  | [], ys, [], ws, _, h => h
  | c :: xs, ys, v :: vs, ws, h1, h2 => ⟨h1.1, vT_app xs ys vs ws h1.2 h2⟩
  | [], _, _ :: _, _, h, _ => h.elim
  | _ :: _, _, [], _, h, _ => h.elim
theorem vT_rev {b sa sv : Nat} {ad : List Nat} : ∀ (xs : List vAV) (vs : List Value), vT b sa sv ad xs vs → vT b sa sv ad xs.reverse vs.reverse
  | [], [], _ => trivial
  | c :: xs, v :: vs, h => by
    rw [List.reverse_cons, List.reverse_cons]
    exact vT_app _ _ _ _ (vT_rev xs vs h.2) ⟨h.1, trivial⟩
  | [], _ :: _, h => h.elim
  | _ :: _, [], h => h.elim
theorem vT_len {b sa sv : Nat} {ad : List Nat} : ∀ (xs : List vAV) (vs : List Value), vT b sa sv ad xs vs → xs.length = vs.length
  | [], [], _ => rfl
  | _ :: xs, _ :: vs, h => by simp [vT_len xs vs h.2]
  | [], _ :: _, h => h.elim
  | _ :: _, [], h => h.elim
def vCs : List vAV → Nat
  | [] => 0
  | c :: cs => (bif Nat.beq (vKd c) 1 then 2 else 1) + vCs cs
theorem vCs_ok {b sa sv : Nat} {ad : List Nat} : ∀ (xs : List vAV) (vs : List Value), vT b sa sv ad xs vs → (vs.map fun v => v.category).sum = vCs xs
  | [], [], _ => rfl
  | c :: xs, v :: vs, h => by
    have ih := vCs_ok xs vs h.2
    rw [List.map_cons, List.sum_cons, ih, vCs]
    cases hk : Nat.beq (vKd c) 1 with
    | true =>
      obtain ⟨x, rfl⟩ := vKd1 h.1 hk
      rfl
    | false => rw [vKd_cat h.1 hk]; rfl
  | [], _ :: _, h => h.elim
  | _ :: _, [], h => h.elim
theorem vC_tys {cl : List vw_C} {b sa sv : Nat} {ad : List Nat} {tys : List (ClassId × FieldType)} (l2 : List (ClassId × FieldType)) {o : vOb} {e : va_E} (h : vC cl b sa sv ad tys o e) : vC cl b sa sv ad (tys ++ l2) o e := by
  have key : ∀ (t0 : Nat) (x : ClassId × FieldType), tys[t0]? = some x → (tys ++ l2)[t0]? = some x := fun t0 x hx => by
    rw [List.getElem?_append_left (List.getElem?_eq_some_iff.mp hx).1]; exact hx
  unfold vC at h ⊢
  split at h
  · exact h
  · obtain ⟨cA, f, t0, h1, h2, h3⟩ := h
    exact ⟨cA, f, t0, h1, key _ _ h2, h3⟩
  · obtain ⟨cA, f, t0, h1, h2, h3⟩ := h
    exact ⟨cA, f, t0, h1, key _ _ h2, h3⟩
  · obtain ⟨cA, f, t0, h1, h2, h3⟩ := h
    exact ⟨cA, f, t0, h1, key _ _ h2, h3⟩
  · obtain ⟨cA, f, t0, h1, h2, h3⟩ := h
    exact ⟨cA, f, t0, h1, key _ _ h2, h3⟩
  · obtain ⟨cA, f, t0, r, h1, h2, h3, h4⟩ := h
    exact ⟨cA, f, t0, r, h1, h2, key _ _ h3, h4⟩
  · exact h
theorem vAd_push (ws : va_W) (q : Nat × va_E) : vAd (ws ++ [q]) = vAd ws ++ [q.1] := by simp [vAd]
theorem vSub2_push (ws : va_W) (q : Nat × va_E) : vSub2 (vAd ws) (vAd (ws ++ [q])) := by
  intro k a h
  rw [vAd_push, List.getElem?_append_left (List.getElem?_eq_some_iff.mp h).1]
  exact h
theorem vH_push {cl : List vw_C} {b sa sv : Nat} {tys : List (ClassId × FieldType)} (l2 : List (ClassId × FieldType)) {hp : List vOb} {ws : va_W} (h : vH cl b sa sv tys hp ws) {q : Nat} {e : va_E} {o : vOb} (hc : vC cl b sa sv (vAd (ws ++ [(q, e)])) (tys ++ l2) o e) : vH cl b sa sv (tys ++ l2) (hp ++ [o]) (ws ++ [(q, e)]) := by
  refine ⟨by simp [h.1], fun k o' hk => ?_⟩
  by_cases hl : k < hp.length
  · rw [List.getElem?_append_left hl] at hk
    obtain ⟨a, e', h1, h2⟩ := h.2 k o' hk
    exact ⟨a, e', by rw [List.getElem?_append_left (by rw [h.1]; exact hl)]; exact h1, vC_tys l2 (vC_mono (vSub2_push ws (q, e)) h2)⟩
  · rw [List.getElem?_append_right (by omega)] at hk
    have hz : k - hp.length < 1 := (List.getElem?_eq_some_iff.mp hk).1
    rw [show k - hp.length = 0 by omega] at hk
    cases hk
    exact ⟨q, e, by rw [List.getElem?_append_right (by rw [h.1]; omega), h.1, show k - hp.length = 0 by omega]; rfl, hc⟩
theorem vOj_new (b sa sv : Nat) {cl : List vw_C} {tys : List (ClassId × FieldType)} {hp : List vOb} {ws : va_W} (h : vH cl b sa sv tys hp ws) (q : Nat) (e : va_E) : vG b sa sv (vAd (ws ++ [(q, e)])) (vOj hp.length) (.ref q) := by
  refine ⟨q, ?_, rfl⟩
  rw [vAd_push, ← h.1, List.getElem?_append_right (by simp [vAd])]
  simp [vAd]
def vDf (t : Nat) : vAV := bif Nat.beq t 4 then .inr (.inr (.inl 0)) else .inl 0
def vNl : vAV := .inr (.inr (.inr (.inl none)))
noncomputable def vAl (df : List (List vAV)) (i : Instr) (a t : Nat) (st : List vAV) (hp : List vOb) : Option (List vAV × List vOb × Nat) := match i with
  | .new _ => match vNth df a with
    | some d => vF hp.length (fun k => some (vOj k :: st, hp ++ [(8 * a, d)], d.length))
    | none => none
  | .newarray _ => match st with
    | .inl n :: st' => bif Nat.blt n 65536 && Nat.ble 1 t && Nat.ble t 4 then vF hp.length (fun k => some (vOj k :: st', hp ++ [(t, List.replicate n (vDf t))], n)) else none
    | _ => none
  | .anewarray _ => match st with
    | .inl n :: st' => bif Nat.blt n 65536 then vF hp.length (fun k => some (vOj k :: st', hp ++ [(8 * a + 5, List.replicate n vNl)], n)) else none
    | _ => none
  | _ => none
section VNEW
variable {p : Program} {l : Launch} {e : Env} {R : Room} {s : State} {m : MethodId} {args : Array Value} {below : List Frame} {meth : Method} {c : Code} {H : Heap} {locs : List Loc} {cells slots : Nat} {Q : State → Prop}
variable {cc : ByteArray} {pc : Nat} {lsA : Array Slot} {stV : List Value} {D : va_G} {A : Nat → Prop} {ws : va_W} {tys : List (ClassId × FieldType)}
variable {b sa sv nL : Nat} {ls : vLs} {st : List vAV} {hp : List vOb}
theorem vs_new (hx : p.tables.exec = Jvm.exec) (hb : c.code = cc) (hW : vW vwCl D A s b sa sv hp ws tys H locs) (hL : vL b sa sv (vAd ws) nL ls lsA) (hT : vT b sa sv (vAd ws) st stV) (hA : ∀ q, s.heap.size ≤ q → A q)
    {own C : String} {T : u_T} {N index a : Nat} {Ts : List Cond} {d : List vAV} {ty : Nat → FieldType} (hts : ∀ w ∈ Ts, w.before args s = true) (hin : ∀ w ∈ u_ws C T N, w ∈ Ts) (hty : ∀ k, k < N → parseFieldDescriptor (T k).2.2.1 = some (ty k)) (hown : s.vm.findClass own = some m.cls)
    (hcl : (Cond.classLink own index C).before args s = true) (hinst : (Cond.instantiable C N).before args s = true) (hini : (Cond.initialized C).before args s = true) (hc : vwCl[a]? = some (C, T, N)) (hd : d.length = N) (hdv : ∀ (j : Nat) (x : vAV), d[j]? = some x → vG b sa sv [] x (defaultValue (ty j)))
    (hcells : cells + 1 ≤ R.cells) (hslots : slots + d.length ≤ R.slots) (hdg : decode cc pc = .ok (.new index, 3))
    (kk : vK p l e R s m args below meth c Q vwCl D A b sa sv nL ws (pc + 3) ls (vOj hp.length :: st) (hp ++ [(8 * a, d)]) (cells + 1) (slots + d.length)) : W p l e R s m args below meth c H locs cells slots Q (F0 m pc lsA stV) := by
  obtain ⟨hP, hD, hS, hK, hH⟩ := hW
  rw [hd] at hslots kk
  refine va_new (ci := a) (fs := (List.range N).map (fun j => defaultValue (ty j))) hx hb hts hin ty hty hown hcl hinst hini hK hP hD hS hA hc (fun j hj => by simp [vp_V, hj]) hcells hslots hdg (fun q H1 hP1 hD1 hS1 => ?_)
  have hnil : ∀ ad : List Nat, vSub2 [] ad := fun ad k a h => by simp at h
  refine kk _ tys H1 locs lsA _ ⟨hP1, hD1, hS1, hK, ?_⟩ (vL_mono (vSub2_push ws _) hL) ⟨vOj_new b sa sv hH _ _, vT_mono (vSub2_push ws _) hT⟩ (vSub2_push ws _)
  have h1 := vH_push (cl := vwCl) (b := b) (sa := sa) (sv := sv) [] hH (q := q) (e := .inr (a, (List.range N).map (fun j => defaultValue (ty j)))) (o := (8 * a, d)) (vC_0i (o := (8 * a, d)) (show (8 * a) % 8 = 0 by omega) ⟨(List.range N).map (fun j => defaultValue (ty j)), by rw [show (8 * a, d).1 / 8 = a from (by show 8 * a / 8 = a; omega)], by simp [hd], fun j x hj => ⟨defaultValue (ty j), ?_, vG_mono (hnil _) (hdv j x hj)⟩⟩)
  · rw [List.append_nil] at h1
    exact h1
  · have hlt : j < N := by rw [← hd]; exact (List.getElem?_eq_some_iff.mp hj).1
    simp [hlt]
/-- number kinds of arrays -/
def vAT (t : Nat) (ty : FieldType) : Bool := match t, ty with
  | 1, .int => true
  | 2, .byte => true
  | 3, .boolean => true
  | 4, .long => true
  | _, _ => false
theorem vs_newarray (hx : p.tables.exec = Jvm.exec) (hb : c.code = cc) (hW : vW vwCl D A s b sa sv hp ws tys H locs) (hL : vL b sa sv (vAd ws) nL ls lsA) {n t : Nat} (hT : vT b sa sv (vAd ws) (.inl n :: st) stV) (hA : ∀ q, s.heap.size ≤ q → A q)
    {atype : ArrayType} (harr : (Cond.arrayClass (newarray.typeOf atype)).before args s = true) (ht : vAT t (newarray.typeOf atype) = true) (hn : n < 65536)
    (hcells : cells + 1 ≤ R.cells) (hslots : slots + n ≤ R.slots) (hdg : decode cc pc = .ok (.newarray atype, 2))
    (kk : vK p l e R s m args below meth c Q vwCl D A b sa sv nL ws (pc + 2) ls (vOj hp.length :: st) (hp ++ [(t, List.replicate n (vDf t))]) (cells + 1) (slots + n)) : W p l e R s m args below meth c H locs cells slots Q (F0 m pc lsA stV) := by
  obtain ⟨hP, hD, hS, hK, hH⟩ := hW
  match stV, hT with
  | y :: stV, hT =>
    obtain ⟨⟨-, rfl⟩, hT9⟩ := hT
    have hlen : (List.replicate n (vDf t)).length = n := List.length_replicate
    have hget : ∀ (j : Nat) (x : vAV), (List.replicate n (vDf t))[j]? = some x → x = vDf t := fun j x hj => List.eq_of_mem_replicate (List.mem_of_getElem? hj)
    have hbytes : ∀ ty : FieldType, componentBytes ty ≤ 8 := by intro ty; cases ty <;> simp [componentBytes]
    have hby : n * componentBytes (newarray.typeOf atype) ≤ 536870912 := Nat.le_trans (Nat.mul_le_mul (Nat.le_of_lt hn) (hbytes _)) (by decide)
    have fin : ∀ (a0 : vp_A), (∀ cA : ClassId, vp_cell cA a0 = arrV cA n (fun _ => defaultValue (newarray.typeOf atype))) → (∀ (cA : ClassId) (q : Nat), vC vwCl b sa sv (vAd (ws ++ [(q, .inl (cA, a0))])) (tys ++ [(cA, newarray.typeOf atype)]) (t, List.replicate n (vDf t)) (.inl (cA, a0))) →
        W p l e R s m args below meth c H locs cells slots Q (F0 m pc lsA (.int (nI n) :: stV)) := fun a0 ha hC =>
      va_newa hx hb harr rfl hK hP hD hS hA ha (nI_pos (by omega)) (vCl hn) hby hcells hslots hdg (fun q cA H1 hK1 hP1 hD1 hS1 => kk _ _ H1 locs lsA _ ⟨hP1, hD1, hS1, hK1, vH_push _ hH (hC cA q)⟩ (vL_mono (vSub2_push ws _) hL) ⟨vOj_new b sa sv hH _ _, vT_mono (vSub2_push ws _) hT9⟩ (vSub2_push ws _))
    have hlast : ∀ (cA : ClassId) (ty : FieldType), (tys ++ [(cA, ty)])[tys.length]? = some (cA, ty) := fun cA ty => by simp
    generalize hty : newarray.typeOf atype = ty at *
    unfold vAT at ht
    split at ht
    · exact fin (n, .inl (fun _ => 0)) (fun cA => rfl) (fun cA q => vC_1i (o := (1, List.replicate n (vDf 1))) rfl ⟨cA, fun _ => 0, tys.length, by rw [hlen], hlast _ _, fun j x hj => by rw [hget j x hj]; exact ⟨by omega, rfl⟩⟩)
    · exact fin (n, .inl (fun _ => 0)) (fun cA => rfl) (fun cA q => vC_2i (o := (2, List.replicate n (vDf 2))) rfl ⟨cA, fun _ => 0, tys.length, by rw [hlen], hlast _ _, fun j x hj => by rw [hget j x hj]; exact ⟨by omega, rfl⟩⟩)
    · exact fin (n, .inl (fun _ => 0)) (fun cA => rfl) (fun cA q => vC_3i (o := (3, List.replicate n (vDf 3))) rfl ⟨cA, fun _ => 0, tys.length, by rw [hlen], hlast _ _, fun j x hj => by rw [hget j x hj]; exact ⟨by omega, rfl⟩⟩)
    · exact fin (n, .inr (.inl (fun _ => 0))) (fun cA => rfl) (fun cA q => vC_4i (o := (4, List.replicate n (vDf 4))) rfl ⟨cA, fun _ => 0, tys.length, by rw [hlen], hlast _ _, fun j x hj => by rw [hget j x hj]; exact ⟨by omega, rfl⟩⟩)
    · cases ht
theorem vs_anewarray (hx : p.tables.exec = Jvm.exec) (hb : c.code = cc) (hW : vW vwCl D A s b sa sv hp ws tys H locs) (hL : vL b sa sv (vAd ws) nL ls lsA) {n a : Nat} (hT : vT b sa sv (vAd ws) (.inl n :: st) stV) (hA : ∀ q, s.heap.size ≤ q → A q)
    {own : String} {index : Nat} {r : vw_C} (hown : s.vm.findClass own = some m.cls) (hcl : (Cond.classLink own index r.1).before args s = true) (hov : va_AO r.1 s) (hc : vwCl[a]? = some r) (hn : n < 65536)
    (hcells : cells + 1 ≤ R.cells) (hslots : slots + n ≤ R.slots) (hdg : decode cc pc = .ok (.anewarray index, 3))
    (kk : vK p l e R s m args below meth c Q vwCl D A b sa sv nL ws (pc + 3) ls (vOj hp.length :: st) (hp ++ [(8 * a + 5, List.replicate n vNl)]) (cells + 1) (slots + n)) : W p l e R s m args below meth c H locs cells slots Q (F0 m pc lsA stV) := by
  obtain ⟨hP, hD, hS, hK, hH⟩ := hW
  match stV, hT with
  | y :: stV, hT =>
    obtain ⟨⟨-, rfl⟩, hT9⟩ := hT
    have hlen : (List.replicate n vNl).length = n := List.length_replicate
    have hget : ∀ (j : Nat) (x : vAV), (List.replicate n vNl)[j]? = some x → x = vNl := fun j x hj => List.eq_of_mem_replicate (List.mem_of_getElem? hj)
    refine va_newq hx hb hown hcl hov hK hP hD hS hA (nI_pos (by omega)) (vCl hn) (by omega) hcells hslots hdg (fun q cA H1 hK1 hP1 hD1 hS1 => kk _ _ H1 locs lsA _ ⟨hP1, hD1, hS1, hK1, vH_push _ hH ?_⟩ (vL_mono (vSub2_push ws _) hL) ⟨vOj_new b sa sv hH _ _, vT_mono (vSub2_push ws _) hT9⟩ (vSub2_push ws _))
    exact vC_5i (o := (8 * a + 5, List.replicate n vNl)) (show (8 * a + 5) % 8 = 5 by omega) ⟨cA, fun _ => none, tys.length, r, by rw [hlen], by rw [show (8 * a + 5, List.replicate n vNl).1 / 8 = a from (by show (8 * a + 5) / 8 = a; omega)]; exact hc, by simp, fun j x hj => by rw [hget j x hj]; rfl⟩
end VNEW
