/-! ===== a step of the machine is a step of the JVM: objects, arrays ===== -/
theorem vin {u n : Nat} (h : u < n) (hu : u < 65536) : vp_in (nI u) n := by
  rintro (h1 | h1)
  · exact nI_pos (by omega) h1
  · rw [nI_clamp (by omega)] at h1
    omega
theorem vCl {u : Nat} (hu : u < 65536) : (nI u).toNatClampNeg = u := nI_clamp (by omega)
section VCx
variable {cl : List vw_C} {b sa sv : Nat} {ad : List Nat} {tys : List (ClassId × FieldType)} {o : vOb} {e : va_E}
theorem vC_0 (h : vC cl b sa sv ad tys o e) (h0 : o.1 % 8 = 0) : ∃ fs : List Value, e = .inr (o.1 / 8, fs) ∧ fs.length = o.2.length ∧ ∀ (j : Nat) (c : vAV), o.2[j]? = some c → ∃ v, fs[j]? = some v ∧ vG b sa sv ad c v := by
  unfold vC at h
  rw [h0] at h
  exact h
theorem vC_0i (h0 : o.1 % 8 = 0) (h : ∃ fs : List Value, e = .inr (o.1 / 8, fs) ∧ fs.length = o.2.length ∧ ∀ (j : Nat) (c : vAV), o.2[j]? = some c → ∃ v, fs[j]? = some v ∧ vG b sa sv ad c v) : vC cl b sa sv ad tys o e := by
  unfold vC
  rw [h0]
  exact h

theorem vC_1 (h : vC cl b sa sv ad tys o e) (h0 : o.1 % 8 = 1) : ∃ (cA : ClassId) (f : Nat → Int32) (t0 : Nat), e = .inl (cA, o.2.length, .inl f) ∧ tys[t0]? = some (cA, .int) ∧ ∀ (j : Nat) (c : vAV), o.2[j]? = some c → vG b sa sv ad c (.int (f j)) := by
  unfold vC at h
  rw [h0] at h
  exact h
theorem vC_1i (h0 : o.1 % 8 = 1) (h : ∃ (cA : ClassId) (f : Nat → Int32) (t0 : Nat), e = .inl (cA, o.2.length, .inl f) ∧ tys[t0]? = some (cA, .int) ∧ ∀ (j : Nat) (c : vAV), o.2[j]? = some c → vG b sa sv ad c (.int (f j))) : vC cl b sa sv ad tys o e := by
  unfold vC
  rw [h0]
  exact h

theorem vC_2 (h : vC cl b sa sv ad tys o e) (h0 : o.1 % 8 = 2) : ∃ (cA : ClassId) (f : Nat → Int32) (t0 : Nat), e = .inl (cA, o.2.length, .inl f) ∧ tys[t0]? = some (cA, .byte) ∧ ∀ (j : Nat) (c : vAV), o.2[j]? = some c → vG b sa sv ad c (.int (f j)) := by
  unfold vC at h
  rw [h0] at h
  exact h
theorem vC_2i (h0 : o.1 % 8 = 2) (h : ∃ (cA : ClassId) (f : Nat → Int32) (t0 : Nat), e = .inl (cA, o.2.length, .inl f) ∧ tys[t0]? = some (cA, .byte) ∧ ∀ (j : Nat) (c : vAV), o.2[j]? = some c → vG b sa sv ad c (.int (f j))) : vC cl b sa sv ad tys o e := by
  unfold vC
  rw [h0]
  exact h

theorem vC_3 (h : vC cl b sa sv ad tys o e) (h0 : o.1 % 8 = 3) : ∃ (cA : ClassId) (f : Nat → Int32) (t0 : Nat), e = .inl (cA, o.2.length, .inl f) ∧ tys[t0]? = some (cA, .boolean) ∧ ∀ (j : Nat) (c : vAV), o.2[j]? = some c → vG b sa sv ad c (.int (f j)) := by
  unfold vC at h
  rw [h0] at h
  exact h
theorem vC_3i (h0 : o.1 % 8 = 3) (h : ∃ (cA : ClassId) (f : Nat → Int32) (t0 : Nat), e = .inl (cA, o.2.length, .inl f) ∧ tys[t0]? = some (cA, .boolean) ∧ ∀ (j : Nat) (c : vAV), o.2[j]? = some c → vG b sa sv ad c (.int (f j))) : vC cl b sa sv ad tys o e := by
  unfold vC
  rw [h0]
  exact h

theorem vC_4 (h : vC cl b sa sv ad tys o e) (h0 : o.1 % 8 = 4) : ∃ (cA : ClassId) (f : Nat → Int64) (t0 : Nat), e = .inl (cA, o.2.length, .inr (.inl f)) ∧ tys[t0]? = some (cA, .long) ∧ ∀ (j : Nat) (c : vAV), o.2[j]? = some c → vG b sa sv ad c (.long (f j)) := by
  unfold vC at h
  rw [h0] at h
  exact h
theorem vC_4i (h0 : o.1 % 8 = 4) (h : ∃ (cA : ClassId) (f : Nat → Int64) (t0 : Nat), e = .inl (cA, o.2.length, .inr (.inl f)) ∧ tys[t0]? = some (cA, .long) ∧ ∀ (j : Nat) (c : vAV), o.2[j]? = some c → vG b sa sv ad c (.long (f j))) : vC cl b sa sv ad tys o e := by
  unfold vC
  rw [h0]
  exact h

theorem vC_5 (h : vC cl b sa sv ad tys o e) (h0 : o.1 % 8 = 5) : ∃ (cA : ClassId) (f : Nat → Option Nat) (t0 : Nat) (r : vw_C), e = .inl (cA, o.2.length, .inr (.inr (.inr (.inr f)))) ∧ cl[o.1 / 8]? = some r ∧ tys[t0]? = some (cA, .object r.1) ∧ ∀ (j : Nat) (c : vAV), o.2[j]? = some c → vG b sa sv ad c (va_rf (f j)) := by
  unfold vC at h
  rw [h0] at h
  exact h
theorem vC_5i (h0 : o.1 % 8 = 5) (h : ∃ (cA : ClassId) (f : Nat → Option Nat) (t0 : Nat) (r : vw_C), e = .inl (cA, o.2.length, .inr (.inr (.inr (.inr f)))) ∧ cl[o.1 / 8]? = some r ∧ tys[t0]? = some (cA, .object r.1) ∧ ∀ (j : Nat) (c : vAV), o.2[j]? = some c → vG b sa sv ad c (va_rf (f j))) : vC cl b sa sv ad tys o e := by
  unfold vC
  rw [h0]
  exact h

end VCx
theorem vBx {a b : Bool} (h : (a && b) = true) : a = true ∧ b = true := by rw [Bool.and_eq_true] at h; exact h
theorem vGf_ok {a b t pc1 pc' : Nat} {ls ls' : vLs} {st st' : List vAV} {hp hp' : List vOb} (ht : t < 7) (h : vGf a b t pc1 ls st hp = some (pc', ls', st', hp')) : ∃ k st0 o v, st = .inr (.inr (.inr (.inl (some k)))) :: st0 ∧ hp[k]? = some o ∧ o.1 = 8 * a ∧ o.2[b]? = some v ∧ pc' = pc1 ∧ ls' = ls ∧ st' = v :: st0 ∧ hp' = hp := by
  unfold vGf at h
  split at h
  · next k st0 =>
    split at h
    · next o ho =>
      rw [vNth_eq] at ho
      cases hk : (Nat.beq o.1 (8 * a) && Nat.blt t 7) with
      | false =>
        rw [hk] at h
        cases h
      | true =>
        rw [hk] at h
        have hk := vBx hk
        rw [cond_true] at h
        split at h
        · next v hv =>
          rw [vNth_eq] at hv
          cases h
          exact ⟨k, st0, o, v, rfl, ho, Nat.eq_of_beq_eq_true hk.1, hv, rfl, rfl, rfl, rfl⟩
        · cases h
    · cases h
  · next st0 =>
    cases h1 : Nat.beq t 7 with
    | true => have := Nat.eq_of_beq_eq_true h1; omega
    | false =>
      cases h2 : Nat.beq t 8 with
      | true => have := Nat.eq_of_beq_eq_true h2; omega
      | false =>
        rw [h1, h2] at h
        cases h
  · cases h
theorem vGf_t {a b t pc1 pc' : Nat} {ls ls' : vLs} {st st' : List vAV} {hp hp' : List vOb} (ht : 7 ≤ t) (h : vGf a b t pc1 ls st hp = some (pc', ls', st', hp')) : ∃ st0, st = .inr (.inr (.inr (.inr 1))) :: st0 ∧ pc' = pc1 ∧ ls' = ls ∧ hp' = hp ∧ ((t = 7 ∧ st' = .inl 0 :: st0) ∨ (t = 8 ∧ st' = .inr (.inr (.inr (.inr 2))) :: st0)) := by
  unfold vGf at h
  split at h
  · next k st0 =>
    split at h
    · next o ho =>
      have h7 : Nat.blt t 7 = false := by
        cases hh : Nat.blt t 7 with
        | false => rfl
        | true => have := Nat.blt_eq.mp hh; omega
      rw [h7, Bool.and_false] at h
      cases h
    · cases h
  · next st0 =>
    cases h1 : Nat.beq t 7 with
    | true =>
      rw [h1] at h
      cases h
      exact ⟨st0, rfl, rfl, rfl, rfl, Or.inl ⟨Nat.eq_of_beq_eq_true h1, rfl⟩⟩
    | false =>
      cases h2 : Nat.beq t 8 with
      | true =>
        rw [h1, h2] at h
        cases h
        exact ⟨st0, rfl, rfl, rfl, rfl, Or.inr ⟨Nat.eq_of_beq_eq_true h2, rfl⟩⟩
      | false =>
        rw [h1, h2] at h
        cases h
  · cases h
theorem vPf_ok {a b t pc1 pc' : Nat} {ls ls' : vLs} {st st' : List vAV} {hp hp' : List vOb} (h : vPf a b t pc1 ls st hp = some (pc', ls', st', hp')) : ∃ k o v, st = v :: .inr (.inr (.inr (.inl (some k)))) :: st' ∧ hp[k]? = some o ∧ o.1 = 8 * a ∧ vFit t v = true ∧ b < o.2.length ∧ pc' = pc1 ∧ ls' = ls ∧ hp' = hp.set k (o.1, o.2.set b v) := by
  unfold vPf at h
  split at h
  · next v k st0 =>
    split at h
    · next o ho =>
      rw [vNth_eq] at ho
      cases hk : (Nat.beq o.1 (8 * a) && vFit t v) with
      | false =>
        rw [hk] at h
        cases h
      | true =>
        rw [hk] at h
        have hk := vBx hk
        rw [cond_true] at h
        split at h
        · next v0 hv =>
          rw [vNth_eq] at hv
          cases h
          exact ⟨k, o, v, rfl, ho, Nat.eq_of_beq_eq_true hk.1, hk.2, (List.getElem?_eq_some_iff.mp hv).1, rfl, rfl, rfl⟩
        · cases h
    · cases h
  · cases h
/-- field types by number -/
def vTy (t : Nat) (ty : FieldType) : Bool := match t, ty with
  | 0, .int => true
  | 1, .boolean => true
  | 2, .long => true
  | 3, .object _ => true
  | 3, .array _ => true
  | _, _ => false
theorem vFit_ok {t : Nat} {ty : FieldType} {c : vAV} {v : Value} {b sa sv : Nat} {ad : List Nat} (ht : vTy t ty = true) (hf : vFit t c = true) (hv : vG b sa sv ad c v) : narrow ty v = v ∧ fits ty v = true := by
  unfold vTy at ht
  split at ht
  · obtain ⟨x, rfl⟩ := vKd0 hv hf
    exact ⟨rfl, rfl⟩
  · rcases c with u | c1
    · have hf : Nat.ble u 1 = true := hf
      obtain ⟨-, rfl⟩ := hv
      have h1 : u ≤ 1 := Nat.le_of_ble_eq_true hf
      have : ∀ n, n < 2 → narrow .boolean (.int (nI n)) = .int (nI n) ∧ fits .boolean (.int (nI n)) = true := by decide +kernel
      exact this u (by omega)
    · have hf : false = true := hf
      cases hf
  · obtain ⟨x, rfl⟩ := vKd1 hv hf
    exact ⟨rfl, rfl⟩
  · rcases c with u | q' | u | r | z
    · cases hf
    · cases hf
    · cases hf
    · rcases r with - | k
      · have hv : v = .null := hv
        rw [hv]; exact ⟨rfl, rfl⟩
      · obtain ⟨a, -, rfl⟩ := hv
        exact ⟨rfl, rfl⟩
    · rcases hv with ⟨-, rfl⟩ | ⟨-, rfl⟩ | ⟨-, rfl⟩ | ⟨-, rfl | ⟨t, rfl⟩⟩ <;> exact ⟨rfl, rfl⟩
  · rcases c with u | q' | u | r | z
    · cases hf
    · cases hf
    · cases hf
    · rcases r with - | k
      · have hv : v = .null := hv
        rw [hv]; exact ⟨rfl, rfl⟩
      · obtain ⟨a, -, rfl⟩ := hv
        exact ⟨rfl, rfl⟩
    · rcases hv with ⟨-, rfl⟩ | ⟨-, rfl⟩ | ⟨-, rfl⟩ | ⟨-, rfl | ⟨t, rfl⟩⟩ <;> exact ⟨rfl, rfl⟩
  · cases ht
theorem vAld_ok {kd1 kd2 pc1 pc' : Nat} {sc : List vAV} {tx : List Nat} {ls ls' : vLs} {st st' : List vAV} {hp hp' : List vOb} (h : vAld kd1 kd2 pc1 sc tx ls st hp = some (pc', ls', st', hp')) :
    ∃ u st0, u < 65536 ∧ pc' = pc1 ∧ ls' = ls ∧ hp' = hp ∧ ((∃ k o v, st = .inl u :: .inr (.inr (.inr (.inl (some k)))) :: st0 ∧ hp[k]? = some o ∧ (o.1 % 8 = kd1 ∨ o.1 % 8 = kd2) ∧ o.2[u]? = some v ∧ st' = v :: st0) ∨
      (∃ v, st = .inl u :: .inr (.inr (.inr (.inr 0))) :: st0 ∧ kd1 = 1 ∧ sc[u]? = some v ∧ st' = v :: st0) ∨ (∃ v, st = .inl u :: .inr (.inr (.inr (.inr 2))) :: st0 ∧ kd1 = 2 ∧ tx[u]? = some v ∧ st' = .inl v :: st0)) := by
  unfold vAld at h
  split at h
  · next u k st0 =>
    split at h
    · next o ho =>
      rw [vNth_eq] at ho
      cases hk : ((Nat.beq (o.1 % 8) kd1 || Nat.beq (o.1 % 8) kd2) && Nat.blt u 65536) with
      | false =>
        rw [hk] at h
        cases h
      | true =>
        rw [hk] at h
        have hk := vBx hk
        rw [cond_true] at h
        split at h
        · next v hv =>
          rw [vNth_eq] at hv
          cases h
          refine ⟨u, st0, Nat.blt_eq.mp hk.2, rfl, rfl, rfl, Or.inl ⟨k, o, v, rfl, ho, ?_, hv, rfl⟩⟩
          have hk1 := hk.1
          rw [Bool.or_eq_true] at hk1
          exact hk1.imp Nat.eq_of_beq_eq_true Nat.eq_of_beq_eq_true
        · cases h
    · cases h
  · next u st0 =>
    cases hk : (Nat.beq kd1 1 && Nat.blt u 65536) with
    | false =>
      rw [hk] at h
      cases h
    | true =>
      rw [hk] at h
      have hk := vBx hk
      rw [cond_true] at h
      split at h
      · next v hv =>
        rw [vNth_eq] at hv
        cases h
        exact ⟨u, st0, Nat.blt_eq.mp hk.2, rfl, rfl, rfl, Or.inr (Or.inl ⟨v, rfl, Nat.eq_of_beq_eq_true hk.1, hv, rfl⟩)⟩
      · cases h
  · next u st0 =>
    cases hk : (Nat.beq kd1 2 && Nat.blt u 65536) with
    | false =>
      rw [hk] at h
      cases h
    | true =>
      rw [hk] at h
      have hk := vBx hk
      rw [cond_true] at h
      split at h
      · next v hv =>
        rw [vNth_eq] at hv
        cases h
        exact ⟨u, st0, Nat.blt_eq.mp hk.2, rfl, rfl, rfl, Or.inr (Or.inr ⟨v, rfl, Nat.eq_of_beq_eq_true hk.1, hv, rfl⟩)⟩
      · cases h
  · cases h
theorem vAst_ok {kd1 kd2 pc1 pc' : Nat} {ls ls' : vLs} {st st' : List vAV} {hp hp' : List vOb} (h : vAst kd1 kd2 pc1 ls st hp = some (pc', ls', st', hp')) :
    ∃ u k o v w, u < 65536 ∧ pc' = pc1 ∧ ls' = ls ∧ st = v :: .inl u :: .inr (.inr (.inr (.inl (some k)))) :: st' ∧ hp[k]? = some o ∧ (o.1 % 8 = kd1 ∨ o.1 % 8 = kd2) ∧ u < o.2.length ∧ vNar (o.1 % 8) v = some w ∧ hp' = hp.set k (o.1, o.2.set u w) := by
  unfold vAst at h
  split at h
  · next v u k st0 =>
    split at h
    · next o ho =>
      rw [vNth_eq] at ho
      cases hk : ((Nat.beq (o.1 % 8) kd1 || Nat.beq (o.1 % 8) kd2) && Nat.blt u 65536) with
      | false =>
        rw [hk] at h
        cases h
      | true =>
        rw [hk] at h
        have hk := vBx hk
        rw [cond_true] at h
        split at h
        · next v0 w hv hw =>
          rw [vNth_eq] at hv
          cases h
          have hk1 := hk.1
          rw [Bool.or_eq_true] at hk1
          exact ⟨u, k, o, v, w, Nat.blt_eq.mp hk.2, rfl, rfl, rfl, ho, hk1.imp Nat.eq_of_beq_eq_true Nat.eq_of_beq_eq_true, (List.getElem?_eq_some_iff.mp hv).1, hw, rfl⟩
        · cases h
    · cases h
  · cases h
theorem vAstR_ok {pc1 pc' : Nat} {ls ls' : vLs} {st st' : List vAV} {hp hp' : List vOb} (h : vAstR pc1 ls st hp = some (pc', ls', st', hp')) :
    ∃ u k j o o2, u < 65536 ∧ pc' = pc1 ∧ ls' = ls ∧ st = .inr (.inr (.inr (.inl (some j)))) :: .inl u :: .inr (.inr (.inr (.inl (some k)))) :: st' ∧ hp[k]? = some o ∧ hp[j]? = some o2 ∧ o.1 % 8 = 5 ∧ o2.1 % 8 = 0 ∧ o2.1 / 8 = o.1 / 8 ∧ u < o.2.length ∧ hp' = hp.set k (o.1, o.2.set u (.inr (.inr (.inr (.inl (some j)))))) := by
  unfold vAstR at h
  split at h
  · next j u k st0 =>
    split at h
    · next o o2 ho ho2 =>
      rw [vNth_eq] at ho ho2
      cases hk : (Nat.beq (o.1 % 8) 5 && Nat.beq (o2.1 % 8) 0 && Nat.beq (o2.1 / 8) (o.1 / 8) && Nat.blt u 65536) with
      | false =>
        rw [hk] at h
        cases h
      | true =>
        rw [hk] at h
        obtain ⟨hk, hk4⟩ := vBx hk
        obtain ⟨hk, hk3⟩ := vBx hk
        obtain ⟨hk1, hk2⟩ := vBx hk
        rw [cond_true] at h
        split at h
        · next v0 hv =>
          rw [vNth_eq] at hv
          cases h
          exact ⟨u, k, j, o, o2, Nat.blt_eq.mp hk4, rfl, rfl, rfl, ho, ho2, Nat.eq_of_beq_eq_true hk1, Nat.eq_of_beq_eq_true hk2, Nat.eq_of_beq_eq_true hk3, (List.getElem?_eq_some_iff.mp hv).1, rfl⟩
        · cases h
    · cases h
  · cases h

section VS2
variable {p : Program} {l : Launch} {e : Env} {R : Room} {s : State} {m : MethodId} {args : Array Value} {below : List Frame} {meth : Method} {c : Code} {H : Heap} {locs : List Loc} {cells slots : Nat} {Q : State → Prop}
variable {cc : ByteArray} {pc : Nat} {lsA : Array Slot} {stV : List Value} {D : va_G} {cl : List vw_C} {A : Nat → Prop} {ws : va_W} {tys : List (ClassId × FieldType)}
variable {b sa sv nL : Nat} {ls ls' : vLs} {st st' : List vAV} {hp hp' : List vOb} {pc' : Nat}

theorem vs_getf (hx : p.tables.exec = Jvm.exec) (hb : c.code = cc) (hW : vW cl D A s b sa sv hp ws tys H locs) (hL : vL b sa sv (vAd ws) nL ls lsA) (hT : vT b sa sv (vAd ws) st stV) {own C : String} {T : u_T} {N index a b1 t : Nat} {Ts : List Cond} (hts : ∀ w ∈ Ts, w.before args s = true) (hin : ∀ w ∈ u_ws C T N, w ∈ Ts) (hown : s.vm.findClass own = some m.cls) (hc : cl[a]? = some (C, T, N)) (hk : b1 < N) (hlink : (Cond.fieldLink own index (T b1).1 (T b1).2.1 (T b1).2.2.1).before args s = true) (ht : t < 7) (hdg : decode cc pc = .ok (.getfield index, 3)) (h : vGf a b1 t (pc + 3) ls st hp = some (pc', ls', st', hp')) (kk : vK p l e R s m args below meth c Q cl D A b sa sv nL ws pc' ls' st' hp' cells slots) : W p l e R s m args below meth c H locs cells slots Q (F0 m pc lsA stV) := by
  obtain ⟨k, st0, o, v, rfl, ho, ho1, hv, rfl, rfl, rfl, rfl⟩ := vGf_ok ht h
  match stV, hT with
  | x :: stV, hT =>
    obtain ⟨hP, hD, hS, hK, hH⟩ := hW
    obtain ⟨ad, ce, rfl, hw, hC⟩ := vH_at hH ho hT.1
    obtain ⟨fs, rfl, hl, hf⟩ := vC_0 hC (by omega)
    obtain ⟨y, hy1, hy2⟩ := hf b1 v hv
    have hd : o.1 / 8 = a := by omega
    rw [hd] at hw
    exact va_get (C := C) (T := T) (N := N) hx hb hts hin hown hK hP k hw hc b1 hk hlink (fun _ q => q) hy1 hdg (kk ws tys H locs lsA _ ⟨hP, hD, hS, hK, hH⟩ hL ⟨hy2, hT.2⟩ (vSub2.rf _))

theorem vs_putf (hx : p.tables.exec = Jvm.exec) (hb : c.code = cc) (hW : vW cl D A s b sa sv hp ws tys H locs) (hL : vL b sa sv (vAd ws) nL ls lsA) (hT : vT b sa sv (vAd ws) st stV) {own C : String} {T : u_T} {N index a b1 t : Nat} {Ts : List Cond} (hts : ∀ w ∈ Ts, w.before args s = true) (hin : ∀ w ∈ u_ws C T N, w ∈ Ts) (hown : s.vm.findClass own = some m.cls) (hc : cl[a]? = some (C, T, N)) (hk : b1 < N) (hlink : (Cond.fieldLink own index (T b1).1 (T b1).2.1 (T b1).2.2.1).before args s = true) (ty0 : Nat → FieldType) (hty : ∀ k, k < N → parseFieldDescriptor (T k).2.2.1 = some (ty0 k)) (hnm : ∀ a, a < N → ∀ b, b < N → a ≠ b → (T a).2.1 ≠ (T b).2.1) (hfin : (T b1).2.2.2 = false ∨ ((T b1).2.2.2 = true ∧ meth.name = "<init>" ∧ (T b1).1 = own)) (htt : vTy t (ty0 b1) = true) (hdg : decode cc pc = .ok (.putfield index, 3)) (h : vPf a b1 t (pc + 3) ls st hp = some (pc', ls', st', hp')) (kk : vK p l e R s m args below meth c Q cl D A b sa sv nL ws pc' ls' st' hp' cells slots) : W p l e R s m args below meth c H locs cells slots Q (F0 m pc lsA stV) := by
  obtain ⟨k, o, v, rfl, ho, ho1, hf, hbl, rfl, rfl, rfl⟩ := vPf_ok h
  match stV, hT with
  | y :: [], hT => exact hT.2.elim
  | y :: x :: stV, hT =>
    obtain ⟨hP, hD, hS, hK, hH⟩ := hW
    obtain ⟨hy, hxx, hT⟩ := hT
    obtain ⟨ad, ce, rfl, hw, hC⟩ := vH_at hH ho hxx
    obtain ⟨fs, rfl, hl, hfs⟩ := vC_0 hC (by omega)
    have hd : o.1 / 8 = a := by omega
    obtain ⟨n1, n2⟩ := vFit_ok htt hf hy
    have hC2 : vC cl b sa sv (vAd ws) tys (o.1, o.2.set b1 v) (.inr (a, fs.set b1 y)) := by
      refine vC_0i (o := (o.1, o.2.set b1 v)) (show o.1 % 8 = 0 by omega) ⟨fs.set b1 y, by rw [show (o.1, o.2.set b1 v).1 / 8 = a from hd], by simpa using hl, fun j c2 hj => ?_⟩
      have hj : (o.2.set b1 v)[j]? = some c2 := hj
      by_cases e1 : b1 = j
      · subst e1
        rw [List.getElem?_set_self hbl] at hj
        cases hj
        exact ⟨y, List.getElem?_set_self (by omega), hy⟩
      · rw [List.getElem?_set_ne e1] at hj
        obtain ⟨z, z1, z2⟩ := hfs j c2 hj
        exact ⟨z, by rw [List.getElem?_set_ne e1]; exact z1, z2⟩
    rw [hd] at hw
    have fin : ∀ (H1 : Heap) (locs1 : List Loc), va_P D cl (ws.set k (ad, .inr (a, fs.set b1 y))) H1 → va_D A (ws.set k (ad, .inr (a, fs.set b1 y))) → va_S A s.heap H1 locs1 → W p l e R s m args below meth c H1 locs1 cells slots Q (F0 m (pc + 3) lsA stV) :=
      fun H1 locs1 a1 a2 a3 => kk _ tys H1 locs1 lsA stV ⟨a1, a2, a3, hK, vH_set hH hw hC2⟩ (by rw [vAd_set hw]; exact hL) (by rw [vAd_set hw]; exact hT) (by rw [vAd_set hw]; exact vSub2.rf _)
    rcases hfin with h0 | ⟨h0, h1, h2⟩
    · exact va_put (C := C) (T := T) (N := N) hx hb hts hin ty0 hty hnm hown hK hP hD hS k hw hc b1 hk hlink (fun _ q => q) h0 (hty b1 hk) n1 n2 (by omega) hdg fin
    · exact va_putF (C := C) (T := T) (N := N) hx hb hts hin ty0 hty hnm hown hK hP hD hS k hw hc b1 hk hlink (fun _ q => q) h0 h1 h2 (hty b1 hk) n1 n2 (by omega) hdg fin

theorem vs_ald1 (hx : p.tables.exec = Jvm.exec) (hb : c.code = cc) (hW : vW cl D A s b sa sv hp ws tys H locs) (hL : vL b sa sv (vAd ws) nL ls lsA) (hT : vT b sa sv (vAd ws) st stV) {u k : Nat} {o : vOb} {v : vAV} {st0 : List vAV} (hu : u < 65536) (hst : st = .inl u :: .inr (.inr (.inr (.inl (some k)))) :: st0) (ho : hp[k]? = some o) (hk : o.1 % 8 = 1) (hv : o.2[u]? = some v) (hls : ls' = ls) (hhp : hp' = hp) (hst' : st' = v :: st0) (hpc : pc' = pc + 1) (hdg : decode cc pc = .ok (.iaload, 1)) (kk : vK p l e R s m args below meth c Q cl D A b sa sv nL ws pc' ls' st' hp' cells slots) : W p l e R s m args below meth c H locs cells slots Q (F0 m pc lsA stV) := by
  subst hst hls hhp hst' hpc
  match stV, hT with
  | y :: [], hT => exact hT.2.elim
  | y :: x :: stV, hT =>
    obtain ⟨hP, hD, hS, hK, hH⟩ := hW
    obtain ⟨⟨-, rfl⟩, hxx, hT⟩ := hT
    obtain ⟨ad, ce, rfl, hw, hC⟩ := vH_at hH ho hxx
    obtain ⟨cA, f, t0, rfl, ht0, hf⟩ := vC_1 hC hk
    have hlt : u < o.2.length := (List.getElem?_eq_some_iff.mp hv).1
    refine va_iald hx hb hK hP k t0 hw ht0 (vin hlt hu) hdg ?_
    rw [vCl hu]
    exact kk ws tys H locs lsA _ ⟨hP, hD, hS, hK, hH⟩ hL ⟨hf u v hv, hT⟩ (vSub2.rf _)

theorem vs_ald2 (hx : p.tables.exec = Jvm.exec) (hb : c.code = cc) (hW : vW cl D A s b sa sv hp ws tys H locs) (hL : vL b sa sv (vAd ws) nL ls lsA) (hT : vT b sa sv (vAd ws) st stV) {u k : Nat} {o : vOb} {v : vAV} {st0 : List vAV} (hu : u < 65536) (hst : st = .inl u :: .inr (.inr (.inr (.inl (some k)))) :: st0) (ho : hp[k]? = some o) (hk : o.1 % 8 = 2) (hv : o.2[u]? = some v) (hls : ls' = ls) (hhp : hp' = hp) (hst' : st' = v :: st0) (hpc : pc' = pc + 1) (hdg : decode cc pc = .ok (.baload, 1)) (kk : vK p l e R s m args below meth c Q cl D A b sa sv nL ws pc' ls' st' hp' cells slots) : W p l e R s m args below meth c H locs cells slots Q (F0 m pc lsA stV) := by
  subst hst hls hhp hst' hpc
  match stV, hT with
  | y :: [], hT => exact hT.2.elim
  | y :: x :: stV, hT =>
    obtain ⟨hP, hD, hS, hK, hH⟩ := hW
    obtain ⟨⟨-, rfl⟩, hxx, hT⟩ := hT
    obtain ⟨ad, ce, rfl, hw, hC⟩ := vH_at hH ho hxx
    obtain ⟨cA, f, t0, rfl, ht0, hf⟩ := vC_2 hC hk
    have hlt : u < o.2.length := (List.getElem?_eq_some_iff.mp hv).1
    refine va_bald hx hb hK hP k t0 hw ht0 (vin hlt hu) hdg ?_
    rw [vCl hu]
    exact kk ws tys H locs lsA _ ⟨hP, hD, hS, hK, hH⟩ hL ⟨hf u v hv, hT⟩ (vSub2.rf _)

theorem vs_ald3 (hx : p.tables.exec = Jvm.exec) (hb : c.code = cc) (hW : vW cl D A s b sa sv hp ws tys H locs) (hL : vL b sa sv (vAd ws) nL ls lsA) (hT : vT b sa sv (vAd ws) st stV) {u k : Nat} {o : vOb} {v : vAV} {st0 : List vAV} (hu : u < 65536) (hst : st = .inl u :: .inr (.inr (.inr (.inl (some k)))) :: st0) (ho : hp[k]? = some o) (hk : o.1 % 8 = 3) (hv : o.2[u]? = some v) (hls : ls' = ls) (hhp : hp' = hp) (hst' : st' = v :: st0) (hpc : pc' = pc + 1) (hdg : decode cc pc = .ok (.baload, 1)) (kk : vK p l e R s m args below meth c Q cl D A b sa sv nL ws pc' ls' st' hp' cells slots) : W p l e R s m args below meth c H locs cells slots Q (F0 m pc lsA stV) := by
  subst hst hls hhp hst' hpc
  match stV, hT with
  | y :: [], hT => exact hT.2.elim
  | y :: x :: stV, hT =>
    obtain ⟨hP, hD, hS, hK, hH⟩ := hW
    obtain ⟨⟨-, rfl⟩, hxx, hT⟩ := hT
    obtain ⟨ad, ce, rfl, hw, hC⟩ := vH_at hH ho hxx
    obtain ⟨cA, f, t0, rfl, ht0, hf⟩ := vC_3 hC hk
    have hlt : u < o.2.length := (List.getElem?_eq_some_iff.mp hv).1
    refine va_zald hx hb hK hP k t0 hw ht0 (vin hlt hu) hdg ?_
    rw [vCl hu]
    exact kk ws tys H locs lsA _ ⟨hP, hD, hS, hK, hH⟩ hL ⟨hf u v hv, hT⟩ (vSub2.rf _)

theorem vs_ald4 (hx : p.tables.exec = Jvm.exec) (hb : c.code = cc) (hW : vW cl D A s b sa sv hp ws tys H locs) (hL : vL b sa sv (vAd ws) nL ls lsA) (hT : vT b sa sv (vAd ws) st stV) {u k : Nat} {o : vOb} {v : vAV} {st0 : List vAV} (hu : u < 65536) (hst : st = .inl u :: .inr (.inr (.inr (.inl (some k)))) :: st0) (ho : hp[k]? = some o) (hk : o.1 % 8 = 4) (hv : o.2[u]? = some v) (hls : ls' = ls) (hhp : hp' = hp) (hst' : st' = v :: st0) (hpc : pc' = pc + 1) (hdg : decode cc pc = .ok (.laload, 1)) (kk : vK p l e R s m args below meth c Q cl D A b sa sv nL ws pc' ls' st' hp' cells slots) : W p l e R s m args below meth c H locs cells slots Q (F0 m pc lsA stV) := by
  subst hst hls hhp hst' hpc
  match stV, hT with
  | y :: [], hT => exact hT.2.elim
  | y :: x :: stV, hT =>
    obtain ⟨hP, hD, hS, hK, hH⟩ := hW
    obtain ⟨⟨-, rfl⟩, hxx, hT⟩ := hT
    obtain ⟨ad, ce, rfl, hw, hC⟩ := vH_at hH ho hxx
    obtain ⟨cA, f, t0, rfl, ht0, hf⟩ := vC_4 hC hk
    have hlt : u < o.2.length := (List.getElem?_eq_some_iff.mp hv).1
    refine va_lald hx hb hK hP k t0 hw ht0 (vin hlt hu) hdg ?_
    rw [vCl hu]
    exact kk ws tys H locs lsA _ ⟨hP, hD, hS, hK, hH⟩ hL ⟨hf u v hv, hT⟩ (vSub2.rf _)

theorem vs_ald5 (hx : p.tables.exec = Jvm.exec) (hb : c.code = cc) (hW : vW cl D A s b sa sv hp ws tys H locs) (hL : vL b sa sv (vAd ws) nL ls lsA) (hT : vT b sa sv (vAd ws) st stV) {u k : Nat} {o : vOb} {v : vAV} {st0 : List vAV} (hu : u < 65536) (hst : st = .inl u :: .inr (.inr (.inr (.inl (some k)))) :: st0) (ho : hp[k]? = some o) (hk : o.1 % 8 = 5) (hv : o.2[u]? = some v) (hls : ls' = ls) (hhp : hp' = hp) (hst' : st' = v :: st0) (hpc : pc' = pc + 1) (hdg : decode cc pc = .ok (.aaload, 1)) (kk : vK p l e R s m args below meth c Q cl D A b sa sv nL ws pc' ls' st' hp' cells slots) : W p l e R s m args below meth c H locs cells slots Q (F0 m pc lsA stV) := by
  subst hst hls hhp hst' hpc
  match stV, hT with
  | y :: [], hT => exact hT.2.elim
  | y :: x :: stV, hT =>
    obtain ⟨hP, hD, hS, hK, hH⟩ := hW
    obtain ⟨⟨-, rfl⟩, hxx, hT⟩ := hT
    obtain ⟨ad, ce, rfl, hw, hC⟩ := vH_at hH ho hxx
    obtain ⟨cA, f, t0, r, rfl, hr, ht0, hf⟩ := vC_5 hC hk
    have hlt : u < o.2.length := (List.getElem?_eq_some_iff.mp hv).1
    refine va_aldq hx hb hK hP k t0 hw ht0 (vin hlt hu) hdg ?_
    rw [vCl hu]
    exact kk ws tys H locs lsA _ ⟨hP, hD, hS, hK, hH⟩ hL ⟨hf u v hv, hT⟩ (vSub2.rf _)

theorem vs_ast1 (hx : p.tables.exec = Jvm.exec) (hb : c.code = cc) (hW : vW cl D A s b sa sv hp ws tys H locs) (hL : vL b sa sv (vAd ws) nL ls lsA) (hT : vT b sa sv (vAd ws) st stV) {u k : Nat} {o : vOb} {v w : vAV} (hu : u < 65536) (hst : st = v :: .inl u :: .inr (.inr (.inr (.inl (some k)))) :: st') (ho : hp[k]? = some o) (hk : o.1 % 8 = 1) (hul : u < o.2.length) (hn : vNar (o.1 % 8) v = some w) (hls : ls' = ls) (hhp : hp' = hp.set k (o.1, o.2.set u w)) (hpc : pc' = pc + 1) (hdg : decode cc pc = .ok (.iastore, 1)) (kk : vK p l e R s m args below meth c Q cl D A b sa sv nL ws pc' ls' st' hp' cells slots) : W p l e R s m args below meth c H locs cells slots Q (F0 m pc lsA stV) := by
  subst hst hls hhp hpc
  match stV, hT with
  | y :: [], hT => exact hT.2.elim
  | y :: x :: [], hT => exact hT.2.2.elim
  | y :: x :: z :: stV, hT =>
    obtain ⟨hP, hD, hS, hK, hH⟩ := hW
    obtain ⟨hy, ⟨-, rfl⟩, hxx, hT9⟩ := hT
    obtain ⟨ad, ce, rfl, hw, hC⟩ := vH_at hH ho hxx
    obtain ⟨cA, f, t0, rfl, ht0, hf⟩ := vC_1 hC hk
    rw [hk] at hn
    have hn : (bif Nat.beq (vKd v) 0 then some v else none) = some w := hn
    cases hk0 : Nat.beq (vKd v) 0 with
    | false => rw [hk0] at hn; cases hn
    | true =>
      rw [hk0] at hn
      cases hn
      obtain ⟨X, rfl⟩ := vKd0 hy hk0
      refine va_iast hx hb hK hP hD hS k t0 hw ht0 (vin hul hu) hdg (fun H1 locs1 a1 a2 a3 => ?_)
      have hC2 : vC cl b sa sv (vAd ws) tys (o.1, o.2.set u v) (.inl (cA, o.2.length, .inl (upd f (nI u).toNatClampNeg X))) := by
        refine vC_1i (o := (o.1, o.2.set u v)) hk ⟨cA, upd f (nI u).toNatClampNeg X, t0, by simp only [List.length_set], ht0, fun j c2 hj => ?_⟩
        have hj : (o.2.set u v)[j]? = some c2 := hj
        rw [vCl hu]
        by_cases e1 : u = j
        · subst e1
          rw [List.getElem?_set_self hul] at hj
          cases hj
          rw [pk_us]
          exact hy
        · rw [List.getElem?_set_ne e1] at hj
          rw [pk_un (fun q => e1 q.symm)]
          exact hf j c2 hj
      exact kk _ tys H1 locs1 lsA stV ⟨a1, a2, a3, hK, vH_set hH hw hC2⟩ (by rw [vAd_set hw]; exact hL) (by rw [vAd_set hw]; exact hT9) (by rw [vAd_set hw]; exact vSub2.rf _)

theorem vNar2 {v w : vAV} (h : vNar 2 v = some w) : (∃ u, v = .inl u ∧ w = .inl (kNarB u)) ∨ (Nat.beq (vKd v) 0 = true ∧ w = vAny) := by
  rcases v with u | q | u | o | z
  · exact Or.inl ⟨u, rfl, (Option.some.inj h).symm⟩
  · exact Or.inr ⟨rfl, (Option.some.inj h).symm⟩
  · cases h
  · rcases o with _ | k
    · cases h
    · cases h
  · right
    have h : (bif Nat.beq (vKd (.inr (.inr (.inr (.inr z))))) 0 then some vAny else none) = some w := h
    cases hb : Nat.beq (vKd (.inr (.inr (.inr (.inr z))))) 0 with
    | true => rw [hb] at h; exact ⟨rfl, (Option.some.inj h).symm⟩
    | false => rw [hb] at h; cases h
theorem vs_ast2 (hx : p.tables.exec = Jvm.exec) (hb : c.code = cc) (hW : vW cl D A s b sa sv hp ws tys H locs) (hL : vL b sa sv (vAd ws) nL ls lsA) (hT : vT b sa sv (vAd ws) st stV) {u k : Nat} {o : vOb} {v w : vAV} (hu : u < 65536) (hst : st = v :: .inl u :: .inr (.inr (.inr (.inl (some k)))) :: st') (ho : hp[k]? = some o) (hk : o.1 % 8 = 2) (hul : u < o.2.length) (hn : vNar (o.1 % 8) v = some w) (hls : ls' = ls) (hhp : hp' = hp.set k (o.1, o.2.set u w)) (hpc : pc' = pc + 1) (hdg : decode cc pc = .ok (.bastore, 1)) (kk : vK p l e R s m args below meth c Q cl D A b sa sv nL ws pc' ls' st' hp' cells slots) : W p l e R s m args below meth c H locs cells slots Q (F0 m pc lsA stV) := by
  subst hst hls hhp hpc
  match stV, hT with
  | y :: [], hT => exact hT.2.elim
  | y :: x :: [], hT => exact hT.2.2.elim
  | y :: x :: z :: stV, hT =>
    obtain ⟨hP, hD, hS, hK, hH⟩ := hW
    obtain ⟨hy, ⟨-, rfl⟩, hxx, hT9⟩ := hT
    obtain ⟨ad, ce, rfl, hw, hC⟩ := vH_at hH ho hxx
    obtain ⟨cA, f, t0, rfl, ht0, hf⟩ := vC_2 hC hk
    rw [hk] at hn
    have hgo : ∀ X : Int32, y = .int X → (∀ ad9 : List Nat, vG b sa sv ad9 w (.int (vp_nar .byte X))) → W p l e R s m args below meth c H locs cells slots Q (F0 m pc lsA (y :: .int (nI u) :: .ref ad :: stV)) := by
      intro X hX hwv
      subst hX
      refine va_bast hx hb hK hP hD hS k t0 hw ht0 (vin hul hu) hdg (fun H1 locs1 a1 a2 a3 => ?_)
      have hC2 : vC cl b sa sv (vAd ws) tys (o.1, o.2.set u w) (.inl (cA, o.2.length, .inl (upd f (nI u).toNatClampNeg (vp_nar .byte X)))) := by
        refine vC_2i (o := (o.1, o.2.set u w)) hk ⟨cA, upd f (nI u).toNatClampNeg (vp_nar .byte X), t0, by simp only [List.length_set], ht0, fun j c2 hj => ?_⟩
        have hj : (o.2.set u w)[j]? = some c2 := hj
        rw [vCl hu]
        by_cases e1 : u = j
        · subst e1
          rw [List.getElem?_set_self hul] at hj
          cases hj
          rw [pk_us]
          exact hwv _
        · rw [List.getElem?_set_ne e1] at hj
          rw [pk_un (fun q => e1 q.symm)]
          exact hf j c2 hj
      exact kk _ tys H1 locs1 lsA stV ⟨a1, a2, a3, hK, vH_set hH hw hC2⟩ (by rw [vAd_set hw]; exact hL) (by rw [vAd_set hw]; exact hT9) (by rw [vAd_set hw]; exact vSub2.rf _)
    rcases vNar2 hn with ⟨u2, rfl, rfl⟩ | ⟨hk0, rfl⟩
    · exact hgo (nI u2) hy.2 (fun ad9 => ⟨kn_lt _, congrArg Value.int (kn_nIb _).symm⟩)
    · obtain ⟨X, hX⟩ := vKd0 hy hk0
      exact hgo X hX (fun ad9 => vAny_ok _)

theorem vs_ast3 (hx : p.tables.exec = Jvm.exec) (hb : c.code = cc) (hW : vW cl D A s b sa sv hp ws tys H locs) (hL : vL b sa sv (vAd ws) nL ls lsA) (hT : vT b sa sv (vAd ws) st stV) {u k : Nat} {o : vOb} {v w : vAV} (hu : u < 65536) (hst : st = v :: .inl u :: .inr (.inr (.inr (.inl (some k)))) :: st') (ho : hp[k]? = some o) (hk : o.1 % 8 = 3) (hul : u < o.2.length) (hn : vNar (o.1 % 8) v = some w) (hls : ls' = ls) (hhp : hp' = hp.set k (o.1, o.2.set u w)) (hpc : pc' = pc + 1) (hdg : decode cc pc = .ok (.bastore, 1)) (kk : vK p l e R s m args below meth c Q cl D A b sa sv nL ws pc' ls' st' hp' cells slots) : W p l e R s m args below meth c H locs cells slots Q (F0 m pc lsA stV) := by
  subst hst hls hhp hpc
  match stV, hT with
  | y :: [], hT => exact hT.2.elim
  | y :: x :: [], hT => exact hT.2.2.elim
  | y :: x :: z :: stV, hT =>
    obtain ⟨hP, hD, hS, hK, hH⟩ := hW
    obtain ⟨hy, ⟨-, rfl⟩, hxx, hT9⟩ := hT
    obtain ⟨ad, ce, rfl, hw, hC⟩ := vH_at hH ho hxx
    obtain ⟨cA, f, t0, rfl, ht0, hf⟩ := vC_3 hC hk
    rw [hk] at hn
    rcases v with u1 | v1
    · have hn : (bif Nat.ble u1 1 then some (.inl u1 : vAV) else none) = some w := hn
      cases hk0 : Nat.ble u1 1 with
      | false => rw [hk0] at hn; cases hn
      | true =>
      rw [hk0] at hn
      cases hn
      obtain ⟨hu1, rfl⟩ := hy
      have hb1 : vp_nar .boolean (nI u1) = nI u1 := (show ∀ n, n < 2 → vp_nar .boolean (nI n) = nI n by decide +kernel) u1 (by have := Nat.le_of_ble_eq_true hk0; omega)
      refine va_zast hx hb hK hP hD hS k t0 hw ht0 (vin hul hu) hdg (fun H1 locs1 a1 a2 a3 => ?_)
      have hC2 : vC cl b sa sv (vAd ws) tys (o.1, o.2.set u (.inl u1)) (.inl (cA, o.2.length, .inl (upd f (nI u).toNatClampNeg (vp_nar .boolean (nI u1))))) := by
        refine vC_3i (o := (o.1, o.2.set u (.inl u1))) hk ⟨cA, upd f (nI u).toNatClampNeg (vp_nar .boolean (nI u1)), t0, by simp only [List.length_set], ht0, fun j c2 hj => ?_⟩
        have hj : (o.2.set u (.inl u1))[j]? = some c2 := hj
        rw [vCl hu]
        by_cases e1 : u = j
        · subst e1
          rw [List.getElem?_set_self hul] at hj
          cases hj
          rw [pk_us]
          rw [hb1]; exact ⟨hu1, rfl⟩
        · rw [List.getElem?_set_ne e1] at hj
          rw [pk_un (fun q => e1 q.symm)]
          exact hf j c2 hj
      exact kk _ tys H1 locs1 lsA stV ⟨a1, a2, a3, hK, vH_set hH hw hC2⟩ (by rw [vAd_set hw]; exact hL) (by rw [vAd_set hw]; exact hT9) (by rw [vAd_set hw]; exact vSub2.rf _)
    · have hn : (none : Option vAV) = some w := hn
      cases hn

theorem vs_ast4 (hx : p.tables.exec = Jvm.exec) (hb : c.code = cc) (hW : vW cl D A s b sa sv hp ws tys H locs) (hL : vL b sa sv (vAd ws) nL ls lsA) (hT : vT b sa sv (vAd ws) st stV) {u k : Nat} {o : vOb} {v w : vAV} (hu : u < 65536) (hst : st = v :: .inl u :: .inr (.inr (.inr (.inl (some k)))) :: st') (ho : hp[k]? = some o) (hk : o.1 % 8 = 4) (hul : u < o.2.length) (hn : vNar (o.1 % 8) v = some w) (hls : ls' = ls) (hhp : hp' = hp.set k (o.1, o.2.set u w)) (hpc : pc' = pc + 1) (hdg : decode cc pc = .ok (.lastore, 1)) (kk : vK p l e R s m args below meth c Q cl D A b sa sv nL ws pc' ls' st' hp' cells slots) : W p l e R s m args below meth c H locs cells slots Q (F0 m pc lsA stV) := by
  subst hst hls hhp hpc
  match stV, hT with
  | y :: [], hT => exact hT.2.elim
  | y :: x :: [], hT => exact hT.2.2.elim
  | y :: x :: z :: stV, hT =>
    obtain ⟨hP, hD, hS, hK, hH⟩ := hW
    obtain ⟨hy, ⟨-, rfl⟩, hxx, hT9⟩ := hT
    obtain ⟨ad, ce, rfl, hw, hC⟩ := vH_at hH ho hxx
    obtain ⟨cA, f, t0, rfl, ht0, hf⟩ := vC_4 hC hk
    rw [hk] at hn
    have hn : (bif Nat.beq (vKd v) 1 then some v else none) = some w := hn
    cases hk0 : Nat.beq (vKd v) 1 with
    | false => rw [hk0] at hn; cases hn
    | true =>
      rw [hk0] at hn
      cases hn
      obtain ⟨X, rfl⟩ := vKd1 hy hk0
      refine va_last hx hb hK hP hD hS k t0 hw ht0 (vin hul hu) hdg (fun H1 locs1 a1 a2 a3 => ?_)
      have hC2 : vC cl b sa sv (vAd ws) tys (o.1, o.2.set u v) (.inl (cA, o.2.length, .inr (.inl (vp_updL f (nI u).toNatClampNeg X)))) := by
        refine vC_4i (o := (o.1, o.2.set u v)) hk ⟨cA, vp_updL f (nI u).toNatClampNeg X, t0, by simp only [List.length_set], ht0, fun j c2 hj => ?_⟩
        have hj : (o.2.set u v)[j]? = some c2 := hj
        rw [vCl hu]
        by_cases e1 : u = j
        · subst e1
          rw [List.getElem?_set_self hul] at hj
          cases hj
          rw [pk_uLs]
          exact hy
        · rw [List.getElem?_set_ne e1] at hj
          rw [pk_uLn (fun q => e1 q.symm)]
          exact hf j c2 hj
      exact kk _ tys H1 locs1 lsA stV ⟨a1, a2, a3, hK, vH_set hH hw hC2⟩ (by rw [vAd_set hw]; exact hL) (by rw [vAd_set hw]; exact hT9) (by rw [vAd_set hw]; exact vSub2.rf _)

theorem vs_ast5 (hx : p.tables.exec = Jvm.exec) (hb : c.code = cc) (hW : vW cl D A s b sa sv hp ws tys H locs) (hL : vL b sa sv (vAd ws) nL ls lsA) (hT : vT b sa sv (vAd ws) st stV) {u k j : Nat} {o o2 : vOb} (hu : u < 65536) (hst : st = .inr (.inr (.inr (.inl (some j)))) :: .inl u :: .inr (.inr (.inr (.inl (some k)))) :: st') (ho : hp[k]? = some o) (ho2 : hp[j]? = some o2) (hk : o.1 % 8 = 5) (hk2 : o2.1 % 8 = 0) (hkk : o2.1 / 8 = o.1 / 8) (hul : u < o.2.length) (hls : ls' = ls) (hhp : hp' = hp.set k (o.1, o.2.set u (.inr (.inr (.inr (.inl (some j))))))) (hpc : pc' = pc + 1) (hdg : decode cc pc = .ok (.aastore, 1)) (kk : vK p l e R s m args below meth c Q cl D A b sa sv nL ws pc' ls' st' hp' cells slots) : W p l e R s m args below meth c H locs cells slots Q (F0 m pc lsA stV) := by
  subst hst hls hhp hpc
  match stV, hT with
  | y :: [], hT => exact hT.2.elim
  | y :: x :: [], hT => exact hT.2.2.elim
  | y :: x :: z :: stV, hT =>
    obtain ⟨hP, hD, hS, hK, hH⟩ := hW
    obtain ⟨hy, ⟨-, rfl⟩, hxx, hT⟩ := hT
    obtain ⟨ad, ce, rfl, hw, hC⟩ := vH_at hH ho hxx
    obtain ⟨ad2, ce2, rfl, hw2, hC2⟩ := vH_at hH ho2 hy
    obtain ⟨cA, f, t0, r, rfl, hr, ht0, hf⟩ := vC_5 hC hk
    obtain ⟨fs, rfl, -, -⟩ := vC_0 hC2 hk2
    rw [hkk] at hw2
    refine va_astq hx hb hK hP hD hS k t0 j (o.1 / 8) hw ht0 hw2 hr (vin hul hu) hdg (fun H1 locs1 a1 a2 a3 => ?_)
    have hC3 : vC cl b sa sv (vAd ws) tys (o.1, o.2.set u (.inr (.inr (.inr (.inl (some j)))))) (.inl (cA, o.2.length, .inr (.inr (.inr (.inr (va_up f (nI u).toNatClampNeg (some ad2))))))) := by
      refine vC_5i (o := (o.1, o.2.set u (.inr (.inr (.inr (.inl (some j))))))) hk ⟨cA, va_up f (nI u).toNatClampNeg (some ad2), t0, r, by simp only [List.length_set], hr, ht0, fun i c2 hj => ?_⟩
      have hj : (o.2.set u (.inr (.inr (.inr (.inl (some j))))))[i]? = some c2 := hj
      rw [vCl hu]
      by_cases e1 : u = i
      · subst e1
        rw [List.getElem?_set_self hul] at hj
        cases hj
        rw [va_up_self]
        exact hy
      · rw [List.getElem?_set_ne e1] at hj
        rw [va_up_ne f (some ad2) (fun q => e1 q.symm)]
        exact hf i c2 hj
    exact kk _ tys H1 locs1 lsA stV ⟨a1, a2, a3, hK, vH_set hH hw hC3⟩ (by rw [vAd_set hw]; exact hL) (by rw [vAd_set hw]; exact hT) (by rw [vAd_set hw]; exact vSub2.rf _)

end VS2
