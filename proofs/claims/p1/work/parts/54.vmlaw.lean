/-! ===== the law's walk, run by the machine ===== -/
def vLC (p : Program) (s : State) (m : MethodId) (meth : Method) (c : Code) (b sa sv : Nat) (xs : Nat → Int32) : Prop :=
  p.tables.exec = Jvm.exec ∧ c.code = cL_law ∧ c.maxLocals = 7 ∧ s.vm.findClass RL = some m.cls ∧ (∀ w ∈ lw_tbl, w.before #[Value.ref b] s = true) ∧ vX sa sv (fun q => s.heap.size ≤ q) s s.heap ∧ meth.sig.returnType = ret ∧ meth.locks = false ∧ b < s.heap.size ∧ va_X b 6 xs s s.heap
section VLAW
variable {p : Program} {l : Launch} {e : Env} {s : State} {m : MethodId} {below : List Frame} {meth : Method} {c : Code} {b sa sv : Nat} {D : va_G} {xs : Nat → Int32}
theorem vLaw_run {Q : State → Prop} (hx : p.tables.exec = Jvm.exec) (hb : c.code = cL_law) (hml : c.maxLocals = 7) (hown : s.vm.findClass RL = some m.cls) (hts : ∀ w ∈ lw_tbl, w.before #[Value.ref b] s = true) (hX : vX sa sv (fun q => s.heap.size ≤ q) s s.heap) {sc : List vAV} (hsc : vScr b sa sv (fun q => s.heap.size ≤ q) s sc)
    (f pc : Nat) (ls : vLs) (st : List vAV) (hp : List vOb) (ce sl : Nat) {pc' : Nat} {ls' : vLs} {st' : List vAV} {hp' : List vOb} {ce' sl' : Nat} (h : vRun vcal vdf vt_law2 sc vTx 600002 7302232 f pc ls st hp ce sl = some (pc', ls', st', hp', ce', sl'))
    (ws : va_W) (tys : List (ClassId × FieldType)) (H : Heap) (locs : List Loc) (lsA : Array Slot) (stV : List Value) (hW : vW vwCl D (fun q => s.heap.size ≤ q) s b sa sv hp ws tys H locs) (hL : vL b sa sv (vAd ws) 7 ls lsA) (hT : vT b sa sv (vAd ws) st stV)
    (kk : vK p l e room_1 s m #[Value.ref b] below meth c Q vwCl D (fun q => s.heap.size ≤ q) b sa sv 7 ws pc' ls' st' hp' ce' sl') : W p l e room_1 s m #[Value.ref b] below meth c H locs ce sl Q (F0 m pc lsA stV) :=
  vRun_ok (Ts := lw_tbl) (own := RL) (ini := false) (vms := vms) (df := vdf) (R := room_1) hx hb hml hown hts (fun w h => (WT_in h).1) (fun h => by cases h) vcls (by decide) hsc hX (fun q h => h) ⟨vcm.1, vcm.2.1, (WT_in vcm.2.2.1).1, vcm.2.2.2.1, vcm.2.2.2.2⟩ (vcal_ok l) rfl rfl
    (fun pc i len a b t hg => ⟨(vlaw_get hg).1, vChk_ok (R := room_1) vlk_RL_ok vkn (vlaw_get hg).2⟩) f pc ls st hp ce sl h ws tys H locs lsA stV hW hL hT kk
theorem vd_1489 : decode code 1489 = .ok (.ireturn, 1) := by decide +kernel
theorem vLaw_end (hx : p.tables.exec = Jvm.exec) (hb : c.code = cL_law) (hr : meth.sig.returnType = ret) (hlocks : meth.locks = false) {hp : List vOb} {ws : va_W} {tys : List (ClassId × FieldType)} {H : Heap} {locs : List Loc} {lsA : Array Slot} {stV : List Value} {ce sl : Nat} (hW : vW vwCl D (fun q => s.heap.size ≤ q) s b sa sv hp ws tys H locs) (hT : vT b sa sv (vAd ws) [.inl 1] stV) (hce : ce ≤ 600002) (hsl : sl ≤ 7302232) :
    W p l e room_1 s m #[Value.ref b] below meth c H locs ce sl (lw_Z below #[Value.ref b] s) (F0 m 1489 lsA stV) := by
  match stV, hT with
  | [v], hT =>
    obtain ⟨-, rfl⟩ := hT.1
    refine va_forget hW.2.2.1.2.2 ?_
    refine W.widen hce hsl ?_
    exact lw_ret hx hb hr hlocks vd_1489
  | v :: w :: r, hT => exact hT.2.elim
noncomputable def vGoS (sc : List vAV) (pc : Nat) (ls : vLs) (st : List vAV) (hp : List vOb) (ce sl : Nat) : Bool := match vRun vcal vdf vt_law2 sc vTx 600002 7302232 100000 pc ls st hp ce sl with
  | some (pc', _, st', _, ce', sl') => Nat.beq pc' 1489 && (match st' with
    | [.inl u] => Nat.beq u 1
    | _ => false) && Nat.ble ce' 600002 && Nat.ble sl' 7302232
  | none => false
noncomputable def vGo (sc : List vAV) (pc : Nat) : Bool := vGoS sc pc ls0 [] hp0 249 7595
theorem vGoS_ok (hx : p.tables.exec = Jvm.exec) (hb : c.code = cL_law) (hml : c.maxLocals = 7) (hown : s.vm.findClass RL = some m.cls) (hts : ∀ w ∈ lw_tbl, w.before #[Value.ref b] s = true) (hX : vX sa sv (fun q => s.heap.size ≤ q) s s.heap) (hr : meth.sig.returnType = ret) (hlocks : meth.locks = false) {sc : List vAV} (hsc : vScr b sa sv (fun q => s.heap.size ≤ q) s sc)
    {pc : Nat} {ls : vLs} {st : List vAV} {hp : List vOb} {ce sl : Nat} (h : vGoS sc pc ls st hp ce sl = true) {ws : va_W} {tys : List (ClassId × FieldType)} {H : Heap} {locs : List Loc} {lsA : Array Slot} {stV : List Value} (hW : vW vwCl D (fun q => s.heap.size ≤ q) s b sa sv hp ws tys H locs) (hL : vL b sa sv (vAd ws) 7 ls lsA) (hT : vT b sa sv (vAd ws) st stV) :
    W p l e room_1 s m #[Value.ref b] below meth c H locs ce sl (lw_Z below #[Value.ref b] s) (F0 m pc lsA stV) := by
  unfold vGoS at h
  split at h
  · next pc' ls' st' hp' ce' sl' hrun =>
    obtain ⟨h, h4⟩ := vBx h
    obtain ⟨h, h3⟩ := vBx h
    obtain ⟨h1, h2⟩ := vBx h
    have h1 := Nat.eq_of_beq_eq_true h1
    subst h1
    refine vLaw_run hx hb hml hown hts hX hsc _ _ _ _ _ _ _ hrun ws tys H locs lsA stV hW hL hT ?_
    intro ws2 tys2 H2 locs2 lsA2 stV2 hW2 hL2 hT2 hsb2
    split at h2
    · next u =>
      have h2 := Nat.eq_of_beq_eq_true h2
      subst h2
      exact vLaw_end hx hb hr hlocks hW2 hT2 (Nat.le_of_ble_eq_true h3) (Nat.le_of_ble_eq_true h4)
    · cases h2
  · cases h
/-- cells that cover all ints from a bound on -/
def vSm (c : vAV) : Bool := match c with
  | .inl u => Nat.ble u 4294967295
  | _ => true
noncomputable def vCov : List vAV → Nat → Bool
  | [], n => Nat.ble 4294967296 n
  | c :: cs, n => match vIv c with
    | some q => (Nat.beq q.1 n && vSm c) && vCov cs (q.2 + 1)
    | none => false
theorem vCov_in {c : vAV} {q : Nat × Nat} (hq : vIv c = some q) (h3 : vSm c = true) (x : Int32) (h1 : (q.1 : Int) ≤ x.toInt + 2147483648) (hle : x.toInt + 2147483648 ≤ (q.2 : Int)) (b sa sv : Nat) : vG b sa sv [] c (.int x) := by
  rcases c with u | q' | u | r | z
  · have hu : u ≤ 4294967295 := Nat.le_of_ble_eq_true h3
    have hq : vF ((u + 2147483648) % 4294967296) (fun r => some (r, r)) = some q := hq
    rw [vF_eq] at hq
    have hq := Option.some.inj hq
    have hu2 : u < 4294967296 := by omega
    have hbu := vn_bias hu2
    generalize (u + 2147483648) % 4294967296 = w at hq hbu
    subst hq
    have e : x = nI u := Int32.toInt_inj.mp (by simp only at h1 hle; omega)
    exact ⟨hu2, by rw [e]⟩
  · have hq : some q' = some q := hq
    have hq := Option.some.inj hq
    subst hq
    exact ⟨x, rfl, h1, hle⟩
  · have hq : (none : Option (Nat × Nat)) = some q := hq
    cases hq
  · have hq : (none : Option (Nat × Nat)) = some q := hq
    cases hq
  · have hq : (none : Option (Nat × Nat)) = some q := hq
    cases hq
theorem vCov_ok : ∀ (cs : List vAV) (n : Nat), vCov cs n = true → ∀ x : Int32, (n : Int) ≤ x.toInt + 2147483648 → ∃ c ∈ cs, ∀ b sa sv, vG b sa sv [] c (.int x) := by
  intro cs
  induction cs with
  | nil =>
    intro n h x hx
    simp only [vCov] at h
    have h := Nat.le_of_ble_eq_true h
    have := Int32.toInt_lt x
    simp at this
    omega
  | cons c cs ih =>
    intro n h x hx
    simp only [vCov] at h
    split at h
    · next q hq =>
      obtain ⟨h, h4⟩ := vBx h
      obtain ⟨h1, h3⟩ := vBx h
      have h1 := Nat.eq_of_beq_eq_true h1
      by_cases hle : x.toInt + 2147483648 ≤ (q.2 : Int)
      · exact ⟨c, List.mem_cons_self, fun b sa sv => vCov_in hq h3 x (by omega) hle b sa sv⟩
      · obtain ⟨c', hc', hg⟩ := ih (q.2 + 1) h4 x (by omega)
        exact ⟨c', List.mem_cons_of_mem _ hc', hg⟩
    · cases h
theorem vCov_all {cs : List vAV} (h : vCov cs 0 = true) (x : Int32) : ∃ c ∈ cs, ∀ b sa sv, vG b sa sv [] c (.int x) := vCov_ok cs 0 h x (by
  have := Int32.le_toInt x
  simp at this
  omega)
theorem vScr_of (K : vLC p s m meth c b sa sv xs) {c1 c2 : vAV} (h1 : ∀ b sa sv, vG b sa sv [] c1 (.int (xs 1))) (h2 : ∀ b sa sv, vG b sa sv [] c2 (.int (xs 2))) : vScr b sa sv (fun q => s.heap.size ≤ q) s [vAny, c1, c2, vAny, vAny, vAny] := by
  obtain ⟨-, -, -, -, -, -, -, -, hbl, hX6⟩ := K
  refine Or.inr ⟨xs, hX6, hbl, fun (q : s.heap.size ≤ b) => by omega, fun j c0 hj => ?_⟩
  match j, hj with
  | 0, hj => cases hj; exact vAny_ok _
  | 1, hj => cases hj; exact h1 _ _ _
  | 2, hj => cases hj; exact h2 _ _ _
  | 3, hj => cases hj; exact vAny_ok _
  | 4, hj => cases hj; exact vAny_ok _
  | 5, hj => cases hj; exact vAny_ok _
  | n + 6, hj => simp at hj
/-- a case of the law, by cells of its first two arguments -/
theorem vCase (K : vLC p s m meth c b sa sv xs) {pc : Nat} (cs1 cs2 : List vAV) (k1 : vCov cs1 0 = true) (k2 : vCov cs2 0 = true) (h : cs1.all (fun c1 => cs2.all (fun c2 => vGo [vAny, c1, c2, vAny, vAny, vAny] pc)) = true)
    {ws : va_W} {tys : List (ClassId × FieldType)} {H : Heap} {locs : List Loc} {lsA : Array Slot} {stV : List Value} (hW : vW vwCl D (fun q => s.heap.size ≤ q) s b sa sv hp0 ws tys H locs) (hL : vL b sa sv (vAd ws) 7 ls0 lsA) (hT : vT b sa sv (vAd ws) [] stV) :
    W p l e room_1 s m #[Value.ref b] below meth c H locs 249 7595 (lw_Z below #[Value.ref b] s) (F0 m pc lsA stV) := by
  obtain ⟨c1, m1, g1⟩ := vCov_all k1 (xs 1)
  obtain ⟨c2, m2, g2⟩ := vCov_all k2 (xs 2)
  have hg := List.all_eq_true.mp (List.all_eq_true.mp h c1 m1) c2 m2
  have hsc := vScr_of K g1 g2
  obtain ⟨hx, hb, hml, hown, hts, hX, hr, hlocks, hbl, hX6⟩ := K
  exact vGoS_ok hx hb hml hown hts hX hr hlocks hsc hg hW hL hT
end VLAW
