/-! ===== what goes along with every call: the classes, the nest's links, the text, statics ===== -/
def vwCl : List vw_C := [(RX0, TX0, 1), (RX1, TX1, 4), (RX2, TX2, 7), (RX3, TX3, 11), (RX4, TX4, 6), (RX5, TX5, 3), (RX6, TX6, 13), (RX7, TX7, 12), (RX8, TX8, 9), (RX9, TX9, 19), (RX10, TX10, 3), (RX11, TX11, 19), (RX12, TX12, 60)]
def vNest : List Cond := [.methodLinkNest "PainPorters" 18 ⟨"PainPorters$Town", "<init>", "()V"⟩ "PainPorters", .methodLinkNest "PainPorters" 28 ⟨"PainPorters$TownReader", "<init>", "()V"⟩ "PainPorters", .methodLinkNest "PainPorters" 35 ⟨"PainPorters$State", "<init>", "()V"⟩ "PainPorters", .methodLinkNest "PainPorters" 45 ⟨"PainPorters$Sentence", "<init>", "()V"⟩ "PainPorters", .methodLinkNest "PainPorters" 55 ⟨"PainPorters$Log", "<init>", "()V"⟩ "PainPorters", .methodLinkNest "PainPorters$Past" 17 ⟨"PainPorters$State", "<init>", "()V"⟩ "PainPorters", .methodLinkNest "PainPorters" 79 ⟨"PainPorters$Loads", "<init>", "()V"⟩ "PainPorters", .methodLinkNest "PainPorters" 95 ⟨"PainPorters$Limps", "<init>", "()V"⟩ "PainPorters", .methodLinkNest "PainPorters" 102 ⟨"PainPorters$Draws", "<init>", "()V"⟩ "PainPorters", .methodLinkNest "PainPorters" 107 ⟨"PainPorters$Kept", "<init>", "()V"⟩ "PainPorters", .methodLinkNest "PainPorters$Kept" 9 ⟨"PainPorters$Town", "<init>", "()V"⟩ "PainPorters", .methodLinkNest "PainPorters$Kept" 18 ⟨"PainPorters$State", "<init>", "()V"⟩ "PainPorters", .methodLinkNest "PainPorters$Kept" 25 ⟨"PainPorters$Sentence", "<init>", "()V"⟩ "PainPorters"]
def vOver : List String := ["PainPorters$State", "PainPorters$Kept"]
def vTxS : String := "sort fixed talks person porter bars pain harm fetches drops hands home hour or and not carried lost over of with is weight left number "
def vTx : List Nat := [115, 111, 114, 116, 32, 102, 105, 120, 101, 100, 32, 116, 97, 108, 107, 115, 32, 112, 101, 114, 115, 111, 110, 32, 112, 111, 114, 116, 101, 114, 32, 98, 97, 114, 115, 32, 112, 97, 105, 110, 32, 104, 97, 114, 109, 32, 102, 101, 116, 99, 104, 101, 115, 32, 100, 114, 111, 112, 115, 32, 104, 97, 110, 100, 115, 32, 104, 111, 109, 101, 32, 104, 111, 117, 114, 32, 111, 114, 32, 97, 110, 100, 32, 110, 111, 116, 32, 99, 97, 114, 114, 105, 101, 100, 32, 108, 111, 115, 116, 32, 111, 118, 101, 114, 32, 111, 102, 32, 119, 105, 116, 104, 32, 105, 115, 32, 119, 101, 105, 103, 104, 116, 32, 108, 101, 102, 116, 32, 110, 117, 109, 98, 101, 114, 32]
theorem vNest_is : ∀ w ∈ vNest, ∃ (a : String) (i : Nat) (x : MethodName) (h : String), w = .methodLinkNest a i x h := by
  intro w hw
  simp only [vNest, List.mem_cons, List.not_mem_nil, or_false] at hw
  rcases hw with rfl | rfl | rfl | rfl | rfl | rfl | rfl | rfl | rfl | rfl | rfl | rfl | rfl <;> exact ⟨_, _, _, _, rfl⟩
theorem vTx_small : ∀ (j u : Nat), vTx[j]? = some u → u < 4294967296 := by
  intro j u h
  have := List.all_eq_true.mp (show vTx.all (fun u => decide (u < 256)) = true by decide +kernel) u (List.mem_of_getElem? h)
  have := of_decide_eq_true this
  omega
/-- the good words of the tables: what every method may use -/
def WT : List Cond := lw_tbl.filter goodWord
theorem WT_in {w : Cond} (h : w ∈ WT) : w ∈ lw_tbl ∧ goodWord w = true := List.mem_filter.mp h
theorem WT_of {w : Cond} (h : w ∈ lw_tbl) (g : goodWord w = true) : w ∈ WT := List.mem_filter.mpr ⟨h, g⟩
def vX (sa sv : Nat) (A : Nat → Prop) (U : State) (H : Heap) : Prop :=
  (∀ w ∈ vNest, va_Nw w U) ∧ (∀ C ∈ vOver, va_AO C U) ∧ vk_R RX6 19 vTxS sa U ∧ vk_S 1 [vTx.length] [vTx.map nI] (fun _ => sa) (fun _ => sv) A U H ∧ va_Z "java/lang/String" "COMPACT_STRINGS" "Z" (.int 1) A U H ∧ va_Zq "jdk/internal/util/Preconditions" "SIOOBE_FORMATTER" "Ljava/util/function/BiFunction;" A U H ∧ vx_Zq Bundle.tN "UNASSIGNED_STACK" Bundle.steD A U H ∧ vx_Zq Bundle.tN "SUPPRESSED_SENTINEL" Bundle.listD A U H
theorem vX.go {sa sv : Nat} {A A' : Nat → Prop} {s U : State} {H : Heap} {locs : List Loc} (hW : s.WarmedH U.vm) (hU : U.heap = H) (hS : va_S A s.heap H locs) (hn : ∀ q, A' q → A q) (h : vX sa sv A s s.heap) : vX sa sv A' U U.heap := by
  obtain ⟨h1, h2, h3, h4, h5, h8, h6, h7⟩ := h
  rw [hU]
  refine ⟨fun w hw => ?_, fun C hC => (h2 C hC).moved hW.alike, vk_R.warm hW h3, ((h4.kept hS.2.1).narrow hn).moved hW.alike, ((h5.kept hS.2.1).narrow hn).moved hW.alike, ((h8.kept hS.2.1).narrow hn).moved hW.alike, ((h6.kept hS.2.1).narrow hn).moved hW.alike, ((h7.kept hS.2.1).narrow hn).moved hW.alike⟩
  obtain ⟨a, i, x, hh, rfl⟩ := vNest_is w hw
  exact va_Nw.warmM hW (h1 _ hw)
theorem vX.calling {sa sv : Nat} {A : Nat → Prop} {U : State} {g : JFrame} {mk : MethodId} {a : Array Value} (h : vX sa sv A U U.heap) : vX sa sv A (U.calling g mk a) (U.calling g mk a).heap := by
  obtain ⟨h1, h2, h3, h4, h5, h8, h6, h7⟩ := h
  have hv : U.vm.Alike (U.calling g mk a).vm := Vm.Alike.refl U.vm
  refine ⟨fun w hw => ?_, fun C hC => (h2 C hC).moved hv, vk_R.same (u := U) rfl h3, h4.moved hv, h5.moved hv, h8.moved hv, h6.moved hv, h7.moved hv⟩
  obtain ⟨a, i, x, hh, rfl⟩ := vNest_is w hw
  exact va_Nw.same rfl rfl (h1 _ hw)
theorem vX.txt {sa sv : Nat} {A : Nat → Prop} {s : State} (h : vX sa sv A s s.heap) : vTxt sa sv A s vTx := ⟨h.2.2.2.1, vTx_small⟩
/-- a method: its name, code, locals, answer; its table; its class's number; frames and locals; cells and slots -/
abbrev vTbl : Type := Nat × Nat × List Instr
abbrev vMt : Type := MethodName × ByteArray × Nat × Option FieldType × vTbl × Nat × (Nat × Nat) × (Nat × Nat)
def mRm (M : vMt) : Room := { frames := M.2.2.2.2.2.2.1.1, cells := M.2.2.2.2.2.2.2.1, slots := M.2.2.2.2.2.2.2.2, locals := M.2.2.2.2.2.2.1.2 }
def mW (M : vMt) : List Cond := Cond.code M.1 M.2.1 M.2.2.1 M.2.2.2.1 :: WT
def vPre (D : va_G) (ws : va_W) (tys : List (ClassId × FieldType)) (sa sv sz : Nat) (U : State) : Prop := U.heap.size = sz ∧ va_P D vwCl ws U.heap ∧ va_K D vwCl tys U ∧ va_D (fun _ => True) ws ∧ vX sa sv (va_A ws sz) U U.heap
def vPo (ws : va_W) (b sa sv : Nat) (hp : List vOb) (u : va_W × List (ClassId × FieldType)) : Prop := vH vwCl b sa sv u.2 hp u.1 ∧ vSub2 (vAd ws) (vAd u.1)
def vPt (D : va_G) (ws : va_W) (sz : Nat) (u : va_W × List (ClassId × FieldType)) (t : State) : Prop := va_P D vwCl u.1 t.heap ∧ va_K D vwCl u.2 t ∧ va_D (va_A ws sz) u.1
def vQ (D : va_G) (ws : va_W) (sz b sa sv : Nat) (r : Option vAV) (hp : List vOb) : Array Value → State → Outcome → State → Prop := match r with
  | none => va_Qv (vPo ws b sa sv hp) (vPt D ws sz) (va_A ws sz)
  | some c => match vKd c with
    | 0 => va_Qi (fun x u => vG b sa sv (vAd u.1) c (.int x) ∧ vPo ws b sa sv hp u) (vPt D ws sz) (va_A ws sz)
    | 1 => va_Ql (fun x u => vG b sa sv (vAd u.1) c (.long x) ∧ vPo ws b sa sv hp u) (vPt D ws sz) (va_A ws sz)
    | _ => fun _ _ _ _ => False
/-- what is known of a callee -/
def vMet (l : Launch) (M : vMt) (av : List vAV) (hp : List vOb) (r : Option vAV) (hp' : List vOb) : Prop :=
  ∀ (D : va_G) (b sa sv : Nat) (ws : va_W) (tys : List (ClassId × FieldType)) (sz : Nat) (as : List Value), vT b sa sv (vAd ws) av as → vH vwCl b sa sv tys hp ws →
    Met l M.1 (mW M) (mRm M) (va_Pc as (vPre D ws tys sa sv sz)) (vQ D ws sz b sa sv r hp') (mRm M).cells (mRm M).slots (va_A ws sz)
theorem vPre.blind {D : va_G} {ws : va_W} {tys : List (ClassId × FieldType)} {sa sv sz : Nat} {as : List Value} : FrameBlind (va_Pc as (vPre D ws tys sa sv sz)) := by
  intro a U g mk q
  obtain ⟨q0, q1, qP, qK, qD, qX⟩ := q
  exact ⟨q0, q1, qP, va_K.moved (u := U) (U := U.calling g mk a) (Vm.Alike.refl U.vm) qK, qD, qX.calling⟩
section VCALL
variable {p : Program} {l : Launch} {e : Env} {R : Room} {s : State} {m : MethodId} {args : Array Value} {below : List Frame} {meth : Method} {c : Code} {H : Heap} {locs : List Loc} {cells slots : Nat} {Q : State → Prop}
variable {cc : ByteArray} {pc : Nat} {lsA : Array Slot} {stV : List Value} {D : va_G} {A : Nat → Prop} {ws : va_W} {tys : List (ClassId × FieldType)}
variable {b sa sv nL : Nat} {ls : vLs} {hp hp' : List vOb}
/-- all cells of the world, and all new ones, are the method's own -/
theorem vA_in (hW : vW vwCl D A s b sa sv hp ws tys H locs) (hA : ∀ q, s.heap.size ≤ q → A q) : ∀ q, va_A ws H.size q → A q := by
  obtain ⟨hP, hD, hS, hK, hH⟩ := hW
  rintro q (⟨k, e, h⟩ | h)
  · exact hD.2 k (q, e) h
  · exact hA q (Nat.le_trans hS.1 h)
theorem vPre.at (hW : vW vwCl D A s b sa sv hp ws tys H locs) (hA : ∀ q, s.heap.size ≤ q → A q) (hX : vX sa sv A s s.heap) {U : State} (hU : U.heap = H) (hw : s.WarmedH U.vm) : vPre D ws tys sa sv H.size U := by
  have hin := vA_in hW hA
  obtain ⟨hP, hD, hS, hK, hH⟩ := hW
  exact ⟨by rw [hU], by rw [hU]; exact hP, va_K.moved hw.alike hK, hD.weaken (fun _ _ _ _ => trivial), hX.go hw hU hS hin⟩
/-- behind a call -/
theorem vs_after {mc ms : Nat} {a : Array Value} {rest : List vAV} {restV : List Value} {r : Option vAV} (hW : vW vwCl D A s b sa sv hp ws tys H locs) (hL : vL b sa sv (vAd ws) nL ls lsA) (hT : vT b sa sv (vAd ws) rest restV) (hA : ∀ q, s.heap.size ≤ q → A q)
    (hr : va_Run p l e R s m args below meth c H locs cells slots mc ms (F0 m pc lsA stV) restV (vQ D ws H.size b sa sv r hp' a) (va_A ws H.size))
    (kk : vK p l e R s m args below meth c Q vwCl D A b sa sv nL ws (pc + 3) ls (r.toList ++ rest) hp' (cells + mc) (slots + ms)) : W p l e R s m args below meth c H locs cells slots Q (F0 m pc lsA stV) := by
  have hin := vA_in hW hA
  obtain ⟨hP, hD, hS, hK, hH⟩ := hW
  have fin : ∀ (u : va_W × List (ClassId × FieldType)) (t : State) (H1 : Heap) (locs1 : List Loc) (vv : List Value), t.heap = H1 → s.vm.Alike t.vm → vPo ws b sa sv hp' u → vPt D ws H.size u t → va_S A s.heap H1 locs1 → vT b sa sv (vAd u.1) r.toList vv →
      W p l e R s m args below meth c H1 locs1 (cells + mc) (slots + ms) Q (F0 m (pc + 3) lsA (vv ++ restV)) := by
    intro u t H1 locs1 vv ht hvm hpo hpt hS1 hvv
    obtain ⟨w1, w2, w3⟩ := hpt
    rw [ht] at w1
    refine kk u.1 u.2 H1 locs1 lsA (vv ++ restV) ⟨w1, w3.weaken (fun k q hk h => hin q.1 h), hS1, va_K.moved hvm.symm w2, hpo.1⟩ (vL_mono hpo.2 hL) ?_ hpo.2
    have key : ∀ (x : List vAV) (y : List Value), vT b sa sv (vAd u.1) x y → vT b sa sv (vAd u.1) (x ++ rest) (y ++ restV) := by
      intro x
      induction x with
      | nil =>
        intro y hy
        match y, hy with
        | [], _ => exact vT_mono hpo.2 hT
      | cons c cs ih =>
        intro y hy
        match y, hy with
        | v :: vs, hy => exact ⟨hy.1, ih vs hy.2⟩
    exact key _ _ hvv
  match r, hr, fin with
  | none, hr, fin => exact va_callv (a := a) hr hS (fun q _ h => hin q h) hin (fun u t H1 locs1 ht hvm hpo hpt _ _ hS1 => fin u t H1 locs1 [] ht hvm hpo hpt hS1 trivial)
  | some c0, hr, fin =>
    have hk : vKd c0 = 0 ∨ vKd c0 = 1 ∨ (vKd c0 = 2 ∨ vKd c0 = 3) := by
      rcases c0 with u | q | u | (- | k) | z
      · exact Or.inl rfl
      · exact Or.inl rfl
      · exact Or.inr (Or.inl rfl)
      · exact Or.inr (Or.inr (Or.inl rfl))
      · exact Or.inr (Or.inr (Or.inr rfl))
      · exact Or.inr (Or.inr (vKdz z))
    rcases hk with hk | hk | hk
    · have hq : vQ D ws H.size b sa sv (some c0) hp' = va_Qi (fun x u => vG b sa sv (vAd u.1) c0 (.int x) ∧ vPo ws b sa sv hp' u) (vPt D ws H.size) (va_A ws H.size) := by
        unfold vQ
        simp only [hk]
      rw [hq] at hr
      exact va_calli hr hS (fun q _ h => hin q h) hin (fun x u t H1 locs1 ht hvm hpo hpt _ _ hS1 => fin u t H1 locs1 [.int x] ht hvm hpo.2 hpt hS1 ⟨hpo.1, trivial⟩)
    · have hq : vQ D ws H.size b sa sv (some c0) hp' = va_Ql (fun x u => vG b sa sv (vAd u.1) c0 (.long x) ∧ vPo ws b sa sv hp' u) (vPt D ws H.size) (va_A ws H.size) := by
        unfold vQ
        simp only [hk]
      rw [hq] at hr
      exact va_calll hr hS (fun q _ h => hin q h) hin (fun x u t H1 locs1 ht hvm hpo hpt _ _ hS1 => fin u t H1 locs1 [.long x] ht hvm hpo.2 hpt hS1 ⟨hpo.1, trivial⟩)
    · have hq : vQ D ws H.size b sa sv (some c0) hp' = fun _ _ _ _ => False := by
        unfold vQ
        rcases hk with hk | hk <;> simp only [hk]
      rw [hq] at hr
      intro T hT X
      obtain ⟨v, st₀, t, T', L, h0, X', hL', e1, e2, hf, -⟩ := hr T hT X
      exact hf.elim
end VCALL
