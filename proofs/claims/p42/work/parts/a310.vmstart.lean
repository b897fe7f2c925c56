/-! ===== the law's start: classes, side facts ===== -/
def vInstL : List Cond := vwCl.map (fun r => Cond.instantiable r.1 r.2.2)
set_option maxRecDepth 100000 in
theorem vInst_ok : ∀ w ∈ vInstL, w ∈ WT := vAt_ok [615, 624, 587, 547, 500, 526, 155, 455, 407, 271, 391, 147, 1436] _ (by decide +kernel)
theorem law_D {s : State} {b : Nat} (hts : ∀ w ∈ lw_tbl, w.before #[Value.ref b] s = true) : ∃ D : va_G, va_K D vwCl [] s := by
  have h0 : ∀ c : Nat, ∃ y : ClassId × (Nat → Nat), ∀ r : vw_C, vwCl[c]? = some r → u_Kn s r.1 r.2.1 r.2.2 y.1 y.2 := by
    intro c
    cases hc : vwCl[c]? with
    | none => exact ⟨(0, fun _ => 0), fun r h => by cases h⟩
    | some r =>
      have hi : (Cond.instantiable r.1 r.2.2).before #[Value.ref b] s = true := hts _ (WT_in (vInst_ok _ (List.mem_map.mpr ⟨r, List.mem_of_getElem? hc, rfl⟩))).1
      obtain ⟨cC, iS, h⟩ := u_known (C := r.1) (T := r.2.1) (N := r.2.2) hts (fun w hw => (WT_in ((vcls c r hc).1 w hw)).1) hi
      exact ⟨(cC, iS), fun r2 h2 => by cases h2; exact h⟩
  obtain ⟨f, hf⟩ := Classical.axiomOfChoice h0
  exact ⟨(fun c => (f c).1, fun c => (f c).2), fun c r hr => hf c r hr, fun k q hk => by simp at hk⟩
def vAtL (ps : List Nat) (ws : List Cond) : Bool := match ps, ws with
  | [], [] => true
  | i :: ps, w :: ws => decide (lw_tbl[i]? = some w) && vAtL ps ws
  | _, _ => false
theorem vAtL_ok : ∀ (ps : List Nat) (ws : List Cond), vAtL ps ws = true → ∀ w ∈ ws, w ∈ lw_tbl
  | [], [], _, w, h => by cases h
  | [], _ :: _, h, _, _ => by cases h
  | _ :: _, [], h, _, _ => by cases h
  | i :: ps, w0 :: ws, h, w, hw => by
    obtain ⟨h1, h3⟩ := vBx h
    rcases List.mem_cons.mp hw with e | e
    · rw [e]
      exact List.mem_of_getElem? (of_decide_eq_true h1)
    · exact vAtL_ok ps ws h3 w e
set_option maxRecDepth 100000 in
theorem vNest_in : ∀ w ∈ vNest, w ∈ lw_tbl := vAtL_ok [272, 392, 408, 456, 501, 533, 548, 588, 616, 625, 630, 632, 634] _ (by decide +kernel)
def vSide : List Cond := [Cond.arrayOver (.object "PainPorters$State"), Cond.arrayOver (.object "PainPorters$Kept"), Cond.stringRef RX6 19 vTxS, Cond.laysStatic "java/lang/String" "COMPACT_STRINGS" "Z", Cond.initialized "java/lang/String", Cond.laysStatic "jdk/internal/util/Preconditions" "SIOOBE_FORMATTER" "Ljava/util/function/BiFunction;", Cond.initialized "jdk/internal/util/Preconditions", Cond.laysStatic Bundle.tN "UNASSIGNED_STACK" Bundle.steD, Cond.laysStatic Bundle.tN "SUPPRESSED_SENTINEL" Bundle.listD, Cond.initialized Bundle.tN]
set_option maxRecDepth 100000 in
theorem vSide_in : ∀ w ∈ vSide, w ∈ lw_tbl := vAtL_ok [532, 545, 160, 170, 124, 186, 126, 1376, 1378, 140] _ (by decide +kernel)
def vFlat : List Cond := flatC (Jvm.Cond.and given_1 narrow_1)
def vTm : Term := .string "PainPorters$Reader" 19
set_option maxRecDepth 100000 in
theorem vFlat_in : ∀ w ∈ [Cond.exactly vTm "java/lang/String", Cond.eq (.field vTm "java/lang/String" "coder" "B") (.int 0), Cond.arrayOf (.field vTm "java/lang/String" "value" "[B") .byte, Cond.eq (.length (.field vTm "java/lang/String" "value" "[B")) (.int (Int32.ofNat 135)), Cond.eq (.static "java/lang/String" "COMPACT_STRINGS" "Z") (.int 1), Cond.isRef (.static "jdk/internal/util/Preconditions" "SIOOBE_FORMATTER" "Ljava/util/function/BiFunction;"), Cond.isRef (.static Bundle.tN "UNASSIGNED_STACK" Bundle.steD), Cond.isRef (.static Bundle.tN "SUPPRESSED_SENTINEL" Bundle.listD)], w ∈ vFlat := by decide +kernel
set_option maxRecDepth 100000 in
theorem vFlat_el : ∀ j, j < 135 → Cond.eq (.elem (.field vTm "java/lang/String" "value" "[B") (.int (Int32.ofNat j))) (.int ((vTx.map nI).getD j 0)) ∈ vFlat := by decide +kernel
theorem law_vX {s : State} {b : Nat} (hts : ∀ w ∈ lw_tbl, w.before #[Value.ref b] s = true) (hgv : (Jvm.Cond.and given_1 narrow_1).before #[Value.ref b] s = true) : ∃ sa sv, vX sa sv (fun q => s.heap.size ≤ q) s s.heap := by
  have hA : ∀ a : Nat, a < s.heap.size → ¬ (fun q => s.heap.size ≤ q) a := fun a h (q : s.heap.size ≤ a) => by omega
  have hs : ∀ w ∈ vFlat, w.before #[Value.ref b] s = true := flat_of_before _ hgv
  have fl := fun (i : Nat) (w : Cond) (h : [Cond.exactly vTm "java/lang/String", Cond.eq (.field vTm "java/lang/String" "coder" "B") (.int 0), Cond.arrayOf (.field vTm "java/lang/String" "value" "[B") .byte, Cond.eq (.length (.field vTm "java/lang/String" "value" "[B")) (.int (Int32.ofNat 135)), Cond.eq (.static "java/lang/String" "COMPACT_STRINGS" "Z") (.int 1), Cond.isRef (.static "jdk/internal/util/Preconditions" "SIOOBE_FORMATTER" "Ljava/util/function/BiFunction;"), Cond.isRef (.static Bundle.tN "UNASSIGNED_STACK" Bundle.steD), Cond.isRef (.static Bundle.tN "SUPPRESSED_SENTINEL" Bundle.listD)][i]? = some w) => hs w (vFlat_in w (List.mem_of_getElem? h))
  have sd := fun (i : Nat) (w : Cond) (h : vSide[i]? = some w) => hts w (vSide_in w (List.mem_of_getElem? h))
  have i0 : ∀ i : Nat, i < 1 → i = 0 := fun i h => by omega
  obtain ⟨adK, adV, hS, hev⟩ := vk_Sof (args := #[Value.ref b]) (s := s) (N := 1) (tm := fun _ => vTm) (len := [vTx.length]) (byt := [vTx.map nI]) (A := fun q => s.heap.size ≤ q)
    (fun i hi => by rw [i0 i hi]; decide +kernel) (fun i hi => fl 0 _ rfl) (fun i hi => fl 1 _ rfl) (fun i hi => fl 2 _ rfl)
    (fun i hi => by rw [i0 i hi]; exact fl 3 _ rfl) (fun i hi j hj => by rw [i0 i hi] at hj ⊢; exact hs _ (vFlat_el j hj)) (fun i j hi hj h => by omega) hA
  refine ⟨adK 0, adV 0, fun w hw => va_Nw.of (by obtain ⟨a, i, x, h, rfl⟩ := vNest_is w hw; rfl) (hts w (vNest_in w hw)), fun C hC => ?_, vk_R.of (sd 2 _ rfl) (hev 0 (by omega)), ⟨fun i hi => by rw [i0 i hi]; exact hS.1 0 (by omega), fun i j hi hj _ => by omega⟩,
    va_Zof (sd 3 _ rfl) (sd 4 _ rfl) (va_eqi (fl 4 _ rfl)) hA, va_Zqof (sd 5 _ rfl) (sd 6 _ rfl) (fl 5 _ rfl) hA, vx_Zqof (sd 7 _ rfl) (sd 9 _ rfl) (fl 6 _ rfl) hA, vx_Zqof (sd 8 _ rfl) (sd 9 _ rfl) (fl 7 _ rfl) hA⟩
  simp only [vOver, List.mem_cons, List.not_mem_nil, or_false] at hC
  rcases hC with rfl | rfl
  · exact va_AO.of (sd 0 _ rfl)
  · exact va_AO.of (sd 1 _ rfl)
