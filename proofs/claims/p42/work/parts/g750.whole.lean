/-! ===== the walk of the law ===== -/
theorem i32_num (x : Int32) : ∃ u, u < 4294967296 ∧ x = nI u := by
  have h1 := Int32.le_toInt x
  have h2 := Int32.toInt_lt x
  simp at h1
  simp at h2
  by_cases h : 0 ≤ x.toInt
  · have hu : x.toInt.toNat < 4294967296 := by omega
    refine ⟨x.toInt.toNat, hu, Int32.toInt_inj.mp ?_⟩
    rw [vn_toInt hu]
    split <;> omega
  · have hu : (x.toInt + 4294967296).toNat < 4294967296 := by omega
    refine ⟨(x.toInt + 4294967296).toNat, hu, Int32.toInt_inj.mp ?_⟩
    rw [vn_toInt hu]
    split <;> omega
theorem sc_get {L : Nat} {f : Nat → vAV} {j : Nat} (h : j < L) : ((List.range L).map f)[j]? = some (f j) := by
  rw [List.getElem?_map, List.getElem?_range h]
  rfl
theorem sc_of {L : Nat} {f : Nat → vAV} {j : Nat} {c : vAV} (h : ((List.range L).map f)[j]? = some c) : j < L ∧ c = f j := by
  have hl : j < ((List.range L).map f).length := (List.getElem?_eq_some_iff.mp h).1
  rw [List.length_map, List.length_range] at hl
  rw [sc_get hl] at h
  exact ⟨hl, (Option.some.inj h).symm⟩
theorem vd_26 : decode cL_law 26 = .ok (.arraylength, 1) := by decide +kernel
set_option maxRecDepth 1000000 in
theorem go_0b : vRe (vGoN vt_law2 [] 4 27 ls0 [.inl 0, .inl 0] hp0 249 7595) 1405 ls0 [.inl 1] hp0 249 7595 = true := by decide +kernel
theorem go_0 : vGoN vt_law2 [] 4 27 ls0 [.inl 0, .inl 0] hp0 249 7595 = some (1405, ls0, [.inl 1], hp0, 249, 7595) := vRe_ok go_0b
section WST
variable {p : Program} {l : Launch} {e : Env} {s : State} {m : MethodId} {below : List Frame} {meth : Method} {c : Code} {b sa sv : Nat} {D : va_G} {sc : List vAV}
theorem LW_go (K : lCx p s m meth c b sa sv) (hsc : vScr b sa sv (fun q => s.heap.size ≤ q) s sc) {n pc pc' : Nat} {ls ls' : vLs} {st st' : List vAV} {hp hp' : List vOb} {ce sl ce' sl' : Nat} (h : vGoN vt_law2 sc n pc ls st hp ce sl = some (pc', ls', st', hp', ce', sl')) (k : LW p l e s m below meth c b sa sv D pc' ls' st' hp' ce' sl') : LW p l e s m below meth c b sa sv D pc ls st hp ce sl := by
  intro ws tys H locs lsA stV hW hL hT
  obtain ⟨hx, hb, hml, hown, hts, hX, -, -⟩ := K
  exact vGoN_ok (R := room_1) (Ts := lw_tbl) (own := RL) hx hb hown hts (fun w h => (WT_in h).1) hsc hX (fun pc i len a b t hg => lFacts hg) n _ _ _ _ ce sl h ws tys H locs lsA stV hW hL hT (fun ws2 tys2 H2 locs2 lsA2 stV2 hW2 hL2 hT2 _ => k ws2 tys2 H2 locs2 lsA2 stV2 hW2 hL2 hT2)
theorem all_cases (hl9 : l.stackTraces = false) (K : lCx p s m meth c b sa sv) (hsc : vScr b sa sv (fun q => s.heap.size ≤ q) s sc) (hfw : vFw s) : ∀ p0 ∈ lStarts, p0 ≠ 1398 → caseOK p l e s m below meth c b sa sv D Iv3 sc p0 := by
  intro p0 h0 hne
  simp only [lStarts, List.mem_cons, List.not_mem_nil, or_false] at h0
  rcases h0 with rfl | rfl | rfl | rfl | rfl | rfl | rfl | rfl | rfl | rfl | rfl | rfl | rfl | rfl | rfl | rfl | rfl | rfl | rfl | rfl | rfl | rfl | rfl | rfl | rfl | rfl | rfl | rfl | rfl | rfl | rfl | rfl | rfl | rfl | rfl | rfl | rfl | rfl | rfl | rfl | rfl | rfl
  · exact case3_0 K hsc
  · exact case3_1 K hsc
  · exact case3_2 K hsc
  · exact case3_3 K hsc
  · exact case3_4 hl9 K hsc hfw
  · exact case3_5 K hsc
  · exact case3_6 hl9 K hsc hfw
  · exact case3_7 K hsc
  · exact case3_8 K hsc
  · exact case3_9 K hsc
  · exact case3_10 K hsc
  · exact case3_11 K hsc
  · exact case3_12 K hsc
  · exact case3_13 K hsc
  · exact case3_14 K hsc
  · exact case3_15 K hsc
  · exact case3_16 K hsc
  · exact case3_17 K hsc
  · exact case3_18 K hsc
  · exact case3_19 K hsc
  · exact case3_20 K hsc
  · exact case3_21 K hsc
  · exact case3_22 K hsc
  · exact case3_23 K hsc
  · exact case3_24 K hsc
  · exact case3_25 K hsc
  · exact case3_26 hl9 K hsc hfw
  · exact case3_27 K hsc
  · exact case3_28 K hsc
  · exact case3_29 K hsc
  · exact case3_30 K hsc
  · exact case3_31 K hsc
  · exact case3_32 K hsc
  · exact case3_33 K hsc
  · exact case3_34 K hsc
  · exact case3_35 K hsc
  · exact case3_36 K hsc
  · exact case3_37 K hsc
  · exact case3_38 K hsc
  · exact case3_39 K hsc
  · exact case3_40 K hsc
  · exact absurd rfl hne
end WST
set_option maxHeartbeats 4000000 in
set_option maxRecDepth 100000 in
theorem whole_start {p : Program} {e : Env} {s : State} {m : MethodId} {below : List Frame} {meth : Method} {c : Code} (l : Launch) (hl9 : l.stackTraces = false) {b L : Nat} {xs : Nat → Int32} (hN : L ≤ 3072) (C0 : lw_At p s m meth c b L xs) :
    W p l e room_1 s m #[Value.ref b] below meth c s.heap [] 0 0 (lw_Z below #[Value.ref b] s) (entryFrame m ([Value.ref b] : List Value).toArray 7) := by
  obtain ⟨hx, hb, hr, hml, hown, hts, hXs, hbl, hlocks, hgv⟩ := C0
  have hown : s.vm.findClass RL = some m.cls := hown
  have hb : c.code = cL_law := hb
  obtain ⟨D, hK⟩ := law_D hts
  obtain ⟨sa, sv, hX⟩ := law_vX hts hgv
  have hfw : vFw s := vFw.of (fun w hw => hts w (vFc_in w hw))
  have K : lCx p s m meth c b sa sv := ⟨hx, hb, hml, hown, hts, hX, hr, hlocks⟩
  rw [lg_entry_eq]
  refine vRun_ok (D := D) (A := fun q => s.heap.size ≤ q) (b := b) (sa := sa) (sv := sv) (Ts := lw_tbl) (own := RL) (ini := false) (vms := vms) (df := vdf) (R := room_1) hx hb hml hown hts (fun w h => (WT_in h).1) (fun h => by cases h) vcls (by decide) (Or.inl rfl) hX (fun q h => h) ⟨vcm.1, vcm.2.1, (WT_in vcm.2.2.1).1, vcm.2.2.2.1, vcm.2.2.2.2⟩ (vcal_ok l 100000) rfl rfl (fun pc i len a b t hg => lFacts hg) 100000 0 _ _ _ _ _ vpro [] [] s.heap [] _ [] ⟨fun k q h => by simp at h, ⟨fun i j p q h => by simp at h, fun k q h => by simp at h⟩, va_S.rf, hK, ⟨rfl, fun k o h => by simp at h⟩⟩ (vEnt_ok (av := [vScp]) (as := [Value.ref b]) ⟨Or.inl ⟨rfl, rfl⟩, trivial⟩ (by decide)) trivial ?_
  intro ws tys H locs lsA stV hW hL hT hsb
  by_cases h0 : L = 0
  · subst h0
    match stV, hT with
    | [], hT => exact hT.elim
    | [_], hT => exact hT.2.elim
    | _ :: _ :: _ :: _, hT => exact hT.2.2.elim
    | [v, w], hT =>
      obtain ⟨g1, ⟨-, rfl⟩, -⟩ := hT
      have hv : v = .ref b := by
        rcases g1 with ⟨-, h⟩ | ⟨h, -⟩ | ⟨h, -⟩ | ⟨h, -⟩
        · exact h
        · cases h
        · cases h
        · cases h
      subst hv
      refine va_slen hx hb hXs hbl (fun (q : s.heap.size ≤ b) => by omega) hW.2.2.1 vd_26 ?_
      exact LW_go K (Or.inl rfl) go_0 (LW_end K (by omega) (by omega)) ws tys H locs lsA _ hW hL ⟨⟨by decide, rfl⟩, ⟨by decide, rfl⟩, trivial⟩
  · have hnum : ∀ j, ∃ u, u < 4294967296 ∧ xs j = nI u := fun j => i32_num (xs j)
    have hlen : ((List.range L).map (fun j => (.inl (hnum j).choose : vAV))).length = L := by rw [List.length_map, List.length_range]
    have hsc : vScr b sa sv (fun q => s.heap.size ≤ q) s ((List.range L).map (fun j => (.inl (hnum j).choose : vAV))) := by
      refine Or.inr ⟨xs, by rw [hlen]; exact hXs, hbl, fun (q : s.heap.size ≤ b) => by omega, fun j c0 hj => ?_⟩
      obtain ⟨-, e0⟩ := sc_of hj
      rw [e0]
      exact ⟨(hnum j).choose_spec.1, congrArg Value.int (hnum j).choose_spec.2⟩
    exact law_loop (Iv := Iv3) K hsc (fun j hj => ⟨(hnum j).choose, (hnum j).choose_spec.1, sc_get (by rw [hlen] at hj; exact hj)⟩) (by rw [hlen]; omega) (by rw [hlen]; exact hN) (all_cases hl9 K hsc hfw) L 0 hp0 none none 249 7595 (by rw [hlen]; omega) (by omega) Iv3_hp0 (by omega) (by omega) ws tys H locs lsA stV hW hL hT
