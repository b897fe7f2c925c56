/-! ===== the walk of the law, image and hours as premises ===== -/
def vOffs : Array Int := #[180, 253, 278, 291, 304, 372, 409, 477, 514, 539, 576, 625, 662, 687, 712, 725, 762, 799, 824, 849, 874, 887, 912, 925, 962, 975, 1000, 1068, 1093, 1130, 1155, 1180, 1193, 1230, 1279, 1304, 1329, 1342, 1367, 1392, 1417]
theorem vd_40 : decode cL_law 40 = .ok (.tableswitch 1442 0 40 vOffs, 180) := by decide +kernel
theorem vd_26 : decode cL_law 26 = .ok (.arraylength, 1) := by decide +kernel
set_option maxRecDepth 1000000 in
theorem go_s0 : vGoS [] 27 ls0 [.inl 0, .inl 0] hp0 249 7595 = true := by decide +kernel
set_option maxRecDepth 1000000 in
theorem go_s1 : vGoS [vAny] 26 ls0 [vScp, .inl 0] hp0 249 7595 = true := by decide +kernel
set_option maxRecDepth 1000000 in
theorem go_s2 : vGoS [vAny, vAny] 26 ls0 [vScp, .inl 0] hp0 249 7595 = true := by decide +kernel
set_option maxRecDepth 1000000 in
theorem go_s3 : vGoS [vAny, vAny, vAny] 26 ls0 [vScp, .inl 0] hp0 249 7595 = true := by decide +kernel
set_option maxRecDepth 1000000 in
theorem go_s4 : vGoS [vAny, vAny, vAny, vAny] 26 ls0 [vScp, .inl 0] hp0 249 7595 = true := by decide +kernel
set_option maxRecDepth 1000000 in
theorem go_s5 : vGoS [vAny, vAny, vAny, vAny, vAny] 26 ls0 [vScp, .inl 0] hp0 249 7595 = true := by decide +kernel
set_option maxRecDepth 1000000 in
theorem go_s6b : vRe (vRun vcal vdf vt_law2 [vAny, vAny, vAny, vAny, vAny, vAny] vTx 600002 7302232 100000 26 ls0 [vScp, .inl 0] hp0 249 7595) 40 ls0 [vAny] hp0 249 7595 = true := by decide +kernel
theorem go_s6 : vRun vcal vdf vt_law2 [vAny, vAny, vAny, vAny, vAny, vAny] vTx 600002 7302232 100000 26 ls0 [vScp, .inl 0] hp0 249 7595 = some (40, ls0, [vAny], hp0, 249, 7595) := vRe_ok go_s6b
theorem vScr_any {s : State} {b sa sv L : Nat} {xs : Nat → Int32} (hX : va_X b L xs s s.heap) (hbl : b < s.heap.size) : vScr b sa sv (fun q => s.heap.size ≤ q) s (List.replicate L vAny) := by
  refine Or.inr ⟨xs, by rw [List.length_replicate]; exact hX, hbl, fun (q : s.heap.size ≤ b) => by omega, fun j c0 hj => ?_⟩
  have e := List.eq_of_mem_replicate (List.mem_of_getElem? hj)
  rw [e]
  exact vAny_ok _
section VSW
variable {p : Program} {l : Launch} {e : Env} {s : State} {m : MethodId} {below : List Frame} {meth : Method} {c : Code} {b sa sv : Nat} {D : va_G} {xs : Nat → Int32}
theorem vsw_in (K : vLC p s m meth c b sa sv xs) {X : Int32} {k tgt : Nat} (hk : X.toInt = (k : Int)) (h40 : k ≤ 40) (ho : vTgs[k]? = some tgt) {H : Heap} {locs : List Loc} {lsA : Array Slot} (kk : W p l e room_1 s m #[Value.ref b] below meth c H locs 249 7595 (lw_Z below #[Value.ref b] s) (F0 m tgt lsA [])) :
    W p l e room_1 s m #[Value.ref b] below meth c H locs 249 7595 (lw_Z below #[Value.ref b] s) (F0 m 40 lsA [.int X]) := by
  have hall : ∀ k : Nat, k < 41 → vOffs[k]? = (vTgs[k]?).map (fun t => ((t : Nat) : Int) - 40) := by decide +kernel
  refine lv_tableIn (off := (tgt : Int) - 40) (tgt := tgt) K.1 K.2.1 vd_40 (by omega) (by omega) ?_ (by omega) kk
  have e : (X.toInt - 0).toNat = k := by omega
  rw [e, hall k (by omega), ho]
  rfl
end VSW
set_option maxHeartbeats 4000000 in
set_option maxRecDepth 100000 in
theorem whole_startH {p : Program} {e : Env} {s : State} {m : MethodId} {below : List Frame} {meth : Method} {c : Code} (l : Launch) (hl9 : l.stackTraces = false) {b L : Nat} {xs : Nat → Int32} (hN : L ≤ 6) (C0 : lw_At p s m meth c b L xs)
    {cs13 cs38 : List vAV} (h13c : vCov cs13 0 = true) (h38c : vCov cs38 0 = true) (h13 : cs13.all (fun c1 => ([vAny] : List vAV).all (fun c2 => vGo [vAny, c1, c2, vAny, vAny, vAny] 727)) = true) (h38 : cs38.all (fun c1 => ([vAny] : List vAV).all (fun c2 => vGo [vAny, c1, c2, vAny, vAny, vAny] 1407)) = true) :
    W p l e room_1 s m #[Value.ref b] below meth c s.heap [] 0 0 (lw_Z below #[Value.ref b] s) (entryFrame m ([Value.ref b] : List Value).toArray 7) := by
  obtain ⟨hx, hb, hr, hml, hown, hts, hXs, hbl, hlocks, hgv⟩ := C0
  have hown : s.vm.findClass RL = some m.cls := hown
  have hb : c.code = cL_law := hb
  obtain ⟨D, hK⟩ := law_D hts
  obtain ⟨sa, sv, hX⟩ := law_vX hts hgv
  have hfw : vFw s := vFw.of (fun w hw => hts w (vFc_in w hw))
  have h13d : vCov [vAny] 0 = true := by decide +kernel
  rw [lg_entry_eq]
  refine vLaw_run (D := D) hx hb hml hown hts hX (Or.inl rfl) _ _ _ _ _ _ _ vpro [] [] s.heap [] _ [] ⟨fun k q h => by simp at h, ⟨fun i j p q h => by simp at h, fun k q h => by simp at h⟩, va_S.rf, hK, ⟨rfl, fun k o h => by simp at h⟩⟩ (vEnt_ok (av := [vScp]) (as := [Value.ref b]) ⟨Or.inl ⟨rfl, rfl⟩, trivial⟩ (by decide)) trivial ?_
  intro ws tys H locs lsA stV hW hL hT hsb
  by_cases h0 : L = 0
  · subst h0
    match stV, hT with
    | [], hT => exact hT.elim
    | [_], hT => exact hT.2.elim
    | _ :: _ :: _ :: _, hT => exact hT.2.2.elim
    | [v, w], hT =>
      obtain ⟨g1, ⟨-, rfl⟩, -⟩ := hT
      have hv : v = .ref b := by
        rcases g1 with ⟨-, h⟩ | ⟨h, -⟩ | ⟨h, -⟩ | ⟨h, -⟩
        · exact h
        · cases h
        · cases h
        · cases h
      subst hv
      refine va_slen hx hb hXs hbl (fun (q : s.heap.size ≤ b) => by omega) hW.2.2.1 vd_26 ?_
      exact vGoS_ok hx hb hml hown hts hX hr hlocks (Or.inl rfl) go_s0 hW hL ⟨⟨by decide, rfl⟩, ⟨by decide, rfl⟩, trivial⟩
  · have hsc := vScr_any (sa := sa) (sv := sv) hXs hbl
    have hcase : L = 1 ∨ L = 2 ∨ L = 3 ∨ L = 4 ∨ L = 5 ∨ L = 6 := by omega
    rcases hcase with rfl | rfl | rfl | rfl | rfl | rfl
    · exact vGoS_ok hx hb hml hown hts hX hr hlocks hsc go_s1 hW hL hT
    · exact vGoS_ok hx hb hml hown hts hX hr hlocks hsc go_s2 hW hL hT
    · exact vGoS_ok hx hb hml hown hts hX hr hlocks hsc go_s3 hW hL hT
    · exact vGoS_ok hx hb hml hown hts hX hr hlocks hsc go_s4 hW hL hT
    · exact vGoS_ok hx hb hml hown hts hX hr hlocks hsc go_s5 hW hL hT
    · have K : vLC p s m meth c b sa sv xs := ⟨hx, hb, hml, hown, hts, hX, hr, hlocks, hbl, hXs⟩
      refine vLaw_run hx hb hml hown hts hX hsc _ _ _ _ _ _ _ go_s6 ws tys H locs lsA stV hW hL hT ?_
      clear hW hL hT
      intro ws tys H locs lsA stV hW hL hT hsb
      match stV, hT with
      | [], hT => exact hT.elim
      | _ :: _ :: _, hT => exact hT.2.elim
      | [v], hT =>
      obtain ⟨⟨X, rfl, -, -⟩, -⟩ := hT
      by_cases hout : X.toInt < 0 ∨ 40 < X.toInt
      · exact lv_tableOut (tgt := 1482) hx hb vd_40 hout (by decide) (vGoS_ok hx hb hml hown hts hX hr hlocks hsc go_df hW hL trivial)
      obtain ⟨k, hk⟩ : ∃ k : Nat, X.toInt = (k : Int) := ⟨X.toInt.toNat, by omega⟩
      have hk40 : k = 0 ∨ k = 1 ∨ k = 2 ∨ k = 3 ∨ k = 4 ∨ k = 5 ∨ k = 6 ∨ k = 7 ∨ k = 8 ∨ k = 9 ∨ k = 10 ∨ k = 11 ∨ k = 12 ∨ k = 13 ∨ k = 14 ∨ k = 15 ∨ k = 16 ∨ k = 17 ∨ k = 18 ∨ k = 19 ∨ k = 20 ∨ k = 21 ∨ k = 22 ∨ k = 23 ∨ k = 24 ∨ k = 25 ∨ k = 26 ∨ k = 27 ∨ k = 28 ∨ k = 29 ∨ k = 30 ∨ k = 31 ∨ k = 32 ∨ k = 33 ∨ k = 34 ∨ k = 35 ∨ k = 36 ∨ k = 37 ∨ k = 38 ∨ k = 39 ∨ k = 40 := by omega
      rcases hk40 with rfl | rfl | rfl | rfl | rfl | rfl | rfl | rfl | rfl | rfl | rfl | rfl | rfl | rfl | rfl | rfl | rfl | rfl | rfl | rfl | rfl | rfl | rfl | rfl | rfl | rfl | rfl | rfl | rfl | rfl | rfl | rfl | rfl | rfl | rfl | rfl | rfl | rfl | rfl | rfl | rfl
      · exact vsw_in K (k := 0) (tgt := 220) hk (by decide) rfl (vCase K _ _ cov_0.1 cov_0.2 go_0 hW hL trivial)
      · exact vsw_in K (k := 1) (tgt := 293) hk (by decide) rfl (vCase K _ _ cov_1.1 cov_1.2 go_1 hW hL trivial)
      · exact vsw_in K (k := 2) (tgt := 318) hk (by decide) rfl (vCase K _ _ cov_2.1 cov_2.2 go_2 hW hL trivial)
      · exact vsw_in K (k := 3) (tgt := 331) hk (by decide) rfl (vCase K _ _ cov_3.1 cov_3.2 go_3 hW hL trivial)
      · exact vsw_in K (k := 4) (tgt := 344) hk (by decide) rfl (vCaseX hl9 K hfw vHok_pain _ _ cov_4.1 cov_4.2 go_4 hW hL trivial)
      · exact vsw_in K (k := 5) (tgt := 412) hk (by decide) rfl (vCase K _ _ cov_5.1 cov_5.2 go_5 hW hL trivial)
      · exact vsw_in K (k := 6) (tgt := 449) hk (by decide) rfl (vCaseX hl9 K hfw vHok_porter _ _ cov_6.1 cov_6.2 go_6 hW hL trivial)
      · exact vsw_in K (k := 7) (tgt := 517) hk (by decide) rfl (vCase K _ _ cov_7.1 cov_7.2 go_7 hW hL trivial)
      · exact vsw_in K (k := 8) (tgt := 554) hk (by decide) rfl (vCase K _ _ cov_8.1 cov_8.2 go_8 hW hL trivial)
      · exact vsw_in K (k := 9) (tgt := 579) hk (by decide) rfl (vCase K _ _ cov_9.1 cov_9.2 go_9 hW hL trivial)
      · exact vsw_in K (k := 10) (tgt := 616) hk (by decide) rfl (vCase K _ _ cov_10.1 cov_10.2 go_10 hW hL trivial)
      · exact vsw_in K (k := 11) (tgt := 665) hk (by decide) rfl (vCase K _ _ cov_11.1 cov_11.2 go_11 hW hL trivial)
      · exact vsw_in K (k := 12) (tgt := 702) hk (by decide) rfl (vCase K _ _ cov_12.1 cov_12.2 go_12 hW hL trivial)
      · exact vsw_in K (k := 13) (tgt := 727) hk (by decide) rfl (vCase K cs13 [vAny] h13c h13d h13 hW hL trivial)
      · exact vsw_in K (k := 14) (tgt := 752) hk (by decide) rfl (vCase K _ _ cov_14.1 cov_14.2 go_14 hW hL trivial)
      · exact vsw_in K (k := 15) (tgt := 765) hk (by decide) rfl (vCase K _ _ cov_15.1 cov_15.2 go_15 hW hL trivial)
      · exact vsw_in K (k := 16) (tgt := 802) hk (by decide) rfl (vCase K _ _ cov_16.1 cov_16.2 go_16 hW hL trivial)
      · exact vsw_in K (k := 17) (tgt := 839) hk (by decide) rfl (vCase K _ _ cov_17.1 cov_17.2 go_17 hW hL trivial)
      · exact vsw_in K (k := 18) (tgt := 864) hk (by decide) rfl (vCase K _ _ cov_18.1 cov_18.2 go_18 hW hL trivial)
      · exact vsw_in K (k := 19) (tgt := 889) hk (by decide) rfl (vCase K _ _ cov_19.1 cov_19.2 go_19 hW hL trivial)
      · exact vsw_in K (k := 20) (tgt := 914) hk (by decide) rfl (vCase K _ _ cov_20.1 cov_20.2 go_20 hW hL trivial)
      · exact vsw_in K (k := 21) (tgt := 927) hk (by decide) rfl (vCase K _ _ cov_21.1 cov_21.2 go_21 hW hL trivial)
      · exact vsw_in K (k := 22) (tgt := 952) hk (by decide) rfl (vCase K _ _ cov_22.1 cov_22.2 go_22 hW hL trivial)
      · exact vsw_in K (k := 23) (tgt := 965) hk (by decide) rfl (vCase K _ _ cov_23.1 cov_23.2 go_23 hW hL trivial)
      · exact vsw_in K (k := 24) (tgt := 1002) hk (by decide) rfl (vCase K _ _ cov_24.1 cov_24.2 go_24 hW hL trivial)
      · exact vsw_in K (k := 25) (tgt := 1015) hk (by decide) rfl (vCase K _ _ cov_25.1 cov_25.2 go_25 hW hL trivial)
      · exact vsw_in K (k := 26) (tgt := 1040) hk (by decide) rfl (vCaseX hl9 K hfw vHok_unharmed _ _ cov_26.1 cov_26.2 go_26 hW hL trivial)
      · exact vsw_in K (k := 27) (tgt := 1108) hk (by decide) rfl (vCase K _ _ cov_27.1 cov_27.2 go_27 hW hL trivial)
      · exact vsw_in K (k := 28) (tgt := 1133) hk (by decide) rfl (vCase K _ _ cov_28.1 cov_28.2 go_28 hW hL trivial)
      · exact vsw_in K (k := 29) (tgt := 1170) hk (by decide) rfl (vCase K _ _ cov_29.1 cov_29.2 go_29 hW hL trivial)
      · exact vsw_in K (k := 30) (tgt := 1195) hk (by decide) rfl (vCase K _ _ cov_30.1 cov_30.2 go_30 hW hL trivial)
      · exact vsw_in K (k := 31) (tgt := 1220) hk (by decide) rfl (vCase K _ _ cov_31.1 cov_31.2 go_31 hW hL trivial)
      · exact vsw_in K (k := 32) (tgt := 1233) hk (by decide) rfl (vCase K _ _ cov_32.1 cov_32.2 go_32 hW hL trivial)
      · exact vsw_in K (k := 33) (tgt := 1270) hk (by decide) rfl (vCase K _ _ cov_33.1 cov_33.2 go_33 hW hL trivial)
      · exact vsw_in K (k := 34) (tgt := 1319) hk (by decide) rfl (vCase K _ _ cov_34.1 cov_34.2 go_34 hW hL trivial)
      · exact vsw_in K (k := 35) (tgt := 1344) hk (by decide) rfl (vCase K _ _ cov_35.1 cov_35.2 go_35 hW hL trivial)
      · exact vsw_in K (k := 36) (tgt := 1369) hk (by decide) rfl (vCase K _ _ cov_36.1 cov_36.2 go_36 hW hL trivial)
      · exact vsw_in K (k := 37) (tgt := 1382) hk (by decide) rfl (vCase K _ _ cov_37.1 cov_37.2 go_37 hW hL trivial)
      · exact vsw_in K (k := 38) (tgt := 1407) hk (by decide) rfl (vCase K cs38 [vAny] h38c h13d h38 hW hL trivial)
      · exact vsw_in K (k := 39) (tgt := 1432) hk (by decide) rfl (vCase K _ _ cov_39.1 cov_39.2 go_39 hW hL trivial)
      · exact vsw_in K (k := 40) (tgt := 1457) hk (by decide) rfl (vCase K _ _ cov_40.1 cov_40.2 go_40 hW hL trivial)
