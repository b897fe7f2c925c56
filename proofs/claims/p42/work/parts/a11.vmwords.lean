/-! ===== the words of the methods ===== -/
theorem tin_1 {w : Cond} (h : w ∈ tables_1_1) : w ∈ lw_tbl := List.mem_append_right _ (List.mem_append_left _ h)
theorem tin_2 {w : Cond} (h : w ∈ tables_1_2) : w ∈ lw_tbl := List.mem_append_right _ (List.mem_append_right _ (List.mem_append_left _ h))
theorem tin_3 {w : Cond} (h : w ∈ tables_1_3) : w ∈ lw_tbl := List.mem_append_right _ (List.mem_append_right _ (List.mem_append_right _ (List.mem_append_left _ h)))
theorem tin_4 {w : Cond} (h : w ∈ tables_1_4) : w ∈ lw_tbl := List.mem_append_right _ (List.mem_append_right _ (List.mem_append_right _ (List.mem_append_right _ (List.mem_append_left _ h))))
theorem tin_5 {w : Cond} (h : w ∈ tables_1_5) : w ∈ lw_tbl := List.mem_append_right _ (List.mem_append_right _ (List.mem_append_right _ (List.mem_append_right _ (List.mem_append_right _ (List.mem_append_left _ h)))))
theorem tin_6 {w : Cond} (h : w ∈ tables_1_6) : w ∈ lw_tbl := List.mem_append_right _ (List.mem_append_right _ (List.mem_append_right _ (List.mem_append_right _ (List.mem_append_right _ (List.mem_append_right _ (List.mem_append_left _ h))))))
theorem tin_7 {w : Cond} (h : w ∈ tables_1_7) : w ∈ lw_tbl := List.mem_append_right _ (List.mem_append_right _ (List.mem_append_right _ (List.mem_append_right _ (List.mem_append_right _ (List.mem_append_right _ (List.mem_append_right _ (List.mem_append_left _ h)))))))
theorem tin_8 {w : Cond} (h : w ∈ tables_1_8) : w ∈ lw_tbl := List.mem_append_right _ (List.mem_append_right _ (List.mem_append_right _ (List.mem_append_right _ (List.mem_append_right _ (List.mem_append_right _ (List.mem_append_right _ (List.mem_append_right _ (List.mem_append_left _ h))))))))
theorem tin_9 {w : Cond} (h : w ∈ tables_1_9) : w ∈ lw_tbl := List.mem_append_right _ (List.mem_append_right _ (List.mem_append_right _ (List.mem_append_right _ (List.mem_append_right _ (List.mem_append_right _ (List.mem_append_right _ (List.mem_append_right _ (List.mem_append_right _ (h)))))))))
/-- a method's words, by its kind -/
def vMwL (M : vMt) (k : Nat) : List Cond := Cond.initialized M.1.cls :: (match k with
  | 0 => [Cond.static M.1]
  | 1 => [Cond.instanceMethod M.1, Cond.selects M.1.cls M.1 M.1]
  | _ => [Cond.instanceMethod M.1])
def vMwB (M : vMt) (k : Nat) (ps : List Nat) : Bool := vAt ps (vMwL M k) && decide (M.1.cls ≠ "java/lang/invoke/MethodHandle" ∧ M.1.cls ≠ "java/lang/invoke/VarHandle") && (bif Nat.beq k 2 then decide (M.1.name = "<init>" ∧ M.2.2.2.1 = none) else true) && plainFor M.1
/-- all of a method's words -/
def vMwP (M : vMt) (k : Nat) : Prop := Cond.code M.1 M.2.1 M.2.2.1 M.2.2.2.1 ∈ WT ∧ ∃ ps, vMwB M k ps = true
def vMwA : List vMt → List Nat → Prop
  | [], [] => True
  | M :: l, k :: ks => vMwP M k ∧ vMwA l ks
  | _, _ => False
theorem vMwA_ok : ∀ (l : List vMt) (ks : List Nat), vMwA l ks → ∀ (j : Nat) (M : vMt), l[j]? = some M → ∃ k, ks[j]? = some k ∧ vMwP M k
  | [], [], _, j, M, h => by simp at h
  | M0 :: l, k :: ks, h, j, M, hj => by
    match j, hj with
    | 0, hj =>
      cases hj
      exact ⟨k, rfl, h.1⟩
    | j + 1, hj => exact vMwA_ok l ks h.2 j M hj
  | [], _ :: _, h, _, _, _ => h.elim
  | _ :: _, [], h, _, _, _ => h.elim
theorem vKnd_of {vms : List vMt} {kinds : List Nat} (h : vMwA vms kinds) : vKnd vms kinds := by
  intro j M hM
  obtain ⟨k, hk, hcode, ps, hb⟩ := vMwA_ok _ _ h j M hM
  obtain ⟨hb, h4⟩ := vBx hb
  obtain ⟨hb, h3⟩ := vBx hb
  obtain ⟨h1, h2⟩ := vBx hb
  have hw := vAt_ok _ _ h1
  have h2 := of_decide_eq_true h2
  refine ⟨hcode, hw _ List.mem_cons_self, h2, fun e => ?_, fun e => ?_, fun e => ?_⟩
  · cases Option.some.inj (hk.symm.trans e)
    exact hw _ (List.mem_cons_of_mem _ List.mem_cons_self)
  · cases Option.some.inj (hk.symm.trans e)
    exact ⟨hw _ (List.mem_cons_of_mem _ List.mem_cons_self), hw _ (List.mem_cons_of_mem _ (List.mem_cons_of_mem _ List.mem_cons_self))⟩
  · cases Option.some.inj (hk.symm.trans e)
    have h3 := of_decide_eq_true h3
    exact ⟨hw _ (List.mem_cons_of_mem _ List.mem_cons_self), h3.1, h3.2⟩
theorem vPlain_of {vms : List vMt} {kinds : List Nat} (h : vMwA vms kinds) : ∀ (j : Nat) (M : vMt), vms[j]? = some M → plainFor M.1 = true := by
  intro j M hM
  obtain ⟨k, hk, hcode, ps, hb⟩ := vMwA_ok _ _ h j M hM
  exact (vBx hb).2
set_option maxRecDepth 100000 in
theorem m_J0_coder_7d493_w : vMwP m_J0_coder_7d493 1 := ⟨WT_of (tin_1 (List.mem_of_getElem? (i := 47) rfl)) rfl, [124, 166, 167], by decide +kernel⟩
set_option maxRecDepth 100000 in
theorem m_J0_length_8abf5_w : vMwP m_J0_length_8abf5 1 := ⟨WT_of (tin_1 (List.mem_of_getElem? (i := 43) rfl)) rfl, [124, 162, 163], by decide +kernel⟩
set_option maxRecDepth 100000 in
theorem m_J0_isLatin1_aae02_w : vMwP m_J0_isLatin1_aae02 1 := ⟨WT_of (tin_1 (List.mem_of_getElem? (i := 57) rfl)) rfl, [124, 176, 177], by decide +kernel⟩
set_option maxRecDepth 100000 in
theorem m_J3_checkIndex_8e157_w : vMwP m_J3_checkIndex_8e157 0 := ⟨WT_of (tin_1 (List.mem_of_getElem? (i := 68) rfl)) rfl, [126, 188], by decide +kernel⟩
set_option maxRecDepth 100000 in
theorem m_J0_checkIndex_df160_w : vMwP m_J0_checkIndex_df160 0 := ⟨WT_of (tin_1 (List.mem_of_getElem? (i := 63) rfl)) rfl, [124, 183], by decide +kernel⟩
set_option maxRecDepth 100000 in
theorem m_J1_charAt_3b067_w : vMwP m_J1_charAt_3b067 0 := ⟨WT_of (tin_1 (List.mem_of_getElem? (i := 60) rfl)) rfl, [125, 180], by decide +kernel⟩
set_option maxRecDepth 100000 in
theorem m_J2_length_9d52b_w : vMwP m_J2_length_9d52b 0 := ⟨WT_of (tin_1 (List.mem_of_getElem? (i := 77) rfl)) rfl, [127, 197], by decide +kernel⟩
set_option maxRecDepth 100000 in
theorem m_J2_checkIndex_2214a_w : vMwP m_J2_checkIndex_2214a 0 := ⟨WT_of (tin_1 (List.mem_of_getElem? (i := 74) rfl)) rfl, [127, 194], by decide +kernel⟩
set_option maxRecDepth 100000 in
theorem m_J2_getChar_3b067_w : vMwP m_J2_getChar_3b067 0 := ⟨WT_of (tin_1 (List.mem_of_getElem? (i := 81) rfl)) rfl, [127, 201], by decide +kernel⟩
set_option maxRecDepth 100000 in
theorem m_J2_charAt_3b067_w : vMwP m_J2_charAt_3b067 0 := ⟨WT_of (tin_1 (List.mem_of_getElem? (i := 71) rfl)) rfl, [127, 191], by decide +kernel⟩
set_option maxRecDepth 100000 in
theorem m_J0_charAt_5068e_w : vMwP m_J0_charAt_5068e 1 := ⟨WT_of (tin_1 (List.mem_of_getElem? (i := 53) rfl)) rfl, [124, 172, 173], by decide +kernel⟩
set_option maxRecDepth 100000 in
theorem m_X6_joined_w : vMwP m_X6_joined 0 := ⟨WT_of (tin_1 (List.mem_of_getElem? (i := 90) rfl)) rfl, [123, 210], by decide +kernel⟩
set_option maxRecDepth 100000 in
theorem m_X6_init_w : vMwP m_X6_init 2 := ⟨WT_of (tin_1 (List.mem_of_getElem? (i := 37) rfl)) rfl, [123, 157], by decide +kernel⟩
set_option maxRecDepth 100000 in
theorem m_X9_init_w : vMwP m_X9_init 2 := ⟨WT_of (tin_1 (List.mem_of_getElem? (i := 153) rfl)) rfl, [128, 273], by decide +kernel⟩
set_option maxRecDepth 100000 in
theorem m_X10_init_w : vMwP m_X10_init 2 := ⟨WT_of (tin_2 (List.mem_of_getElem? (i := 33) rfl)) rfl, [129, 393], by decide +kernel⟩
set_option maxRecDepth 100000 in
theorem m_X8_init_w : vMwP m_X8_init 2 := ⟨WT_of (tin_2 (List.mem_of_getElem? (i := 49) rfl)) rfl, [130, 409], by decide +kernel⟩
set_option maxRecDepth 100000 in
theorem m_X7_init_w : vMwP m_X7_init 2 := ⟨WT_of (tin_2 (List.mem_of_getElem? (i := 97) rfl)) rfl, [131, 457], by decide +kernel⟩
set_option maxRecDepth 100000 in
theorem m_X4_init_w : vMwP m_X4_init 2 := ⟨WT_of (tin_2 (List.mem_of_getElem? (i := 142) rfl)) rfl, [132, 502], by decide +kernel⟩
set_option maxRecDepth 100000 in
theorem m_X5_init_w : vMwP m_X5_init 2 := ⟨WT_of (tin_2 (List.mem_of_getElem? (i := 168) rfl)) rfl, [133, 528], by decide +kernel⟩
set_option maxRecDepth 100000 in
theorem m_X3_init_w : vMwP m_X3_init 2 := ⟨WT_of (tin_2 (List.mem_of_getElem? (i := 189) rfl)) rfl, [134, 549], by decide +kernel⟩
set_option maxRecDepth 100000 in
theorem m_X2_init_w : vMwP m_X2_init 2 := ⟨WT_of (tin_2 (List.mem_of_getElem? (i := 229) rfl)) rfl, [135, 589], by decide +kernel⟩
set_option maxRecDepth 100000 in
theorem m_X0_init_w : vMwP m_X0_init 2 := ⟨WT_of (tin_3 (List.mem_of_getElem? (i := 17) rfl)) rfl, [136, 617], by decide +kernel⟩
set_option maxRecDepth 100000 in
theorem m_X1_init_w : vMwP m_X1_init 2 := ⟨WT_of (tin_3 (List.mem_of_getElem? (i := 26) rfl)) rfl, [137, 626], by decide +kernel⟩
set_option maxRecDepth 100000 in
theorem m_X11_init_w : vMwP m_X11_init 2 := ⟨WT_of (tin_1 (List.mem_of_getElem? (i := 29) rfl)) rfl, [122, 149], by decide +kernel⟩
set_option maxRecDepth 100000 in
theorem m_X12_init_w : vMwP m_X12_init 2 := ⟨WT_of (tin_6 (List.mem_of_getElem? (i := 124) rfl)) rfl, [138, 1444], by decide +kernel⟩
set_option maxRecDepth 100000 in
theorem m_X11_putNumber_w : vMwP m_X11_putNumber 1 := ⟨WT_of (tin_3 (List.mem_of_getElem? (i := 115) rfl)) rfl, [122, 715, 0], by decide +kernel⟩
set_option maxRecDepth 100000 in
theorem m_X11_feed_w : vMwP m_X11_feed 1 := ⟨WT_of (tin_3 (List.mem_of_getElem? (i := 111) rfl)) rfl, [122, 710, 711], by decide +kernel⟩
set_option maxRecDepth 100000 in
theorem m_X12_four_w : vMwP m_X12_four 1 := ⟨WT_of (tin_6 (List.mem_of_getElem? (i := 116) rfl)) rfl, [138, 1435, 53], by decide +kernel⟩
set_option maxRecDepth 100000 in
theorem m_X12_feed_w : vMwP m_X12_feed 1 := ⟨WT_of (tin_6 (List.mem_of_getElem? (i := 111) rfl)) rfl, [138, 1430, 1431], by decide +kernel⟩
set_option maxRecDepth 100000 in
theorem m_X11_end_w : vMwP m_X11_end 1 := ⟨WT_of (tin_3 (List.mem_of_getElem? (i := 119) rfl)) rfl, [122, 718, 719], by decide +kernel⟩
set_option maxRecDepth 100000 in
theorem m_X12_end_w : vMwP m_X12_end 1 := ⟨WT_of (tin_6 (List.mem_of_getElem? (i := 120) rfl)) rfl, [138, 1439, 1440], by decide +kernel⟩
set_option maxRecDepth 100000 in
theorem m_J9_min_7cf53_w : vMwP m_J9_min_7cf53 0 := ⟨WT_of (tin_3 (List.mem_of_getElem? (i := 134) rfl)) rfl, [139, 734], by decide +kernel⟩
set_option maxRecDepth 100000 in
theorem m_X6_begin_w : vMwP m_X6_begin 1 := ⟨WT_of (tin_3 (List.mem_of_getElem? (i := 131) rfl)) rfl, [123, 730, 731], by decide +kernel⟩
set_option maxRecDepth 100000 in
theorem m_X11_takeTape_w : vMwP m_X11_takeTape 1 := ⟨WT_of (tin_3 (List.mem_of_getElem? (i := 127) rfl)) rfl, [122, 727, 1], by decide +kernel⟩
set_option maxRecDepth 100000 in
theorem m_X9_clear_w : vMwP m_X9_clear 1 := ⟨WT_of (tin_3 (List.mem_of_getElem? (i := 142) rfl)) rfl, [128, 741, 742], by decide +kernel⟩
set_option maxRecDepth 100000 in
theorem m_X6_findKeyword_w : vMwP m_X6_findKeyword 1 := ⟨WT_of (tin_3 (List.mem_of_getElem? (i := 154) rfl)) rfl, [123, 754, 3], by decide +kernel⟩
set_option maxRecDepth 100000 in
theorem m_X6_readRun_w : vMwP m_X6_readRun 1 := ⟨WT_of (tin_3 (List.mem_of_getElem? (i := 150) rfl)) rfl, [123, 750, 2], by decide +kernel⟩
set_option maxRecDepth 100000 in
theorem m_X6_advance_w : vMwP m_X6_advance 1 := ⟨WT_of (tin_3 (List.mem_of_getElem? (i := 146) rfl)) rfl, [123, 745, 746], by decide +kernel⟩
set_option maxRecDepth 100000 in
theorem m_X9_findClashes_w : vMwP m_X9_findClashes 1 := ⟨WT_of (tin_3 (List.mem_of_getElem? (i := 158) rfl)) rfl, [128, 757, 758], by decide +kernel⟩
set_option maxRecDepth 100000 in
theorem m_X6_fail_w : vMwP m_X6_fail 1 := ⟨WT_of (tin_3 (List.mem_of_getElem? (i := 170) rfl)) rfl, [123, 769, 770], by decide +kernel⟩
set_option maxRecDepth 100000 in
theorem m_X6_isName_w : vMwP m_X6_isName 1 := ⟨WT_of (tin_3 (List.mem_of_getElem? (i := 178) rfl)) rfl, [123, 777, 778], by decide +kernel⟩
set_option maxRecDepth 100000 in
theorem m_X9_find_w : vMwP m_X9_find 1 := ⟨WT_of (tin_3 (List.mem_of_getElem? (i := 182) rfl)) rfl, [128, 781, 782], by decide +kernel⟩
set_option maxRecDepth 100000 in
theorem m_X9_name_w : vMwP m_X9_name 1 := ⟨WT_of (tin_3 (List.mem_of_getElem? (i := 186) rfl)) rfl, [128, 785, 786], by decide +kernel⟩
set_option maxRecDepth 100000 in
theorem m_X10_readNewName_w : vMwP m_X10_readNewName 1 := ⟨WT_of (tin_3 (List.mem_of_getElem? (i := 174) rfl)) rfl, [129, 774, 6], by decide +kernel⟩
set_option maxRecDepth 100000 in
theorem m_X6_endsLine_w : vMwP m_X6_endsLine 1 := ⟨WT_of (tin_3 (List.mem_of_getElem? (i := 190) rfl)) rfl, [123, 789, 790], by decide +kernel⟩
set_option maxRecDepth 100000 in
theorem m_X10_readSort_w : vMwP m_X10_readSort 1 := ⟨WT_of (tin_3 (List.mem_of_getElem? (i := 166) rfl)) rfl, [129, 766, 5], by decide +kernel⟩
set_option maxRecDepth 100000 in
theorem m_X6_readName_w : vMwP m_X6_readName 1 := ⟨WT_of (tin_3 (List.mem_of_getElem? (i := 199) rfl)) rfl, [123, 798, 799], by decide +kernel⟩
set_option maxRecDepth 100000 in
theorem m_X6_nextEndsLine_w : vMwP m_X6_nextEndsLine 1 := ⟨WT_of (tin_3 (List.mem_of_getElem? (i := 206) rfl)) rfl, [123, 805, 806], by decide +kernel⟩
set_option maxRecDepth 100000 in
theorem m_X10_readTalks_w : vMwP m_X10_readTalks 1 := ⟨WT_of (tin_3 (List.mem_of_getElem? (i := 195) rfl)) rfl, [129, 795, 7], by decide +kernel⟩
set_option maxRecDepth 100000 in
theorem m_X6_readNumber_w : vMwP m_X6_readNumber 1 := ⟨WT_of (tin_3 (List.mem_of_getElem? (i := 215) rfl)) rfl, [123, 814, 815], by decide +kernel⟩
set_option maxRecDepth 100000 in
theorem m_X10_readPerson_w : vMwP m_X10_readPerson 1 := ⟨WT_of (tin_3 (List.mem_of_getElem? (i := 211) rfl)) rfl, [129, 811, 8], by decide +kernel⟩
set_option maxRecDepth 100000 in
theorem m_X10_readPorter_w : vMwP m_X10_readPorter 1 := ⟨WT_of (tin_3 (List.mem_of_getElem? (i := 219) rfl)) rfl, [129, 819, 9], by decide +kernel⟩
set_option maxRecDepth 100000 in
theorem m_X10_readBars_w : vMwP m_X10_readBars 1 := ⟨WT_of (tin_3 (List.mem_of_getElem? (i := 223) rfl)) rfl, [129, 823, 10], by decide +kernel⟩
set_option maxRecDepth 100000 in
theorem m_X10_readPain_w : vMwP m_X10_readPain 1 := ⟨WT_of (tin_3 (List.mem_of_getElem? (i := 227) rfl)) rfl, [129, 827, 11], by decide +kernel⟩
set_option maxRecDepth 100000 in
theorem m_X10_readHarm_w : vMwP m_X10_readHarm 1 := ⟨WT_of (tin_3 (List.mem_of_getElem? (i := 231) rfl)) rfl, [129, 831, 12], by decide +kernel⟩
set_option maxRecDepth 100000 in
theorem m_X10_readLine_w : vMwP m_X10_readLine 1 := ⟨WT_of (tin_3 (List.mem_of_getElem? (i := 162) rfl)) rfl, [129, 762, 4], by decide +kernel⟩
set_option maxRecDepth 100000 in
theorem m_X10_read_w : vMwP m_X10_read 1 := ⟨WT_of (tin_3 (List.mem_of_getElem? (i := 138) rfl)) rfl, [129, 737, 738], by decide +kernel⟩
set_option maxRecDepth 100000 in
theorem m_X8_begin_w : vMwP m_X8_begin 1 := ⟨WT_of (tin_3 (List.mem_of_getElem? (i := 235) rfl)) rfl, [130, 834, 835], by decide +kernel⟩
set_option maxRecDepth 100000 in
theorem m_X7_forget_w : vMwP m_X7_forget 1 := ⟨WT_of (tin_3 (List.mem_of_getElem? (i := 239) rfl)) rfl, [131, 838, 839], by decide +kernel⟩
set_option maxRecDepth 100000 in
theorem m_X5_forget_w : vMwP m_X5_forget 1 := ⟨WT_of (tin_4 (List.mem_of_getElem? (i := 3) rfl)) rfl, [133, 842, 843], by decide +kernel⟩
set_option maxRecDepth 100000 in
theorem m_X11_town_w : vMwP m_X11_town 1 := ⟨WT_of (tin_3 (List.mem_of_getElem? (i := 123) rfl)) rfl, [122, 722, 723], by decide +kernel⟩
set_option maxRecDepth 100000 in
theorem m_X12_taken_w : vMwP m_X12_taken 1 := ⟨WT_of (tin_7 (List.mem_of_getElem? (i := 100) rfl)) rfl, [138, 1660, 54], by decide +kernel⟩
set_option maxRecDepth 100000 in
theorem m_X12_peek_w : vMwP m_X12_peek 1 := ⟨WT_of (tin_7 (List.mem_of_getElem? (i := 108) rfl)) rfl, [138, 1668, 56], by decide +kernel⟩
set_option maxRecDepth 100000 in
theorem m_X12_isSmall_w : vMwP m_X12_isSmall 0 := ⟨WT_of (tin_7 (List.mem_of_getElem? (i := 111) rfl)) rfl, [138, 1671], by decide +kernel⟩
set_option maxRecDepth 100000 in
theorem m_X12_isDigit_w : vMwP m_X12_isDigit 0 := ⟨WT_of (tin_7 (List.mem_of_getElem? (i := 114) rfl)) rfl, [138, 1674], by decide +kernel⟩
set_option maxRecDepth 100000 in
theorem m_X12_next_w : vMwP m_X12_next 1 := ⟨WT_of (tin_7 (List.mem_of_getElem? (i := 104) rfl)) rfl, [138, 1664, 55], by decide +kernel⟩
set_option maxRecDepth 100000 in
theorem m_X12_isWord_w : vMwP m_X12_isWord 1 := ⟨WT_of (tin_7 (List.mem_of_getElem? (i := 122) rfl)) rfl, [138, 1682, 58], by decide +kernel⟩
set_option maxRecDepth 100000 in
theorem m_X12_bad_w : vMwP m_X12_bad 1 := ⟨WT_of (tin_7 (List.mem_of_getElem? (i := 126) rfl)) rfl, [138, 1686, 59], by decide +kernel⟩
set_option maxRecDepth 100000 in
theorem m_X12_isName_w : vMwP m_X12_isName 1 := ⟨WT_of (tin_7 (List.mem_of_getElem? (i := 134) rfl)) rfl, [138, 1694, 61], by decide +kernel⟩
set_option maxRecDepth 100000 in
theorem m_X12_find_w : vMwP m_X12_find 1 := ⟨WT_of (tin_7 (List.mem_of_getElem? (i := 138) rfl)) rfl, [138, 1698, 62], by decide +kernel⟩
set_option maxRecDepth 100000 in
theorem m_X12_fresh_w : vMwP m_X12_fresh 1 := ⟨WT_of (tin_7 (List.mem_of_getElem? (i := 130) rfl)) rfl, [138, 1690, 60], by decide +kernel⟩
set_option maxRecDepth 100000 in
theorem m_X12_looksAt_w : vMwP m_X12_looksAt 1 := ⟨WT_of (tin_7 (List.mem_of_getElem? (i := 146) rfl)) rfl, [138, 1706, 64], by decide +kernel⟩
set_option maxRecDepth 100000 in
theorem m_X12_takesName_w : vMwP m_X12_takesName 1 := ⟨WT_of (tin_7 (List.mem_of_getElem? (i := 142) rfl)) rfl, [138, 1702, 63], by decide +kernel⟩
set_option maxRecDepth 100000 in
theorem m_X12_bitOf_w : vMwP m_X12_bitOf 0 := ⟨WT_of (tin_7 (List.mem_of_getElem? (i := 149) rfl)) rfl, [138, 1709], by decide +kernel⟩
set_option maxRecDepth 100000 in
theorem m_X12_isIn_w : vMwP m_X12_isIn 0 := ⟨WT_of (tin_7 (List.mem_of_getElem? (i := 160) rfl)) rfl, [138, 1720], by decide +kernel⟩
set_option maxRecDepth 100000 in
theorem m_X12_takes_w : vMwP m_X12_takes 1 := ⟨WT_of (tin_7 (List.mem_of_getElem? (i := 157) rfl)) rfl, [138, 1717, 66], by decide +kernel⟩
set_option maxRecDepth 100000 in
theorem m_X12_puts_w : vMwP m_X12_puts 1 := ⟨WT_of (tin_7 (List.mem_of_getElem? (i := 153) rfl)) rfl, [138, 1713, 65], by decide +kernel⟩
set_option maxRecDepth 100000 in
theorem m_X12_readPain_w : vMwP m_X12_readPain 1 := ⟨WT_of (tin_7 (List.mem_of_getElem? (i := 164) rfl)) rfl, [138, 1724, 67], by decide +kernel⟩
set_option maxRecDepth 100000 in
theorem m_X12_line_w : vMwP m_X12_line 1 := ⟨WT_of (tin_7 (List.mem_of_getElem? (i := 118) rfl)) rfl, [138, 1678, 57], by decide +kernel⟩
set_option maxRecDepth 100000 in
theorem m_X12_isSign_w : vMwP m_X12_isSign 1 := ⟨WT_of (tin_7 (List.mem_of_getElem? (i := 172) rfl)) rfl, [138, 1732, 69], by decide +kernel⟩
set_option maxRecDepth 100000 in
theorem m_X12_sign_w : vMwP m_X12_sign 1 := ⟨WT_of (tin_7 (List.mem_of_getElem? (i := 168) rfl)) rfl, [138, 1728, 68], by decide +kernel⟩
set_option maxRecDepth 100000 in
theorem m_X12_town_w : vMwP m_X12_town 1 := ⟨WT_of (tin_7 (List.mem_of_getElem? (i := 96) rfl)) rfl, [138, 1655, 1656], by decide +kernel⟩
set_option maxRecDepth 100000 in
theorem m_X11_fault_w : vMwP m_X11_fault 1 := ⟨WT_of (tin_4 (List.mem_of_getElem? (i := 7) rfl)) rfl, [122, 846, 847], by decide +kernel⟩
set_option maxRecDepth 100000 in
theorem m_X12_fault_w : vMwP m_X12_fault 1 := ⟨WT_of (tin_7 (List.mem_of_getElem? (i := 176) rfl)) rfl, [138, 1735, 1736], by decide +kernel⟩
set_option maxRecDepth 100000 in
theorem m_X12_isPain_w : vMwP m_X12_isPain 1 := ⟨WT_of (tin_7 (List.mem_of_getElem? (i := 184) rfl)) rfl, [138, 1744, 70], by decide +kernel⟩
set_option maxRecDepth 100000 in
theorem m_X12_throwsIf_w : vMwP m_X12_throwsIf 1 := ⟨WT_of (tin_7 (List.mem_of_getElem? (i := 188) rfl)) rfl, [138, 1748, 71], by decide +kernel⟩
set_option maxRecDepth 100000 in
theorem m_X12_pain_w : vMwP m_X12_pain 1 := ⟨WT_of (tin_7 (List.mem_of_getElem? (i := 180) rfl)) rfl, [138, 1739, 1740], by decide +kernel⟩
set_option maxRecDepth 100000 in
theorem m_X11_isPerson_w : vMwP m_X11_isPerson 1 := ⟨WT_of (tin_4 (List.mem_of_getElem? (i := 15) rfl)) rfl, [122, 855, 13], by decide +kernel⟩
set_option maxRecDepth 100000 in
theorem m_X8_painsOf_w : vMwP m_X8_painsOf 1 := ⟨WT_of (tin_4 (List.mem_of_getElem? (i := 19) rfl)) rfl, [130, 858, 859], by decide +kernel⟩
set_option maxRecDepth 100000 in
theorem m_X8_painsAt_w : vMwP m_X8_painsAt 1 := ⟨WT_of (tin_4 (List.mem_of_getElem? (i := 23) rfl)) rfl, [130, 862, 863], by decide +kernel⟩
set_option maxRecDepth 100000 in
theorem m_X8_weightAt_w : vMwP m_X8_weightAt 1 := ⟨WT_of (tin_4 (List.mem_of_getElem? (i := 27) rfl)) rfl, [130, 866, 867], by decide +kernel⟩
set_option maxRecDepth 100000 in
theorem m_X11_person_w : vMwP m_X11_person 1 := ⟨WT_of (tin_4 (List.mem_of_getElem? (i := 11) rfl)) rfl, [122, 850, 851], by decide +kernel⟩
set_option maxRecDepth 100000 in
theorem m_X12_isPerson_w : vMwP m_X12_isPerson 1 := ⟨WT_of (tin_7 (List.mem_of_getElem? (i := 196) rfl)) rfl, [138, 1756, 72], by decide +kernel⟩
set_option maxRecDepth 100000 in
theorem m_X12_isOver_w : vMwP m_X12_isOver 1 := ⟨WT_of (tin_7 (List.mem_of_getElem? (i := 200) rfl)) rfl, [138, 1760, 73], by decide +kernel⟩
set_option maxRecDepth 100000 in
theorem m_X12_painsAt_w : vMwP m_X12_painsAt 1 := ⟨WT_of (tin_7 (List.mem_of_getElem? (i := 204) rfl)) rfl, [138, 1764, 74], by decide +kernel⟩
set_option maxRecDepth 100000 in
theorem m_X12_weightOf_w : vMwP m_X12_weightOf 1 := ⟨WT_of (tin_7 (List.mem_of_getElem? (i := 208) rfl)) rfl, [138, 1768, 75], by decide +kernel⟩
set_option maxRecDepth 100000 in
theorem m_X12_person_w : vMwP m_X12_person 1 := ⟨WT_of (tin_7 (List.mem_of_getElem? (i := 192) rfl)) rfl, [138, 1751, 1752], by decide +kernel⟩
set_option maxRecDepth 100000 in
theorem m_X12_isPorter_w : vMwP m_X12_isPorter 1 := ⟨WT_of (tin_7 (List.mem_of_getElem? (i := 216) rfl)) rfl, [138, 1776, 76], by decide +kernel⟩
set_option maxRecDepth 100000 in
theorem m_X12_hasLearnt_w : vMwP m_X12_hasLearnt 1 := ⟨WT_of (tin_7 (List.mem_of_getElem? (i := 220) rfl)) rfl, [138, 1780, 77], by decide +kernel⟩
set_option maxRecDepth 100000 in
theorem m_X12_heaves_w : vMwP m_X12_heaves 1 := ⟨WT_of (tin_7 (List.mem_of_getElem? (i := 228) rfl)) rfl, [138, 1788, 79], by decide +kernel⟩
set_option maxRecDepth 100000 in
theorem m_X12_heavesAll_w : vMwP m_X12_heavesAll 1 := ⟨WT_of (tin_7 (List.mem_of_getElem? (i := 224) rfl)) rfl, [138, 1784, 78], by decide +kernel⟩
set_option maxRecDepth 100000 in
theorem m_X12_porter_w : vMwP m_X12_porter 1 := ⟨WT_of (tin_7 (List.mem_of_getElem? (i := 212) rfl)) rfl, [138, 1771, 1772], by decide +kernel⟩
set_option maxRecDepth 100000 in
theorem m_X11_sort_w : vMwP m_X11_sort 1 := ⟨WT_of (tin_4 (List.mem_of_getElem? (i := 31) rfl)) rfl, [122, 870, 871], by decide +kernel⟩
set_option maxRecDepth 100000 in
theorem m_X12_sort_w : vMwP m_X12_sort 1 := ⟨WT_of (tin_7 (List.mem_of_getElem? (i := 232) rfl)) rfl, [138, 1791, 1792], by decide +kernel⟩
set_option maxRecDepth 100000 in
theorem m_X8_painless_w : vMwP m_X8_painless 1 := ⟨WT_of (tin_4 (List.mem_of_getElem? (i := 39) rfl)) rfl, [130, 878, 879], by decide +kernel⟩
set_option maxRecDepth 100000 in
theorem m_X11_sum_w : vMwP m_X11_sum 0 := ⟨WT_of (tin_4 (List.mem_of_getElem? (i := 43) rfl)) rfl, [122, 883], by decide +kernel⟩
set_option maxRecDepth 100000 in
theorem m_X8_isCarried_w : vMwP m_X8_isCarried 1 := ⟨WT_of (tin_4 (List.mem_of_getElem? (i := 51) rfl)) rfl, [130, 890, 891], by decide +kernel⟩
set_option maxRecDepth 100000 in
theorem m_X8_carriedNow_w : vMwP m_X8_carriedNow 1 := ⟨WT_of (tin_4 (List.mem_of_getElem? (i := 47) rfl)) rfl, [130, 886, 887], by decide +kernel⟩
set_option maxRecDepth 100000 in
theorem m_X11_now_w : vMwP m_X11_now 1 := ⟨WT_of (tin_4 (List.mem_of_getElem? (i := 35) rfl)) rfl, [122, 874, 875], by decide +kernel⟩
set_option maxRecDepth 100000 in
theorem m_X12_freeSet_w : vMwP m_X12_freeSet 1 := ⟨WT_of (tin_8 (List.mem_of_getElem? (i := 0) rfl)) rfl, [138, 1800, 80], by decide +kernel⟩
set_option maxRecDepth 100000 in
theorem m_X12_sum_w : vMwP m_X12_sum 1 := ⟨WT_of (tin_8 (List.mem_of_getElem? (i := 4) rfl)) rfl, [138, 1804, 81], by decide +kernel⟩
set_option maxRecDepth 100000 in
theorem m_X12_isCarried_w : vMwP m_X12_isCarried 1 := ⟨WT_of (tin_8 (List.mem_of_getElem? (i := 12) rfl)) rfl, [138, 1812, 83], by decide +kernel⟩
set_option maxRecDepth 100000 in
theorem m_X12_carriedSet_w : vMwP m_X12_carriedSet 1 := ⟨WT_of (tin_8 (List.mem_of_getElem? (i := 8) rfl)) rfl, [138, 1808, 82], by decide +kernel⟩
set_option maxRecDepth 100000 in
theorem m_X12_now_w : vMwP m_X12_now 1 := ⟨WT_of (tin_7 (List.mem_of_getElem? (i := 236) rfl)) rfl, [138, 1795, 1796], by decide +kernel⟩
set_option maxRecDepth 100000 in
theorem m_X11_isPorter_w : vMwP m_X11_isPorter 1 := ⟨WT_of (tin_4 (List.mem_of_getElem? (i := 59) rfl)) rfl, [122, 899, 14], by decide +kernel⟩
set_option maxRecDepth 100000 in
theorem m_X11_isPain_w : vMwP m_X11_isPain 1 := ⟨WT_of (tin_4 (List.mem_of_getElem? (i := 63) rfl)) rfl, [122, 903, 15], by decide +kernel⟩
set_option maxRecDepth 100000 in
theorem m_X9_isForbidden_w : vMwP m_X9_isForbidden 1 := ⟨WT_of (tin_4 (List.mem_of_getElem? (i := 75) rfl)) rfl, [128, 914, 915], by decide +kernel⟩
set_option maxRecDepth 100000 in
theorem m_X8_heaveOf_w : vMwP m_X8_heaveOf 1 := ⟨WT_of (tin_4 (List.mem_of_getElem? (i := 79) rfl)) rfl, [130, 918, 919], by decide +kernel⟩
set_option maxRecDepth 100000 in
theorem m_X8_whyNotCarry_w : vMwP m_X8_whyNotCarry 1 := ⟨WT_of (tin_4 (List.mem_of_getElem? (i := 71) rfl)) rfl, [130, 910, 911], by decide +kernel⟩
set_option maxRecDepth 100000 in
theorem m_X8_whyNotFetch_w : vMwP m_X8_whyNotFetch 1 := ⟨WT_of (tin_4 (List.mem_of_getElem? (i := 67) rfl)) rfl, [130, 906, 907], by decide +kernel⟩
set_option maxRecDepth 100000 in
theorem m_X8_copyFrom_w : vMwP m_X8_copyFrom 1 := ⟨WT_of (tin_4 (List.mem_of_getElem? (i := 87) rfl)) rfl, [130, 926, 927], by decide +kernel⟩
set_option maxRecDepth 100000 in
theorem m_X5_keep_w : vMwP m_X5_keep 1 := ⟨WT_of (tin_4 (List.mem_of_getElem? (i := 83) rfl)) rfl, [133, 922, 923], by decide +kernel⟩
set_option maxRecDepth 100000 in
theorem m_X8_give_w : vMwP m_X8_give 1 := ⟨WT_of (tin_4 (List.mem_of_getElem? (i := 95) rfl)) rfl, [130, 934, 935], by decide +kernel⟩
set_option maxRecDepth 100000 in
theorem m_X11_fetch_w : vMwP m_X11_fetch 1 := ⟨WT_of (tin_4 (List.mem_of_getElem? (i := 55) rfl)) rfl, [122, 894, 895], by decide +kernel⟩
set_option maxRecDepth 100000 in
theorem m_X12_cant_w : vMwP m_X12_cant 1 := ⟨WT_of (tin_8 (List.mem_of_getElem? (i := 28) rfl)) rfl, [138, 1828, 86], by decide +kernel⟩
set_option maxRecDepth 100000 in
theorem m_X12_cantNow_w : vMwP m_X12_cantNow 1 := ⟨WT_of (tin_8 (List.mem_of_getElem? (i := 24) rfl)) rfl, [138, 1824, 85], by decide +kernel⟩
set_option maxRecDepth 100000 in
theorem m_X12_whyFetch_w : vMwP m_X12_whyFetch 1 := ⟨WT_of (tin_8 (List.mem_of_getElem? (i := 20) rfl)) rfl, [138, 1820, 84], by decide +kernel⟩
set_option maxRecDepth 100000 in
theorem m_X12_keep_w : vMwP m_X12_keep 1 := ⟨WT_of (tin_8 (List.mem_of_getElem? (i := 32) rfl)) rfl, [138, 1832, 87], by decide +kernel⟩
set_option maxRecDepth 100000 in
theorem m_X12_fetch_w : vMwP m_X12_fetch 1 := ⟨WT_of (tin_8 (List.mem_of_getElem? (i := 16) rfl)) rfl, [138, 1815, 1816], by decide +kernel⟩
set_option maxRecDepth 100000 in
theorem m_X8_whyNotHand_w : vMwP m_X8_whyNotHand 1 := ⟨WT_of (tin_4 (List.mem_of_getElem? (i := 103) rfl)) rfl, [130, 942, 943], by decide +kernel⟩
set_option maxRecDepth 100000 in
theorem m_X11_hand_w : vMwP m_X11_hand 1 := ⟨WT_of (tin_4 (List.mem_of_getElem? (i := 99) rfl)) rfl, [122, 938, 939], by decide +kernel⟩
set_option maxRecDepth 100000 in
theorem m_X12_whyHand_w : vMwP m_X12_whyHand 1 := ⟨WT_of (tin_8 (List.mem_of_getElem? (i := 40) rfl)) rfl, [138, 1840, 88], by decide +kernel⟩
set_option maxRecDepth 100000 in
theorem m_X12_hand_w : vMwP m_X12_hand 1 := ⟨WT_of (tin_8 (List.mem_of_getElem? (i := 36) rfl)) rfl, [138, 1835, 1836], by decide +kernel⟩
set_option maxRecDepth 100000 in
theorem m_X8_whyNotDrop_w : vMwP m_X8_whyNotDrop 1 := ⟨WT_of (tin_4 (List.mem_of_getElem? (i := 111) rfl)) rfl, [130, 950, 951], by decide +kernel⟩
set_option maxRecDepth 100000 in
theorem m_X8_letFall_w : vMwP m_X8_letFall 1 := ⟨WT_of (tin_4 (List.mem_of_getElem? (i := 115) rfl)) rfl, [130, 954, 955], by decide +kernel⟩
set_option maxRecDepth 100000 in
theorem m_X11_drop_w : vMwP m_X11_drop 1 := ⟨WT_of (tin_4 (List.mem_of_getElem? (i := 107) rfl)) rfl, [122, 946, 947], by decide +kernel⟩
set_option maxRecDepth 100000 in
theorem m_X12_whyDrop_w : vMwP m_X12_whyDrop 1 := ⟨WT_of (tin_8 (List.mem_of_getElem? (i := 48) rfl)) rfl, [138, 1848, 89], by decide +kernel⟩
set_option maxRecDepth 100000 in
theorem m_X12_drops_w : vMwP m_X12_drops 1 := ⟨WT_of (tin_8 (List.mem_of_getElem? (i := 52) rfl)) rfl, [138, 1852, 90], by decide +kernel⟩
set_option maxRecDepth 100000 in
theorem m_X12_drop_w : vMwP m_X12_drop 1 := ⟨WT_of (tin_8 (List.mem_of_getElem? (i := 44) rfl)) rfl, [138, 1843, 1844], by decide +kernel⟩
set_option maxRecDepth 100000 in
theorem m_X8_whyNotHome_w : vMwP m_X8_whyNotHome 1 := ⟨WT_of (tin_4 (List.mem_of_getElem? (i := 123) rfl)) rfl, [130, 962, 963], by decide +kernel⟩
set_option maxRecDepth 100000 in
theorem m_X11_home_w : vMwP m_X11_home 1 := ⟨WT_of (tin_4 (List.mem_of_getElem? (i := 119) rfl)) rfl, [122, 958, 959], by decide +kernel⟩
set_option maxRecDepth 100000 in
theorem m_X12_whyHome_w : vMwP m_X12_whyHome 1 := ⟨WT_of (tin_8 (List.mem_of_getElem? (i := 60) rfl)) rfl, [138, 1860, 91], by decide +kernel⟩
set_option maxRecDepth 100000 in
theorem m_X12_home_w : vMwP m_X12_home 1 := ⟨WT_of (tin_8 (List.mem_of_getElem? (i := 56) rfl)) rfl, [138, 1855, 1856], by decide +kernel⟩
set_option maxRecDepth 100000 in
theorem m_X8_payPorters_w : vMwP m_X8_payPorters 1 := ⟨WT_of (tin_4 (List.mem_of_getElem? (i := 136) rfl)) rfl, [130, 976, 16], by decide +kernel⟩
set_option maxRecDepth 100000 in
theorem m_X8_isFirstOfSort_w : vMwP m_X8_isFirstOfSort 1 := ⟨WT_of (tin_4 (List.mem_of_getElem? (i := 144) rfl)) rfl, [130, 984, 18], by decide +kernel⟩
set_option maxRecDepth 100000 in
theorem m_X8_practise_w : vMwP m_X8_practise 1 := ⟨WT_of (tin_4 (List.mem_of_getElem? (i := 140) rfl)) rfl, [130, 980, 17], by decide +kernel⟩
set_option maxRecDepth 100000 in
theorem m_X8_wearOff_w : vMwP m_X8_wearOff 1 := ⟨WT_of (tin_4 (List.mem_of_getElem? (i := 148) rfl)) rfl, [130, 988, 19], by decide +kernel⟩
set_option maxRecDepth 100000 in
theorem m_X8_fallOnSomebody_w : vMwP m_X8_fallOnSomebody 1 := ⟨WT_of (tin_4 (List.mem_of_getElem? (i := 152) rfl)) rfl, [130, 992, 20], by decide +kernel⟩
set_option maxRecDepth 100000 in
theorem m_X8_passHours_w : vMwP m_X8_passHours 1 := ⟨WT_of (tin_4 (List.mem_of_getElem? (i := 131) rfl)) rfl, [130, 970, 971], by decide +kernel⟩
set_option maxRecDepth 100000 in
theorem m_X11_hours_w : vMwP m_X11_hours 1 := ⟨WT_of (tin_4 (List.mem_of_getElem? (i := 127) rfl)) rfl, [122, 966, 967], by decide +kernel⟩
set_option maxRecDepth 100000 in
theorem m_X12_pays_w : vMwP m_X12_pays 1 := ⟨WT_of (tin_8 (List.mem_of_getElem? (i := 76) rfl)) rfl, [138, 1876, 94], by decide +kernel⟩
set_option maxRecDepth 100000 in
theorem m_X12_lesser_w : vMwP m_X12_lesser 0 := ⟨WT_of (tin_8 (List.mem_of_getElem? (i := 83) rfl)) rfl, [138, 1883], by decide +kernel⟩
set_option maxRecDepth 100000 in
theorem m_X12_learns_w : vMwP m_X12_learns 1 := ⟨WT_of (tin_8 (List.mem_of_getElem? (i := 80) rfl)) rfl, [138, 1880, 95], by decide +kernel⟩
set_option maxRecDepth 100000 in
theorem m_X12_hour_w : vMwP m_X12_hour 1 := ⟨WT_of (tin_8 (List.mem_of_getElem? (i := 72) rfl)) rfl, [138, 1872, 93], by decide +kernel⟩
set_option maxRecDepth 100000 in
theorem m_X12_goesOn_w : vMwP m_X12_goesOn 1 := ⟨WT_of (tin_8 (List.mem_of_getElem? (i := 68) rfl)) rfl, [138, 1868, 92], by decide +kernel⟩
set_option maxRecDepth 100000 in
theorem m_X12_hours_w : vMwP m_X12_hours 1 := ⟨WT_of (tin_8 (List.mem_of_getElem? (i := 64) rfl)) rfl, [138, 1863, 1864], by decide +kernel⟩
set_option maxRecDepth 100000 in
theorem m_X5_bringBack_w : vMwP m_X5_bringBack 1 := ⟨WT_of (tin_4 (List.mem_of_getElem? (i := 160) rfl)) rfl, [133, 999, 1000], by decide +kernel⟩
set_option maxRecDepth 100000 in
theorem m_X11_undo_w : vMwP m_X11_undo 1 := ⟨WT_of (tin_4 (List.mem_of_getElem? (i := 156) rfl)) rfl, [122, 995, 996], by decide +kernel⟩
set_option maxRecDepth 100000 in
theorem m_X12_undo_w : vMwP m_X12_undo 1 := ⟨WT_of (tin_8 (List.mem_of_getElem? (i := 87) rfl)) rfl, [138, 1886, 1887], by decide +kernel⟩
set_option maxRecDepth 100000 in
theorem m_X11_can_w : vMwP m_X11_can 1 := ⟨WT_of (tin_4 (List.mem_of_getElem? (i := 164) rfl)) rfl, [122, 1003, 1004], by decide +kernel⟩
set_option maxRecDepth 100000 in
theorem m_X12_can_w : vMwP m_X12_can 1 := ⟨WT_of (tin_8 (List.mem_of_getElem? (i := 91) rfl)) rfl, [138, 1890, 1891], by decide +kernel⟩
set_option maxRecDepth 100000 in
theorem m_X11_isAmong_w : vMwP m_X11_isAmong 0 := ⟨WT_of (tin_4 (List.mem_of_getElem? (i := 172) rfl)) rfl, [122, 1012], by decide +kernel⟩
set_option maxRecDepth 100000 in
theorem m_X3_gather_w : vMwP m_X3_gather 1 := ⟨WT_of (tin_4 (List.mem_of_getElem? (i := 181) rfl)) rfl, [134, 1021, 21], by decide +kernel⟩
set_option maxRecDepth 100000 in
theorem m_X3_findKeys_w : vMwP m_X3_findKeys 1 := ⟨WT_of (tin_4 (List.mem_of_getElem? (i := 192) rfl)) rfl, [134, 1032, 23], by decide +kernel⟩
set_option maxRecDepth 100000 in
theorem m_J9_min_f86c9_w : vMwP m_J9_min_f86c9 0 := ⟨WT_of (tin_4 (List.mem_of_getElem? (i := 202) rfl)) rfl, [139, 1042], by decide +kernel⟩
set_option maxRecDepth 100000 in
theorem m_X3_addPorter_w : vMwP m_X3_addPorter 1 := ⟨WT_of (tin_4 (List.mem_of_getElem? (i := 199) rfl)) rfl, [134, 1039, 24], by decide +kernel⟩
set_option maxRecDepth 100000 in
theorem m_X3_leastCost_w : vMwP m_X3_leastCost 1 := ⟨WT_of (tin_4 (List.mem_of_getElem? (i := 187) rfl)) rfl, [134, 1027, 22], by decide +kernel⟩
set_option maxRecDepth 100000 in
theorem m_X3_freeing_w : vMwP m_X3_freeing 1 := ⟨WT_of (tin_4 (List.mem_of_getElem? (i := 176) rfl)) rfl, [134, 1015, 1016], by decide +kernel⟩
set_option maxRecDepth 100000 in
theorem m_X3_tell_w : vMwP m_X3_tell 1 := ⟨WT_of (tin_4 (List.mem_of_getElem? (i := 206) rfl)) rfl, [134, 1045, 1046], by decide +kernel⟩
set_option maxRecDepth 100000 in
theorem m_X11_free_w : vMwP m_X11_free 1 := ⟨WT_of (tin_4 (List.mem_of_getElem? (i := 169) rfl)) rfl, [122, 1008, 1009], by decide +kernel⟩
set_option maxRecDepth 100000 in
theorem m_X12_lists_w : vMwP m_X12_lists 1 := ⟨WT_of (tin_8 (List.mem_of_getElem? (i := 99) rfl)) rfl, [138, 1899, 96], by decide +kernel⟩
set_option maxRecDepth 100000 in
theorem m_X12_bits_w : vMwP m_X12_bits 0 := ⟨WT_of (tin_8 (List.mem_of_getElem? (i := 111) rfl)) rfl, [138, 1911], by decide +kernel⟩
set_option maxRecDepth 100000 in
theorem m_X12_costTo_w : vMwP m_X12_costTo 1 := ⟨WT_of (tin_8 (List.mem_of_getElem? (i := 108) rfl)) rfl, [138, 1908, 98], by decide +kernel⟩
set_option maxRecDepth 100000 in
theorem m_X12_assigns_w : vMwP m_X12_assigns 1 := ⟨WT_of (tin_8 (List.mem_of_getElem? (i := 103) rfl)) rfl, [138, 1903, 97], by decide +kernel⟩
set_option maxRecDepth 100000 in
theorem m_X12_tells_w : vMwP m_X12_tells 1 := ⟨WT_of (tin_8 (List.mem_of_getElem? (i := 115) rfl)) rfl, [138, 1915, 99], by decide +kernel⟩
set_option maxRecDepth 100000 in
theorem m_X12_free_w : vMwP m_X12_free 1 := ⟨WT_of (tin_8 (List.mem_of_getElem? (i := 95) rfl)) rfl, [138, 1894, 1895], by decide +kernel⟩
set_option maxRecDepth 100000 in
theorem m_X11_by_w : vMwP m_X11_by 1 := ⟨WT_of (tin_4 (List.mem_of_getElem? (i := 210) rfl)) rfl, [122, 1049, 1050], by decide +kernel⟩
set_option maxRecDepth 100000 in
theorem m_X12_by_w : vMwP m_X12_by 1 := ⟨WT_of (tin_8 (List.mem_of_getElem? (i := 119) rfl)) rfl, [138, 1918, 1919], by decide +kernel⟩
set_option maxRecDepth 100000 in
theorem m_X3_fewestFor_w : vMwP m_X3_fewestFor 1 := ⟨WT_of (tin_4 (List.mem_of_getElem? (i := 218) rfl)) rfl, [134, 1057, 1058], by decide +kernel⟩
set_option maxRecDepth 100000 in
theorem m_X11_fewest_w : vMwP m_X11_fewest 1 := ⟨WT_of (tin_4 (List.mem_of_getElem? (i := 214) rfl)) rfl, [122, 1053, 1054], by decide +kernel⟩
set_option maxRecDepth 100000 in
theorem m_X12_fewest_w : vMwP m_X12_fewest 1 := ⟨WT_of (tin_8 (List.mem_of_getElem? (i := 123) rfl)) rfl, [138, 1922, 1923], by decide +kernel⟩
set_option maxRecDepth 100000 in
theorem m_X11_load_w : vMwP m_X11_load 1 := ⟨WT_of (tin_4 (List.mem_of_getElem? (i := 222) rfl)) rfl, [122, 1061, 1062], by decide +kernel⟩
set_option maxRecDepth 100000 in
theorem m_X12_load_w : vMwP m_X12_load 1 := ⟨WT_of (tin_8 (List.mem_of_getElem? (i := 127) rfl)) rfl, [138, 1926, 1927], by decide +kernel⟩
set_option maxRecDepth 100000 in
theorem m_J6_bitCount_0f7a4_w : vMwP m_J6_bitCount_0f7a4 0 := ⟨WT_of (tin_4 (List.mem_of_getElem? (i := 234) rfl)) rfl, [145, 1074], by decide +kernel⟩
set_option maxRecDepth 100000 in
theorem m_X2_findLost_w : vMwP m_X2_findLost 1 := ⟨WT_of (tin_5 (List.mem_of_getElem? (i := 1) rfl)) rfl, [135, 1081, 25], by decide +kernel⟩
set_option maxRecDepth 100000 in
theorem m_X2_layDown_w : vMwP m_X2_layDown 1 := ⟨WT_of (tin_5 (List.mem_of_getElem? (i := 10) rfl)) rfl, [135, 1090, 27], by decide +kernel⟩
set_option maxRecDepth 100000 in
theorem m_X2_bearsThat_w : vMwP m_X2_bearsThat 1 := ⟨WT_of (tin_5 (List.mem_of_getElem? (i := 14) rfl)) rfl, [135, 1094, 28], by decide +kernel⟩
set_option maxRecDepth 100000 in
theorem m_X2_noteWay_w : vMwP m_X2_noteWay 1 := ⟨WT_of (tin_5 (List.mem_of_getElem? (i := 18) rfl)) rfl, [135, 1098, 29], by decide +kernel⟩
set_option maxRecDepth 100000 in
theorem m_X2_countWays_w : vMwP m_X2_countWays 1 := ⟨WT_of (tin_5 (List.mem_of_getElem? (i := 6) rfl)) rfl, [135, 1086, 26], by decide +kernel⟩
set_option maxRecDepth 100000 in
theorem m_X2_waysBy_w : vMwP m_X2_waysBy 1 := ⟨WT_of (tin_4 (List.mem_of_getElem? (i := 230) rfl)) rfl, [135, 1069, 1070], by decide +kernel⟩
set_option maxRecDepth 100000 in
theorem m_X11_limps_w : vMwP m_X11_limps 1 := ⟨WT_of (tin_4 (List.mem_of_getElem? (i := 226) rfl)) rfl, [122, 1065, 1066], by decide +kernel⟩
set_option maxRecDepth 100000 in
theorem m_X12_octet_w : vMwP m_X12_octet 1 := ⟨WT_of (tin_8 (List.mem_of_getElem? (i := 139) rfl)) rfl, [138, 1939, 101], by decide +kernel⟩
set_option maxRecDepth 100000 in
theorem m_X12_limpsBy_w : vMwP m_X12_limpsBy 1 := ⟨WT_of (tin_8 (List.mem_of_getElem? (i := 135) rfl)) rfl, [138, 1935, 100], by decide +kernel⟩
set_option maxRecDepth 100000 in
theorem m_X12_tellsLimps_w : vMwP m_X12_tellsLimps 1 := ⟨WT_of (tin_8 (List.mem_of_getElem? (i := 143) rfl)) rfl, [138, 1943, 102], by decide +kernel⟩
set_option maxRecDepth 100000 in
theorem m_X12_limps_w : vMwP m_X12_limps 1 := ⟨WT_of (tin_8 (List.mem_of_getElem? (i := 131) rfl)) rfl, [138, 1930, 1931], by decide +kernel⟩
set_option maxRecDepth 100000 in
theorem m_X2_sureHolder_w : vMwP m_X2_sureHolder 1 := ⟨WT_of (tin_5 (List.mem_of_getElem? (i := 27) rfl)) rfl, [135, 1106, 1107], by decide +kernel⟩
set_option maxRecDepth 100000 in
theorem m_X11_surely_w : vMwP m_X11_surely 1 := ⟨WT_of (tin_5 (List.mem_of_getElem? (i := 23) rfl)) rfl, [122, 1102, 1103], by decide +kernel⟩
set_option maxRecDepth 100000 in
theorem m_X12_surely_w : vMwP m_X12_surely 1 := ⟨WT_of (tin_8 (List.mem_of_getElem? (i := 147) rfl)) rfl, [138, 1946, 1947], by decide +kernel⟩
set_option maxRecDepth 100000 in
theorem m_X2_bestQuestion_w : vMwP m_X2_bestQuestion 1 := ⟨WT_of (tin_5 (List.mem_of_getElem? (i := 35) rfl)) rfl, [135, 1114, 1115], by decide +kernel⟩
set_option maxRecDepth 100000 in
theorem m_X11_ask_w : vMwP m_X11_ask 1 := ⟨WT_of (tin_5 (List.mem_of_getElem? (i := 31) rfl)) rfl, [122, 1110, 1111], by decide +kernel⟩
set_option maxRecDepth 100000 in
theorem m_X12_ask_w : vMwP m_X12_ask 1 := ⟨WT_of (tin_8 (List.mem_of_getElem? (i := 151) rfl)) rfl, [138, 1950, 1951], by decide +kernel⟩
set_option maxRecDepth 100000 in
theorem m_X11_share_w : vMwP m_X11_share 1 := ⟨WT_of (tin_5 (List.mem_of_getElem? (i := 39) rfl)) rfl, [122, 1118, 1119], by decide +kernel⟩
set_option maxRecDepth 100000 in
theorem m_X12_share_w : vMwP m_X12_share 1 := ⟨WT_of (tin_8 (List.mem_of_getElem? (i := 155) rfl)) rfl, [138, 1954, 1955], by decide +kernel⟩
set_option maxRecDepth 100000 in
theorem m_X3_cheapestFor_w : vMwP m_X3_cheapestFor 1 := ⟨WT_of (tin_5 (List.mem_of_getElem? (i := 55) rfl)) rfl, [134, 1135, 31], by decide +kernel⟩
set_option maxRecDepth 100000 in
theorem m_X3_shareByFees_w : vMwP m_X3_shareByFees 1 := ⟨WT_of (tin_5 (List.mem_of_getElem? (i := 51) rfl)) rfl, [134, 1131, 30], by decide +kernel⟩
set_option maxRecDepth 100000 in
theorem m_J9_max_7cf53_w : vMwP m_J9_max_7cf53 0 := ⟨WT_of (tin_5 (List.mem_of_getElem? (i := 62) rfl)) rfl, [139, 1142], by decide +kernel⟩
set_option maxRecDepth 100000 in
theorem m_X3_changeFees_w : vMwP m_X3_changeFees 1 := ⟨WT_of (tin_5 (List.mem_of_getElem? (i := 59) rfl)) rfl, [134, 1139, 32], by decide +kernel⟩
set_option maxRecDepth 100000 in
theorem m_X3_settleFees_w : vMwP m_X3_settleFees 1 := ⟨WT_of (tin_5 (List.mem_of_getElem? (i := 47) rfl)) rfl, [134, 1126, 1127], by decide +kernel⟩
set_option maxRecDepth 100000 in
theorem m_X11_rest_w : vMwP m_X11_rest 1 := ⟨WT_of (tin_5 (List.mem_of_getElem? (i := 43) rfl)) rfl, [122, 1122, 1123], by decide +kernel⟩
set_option maxRecDepth 100000 in
theorem m_X12_goesTo_w : vMwP m_X12_goesTo 1 := ⟨WT_of (tin_8 (List.mem_of_getElem? (i := 167) rfl)) rfl, [138, 1967, 104], by decide +kernel⟩
set_option maxRecDepth 100000 in
theorem m_X12_greater_w : vMwP m_X12_greater 0 := ⟨WT_of (tin_8 (List.mem_of_getElem? (i := 170) rfl)) rfl, [138, 1970], by decide +kernel⟩
set_option maxRecDepth 100000 in
theorem m_X12_round_w : vMwP m_X12_round 1 := ⟨WT_of (tin_8 (List.mem_of_getElem? (i := 163) rfl)) rfl, [138, 1963, 103], by decide +kernel⟩
set_option maxRecDepth 100000 in
theorem m_X12_rest_w : vMwP m_X12_rest 1 := ⟨WT_of (tin_8 (List.mem_of_getElem? (i := 159) rfl)) rfl, [138, 1958, 1959], by decide +kernel⟩
set_option maxRecDepth 100000 in
theorem m_X11_fee_w : vMwP m_X11_fee 1 := ⟨WT_of (tin_5 (List.mem_of_getElem? (i := 66) rfl)) rfl, [122, 1145, 1146], by decide +kernel⟩
set_option maxRecDepth 100000 in
theorem m_X12_fee_w : vMwP m_X12_fee 1 := ⟨WT_of (tin_8 (List.mem_of_getElem? (i := 174) rfl)) rfl, [138, 1973, 1974], by decide +kernel⟩
set_option maxRecDepth 100000 in
theorem m_X12_part_w : vMwP m_X12_part 0 := ⟨WT_of (tin_8 (List.mem_of_getElem? (i := 181) rfl)) rfl, [138, 1981], by decide +kernel⟩
set_option maxRecDepth 100000 in
theorem m_X12_unharmed_w : vMwP m_X12_unharmed 1 := ⟨WT_of (tin_8 (List.mem_of_getElem? (i := 178) rfl)) rfl, [138, 1977, 1978], by decide +kernel⟩
set_option maxRecDepth 100000 in
theorem m_X11_ease_w : vMwP m_X11_ease 1 := ⟨WT_of (tin_5 (List.mem_of_getElem? (i := 70) rfl)) rfl, [122, 1149, 1150], by decide +kernel⟩
set_option maxRecDepth 100000 in
theorem m_X12_tries_w : vMwP m_X12_tries 1 := ⟨WT_of (tin_8 (List.mem_of_getElem? (i := 189) rfl)) rfl, [138, 1989, 105], by decide +kernel⟩
set_option maxRecDepth 100000 in
theorem m_X12_back_w : vMwP m_X12_back 1 := ⟨WT_of (tin_8 (List.mem_of_getElem? (i := 193) rfl)) rfl, [138, 1993, 106], by decide +kernel⟩
set_option maxRecDepth 100000 in
theorem m_X12_ease_w : vMwP m_X12_ease 1 := ⟨WT_of (tin_8 (List.mem_of_getElem? (i := 185) rfl)) rfl, [138, 1984, 1985], by decide +kernel⟩
set_option maxRecDepth 100000 in
theorem m_X11_later_w : vMwP m_X11_later 1 := ⟨WT_of (tin_5 (List.mem_of_getElem? (i := 75) rfl)) rfl, [122, 1154, 1155], by decide +kernel⟩
set_option maxRecDepth 100000 in
theorem m_X12_later_w : vMwP m_X12_later 1 := ⟨WT_of (tin_8 (List.mem_of_getElem? (i := 197) rfl)) rfl, [138, 1996, 1997], by decide +kernel⟩
set_option maxRecDepth 100000 in
theorem m_X11_lasts_w : vMwP m_X11_lasts 1 := ⟨WT_of (tin_5 (List.mem_of_getElem? (i := 79) rfl)) rfl, [122, 1158, 1159], by decide +kernel⟩
set_option maxRecDepth 100000 in
theorem m_X12_lasts_w : vMwP m_X12_lasts 1 := ⟨WT_of (tin_8 (List.mem_of_getElem? (i := 201) rfl)) rfl, [138, 2000, 2001], by decide +kernel⟩
set_option maxRecDepth 100000 in
theorem m_X11_cheapest_w : vMwP m_X11_cheapest 1 := ⟨WT_of (tin_5 (List.mem_of_getElem? (i := 84) rfl)) rfl, [122, 1163, 1164], by decide +kernel⟩
set_option maxRecDepth 100000 in
theorem m_X12_cheapest_w : vMwP m_X12_cheapest 1 := ⟨WT_of (tin_8 (List.mem_of_getElem? (i := 205) rfl)) rfl, [138, 2004, 2005], by decide +kernel⟩
set_option maxRecDepth 100000 in
theorem m_X11_isCarriable_w : vMwP m_X11_isCarriable 1 := ⟨WT_of (tin_5 (List.mem_of_getElem? (i := 92) rfl)) rfl, [122, 1172, 33], by decide +kernel⟩
set_option maxRecDepth 100000 in
theorem m_X11_hopeless_w : vMwP m_X11_hopeless 1 := ⟨WT_of (tin_5 (List.mem_of_getElem? (i := 88) rfl)) rfl, [122, 1167, 1168], by decide +kernel⟩
set_option maxRecDepth 100000 in
theorem m_X12_hopeless_w : vMwP m_X12_hopeless 1 := ⟨WT_of (tin_8 (List.mem_of_getElem? (i := 209) rfl)) rfl, [138, 2008, 2009], by decide +kernel⟩
set_option maxRecDepth 100000 in
theorem m_X0_draw_w : vMwP m_X0_draw 1 := ⟨WT_of (tin_5 (List.mem_of_getElem? (i := 108) rfl)) rfl, [136, 1188, 35], by decide +kernel⟩
set_option maxRecDepth 100000 in
theorem m_X0_act_w : vMwP m_X0_act 1 := ⟨WT_of (tin_5 (List.mem_of_getElem? (i := 104) rfl)) rfl, [136, 1184, 34], by decide +kernel⟩
set_option maxRecDepth 100000 in
theorem m_X0_live_w : vMwP m_X0_live 1 := ⟨WT_of (tin_5 (List.mem_of_getElem? (i := 100) rfl)) rfl, [136, 1179, 1180], by decide +kernel⟩
set_option maxRecDepth 100000 in
theorem m_X11_drawn_w : vMwP m_X11_drawn 1 := ⟨WT_of (tin_5 (List.mem_of_getElem? (i := 96) rfl)) rfl, [122, 1175, 1176], by decide +kernel⟩
set_option maxRecDepth 100000 in
theorem m_X12_draw_w : vMwP m_X12_draw 1 := ⟨WT_of (tin_8 (List.mem_of_getElem? (i := 225) rfl)) rfl, [138, 2025, 109], by decide +kernel⟩
set_option maxRecDepth 100000 in
theorem m_X12_drawsPorter_w : vMwP m_X12_drawsPorter 1 := ⟨WT_of (tin_8 (List.mem_of_getElem? (i := 221) rfl)) rfl, [138, 2021, 108], by decide +kernel⟩
set_option maxRecDepth 100000 in
theorem m_X12_draws_w : vMwP m_X12_draws 1 := ⟨WT_of (tin_8 (List.mem_of_getElem? (i := 217) rfl)) rfl, [138, 2017, 107], by decide +kernel⟩
set_option maxRecDepth 100000 in
theorem m_X12_drawn_w : vMwP m_X12_drawn 1 := ⟨WT_of (tin_8 (List.mem_of_getElem? (i := 213) rfl)) rfl, [138, 2012, 2013], by decide +kernel⟩
set_option maxRecDepth 100000 in
theorem m_X11_odds_w : vMwP m_X11_odds 1 := ⟨WT_of (tin_5 (List.mem_of_getElem? (i := 119) rfl)) rfl, [122, 1198, 1199], by decide +kernel⟩
set_option maxRecDepth 100000 in
theorem m_X12_odds_w : vMwP m_X12_odds 1 := ⟨WT_of (tin_8 (List.mem_of_getElem? (i := 230) rfl)) rfl, [138, 2029, 2030], by decide +kernel⟩
set_option maxRecDepth 100000 in
theorem m_X4_readHour_w : vMwP m_X4_readHour 1 := ⟨WT_of (tin_5 (List.mem_of_getElem? (i := 139) rfl)) rfl, [132, 1219, 37], by decide +kernel⟩
set_option maxRecDepth 100000 in
theorem m_X4_readHome_w : vMwP m_X4_readHome 1 := ⟨WT_of (tin_5 (List.mem_of_getElem? (i := 145) rfl)) rfl, [132, 1225, 38], by decide +kernel⟩
set_option maxRecDepth 100000 in
theorem m_X4_readDeed_w : vMwP m_X4_readDeed 1 := ⟨WT_of (tin_5 (List.mem_of_getElem? (i := 149) rfl)) rfl, [132, 1229, 39], by decide +kernel⟩
set_option maxRecDepth 100000 in
theorem m_X4_readLine_w : vMwP m_X4_readLine 1 := ⟨WT_of (tin_5 (List.mem_of_getElem? (i := 132) rfl)) rfl, [132, 1212, 36], by decide +kernel⟩
set_option maxRecDepth 100000 in
theorem m_X4_read_w : vMwP m_X4_read 1 := ⟨WT_of (tin_5 (List.mem_of_getElem? (i := 127) rfl)) rfl, [132, 1206, 1207], by decide +kernel⟩
set_option maxRecDepth 100000 in
theorem m_X4_liveHanding_w : vMwP m_X4_liveHanding 1 := ⟨WT_of (tin_5 (List.mem_of_getElem? (i := 164) rfl)) rfl, [132, 1244, 41], by decide +kernel⟩
set_option maxRecDepth 100000 in
theorem m_X4_liveLine_w : vMwP m_X4_liveLine 1 := ⟨WT_of (tin_5 (List.mem_of_getElem? (i := 158) rfl)) rfl, [132, 1238, 40], by decide +kernel⟩
set_option maxRecDepth 100000 in
theorem m_X4_goodLines_w : vMwP m_X4_goodLines 1 := ⟨WT_of (tin_5 (List.mem_of_getElem? (i := 154) rfl)) rfl, [132, 1233, 1234], by decide +kernel⟩
set_option maxRecDepth 100000 in
theorem m_X11_log_w : vMwP m_X11_log 1 := ⟨WT_of (tin_5 (List.mem_of_getElem? (i := 123) rfl)) rfl, [122, 1202, 1203], by decide +kernel⟩
set_option maxRecDepth 100000 in
theorem m_X12_logLine_w : vMwP m_X12_logLine 1 := ⟨WT_of (tin_8 (List.mem_of_getElem? (i := 238) rfl)) rfl, [138, 2038, 110], by decide +kernel⟩
set_option maxRecDepth 100000 in
theorem m_X12_does_w : vMwP m_X12_does 1 := ⟨WT_of (tin_9 (List.mem_of_getElem? (i := 2) rfl)) rfl, [138, 2042, 111], by decide +kernel⟩
set_option maxRecDepth 100000 in
theorem m_X12_log_w : vMwP m_X12_log 1 := ⟨WT_of (tin_8 (List.mem_of_getElem? (i := 234) rfl)) rfl, [138, 2033, 2034], by decide +kernel⟩
set_option maxRecDepth 100000 in
theorem m_X11_logged_w : vMwP m_X11_logged 1 := ⟨WT_of (tin_5 (List.mem_of_getElem? (i := 173) rfl)) rfl, [122, 1252, 1253], by decide +kernel⟩
set_option maxRecDepth 100000 in
theorem m_X12_logged_w : vMwP m_X12_logged 1 := ⟨WT_of (tin_9 (List.mem_of_getElem? (i := 6) rfl)) rfl, [138, 2045, 2046], by decide +kernel⟩
set_option maxRecDepth 100000 in
theorem m_X7_putOpen_w : vMwP m_X7_putOpen 1 := ⟨WT_of (tin_5 (List.mem_of_getElem? (i := 192) rfl)) rfl, [131, 1272, 43], by decide +kernel⟩
set_option maxRecDepth 100000 in
theorem m_X7_step_w : vMwP m_X7_step 1 := ⟨WT_of (tin_5 (List.mem_of_getElem? (i := 200) rfl)) rfl, [131, 1280, 45], by decide +kernel⟩
set_option maxRecDepth 100000 in
theorem m_X7_readPlain_w : vMwP m_X7_readPlain 1 := ⟨WT_of (tin_5 (List.mem_of_getElem? (i := 196) rfl)) rfl, [131, 1276, 44], by decide +kernel⟩
set_option maxRecDepth 100000 in
theorem m_X7_closeNots_w : vMwP m_X7_closeNots 1 := ⟨WT_of (tin_5 (List.mem_of_getElem? (i := 206) rfl)) rfl, [131, 1286, 46], by decide +kernel⟩
set_option maxRecDepth 100000 in
theorem m_X7_readOne_w : vMwP m_X7_readOne 1 := ⟨WT_of (tin_5 (List.mem_of_getElem? (i := 187) rfl)) rfl, [131, 1267, 42], by decide +kernel⟩
set_option maxRecDepth 100000 in
theorem m_X7_closeJoins_w : vMwP m_X7_closeJoins 1 := ⟨WT_of (tin_5 (List.mem_of_getElem? (i := 210) rfl)) rfl, [131, 1290, 47], by decide +kernel⟩
set_option maxRecDepth 100000 in
theorem m_X7_readBetween_w : vMwP m_X7_readBetween 1 := ⟨WT_of (tin_5 (List.mem_of_getElem? (i := 214) rfl)) rfl, [131, 1294, 48], by decide +kernel⟩
set_option maxRecDepth 100000 in
theorem m_X7_read_w : vMwP m_X7_read 1 := ⟨WT_of (tin_5 (List.mem_of_getElem? (i := 181) rfl)) rfl, [131, 1260, 1261], by decide +kernel⟩
set_option maxRecDepth 100000 in
theorem m_X11_sentence_w : vMwP m_X11_sentence 1 := ⟨WT_of (tin_5 (List.mem_of_getElem? (i := 177) rfl)) rfl, [122, 1256, 1257], by decide +kernel⟩
set_option maxRecDepth 100000 in
theorem m_X12_code_w : vMwP m_X12_code 1 := ⟨WT_of (tin_9 (List.mem_of_getElem? (i := 18) rfl)) rfl, [138, 2058, 113], by decide +kernel⟩
set_option maxRecDepth 100000 in
theorem m_X12_nots_w : vMwP m_X12_nots 1 := ⟨WT_of (tin_9 (List.mem_of_getElem? (i := 14) rfl)) rfl, [138, 2054, 112], by decide +kernel⟩
set_option maxRecDepth 100000 in
theorem m_X12_joins_w : vMwP m_X12_joins 1 := ⟨WT_of (tin_9 (List.mem_of_getElem? (i := 22) rfl)) rfl, [138, 2062, 114], by decide +kernel⟩
set_option maxRecDepth 100000 in
theorem m_X12_behind_w : vMwP m_X12_behind 1 := ⟨WT_of (tin_9 (List.mem_of_getElem? (i := 26) rfl)) rfl, [138, 2066, 115], by decide +kernel⟩
set_option maxRecDepth 100000 in
theorem m_X12_leafOf_w : vMwP m_X12_leafOf 1 := ⟨WT_of (tin_9 (List.mem_of_getElem? (i := 34) rfl)) rfl, [138, 2074, 117], by decide +kernel⟩
set_option maxRecDepth 100000 in
theorem m_X12_looksAtBoth_w : vMwP m_X12_looksAtBoth 1 := ⟨WT_of (tin_9 (List.mem_of_getElem? (i := 38) rfl)) rfl, [138, 2078, 118], by decide +kernel⟩
set_option maxRecDepth 100000 in
theorem m_X12_operand_w : vMwP m_X12_operand 1 := ⟨WT_of (tin_9 (List.mem_of_getElem? (i := 30) rfl)) rfl, [138, 2070, 116], by decide +kernel⟩
set_option maxRecDepth 100000 in
theorem m_X12_sentence_w : vMwP m_X12_sentence 1 := ⟨WT_of (tin_9 (List.mem_of_getElem? (i := 10) rfl)) rfl, [138, 2049, 2050], by decide +kernel⟩
set_option maxRecDepth 100000 in
theorem m_X7_compares_w : vMwP m_X7_compares 1 := ⟨WT_of (tin_5 (List.mem_of_getElem? (i := 236) rfl)) rfl, [131, 1316, 51], by decide +kernel⟩
set_option maxRecDepth 100000 in
theorem m_X7_holds_w : vMwP m_X7_holds 1 := ⟨WT_of (tin_5 (List.mem_of_getElem? (i := 231) rfl)) rfl, [131, 1311, 50], by decide +kernel⟩
set_option maxRecDepth 100000 in
theorem m_X7_plainSet_w : vMwP m_X7_plainSet 1 := ⟨WT_of (tin_5 (List.mem_of_getElem? (i := 227) rfl)) rfl, [131, 1307, 49], by decide +kernel⟩
set_option maxRecDepth 100000 in
theorem m_X7_saidOf_w : vMwP m_X7_saidOf 1 := ⟨WT_of (tin_5 (List.mem_of_getElem? (i := 223) rfl)) rfl, [131, 1302, 1303], by decide +kernel⟩
set_option maxRecDepth 100000 in
theorem m_X11_said_w : vMwP m_X11_said 1 := ⟨WT_of (tin_5 (List.mem_of_getElem? (i := 219) rfl)) rfl, [122, 1298, 1299], by decide +kernel⟩
set_option maxRecDepth 100000 in
theorem m_X12_isLeaf_w : vMwP m_X12_isLeaf 1 := ⟨WT_of (tin_9 (List.mem_of_getElem? (i := 50) rfl)) rfl, [138, 2090, 120], by decide +kernel⟩
set_option maxRecDepth 100000 in
theorem m_X12_isSaid_w : vMwP m_X12_isSaid 1 := ⟨WT_of (tin_9 (List.mem_of_getElem? (i := 46) rfl)) rfl, [138, 2086, 119], by decide +kernel⟩
set_option maxRecDepth 100000 in
theorem m_X12_said_w : vMwP m_X12_said 1 := ⟨WT_of (tin_9 (List.mem_of_getElem? (i := 42) rfl)) rfl, [138, 2081, 2082], by decide +kernel⟩
set_option maxRecDepth 100000 in
theorem m_X9_copyFrom_w : vMwP m_X9_copyFrom 1 := ⟨WT_of (tin_6 (List.mem_of_getElem? (i := 5) rfl)) rfl, [128, 1324, 1325], by decide +kernel⟩
set_option maxRecDepth 100000 in
theorem m_X7_copyFrom_w : vMwP m_X7_copyFrom 1 := ⟨WT_of (tin_6 (List.mem_of_getElem? (i := 10) rfl)) rfl, [131, 1329, 1330], by decide +kernel⟩
set_option maxRecDepth 100000 in
theorem m_X11_image_w : vMwP m_X11_image 1 := ⟨WT_of (tin_6 (List.mem_of_getElem? (i := 1) rfl)) rfl, [122, 1320, 1321], by decide +kernel⟩
set_option maxRecDepth 100000 in
theorem m_X12_image_w : vMwP m_X12_image 1 := ⟨WT_of (tin_9 (List.mem_of_getElem? (i := 54) rfl)) rfl, [138, 2093, 2094], by decide +kernel⟩
set_option maxRecDepth 100000 in
theorem m_X11_restore_w : vMwP m_X11_restore 1 := ⟨WT_of (tin_6 (List.mem_of_getElem? (i := 15) rfl)) rfl, [122, 1334, 1335], by decide +kernel⟩
set_option maxRecDepth 100000 in
theorem m_X12_restore_w : vMwP m_X12_restore 1 := ⟨WT_of (tin_9 (List.mem_of_getElem? (i := 58) rfl)) rfl, [138, 2097, 2098], by decide +kernel⟩
set_option maxRecDepth 100000 in
theorem m_X11_count_w : vMwP m_X11_count 1 := ⟨WT_of (tin_6 (List.mem_of_getElem? (i := 19) rfl)) rfl, [122, 1338, 1339], by decide +kernel⟩
set_option maxRecDepth 100000 in
theorem m_X12_count_w : vMwP m_X12_count 1 := ⟨WT_of (tin_9 (List.mem_of_getElem? (i := 62) rfl)) rfl, [138, 2101, 2102], by decide +kernel⟩
set_option maxRecDepth 100000 in
theorem m_X11_pain_w : vMwP m_X11_pain 1 := ⟨WT_of (tin_6 (List.mem_of_getElem? (i := 27) rfl)) rfl, [122, 1346, 1347], by decide +kernel⟩
set_option maxRecDepth 100000 in
theorem m_X8_learntBy_w : vMwP m_X8_learntBy 1 := ⟨WT_of (tin_6 (List.mem_of_getElem? (i := 100) rfl)) rfl, [130, 1419, 1420], by decide +kernel⟩
set_option maxRecDepth 100000 in
theorem m_X11_porter_w : vMwP m_X11_porter 1 := ⟨WT_of (tin_6 (List.mem_of_getElem? (i := 95) rfl)) rfl, [122, 1414, 1415], by decide +kernel⟩
set_option maxRecDepth 100000 in
theorem m_X11_unharmed_w : vMwP m_X11_unharmed 1 := ⟨WT_of (tin_6 (List.mem_of_getElem? (i := 107) rfl)) rfl, [122, 1426, 1427], by decide +kernel⟩
theorem vmw_15 : vMwA [] [] := trivial
theorem vmw_14 : vMwA [m_X7_copyFrom, m_X11_image, m_X12_image, m_X11_restore, m_X12_restore, m_X11_count, m_X12_count, m_X11_pain, m_X8_learntBy, m_X11_porter, m_X11_unharmed] [1, 1, 1, 1, 1, 1, 1, 1, 1, 1, 1] := ⟨m_X7_copyFrom_w, ⟨m_X11_image_w, ⟨m_X12_image_w, ⟨m_X11_restore_w, ⟨m_X12_restore_w, ⟨m_X11_count_w, ⟨m_X12_count_w, ⟨m_X11_pain_w, ⟨m_X8_learntBy_w, ⟨m_X11_porter_w, ⟨m_X11_unharmed_w, vmw_15⟩⟩⟩⟩⟩⟩⟩⟩⟩⟩⟩
theorem vmw_13 : vMwA [m_X7_readBetween, m_X7_read, m_X11_sentence, m_X12_code, m_X12_nots, m_X12_joins, m_X12_behind, m_X12_leafOf, m_X12_looksAtBoth, m_X12_operand, m_X12_sentence, m_X7_compares, m_X7_holds, m_X7_plainSet, m_X7_saidOf, m_X11_said, m_X12_isLeaf, m_X12_isSaid, m_X12_said, m_X9_copyFrom, m_X7_copyFrom, m_X11_image, m_X12_image, m_X11_restore, m_X12_restore, m_X11_count, m_X12_count, m_X11_pain, m_X8_learntBy, m_X11_porter, m_X11_unharmed] [1, 1, 1, 1, 1, 1, 1, 1, 1, 1, 1, 1, 1, 1, 1, 1, 1, 1, 1, 1, 1, 1, 1, 1, 1, 1, 1, 1, 1, 1, 1] := ⟨m_X7_readBetween_w, ⟨m_X7_read_w, ⟨m_X11_sentence_w, ⟨m_X12_code_w, ⟨m_X12_nots_w, ⟨m_X12_joins_w, ⟨m_X12_behind_w, ⟨m_X12_leafOf_w, ⟨m_X12_looksAtBoth_w, ⟨m_X12_operand_w, ⟨m_X12_sentence_w, ⟨m_X7_compares_w, ⟨m_X7_holds_w, ⟨m_X7_plainSet_w, ⟨m_X7_saidOf_w, ⟨m_X11_said_w, ⟨m_X12_isLeaf_w, ⟨m_X12_isSaid_w, ⟨m_X12_said_w, ⟨m_X9_copyFrom_w, vmw_14⟩⟩⟩⟩⟩⟩⟩⟩⟩⟩⟩⟩⟩⟩⟩⟩⟩⟩⟩⟩
theorem vmw_12 : vMwA [m_X4_readHour, m_X4_readHome, m_X4_readDeed, m_X4_readLine, m_X4_read, m_X4_liveHanding, m_X4_liveLine, m_X4_goodLines, m_X11_log, m_X12_logLine, m_X12_does, m_X12_log, m_X11_logged, m_X12_logged, m_X7_putOpen, m_X7_step, m_X7_readPlain, m_X7_closeNots, m_X7_readOne, m_X7_closeJoins, m_X7_readBetween, m_X7_read, m_X11_sentence, m_X12_code, m_X12_nots, m_X12_joins, m_X12_behind, m_X12_leafOf, m_X12_looksAtBoth, m_X12_operand, m_X12_sentence, m_X7_compares, m_X7_holds, m_X7_plainSet, m_X7_saidOf, m_X11_said, m_X12_isLeaf, m_X12_isSaid, m_X12_said, m_X9_copyFrom, m_X7_copyFrom, m_X11_image, m_X12_image, m_X11_restore, m_X12_restore, m_X11_count, m_X12_count, m_X11_pain, m_X8_learntBy, m_X11_porter, m_X11_unharmed] [1, 1, 1, 1, 1, 1, 1, 1, 1, 1, 1, 1, 1, 1, 1, 1, 1, 1, 1, 1, 1, 1, 1, 1, 1, 1, 1, 1, 1, 1, 1, 1, 1, 1, 1, 1, 1, 1, 1, 1, 1, 1, 1, 1, 1, 1, 1, 1, 1, 1, 1] := ⟨m_X4_readHour_w, ⟨m_X4_readHome_w, ⟨m_X4_readDeed_w, ⟨m_X4_readLine_w, ⟨m_X4_read_w, ⟨m_X4_liveHanding_w, ⟨m_X4_liveLine_w, ⟨m_X4_goodLines_w, ⟨m_X11_log_w, ⟨m_X12_logLine_w, ⟨m_X12_does_w, ⟨m_X12_log_w, ⟨m_X11_logged_w, ⟨m_X12_logged_w, ⟨m_X7_putOpen_w, ⟨m_X7_step_w, ⟨m_X7_readPlain_w, ⟨m_X7_closeNots_w, ⟨m_X7_readOne_w, ⟨m_X7_closeJoins_w, vmw_13⟩⟩⟩⟩⟩⟩⟩⟩⟩⟩⟩⟩⟩⟩⟩⟩⟩⟩⟩⟩
theorem vmw_11 : vMwA [m_X12_ease, m_X11_later, m_X12_later, m_X11_lasts, m_X12_lasts, m_X11_cheapest, m_X12_cheapest, m_X11_isCarriable, m_X11_hopeless, m_X12_hopeless, m_X0_draw, m_X0_act, m_X0_live, m_X11_drawn, m_X12_draw, m_X12_drawsPorter, m_X12_draws, m_X12_drawn, m_X11_odds, m_X12_odds, m_X4_readHour, m_X4_readHome, m_X4_readDeed, m_X4_readLine, m_X4_read, m_X4_liveHanding, m_X4_liveLine, m_X4_goodLines, m_X11_log, m_X12_logLine, m_X12_does, m_X12_log, m_X11_logged, m_X12_logged, m_X7_putOpen, m_X7_step, m_X7_readPlain, m_X7_closeNots, m_X7_readOne, m_X7_closeJoins, m_X7_readBetween, m_X7_read, m_X11_sentence, m_X12_code, m_X12_nots, m_X12_joins, m_X12_behind, m_X12_leafOf, m_X12_looksAtBoth, m_X12_operand, m_X12_sentence, m_X7_compares, m_X7_holds, m_X7_plainSet, m_X7_saidOf, m_X11_said, m_X12_isLeaf, m_X12_isSaid, m_X12_said, m_X9_copyFrom, m_X7_copyFrom, m_X11_image, m_X12_image, m_X11_restore, m_X12_restore, m_X11_count, m_X12_count, m_X11_pain, m_X8_learntBy, m_X11_porter, m_X11_unharmed] [1, 1, 1, 1, 1, 1, 1, 1, 1, 1, 1, 1, 1, 1, 1, 1, 1, 1, 1, 1, 1, 1, 1, 1, 1, 1, 1, 1, 1, 1, 1, 1, 1, 1, 1, 1, 1, 1, 1, 1, 1, 1, 1, 1, 1, 1, 1, 1, 1, 1, 1, 1, 1, 1, 1, 1, 1, 1, 1, 1, 1, 1, 1, 1, 1, 1, 1, 1, 1, 1, 1] := ⟨m_X12_ease_w, ⟨m_X11_later_w, ⟨m_X12_later_w, ⟨m_X11_lasts_w, ⟨m_X12_lasts_w, ⟨m_X11_cheapest_w, ⟨m_X12_cheapest_w, ⟨m_X11_isCarriable_w, ⟨m_X11_hopeless_w, ⟨m_X12_hopeless_w, ⟨m_X0_draw_w, ⟨m_X0_act_w, ⟨m_X0_live_w, ⟨m_X11_drawn_w, ⟨m_X12_draw_w, ⟨m_X12_drawsPorter_w, ⟨m_X12_draws_w, ⟨m_X12_drawn_w, ⟨m_X11_odds_w, ⟨m_X12_odds_w, vmw_12⟩⟩⟩⟩⟩⟩⟩⟩⟩⟩⟩⟩⟩⟩⟩⟩⟩⟩⟩⟩
theorem vmw_10 : vMwA [m_X12_ask, m_X11_share, m_X12_share, m_X3_cheapestFor, m_X3_shareByFees, m_J9_max_7cf53, m_X3_changeFees, m_X3_settleFees, m_X11_rest, m_X12_goesTo, m_X12_greater, m_X12_round, m_X12_rest, m_X11_fee, m_X12_fee, m_X12_part, m_X12_unharmed, m_X11_ease, m_X12_tries, m_X12_back, m_X12_ease, m_X11_later, m_X12_later, m_X11_lasts, m_X12_lasts, m_X11_cheapest, m_X12_cheapest, m_X11_isCarriable, m_X11_hopeless, m_X12_hopeless, m_X0_draw, m_X0_act, m_X0_live, m_X11_drawn, m_X12_draw, m_X12_drawsPorter, m_X12_draws, m_X12_drawn, m_X11_odds, m_X12_odds, m_X4_readHour, m_X4_readHome, m_X4_readDeed, m_X4_readLine, m_X4_read, m_X4_liveHanding, m_X4_liveLine, m_X4_goodLines, m_X11_log, m_X12_logLine, m_X12_does, m_X12_log, m_X11_logged, m_X12_logged, m_X7_putOpen, m_X7_step, m_X7_readPlain, m_X7_closeNots, m_X7_readOne, m_X7_closeJoins, m_X7_readBetween, m_X7_read, m_X11_sentence, m_X12_code, m_X12_nots, m_X12_joins, m_X12_behind, m_X12_leafOf, m_X12_looksAtBoth, m_X12_operand, m_X12_sentence, m_X7_compares, m_X7_holds, m_X7_plainSet, m_X7_saidOf, m_X11_said, m_X12_isLeaf, m_X12_isSaid, m_X12_said, m_X9_copyFrom, m_X7_copyFrom, m_X11_image, m_X12_image, m_X11_restore, m_X12_restore, m_X11_count, m_X12_count, m_X11_pain, m_X8_learntBy, m_X11_porter, m_X11_unharmed] [1, 1, 1, 1, 1, 0, 1, 1, 1, 1, 0, 1, 1, 1, 1, 0, 1, 1, 1, 1, 1, 1, 1, 1, 1, 1, 1, 1, 1, 1, 1, 1, 1, 1, 1, 1, 1, 1, 1, 1, 1, 1, 1, 1, 1, 1, 1, 1, 1, 1, 1, 1, 1, 1, 1, 1, 1, 1, 1, 1, 1, 1, 1, 1, 1, 1, 1, 1, 1, 1, 1, 1, 1, 1, 1, 1, 1, 1, 1, 1, 1, 1, 1, 1, 1, 1, 1, 1, 1, 1, 1] := ⟨m_X12_ask_w, ⟨m_X11_share_w, ⟨m_X12_share_w, ⟨m_X3_cheapestFor_w, ⟨m_X3_shareByFees_w, ⟨m_J9_max_7cf53_w, ⟨m_X3_changeFees_w, ⟨m_X3_settleFees_w, ⟨m_X11_rest_w, ⟨m_X12_goesTo_w, ⟨m_X12_greater_w, ⟨m_X12_round_w, ⟨m_X12_rest_w, ⟨m_X11_fee_w, ⟨m_X12_fee_w, ⟨m_X12_part_w, ⟨m_X12_unharmed_w, ⟨m_X11_ease_w, ⟨m_X12_tries_w, ⟨m_X12_back_w, vmw_11⟩⟩⟩⟩⟩⟩⟩⟩⟩⟩⟩⟩⟩⟩⟩⟩⟩⟩⟩⟩
theorem vmw_9 : vMwA [m_X12_fewest, m_X11_load, m_X12_load, m_J6_bitCount_0f7a4, m_X2_findLost, m_X2_layDown, m_X2_bearsThat, m_X2_noteWay, m_X2_countWays, m_X2_waysBy, m_X11_limps, m_X12_octet, m_X12_limpsBy, m_X12_tellsLimps, m_X12_limps, m_X2_sureHolder, m_X11_surely, m_X12_surely, m_X2_bestQuestion, m_X11_ask, m_X12_ask, m_X11_share, m_X12_share, m_X3_cheapestFor, m_X3_shareByFees, m_J9_max_7cf53, m_X3_changeFees, m_X3_settleFees, m_X11_rest, m_X12_goesTo, m_X12_greater, m_X12_round, m_X12_rest, m_X11_fee, m_X12_fee, m_X12_part, m_X12_unharmed, m_X11_ease, m_X12_tries, m_X12_back, m_X12_ease, m_X11_later, m_X12_later, m_X11_lasts, m_X12_lasts, m_X11_cheapest, m_X12_cheapest, m_X11_isCarriable, m_X11_hopeless, m_X12_hopeless, m_X0_draw, m_X0_act, m_X0_live, m_X11_drawn, m_X12_draw, m_X12_drawsPorter, m_X12_draws, m_X12_drawn, m_X11_odds, m_X12_odds, m_X4_readHour, m_X4_readHome, m_X4_readDeed, m_X4_readLine, m_X4_read, m_X4_liveHanding, m_X4_liveLine, m_X4_goodLines, m_X11_log, m_X12_logLine, m_X12_does, m_X12_log, m_X11_logged, m_X12_logged, m_X7_putOpen, m_X7_step, m_X7_readPlain, m_X7_closeNots, m_X7_readOne, m_X7_closeJoins, m_X7_readBetween, m_X7_read, m_X11_sentence, m_X12_code, m_X12_nots, m_X12_joins, m_X12_behind, m_X12_leafOf, m_X12_looksAtBoth, m_X12_operand, m_X12_sentence, m_X7_compares, m_X7_holds, m_X7_plainSet, m_X7_saidOf, m_X11_said, m_X12_isLeaf, m_X12_isSaid, m_X12_said, m_X9_copyFrom, m_X7_copyFrom, m_X11_image, m_X12_image, m_X11_restore, m_X12_restore, m_X11_count, m_X12_count, m_X11_pain, m_X8_learntBy, m_X11_porter, m_X11_unharmed] [1, 1, 1, 0, 1, 1, 1, 1, 1, 1, 1, 1, 1, 1, 1, 1, 1, 1, 1, 1, 1, 1, 1, 1, 1, 0, 1, 1, 1, 1, 0, 1, 1, 1, 1, 0, 1, 1, 1, 1, 1, 1, 1, 1, 1, 1, 1, 1, 1, 1, 1, 1, 1, 1, 1, 1, 1, 1, 1, 1, 1, 1, 1, 1, 1, 1, 1, 1, 1, 1, 1, 1, 1, 1, 1, 1, 1, 1, 1, 1, 1, 1, 1, 1, 1, 1, 1, 1, 1, 1, 1, 1, 1, 1, 1, 1, 1, 1, 1, 1, 1, 1, 1, 1, 1, 1, 1, 1, 1, 1, 1] := ⟨m_X12_fewest_w, ⟨m_X11_load_w, ⟨m_X12_load_w, ⟨m_J6_bitCount_0f7a4_w, ⟨m_X2_findLost_w, ⟨m_X2_layDown_w, ⟨m_X2_bearsThat_w, ⟨m_X2_noteWay_w, ⟨m_X2_countWays_w, ⟨m_X2_waysBy_w, ⟨m_X11_limps_w, ⟨m_X12_octet_w, ⟨m_X12_limpsBy_w, ⟨m_X12_tellsLimps_w, ⟨m_X12_limps_w, ⟨m_X2_sureHolder_w, ⟨m_X11_surely_w, ⟨m_X12_surely_w, ⟨m_X2_bestQuestion_w, ⟨m_X11_ask_w, vmw_10⟩⟩⟩⟩⟩⟩⟩⟩⟩⟩⟩⟩⟩⟩⟩⟩⟩⟩⟩⟩
theorem vmw_8 : vMwA [m_X12_can, m_X11_isAmong, m_X3_gather, m_X3_findKeys, m_J9_min_f86c9, m_X3_addPorter, m_X3_leastCost, m_X3_freeing, m_X3_tell, m_X11_free, m_X12_lists, m_X12_bits, m_X12_costTo, m_X12_assigns, m_X12_tells, m_X12_free, m_X11_by, m_X12_by, m_X3_fewestFor, m_X11_fewest, m_X12_fewest, m_X11_load, m_X12_load, m_J6_bitCount_0f7a4, m_X2_findLost, m_X2_layDown, m_X2_bearsThat, m_X2_noteWay, m_X2_countWays, m_X2_waysBy, m_X11_limps, m_X12_octet, m_X12_limpsBy, m_X12_tellsLimps, m_X12_limps, m_X2_sureHolder, m_X11_surely, m_X12_surely, m_X2_bestQuestion, m_X11_ask, m_X12_ask, m_X11_share, m_X12_share, m_X3_cheapestFor, m_X3_shareByFees, m_J9_max_7cf53, m_X3_changeFees, m_X3_settleFees, m_X11_rest, m_X12_goesTo, m_X12_greater, m_X12_round, m_X12_rest, m_X11_fee, m_X12_fee, m_X12_part, m_X12_unharmed, m_X11_ease, m_X12_tries, m_X12_back, m_X12_ease, m_X11_later, m_X12_later, m_X11_lasts, m_X12_lasts, m_X11_cheapest, m_X12_cheapest, m_X11_isCarriable, m_X11_hopeless, m_X12_hopeless, m_X0_draw, m_X0_act, m_X0_live, m_X11_drawn, m_X12_draw, m_X12_drawsPorter, m_X12_draws, m_X12_drawn, m_X11_odds, m_X12_odds, m_X4_readHour, m_X4_readHome, m_X4_readDeed, m_X4_readLine, m_X4_read, m_X4_liveHanding, m_X4_liveLine, m_X4_goodLines, m_X11_log, m_X12_logLine, m_X12_does, m_X12_log, m_X11_logged, m_X12_logged, m_X7_putOpen, m_X7_step, m_X7_readPlain, m_X7_closeNots, m_X7_readOne, m_X7_closeJoins, m_X7_readBetween, m_X7_read, m_X11_sentence, m_X12_code, m_X12_nots, m_X12_joins, m_X12_behind, m_X12_leafOf, m_X12_looksAtBoth, m_X12_operand, m_X12_sentence, m_X7_compares, m_X7_holds, m_X7_plainSet, m_X7_saidOf, m_X11_said, m_X12_isLeaf, m_X12_isSaid, m_X12_said, m_X9_copyFrom, m_X7_copyFrom, m_X11_image, m_X12_image, m_X11_restore, m_X12_restore, m_X11_count, m_X12_count, m_X11_pain, m_X8_learntBy, m_X11_porter, m_X11_unharmed] [1, 0, 1, 1, 0, 1, 1, 1, 1, 1, 1, 0, 1, 1, 1, 1, 1, 1, 1, 1, 1, 1, 1, 0, 1, 1, 1, 1, 1, 1, 1, 1, 1, 1, 1, 1, 1, 1, 1, 1, 1, 1, 1, 1, 1, 0, 1, 1, 1, 1, 0, 1, 1, 1, 1, 0, 1, 1, 1, 1, 1, 1, 1, 1, 1, 1, 1, 1, 1, 1, 1, 1, 1, 1, 1, 1, 1, 1, 1, 1, 1, 1, 1, 1, 1, 1, 1, 1, 1, 1, 1, 1, 1, 1, 1, 1, 1, 1, 1, 1, 1, 1, 1, 1, 1, 1, 1, 1, 1, 1, 1, 1, 1, 1, 1, 1, 1, 1, 1, 1, 1, 1, 1, 1, 1, 1, 1, 1, 1, 1, 1] := ⟨m_X12_can_w, ⟨m_X11_isAmong_w, ⟨m_X3_gather_w, ⟨m_X3_findKeys_w, ⟨m_J9_min_f86c9_w, ⟨m_X3_addPorter_w, ⟨m_X3_leastCost_w, ⟨m_X3_freeing_w, ⟨m_X3_tell_w, ⟨m_X11_free_w, ⟨m_X12_lists_w, ⟨m_X12_bits_w, ⟨m_X12_costTo_w, ⟨m_X12_assigns_w, ⟨m_X12_tells_w, ⟨m_X12_free_w, ⟨m_X11_by_w, ⟨m_X12_by_w, ⟨m_X3_fewestFor_w, ⟨m_X11_fewest_w, vmw_9⟩⟩⟩⟩⟩⟩⟩⟩⟩⟩⟩⟩⟩⟩⟩⟩⟩⟩⟩⟩
theorem vmw_7 : vMwA [m_X11_home, m_X12_whyHome, m_X12_home, m_X8_payPorters, m_X8_isFirstOfSort, m_X8_practise, m_X8_wearOff, m_X8_fallOnSomebody, m_X8_passHours, m_X11_hours, m_X12_pays, m_X12_lesser, m_X12_learns, m_X12_hour, m_X12_goesOn, m_X12_hours, m_X5_bringBack, m_X11_undo, m_X12_undo, m_X11_can, m_X12_can, m_X11_isAmong, m_X3_gather, m_X3_findKeys, m_J9_min_f86c9, m_X3_addPorter, m_X3_leastCost, m_X3_freeing, m_X3_tell, m_X11_free, m_X12_lists, m_X12_bits, m_X12_costTo, m_X12_assigns, m_X12_tells, m_X12_free, m_X11_by, m_X12_by, m_X3_fewestFor, m_X11_fewest, m_X12_fewest, m_X11_load, m_X12_load, m_J6_bitCount_0f7a4, m_X2_findLost, m_X2_layDown, m_X2_bearsThat, m_X2_noteWay, m_X2_countWays, m_X2_waysBy, m_X11_limps, m_X12_octet, m_X12_limpsBy, m_X12_tellsLimps, m_X12_limps, m_X2_sureHolder, m_X11_surely, m_X12_surely, m_X2_bestQuestion, m_X11_ask, m_X12_ask, m_X11_share, m_X12_share, m_X3_cheapestFor, m_X3_shareByFees, m_J9_max_7cf53, m_X3_changeFees, m_X3_settleFees, m_X11_rest, m_X12_goesTo, m_X12_greater, m_X12_round, m_X12_rest, m_X11_fee, m_X12_fee, m_X12_part, m_X12_unharmed, m_X11_ease, m_X12_tries, m_X12_back, m_X12_ease, m_X11_later, m_X12_later, m_X11_lasts, m_X12_lasts, m_X11_cheapest, m_X12_cheapest, m_X11_isCarriable, m_X11_hopeless, m_X12_hopeless, m_X0_draw, m_X0_act, m_X0_live, m_X11_drawn, m_X12_draw, m_X12_drawsPorter, m_X12_draws, m_X12_drawn, m_X11_odds, m_X12_odds, m_X4_readHour, m_X4_readHome, m_X4_readDeed, m_X4_readLine, m_X4_read, m_X4_liveHanding, m_X4_liveLine, m_X4_goodLines, m_X11_log, m_X12_logLine, m_X12_does, m_X12_log, m_X11_logged, m_X12_logged, m_X7_putOpen, m_X7_step, m_X7_readPlain, m_X7_closeNots, m_X7_readOne, m_X7_closeJoins, m_X7_readBetween, m_X7_read, m_X11_sentence, m_X12_code, m_X12_nots, m_X12_joins, m_X12_behind, m_X12_leafOf, m_X12_looksAtBoth, m_X12_operand, m_X12_sentence, m_X7_compares, m_X7_holds, m_X7_plainSet, m_X7_saidOf, m_X11_said, m_X12_isLeaf, m_X12_isSaid, m_X12_said, m_X9_copyFrom, m_X7_copyFrom, m_X11_image, m_X12_image, m_X11_restore, m_X12_restore, m_X11_count, m_X12_count, m_X11_pain, m_X8_learntBy, m_X11_porter, m_X11_unharmed] [1, 1, 1, 1, 1, 1, 1, 1, 1, 1, 1, 0, 1, 1, 1, 1, 1, 1, 1, 1, 1, 0, 1, 1, 0, 1, 1, 1, 1, 1, 1, 0, 1, 1, 1, 1, 1, 1, 1, 1, 1, 1, 1, 0, 1, 1, 1, 1, 1, 1, 1, 1, 1, 1, 1, 1, 1, 1, 1, 1, 1, 1, 1, 1, 1, 0, 1, 1, 1, 1, 0, 1, 1, 1, 1, 0, 1, 1, 1, 1, 1, 1, 1, 1, 1, 1, 1, 1, 1, 1, 1, 1, 1, 1, 1, 1, 1, 1, 1, 1, 1, 1, 1, 1, 1, 1, 1, 1, 1, 1, 1, 1, 1, 1, 1, 1, 1, 1, 1, 1, 1, 1, 1, 1, 1, 1, 1, 1, 1, 1, 1, 1, 1, 1, 1, 1, 1, 1, 1, 1, 1, 1, 1, 1, 1, 1, 1, 1, 1, 1, 1] := ⟨m_X11_home_w, ⟨m_X12_whyHome_w, ⟨m_X12_home_w, ⟨m_X8_payPorters_w, ⟨m_X8_isFirstOfSort_w, ⟨m_X8_practise_w, ⟨m_X8_wearOff_w, ⟨m_X8_fallOnSomebody_w, ⟨m_X8_passHours_w, ⟨m_X11_hours_w, ⟨m_X12_pays_w, ⟨m_X12_lesser_w, ⟨m_X12_learns_w, ⟨m_X12_hour_w, ⟨m_X12_goesOn_w, ⟨m_X12_hours_w, ⟨m_X5_bringBack_w, ⟨m_X11_undo_w, ⟨m_X12_undo_w, ⟨m_X11_can_w, vmw_8⟩⟩⟩⟩⟩⟩⟩⟩⟩⟩⟩⟩⟩⟩⟩⟩⟩⟩⟩⟩
theorem vmw_6 : vMwA [m_X8_copyFrom, m_X5_keep, m_X8_give, m_X11_fetch, m_X12_cant, m_X12_cantNow, m_X12_whyFetch, m_X12_keep, m_X12_fetch, m_X8_whyNotHand, m_X11_hand, m_X12_whyHand, m_X12_hand, m_X8_whyNotDrop, m_X8_letFall, m_X11_drop, m_X12_whyDrop, m_X12_drops, m_X12_drop, m_X8_whyNotHome, m_X11_home, m_X12_whyHome, m_X12_home, m_X8_payPorters, m_X8_isFirstOfSort, m_X8_practise, m_X8_wearOff, m_X8_fallOnSomebody, m_X8_passHours, m_X11_hours, m_X12_pays, m_X12_lesser, m_X12_learns, m_X12_hour, m_X12_goesOn, m_X12_hours, m_X5_bringBack, m_X11_undo, m_X12_undo, m_X11_can, m_X12_can, m_X11_isAmong, m_X3_gather, m_X3_findKeys, m_J9_min_f86c9, m_X3_addPorter, m_X3_leastCost, m_X3_freeing, m_X3_tell, m_X11_free, m_X12_lists, m_X12_bits, m_X12_costTo, m_X12_assigns, m_X12_tells, m_X12_free, m_X11_by, m_X12_by, m_X3_fewestFor, m_X11_fewest, m_X12_fewest, m_X11_load, m_X12_load, m_J6_bitCount_0f7a4, m_X2_findLost, m_X2_layDown, m_X2_bearsThat, m_X2_noteWay, m_X2_countWays, m_X2_waysBy, m_X11_limps, m_X12_octet, m_X12_limpsBy, m_X12_tellsLimps, m_X12_limps, m_X2_sureHolder, m_X11_surely, m_X12_surely, m_X2_bestQuestion, m_X11_ask, m_X12_ask, m_X11_share, m_X12_share, m_X3_cheapestFor, m_X3_shareByFees, m_J9_max_7cf53, m_X3_changeFees, m_X3_settleFees, m_X11_rest, m_X12_goesTo, m_X12_greater, m_X12_round, m_X12_rest, m_X11_fee, m_X12_fee, m_X12_part, m_X12_unharmed, m_X11_ease, m_X12_tries, m_X12_back, m_X12_ease, m_X11_later, m_X12_later, m_X11_lasts, m_X12_lasts, m_X11_cheapest, m_X12_cheapest, m_X11_isCarriable, m_X11_hopeless, m_X12_hopeless, m_X0_draw, m_X0_act, m_X0_live, m_X11_drawn, m_X12_draw, m_X12_drawsPorter, m_X12_draws, m_X12_drawn, m_X11_odds, m_X12_odds, m_X4_readHour, m_X4_readHome, m_X4_readDeed, m_X4_readLine, m_X4_read, m_X4_liveHanding, m_X4_liveLine, m_X4_goodLines, m_X11_log, m_X12_logLine, m_X12_does, m_X12_log, m_X11_logged, m_X12_logged, m_X7_putOpen, m_X7_step, m_X7_readPlain, m_X7_closeNots, m_X7_readOne, m_X7_closeJoins, m_X7_readBetween, m_X7_read, m_X11_sentence, m_X12_code, m_X12_nots, m_X12_joins, m_X12_behind, m_X12_leafOf, m_X12_looksAtBoth, m_X12_operand, m_X12_sentence, m_X7_compares, m_X7_holds, m_X7_plainSet, m_X7_saidOf, m_X11_said, m_X12_isLeaf, m_X12_isSaid, m_X12_said, m_X9_copyFrom, m_X7_copyFrom, m_X11_image, m_X12_image, m_X11_restore, m_X12_restore, m_X11_count, m_X12_count, m_X11_pain, m_X8_learntBy, m_X11_porter, m_X11_unharmed] [1, 1, 1, 1, 1, 1, 1, 1, 1, 1, 1, 1, 1, 1, 1, 1, 1, 1, 1, 1, 1, 1, 1, 1, 1, 1, 1, 1, 1, 1, 1, 0, 1, 1, 1, 1, 1, 1, 1, 1, 1, 0, 1, 1, 0, 1, 1, 1, 1, 1, 1, 0, 1, 1, 1, 1, 1, 1, 1, 1, 1, 1, 1, 0, 1, 1, 1, 1, 1, 1, 1, 1, 1, 1, 1, 1, 1, 1, 1, 1, 1, 1, 1, 1, 1, 0, 1, 1, 1, 1, 0, 1, 1, 1, 1, 0, 1, 1, 1, 1, 1, 1, 1, 1, 1, 1, 1, 1, 1, 1, 1, 1, 1, 1, 1, 1, 1, 1, 1, 1, 1, 1, 1, 1, 1, 1, 1, 1, 1, 1, 1, 1, 1, 1, 1, 1, 1, 1, 1, 1, 1, 1, 1, 1, 1, 1, 1, 1, 1, 1, 1, 1, 1, 1, 1, 1, 1, 1, 1, 1, 1, 1, 1, 1, 1, 1, 1, 1, 1, 1, 1] := ⟨m_X8_copyFrom_w, ⟨m_X5_keep_w, ⟨m_X8_give_w, ⟨m_X11_fetch_w, ⟨m_X12_cant_w, ⟨m_X12_cantNow_w, ⟨m_X12_whyFetch_w, ⟨m_X12_keep_w, ⟨m_X12_fetch_w, ⟨m_X8_whyNotHand_w, ⟨m_X11_hand_w, ⟨m_X12_whyHand_w, ⟨m_X12_hand_w, ⟨m_X8_whyNotDrop_w, ⟨m_X8_letFall_w, ⟨m_X11_drop_w, ⟨m_X12_whyDrop_w, ⟨m_X12_drops_w, ⟨m_X12_drop_w, ⟨m_X8_whyNotHome_w, vmw_7⟩⟩⟩⟩⟩⟩⟩⟩⟩⟩⟩⟩⟩⟩⟩⟩⟩⟩⟩⟩
theorem vmw_5 : vMwA [m_X12_heavesAll, m_X12_porter, m_X11_sort, m_X12_sort, m_X8_painless, m_X11_sum, m_X8_isCarried, m_X8_carriedNow, m_X11_now, m_X12_freeSet, m_X12_sum, m_X12_isCarried, m_X12_carriedSet, m_X12_now, m_X11_isPorter, m_X11_isPain, m_X9_isForbidden, m_X8_heaveOf, m_X8_whyNotCarry, m_X8_whyNotFetch, m_X8_copyFrom, m_X5_keep, m_X8_give, m_X11_fetch, m_X12_cant, m_X12_cantNow, m_X12_whyFetch, m_X12_keep, m_X12_fetch, m_X8_whyNotHand, m_X11_hand, m_X12_whyHand, m_X12_hand, m_X8_whyNotDrop, m_X8_letFall, m_X11_drop, m_X12_whyDrop, m_X12_drops, m_X12_drop, m_X8_whyNotHome, m_X11_home, m_X12_whyHome, m_X12_home, m_X8_payPorters, m_X8_isFirstOfSort, m_X8_practise, m_X8_wearOff, m_X8_fallOnSomebody, m_X8_passHours, m_X11_hours, m_X12_pays, m_X12_lesser, m_X12_learns, m_X12_hour, m_X12_goesOn, m_X12_hours, m_X5_bringBack, m_X11_undo, m_X12_undo, m_X11_can, m_X12_can, m_X11_isAmong, m_X3_gather, m_X3_findKeys, m_J9_min_f86c9, m_X3_addPorter, m_X3_leastCost, m_X3_freeing, m_X3_tell, m_X11_free, m_X12_lists, m_X12_bits, m_X12_costTo, m_X12_assigns, m_X12_tells, m_X12_free, m_X11_by, m_X12_by, m_X3_fewestFor, m_X11_fewest, m_X12_fewest, m_X11_load, m_X12_load, m_J6_bitCount_0f7a4, m_X2_findLost, m_X2_layDown, m_X2_bearsThat, m_X2_noteWay, m_X2_countWays, m_X2_waysBy, m_X11_limps, m_X12_octet, m_X12_limpsBy, m_X12_tellsLimps, m_X12_limps, m_X2_sureHolder, m_X11_surely, m_X12_surely, m_X2_bestQuestion, m_X11_ask, m_X12_ask, m_X11_share, m_X12_share, m_X3_cheapestFor, m_X3_shareByFees, m_J9_max_7cf53, m_X3_changeFees, m_X3_settleFees, m_X11_rest, m_X12_goesTo, m_X12_greater, m_X12_round, m_X12_rest, m_X11_fee, m_X12_fee, m_X12_part, m_X12_unharmed, m_X11_ease, m_X12_tries, m_X12_back, m_X12_ease, m_X11_later, m_X12_later, m_X11_lasts, m_X12_lasts, m_X11_cheapest, m_X12_cheapest, m_X11_isCarriable, m_X11_hopeless, m_X12_hopeless, m_X0_draw, m_X0_act, m_X0_live, m_X11_drawn, m_X12_draw, m_X12_drawsPorter, m_X12_draws, m_X12_drawn, m_X11_odds, m_X12_odds, m_X4_readHour, m_X4_readHome, m_X4_readDeed, m_X4_readLine, m_X4_read, m_X4_liveHanding, m_X4_liveLine, m_X4_goodLines, m_X11_log, m_X12_logLine, m_X12_does, m_X12_log, m_X11_logged, m_X12_logged, m_X7_putOpen, m_X7_step, m_X7_readPlain, m_X7_closeNots, m_X7_readOne, m_X7_closeJoins, m_X7_readBetween, m_X7_read, m_X11_sentence, m_X12_code, m_X12_nots, m_X12_joins, m_X12_behind, m_X12_leafOf, m_X12_looksAtBoth, m_X12_operand, m_X12_sentence, m_X7_compares, m_X7_holds, m_X7_plainSet, m_X7_saidOf, m_X11_said, m_X12_isLeaf, m_X12_isSaid, m_X12_said, m_X9_copyFrom, m_X7_copyFrom, m_X11_image, m_X12_image, m_X11_restore, m_X12_restore, m_X11_count, m_X12_count, m_X11_pain, m_X8_learntBy, m_X11_porter, m_X11_unharmed] [1, 1, 1, 1, 1, 0, 1, 1, 1, 1, 1, 1, 1, 1, 1, 1, 1, 1, 1, 1, 1, 1, 1, 1, 1, 1, 1, 1, 1, 1, 1, 1, 1, 1, 1, 1, 1, 1, 1, 1, 1, 1, 1, 1, 1, 1, 1, 1, 1, 1, 1, 0, 1, 1, 1, 1, 1, 1, 1, 1, 1, 0, 1, 1, 0, 1, 1, 1, 1, 1, 1, 0, 1, 1, 1, 1, 1, 1, 1, 1, 1, 1, 1, 0, 1, 1, 1, 1, 1, 1, 1, 1, 1, 1, 1, 1, 1, 1, 1, 1, 1, 1, 1, 1, 1, 0, 1, 1, 1, 1, 0, 1, 1, 1, 1, 0, 1, 1, 1, 1, 1, 1, 1, 1, 1, 1, 1, 1, 1, 1, 1, 1, 1, 1, 1, 1, 1, 1, 1, 1, 1, 1, 1, 1, 1, 1, 1, 1, 1, 1, 1, 1, 1, 1, 1, 1, 1, 1, 1, 1, 1, 1, 1, 1, 1, 1, 1, 1, 1, 1, 1, 1, 1, 1, 1, 1, 1, 1, 1, 1, 1, 1, 1, 1, 1, 1, 1, 1, 1, 1, 1] := ⟨m_X12_heavesAll_w, ⟨m_X12_porter_w, ⟨m_X11_sort_w, ⟨m_X12_sort_w, ⟨m_X8_painless_w, ⟨m_X11_sum_w, ⟨m_X8_isCarried_w, ⟨m_X8_carriedNow_w, ⟨m_X11_now_w, ⟨m_X12_freeSet_w, ⟨m_X12_sum_w, ⟨m_X12_isCarried_w, ⟨m_X12_carriedSet_w, ⟨m_X12_now_w, ⟨m_X11_isPorter_w, ⟨m_X11_isPain_w, ⟨m_X9_isForbidden_w, ⟨m_X8_heaveOf_w, ⟨m_X8_whyNotCarry_w, ⟨m_X8_whyNotFetch_w, vmw_6⟩⟩⟩⟩⟩⟩⟩⟩⟩⟩⟩⟩⟩⟩⟩⟩⟩⟩⟩⟩
theorem vmw_4 : vMwA [m_X12_sign, m_X12_town, m_X11_fault, m_X12_fault, m_X12_isPain, m_X12_throwsIf, m_X12_pain, m_X11_isPerson, m_X8_painsOf, m_X8_painsAt, m_X8_weightAt, m_X11_person, m_X12_isPerson, m_X12_isOver, m_X12_painsAt, m_X12_weightOf, m_X12_person, m_X12_isPorter, m_X12_hasLearnt, m_X12_heaves, m_X12_heavesAll, m_X12_porter, m_X11_sort, m_X12_sort, m_X8_painless, m_X11_sum, m_X8_isCarried, m_X8_carriedNow, m_X11_now, m_X12_freeSet, m_X12_sum, m_X12_isCarried, m_X12_carriedSet, m_X12_now, m_X11_isPorter, m_X11_isPain, m_X9_isForbidden, m_X8_heaveOf, m_X8_whyNotCarry, m_X8_whyNotFetch, m_X8_copyFrom, m_X5_keep, m_X8_give, m_X11_fetch, m_X12_cant, m_X12_cantNow, m_X12_whyFetch, m_X12_keep, m_X12_fetch, m_X8_whyNotHand, m_X11_hand, m_X12_whyHand, m_X12_hand, m_X8_whyNotDrop, m_X8_letFall, m_X11_drop, m_X12_whyDrop, m_X12_drops, m_X12_drop, m_X8_whyNotHome, m_X11_home, m_X12_whyHome, m_X12_home, m_X8_payPorters, m_X8_isFirstOfSort, m_X8_practise, m_X8_wearOff, m_X8_fallOnSomebody, m_X8_passHours, m_X11_hours, m_X12_pays, m_X12_lesser, m_X12_learns, m_X12_hour, m_X12_goesOn, m_X12_hours, m_X5_bringBack, m_X11_undo, m_X12_undo, m_X11_can, m_X12_can, m_X11_isAmong, m_X3_gather, m_X3_findKeys, m_J9_min_f86c9, m_X3_addPorter, m_X3_leastCost, m_X3_freeing, m_X3_tell, m_X11_free, m_X12_lists, m_X12_bits, m_X12_costTo, m_X12_assigns, m_X12_tells, m_X12_free, m_X11_by, m_X12_by, m_X3_fewestFor, m_X11_fewest, m_X12_fewest, m_X11_load, m_X12_load, m_J6_bitCount_0f7a4, m_X2_findLost, m_X2_layDown, m_X2_bearsThat, m_X2_noteWay, m_X2_countWays, m_X2_waysBy, m_X11_limps, m_X12_octet, m_X12_limpsBy, m_X12_tellsLimps, m_X12_limps, m_X2_sureHolder, m_X11_surely, m_X12_surely, m_X2_bestQuestion, m_X11_ask, m_X12_ask, m_X11_share, m_X12_share, m_X3_cheapestFor, m_X3_shareByFees, m_J9_max_7cf53, m_X3_changeFees, m_X3_settleFees, m_X11_rest, m_X12_goesTo, m_X12_greater, m_X12_round, m_X12_rest, m_X11_fee, m_X12_fee, m_X12_part, m_X12_unharmed, m_X11_ease, m_X12_tries, m_X12_back, m_X12_ease, m_X11_later, m_X12_later, m_X11_lasts, m_X12_lasts, m_X11_cheapest, m_X12_cheapest, m_X11_isCarriable, m_X11_hopeless, m_X12_hopeless, m_X0_draw, m_X0_act, m_X0_live, m_X11_drawn, m_X12_draw, m_X12_drawsPorter, m_X12_draws, m_X12_drawn, m_X11_odds, m_X12_odds, m_X4_readHour, m_X4_readHome, m_X4_readDeed, m_X4_readLine, m_X4_read, m_X4_liveHanding, m_X4_liveLine, m_X4_goodLines, m_X11_log, m_X12_logLine, m_X12_does, m_X12_log, m_X11_logged, m_X12_logged, m_X7_putOpen, m_X7_step, m_X7_readPlain, m_X7_closeNots, m_X7_readOne, m_X7_closeJoins, m_X7_readBetween, m_X7_read, m_X11_sentence, m_X12_code, m_X12_nots, m_X12_joins, m_X12_behind, m_X12_leafOf, m_X12_looksAtBoth, m_X12_operand, m_X12_sentence, m_X7_compares, m_X7_holds, m_X7_plainSet, m_X7_saidOf, m_X11_said, m_X12_isLeaf, m_X12_isSaid, m_X12_said, m_X9_copyFrom, m_X7_copyFrom, m_X11_image, m_X12_image, m_X11_restore, m_X12_restore, m_X11_count, m_X12_count, m_X11_pain, m_X8_learntBy, m_X11_porter, m_X11_unharmed] [1, 1, 1, 1, 1, 1, 1, 1, 1, 1, 1, 1, 1, 1, 1, 1, 1, 1, 1, 1, 1, 1, 1, 1, 1, 0, 1, 1, 1, 1, 1, 1, 1, 1, 1, 1, 1, 1, 1, 1, 1, 1, 1, 1, 1, 1, 1, 1, 1, 1, 1, 1, 1, 1, 1, 1, 1, 1, 1, 1, 1, 1, 1, 1, 1, 1, 1, 1, 1, 1, 1, 0, 1, 1, 1, 1, 1, 1, 1, 1, 1, 0, 1, 1, 0, 1, 1, 1, 1, 1, 1, 0, 1, 1, 1, 1, 1, 1, 1, 1, 1, 1, 1, 0, 1, 1, 1, 1, 1, 1, 1, 1, 1, 1, 1, 1, 1, 1, 1, 1, 1, 1, 1, 1, 1, 0, 1, 1, 1, 1, 0, 1, 1, 1, 1, 0, 1, 1, 1, 1, 1, 1, 1, 1, 1, 1, 1, 1, 1, 1, 1, 1, 1, 1, 1, 1, 1, 1, 1, 1, 1, 1, 1, 1, 1, 1, 1, 1, 1, 1, 1, 1, 1, 1, 1, 1, 1, 1, 1, 1, 1, 1, 1, 1, 1, 1, 1, 1, 1, 1, 1, 1, 1, 1, 1, 1, 1, 1, 1, 1, 1, 1, 1, 1, 1, 1, 1, 1, 1, 1, 1] := ⟨m_X12_sign_w, ⟨m_X12_town_w, ⟨m_X11_fault_w, ⟨m_X12_fault_w, ⟨m_X12_isPain_w, ⟨m_X12_throwsIf_w, ⟨m_X12_pain_w, ⟨m_X11_isPerson_w, ⟨m_X8_painsOf_w, ⟨m_X8_painsAt_w, ⟨m_X8_weightAt_w, ⟨m_X11_person_w, ⟨m_X12_isPerson_w, ⟨m_X12_isOver_w, ⟨m_X12_painsAt_w, ⟨m_X12_weightOf_w, ⟨m_X12_person_w, ⟨m_X12_isPorter_w, ⟨m_X12_hasLearnt_w, ⟨m_X12_heaves_w, vmw_5⟩⟩⟩⟩⟩⟩⟩⟩⟩⟩⟩⟩⟩⟩⟩⟩⟩⟩⟩⟩
theorem vmw_3 : vMwA [m_X11_town, m_X12_taken, m_X12_peek, m_X12_isSmall, m_X12_isDigit, m_X12_next, m_X12_isWord, m_X12_bad, m_X12_isName, m_X12_find, m_X12_fresh, m_X12_looksAt, m_X12_takesName, m_X12_bitOf, m_X12_isIn, m_X12_takes, m_X12_puts, m_X12_readPain, m_X12_line, m_X12_isSign, m_X12_sign, m_X12_town, m_X11_fault, m_X12_fault, m_X12_isPain, m_X12_throwsIf, m_X12_pain, m_X11_isPerson, m_X8_painsOf, m_X8_painsAt, m_X8_weightAt, m_X11_person, m_X12_isPerson, m_X12_isOver, m_X12_painsAt, m_X12_weightOf, m_X12_person, m_X12_isPorter, m_X12_hasLearnt, m_X12_heaves, m_X12_heavesAll, m_X12_porter, m_X11_sort, m_X12_sort, m_X8_painless, m_X11_sum, m_X8_isCarried, m_X8_carriedNow, m_X11_now, m_X12_freeSet, m_X12_sum, m_X12_isCarried, m_X12_carriedSet, m_X12_now, m_X11_isPorter, m_X11_isPain, m_X9_isForbidden, m_X8_heaveOf, m_X8_whyNotCarry, m_X8_whyNotFetch, m_X8_copyFrom, m_X5_keep, m_X8_give, m_X11_fetch, m_X12_cant, m_X12_cantNow, m_X12_whyFetch, m_X12_keep, m_X12_fetch, m_X8_whyNotHand, m_X11_hand, m_X12_whyHand, m_X12_hand, m_X8_whyNotDrop, m_X8_letFall, m_X11_drop, m_X12_whyDrop, m_X12_drops, m_X12_drop, m_X8_whyNotHome, m_X11_home, m_X12_whyHome, m_X12_home, m_X8_payPorters, m_X8_isFirstOfSort, m_X8_practise, m_X8_wearOff, m_X8_fallOnSomebody, m_X8_passHours, m_X11_hours, m_X12_pays, m_X12_lesser, m_X12_learns, m_X12_hour, m_X12_goesOn, m_X12_hours, m_X5_bringBack, m_X11_undo, m_X12_undo, m_X11_can, m_X12_can, m_X11_isAmong, m_X3_gather, m_X3_findKeys, m_J9_min_f86c9, m_X3_addPorter, m_X3_leastCost, m_X3_freeing, m_X3_tell, m_X11_free, m_X12_lists, m_X12_bits, m_X12_costTo, m_X12_assigns, m_X12_tells, m_X12_free, m_X11_by, m_X12_by, m_X3_fewestFor, m_X11_fewest, m_X12_fewest, m_X11_load, m_X12_load, m_J6_bitCount_0f7a4, m_X2_findLost, m_X2_layDown, m_X2_bearsThat, m_X2_noteWay, m_X2_countWays, m_X2_waysBy, m_X11_limps, m_X12_octet, m_X12_limpsBy, m_X12_tellsLimps, m_X12_limps, m_X2_sureHolder, m_X11_surely, m_X12_surely, m_X2_bestQuestion, m_X11_ask, m_X12_ask, m_X11_share, m_X12_share, m_X3_cheapestFor, m_X3_shareByFees, m_J9_max_7cf53, m_X3_changeFees, m_X3_settleFees, m_X11_rest, m_X12_goesTo, m_X12_greater, m_X12_round, m_X12_rest, m_X11_fee, m_X12_fee, m_X12_part, m_X12_unharmed, m_X11_ease, m_X12_tries, m_X12_back, m_X12_ease, m_X11_later, m_X12_later, m_X11_lasts, m_X12_lasts, m_X11_cheapest, m_X12_cheapest, m_X11_isCarriable, m_X11_hopeless, m_X12_hopeless, m_X0_draw, m_X0_act, m_X0_live, m_X11_drawn, m_X12_draw, m_X12_drawsPorter, m_X12_draws, m_X12_drawn, m_X11_odds, m_X12_odds, m_X4_readHour, m_X4_readHome, m_X4_readDeed, m_X4_readLine, m_X4_read, m_X4_liveHanding, m_X4_liveLine, m_X4_goodLines, m_X11_log, m_X12_logLine, m_X12_does, m_X12_log, m_X11_logged, m_X12_logged, m_X7_putOpen, m_X7_step, m_X7_readPlain, m_X7_closeNots, m_X7_readOne, m_X7_closeJoins, m_X7_readBetween, m_X7_read, m_X11_sentence, m_X12_code, m_X12_nots, m_X12_joins, m_X12_behind, m_X12_leafOf, m_X12_looksAtBoth, m_X12_operand, m_X12_sentence, m_X7_compares, m_X7_holds, m_X7_plainSet, m_X7_saidOf, m_X11_said, m_X12_isLeaf, m_X12_isSaid, m_X12_said, m_X9_copyFrom, m_X7_copyFrom, m_X11_image, m_X12_image, m_X11_restore, m_X12_restore, m_X11_count, m_X12_count, m_X11_pain, m_X8_learntBy, m_X11_porter, m_X11_unharmed] [1, 1, 1, 0, 0, 1, 1, 1, 1, 1, 1, 1, 1, 0, 0, 1, 1, 1, 1, 1, 1, 1, 1, 1, 1, 1, 1, 1, 1, 1, 1, 1, 1, 1, 1, 1, 1, 1, 1, 1, 1, 1, 1, 1, 1, 0, 1, 1, 1, 1, 1, 1, 1, 1, 1, 1, 1, 1, 1, 1, 1, 1, 1, 1, 1, 1, 1, 1, 1, 1, 1, 1, 1, 1, 1, 1, 1, 1, 1, 1, 1, 1, 1, 1, 1, 1, 1, 1, 1, 1, 1, 0, 1, 1, 1, 1, 1, 1, 1, 1, 1, 0, 1, 1, 0, 1, 1, 1, 1, 1, 1, 0, 1, 1, 1, 1, 1, 1, 1, 1, 1, 1, 1, 0, 1, 1, 1, 1, 1, 1, 1, 1, 1, 1, 1, 1, 1, 1, 1, 1, 1, 1, 1, 1, 1, 0, 1, 1, 1, 1, 0, 1, 1, 1, 1, 0, 1, 1, 1, 1, 1, 1, 1, 1, 1, 1, 1, 1, 1, 1, 1, 1, 1, 1, 1, 1, 1, 1, 1, 1, 1, 1, 1, 1, 1, 1, 1, 1, 1, 1, 1, 1, 1, 1, 1, 1, 1, 1, 1, 1, 1, 1, 1, 1, 1, 1, 1, 1, 1, 1, 1, 1, 1, 1, 1, 1, 1, 1, 1, 1, 1, 1, 1, 1, 1, 1, 1, 1, 1, 1, 1] := ⟨m_X11_town_w, ⟨m_X12_taken_w, ⟨m_X12_peek_w, ⟨m_X12_isSmall_w, ⟨m_X12_isDigit_w, ⟨m_X12_next_w, ⟨m_X12_isWord_w, ⟨m_X12_bad_w, ⟨m_X12_isName_w, ⟨m_X12_find_w, ⟨m_X12_fresh_w, ⟨m_X12_looksAt_w, ⟨m_X12_takesName_w, ⟨m_X12_bitOf_w, ⟨m_X12_isIn_w, ⟨m_X12_takes_w, ⟨m_X12_puts_w, ⟨m_X12_readPain_w, ⟨m_X12_line_w, ⟨m_X12_isSign_w, vmw_4⟩⟩⟩⟩⟩⟩⟩⟩⟩⟩⟩⟩⟩⟩⟩⟩⟩⟩⟩⟩
theorem vmw_2 : vMwA [m_X6_isName, m_X9_find, m_X9_name, m_X10_readNewName, m_X6_endsLine, m_X10_readSort, m_X6_readName, m_X6_nextEndsLine, m_X10_readTalks, m_X6_readNumber, m_X10_readPerson, m_X10_readPorter, m_X10_readBars, m_X10_readPain, m_X10_readHarm, m_X10_readLine, m_X10_read, m_X8_begin, m_X7_forget, m_X5_forget, m_X11_town, m_X12_taken, m_X12_peek, m_X12_isSmall, m_X12_isDigit, m_X12_next, m_X12_isWord, m_X12_bad, m_X12_isName, m_X12_find, m_X12_fresh, m_X12_looksAt, m_X12_takesName, m_X12_bitOf, m_X12_isIn, m_X12_takes, m_X12_puts, m_X12_readPain, m_X12_line, m_X12_isSign, m_X12_sign, m_X12_town, m_X11_fault, m_X12_fault, m_X12_isPain, m_X12_throwsIf, m_X12_pain, m_X11_isPerson, m_X8_painsOf, m_X8_painsAt, m_X8_weightAt, m_X11_person, m_X12_isPerson, m_X12_isOver, m_X12_painsAt, m_X12_weightOf, m_X12_person, m_X12_isPorter, m_X12_hasLearnt, m_X12_heaves, m_X12_heavesAll, m_X12_porter, m_X11_sort, m_X12_sort, m_X8_painless, m_X11_sum, m_X8_isCarried, m_X8_carriedNow, m_X11_now, m_X12_freeSet, m_X12_sum, m_X12_isCarried, m_X12_carriedSet, m_X12_now, m_X11_isPorter, m_X11_isPain, m_X9_isForbidden, m_X8_heaveOf, m_X8_whyNotCarry, m_X8_whyNotFetch, m_X8_copyFrom, m_X5_keep, m_X8_give, m_X11_fetch, m_X12_cant, m_X12_cantNow, m_X12_whyFetch, m_X12_keep, m_X12_fetch, m_X8_whyNotHand, m_X11_hand, m_X12_whyHand, m_X12_hand, m_X8_whyNotDrop, m_X8_letFall, m_X11_drop, m_X12_whyDrop, m_X12_drops, m_X12_drop, m_X8_whyNotHome, m_X11_home, m_X12_whyHome, m_X12_home, m_X8_payPorters, m_X8_isFirstOfSort, m_X8_practise, m_X8_wearOff, m_X8_fallOnSomebody, m_X8_passHours, m_X11_hours, m_X12_pays, m_X12_lesser, m_X12_learns, m_X12_hour, m_X12_goesOn, m_X12_hours, m_X5_bringBack, m_X11_undo, m_X12_undo, m_X11_can, m_X12_can, m_X11_isAmong, m_X3_gather, m_X3_findKeys, m_J9_min_f86c9, m_X3_addPorter, m_X3_leastCost, m_X3_freeing, m_X3_tell, m_X11_free, m_X12_lists, m_X12_bits, m_X12_costTo, m_X12_assigns, m_X12_tells, m_X12_free, m_X11_by, m_X12_by, m_X3_fewestFor, m_X11_fewest, m_X12_fewest, m_X11_load, m_X12_load, m_J6_bitCount_0f7a4, m_X2_findLost, m_X2_layDown, m_X2_bearsThat, m_X2_noteWay, m_X2_countWays, m_X2_waysBy, m_X11_limps, m_X12_octet, m_X12_limpsBy, m_X12_tellsLimps, m_X12_limps, m_X2_sureHolder, m_X11_surely, m_X12_surely, m_X2_bestQuestion, m_X11_ask, m_X12_ask, m_X11_share, m_X12_share, m_X3_cheapestFor, m_X3_shareByFees, m_J9_max_7cf53, m_X3_changeFees, m_X3_settleFees, m_X11_rest, m_X12_goesTo, m_X12_greater, m_X12_round, m_X12_rest, m_X11_fee, m_X12_fee, m_X12_part, m_X12_unharmed, m_X11_ease, m_X12_tries, m_X12_back, m_X12_ease, m_X11_later, m_X12_later, m_X11_lasts, m_X12_lasts, m_X11_cheapest, m_X12_cheapest, m_X11_isCarriable, m_X11_hopeless, m_X12_hopeless, m_X0_draw, m_X0_act, m_X0_live, m_X11_drawn, m_X12_draw, m_X12_drawsPorter, m_X12_draws, m_X12_drawn, m_X11_odds, m_X12_odds, m_X4_readHour, m_X4_readHome, m_X4_readDeed, m_X4_readLine, m_X4_read, m_X4_liveHanding, m_X4_liveLine, m_X4_goodLines, m_X11_log, m_X12_logLine, m_X12_does, m_X12_log, m_X11_logged, m_X12_logged, m_X7_putOpen, m_X7_step, m_X7_readPlain, m_X7_closeNots, m_X7_readOne, m_X7_closeJoins, m_X7_readBetween, m_X7_read, m_X11_sentence, m_X12_code, m_X12_nots, m_X12_joins, m_X12_behind, m_X12_leafOf, m_X12_looksAtBoth, m_X12_operand, m_X12_sentence, m_X7_compares, m_X7_holds, m_X7_plainSet, m_X7_saidOf, m_X11_said, m_X12_isLeaf, m_X12_isSaid, m_X12_said, m_X9_copyFrom, m_X7_copyFrom, m_X11_image, m_X12_image, m_X11_restore, m_X12_restore, m_X11_count, m_X12_count, m_X11_pain, m_X8_learntBy, m_X11_porter, m_X11_unharmed] [1, 1, 1, 1, 1, 1, 1, 1, 1, 1, 1, 1, 1, 1, 1, 1, 1, 1, 1, 1, 1, 1, 1, 0, 0, 1, 1, 1, 1, 1, 1, 1, 1, 0, 0, 1, 1, 1, 1, 1, 1, 1, 1, 1, 1, 1, 1, 1, 1, 1, 1, 1, 1, 1, 1, 1, 1, 1, 1, 1, 1, 1, 1, 1, 1, 0, 1, 1, 1, 1, 1, 1, 1, 1, 1, 1, 1, 1, 1, 1, 1, 1, 1, 1, 1, 1, 1, 1, 1, 1, 1, 1, 1, 1, 1, 1, 1, 1, 1, 1, 1, 1, 1, 1, 1, 1, 1, 1, 1, 1, 1, 0, 1, 1, 1, 1, 1, 1, 1, 1, 1, 0, 1, 1, 0, 1, 1, 1, 1, 1, 1, 0, 1, 1, 1, 1, 1, 1, 1, 1, 1, 1, 1, 0, 1, 1, 1, 1, 1, 1, 1, 1, 1, 1, 1, 1, 1, 1, 1, 1, 1, 1, 1, 1, 1, 0, 1, 1, 1, 1, 0, 1, 1, 1, 1, 0, 1, 1, 1, 1, 1, 1, 1, 1, 1, 1, 1, 1, 1, 1, 1, 1, 1, 1, 1, 1, 1, 1, 1, 1, 1, 1, 1, 1, 1, 1, 1, 1, 1, 1, 1, 1, 1, 1, 1, 1, 1, 1, 1, 1, 1, 1, 1, 1, 1, 1, 1, 1, 1, 1, 1, 1, 1, 1, 1, 1, 1, 1, 1, 1, 1, 1, 1, 1, 1, 1, 1, 1, 1, 1, 1] := ⟨m_X6_isName_w, ⟨m_X9_find_w, ⟨m_X9_name_w, ⟨m_X10_readNewName_w, ⟨m_X6_endsLine_w, ⟨m_X10_readSort_w, ⟨m_X6_readName_w, ⟨m_X6_nextEndsLine_w, ⟨m_X10_readTalks_w, ⟨m_X6_readNumber_w, ⟨m_X10_readPerson_w, ⟨m_X10_readPorter_w, ⟨m_X10_readBars_w, ⟨m_X10_readPain_w, ⟨m_X10_readHarm_w, ⟨m_X10_readLine_w, ⟨m_X10_read_w, ⟨m_X8_begin_w, ⟨m_X7_forget_w, ⟨m_X5_forget_w, vmw_3⟩⟩⟩⟩⟩⟩⟩⟩⟩⟩⟩⟩⟩⟩⟩⟩⟩⟩⟩⟩
theorem vmw_1 : vMwA [m_X2_init, m_X0_init, m_X1_init, m_X11_init, m_X12_init, m_X11_putNumber, m_X11_feed, m_X12_four, m_X12_feed, m_X11_end, m_X12_end, m_J9_min_7cf53, m_X6_begin, m_X11_takeTape, m_X9_clear, m_X6_findKeyword, m_X6_readRun, m_X6_advance, m_X9_findClashes, m_X6_fail, m_X6_isName, m_X9_find, m_X9_name, m_X10_readNewName, m_X6_endsLine, m_X10_readSort, m_X6_readName, m_X6_nextEndsLine, m_X10_readTalks, m_X6_readNumber, m_X10_readPerson, m_X10_readPorter, m_X10_readBars, m_X10_readPain, m_X10_readHarm, m_X10_readLine, m_X10_read, m_X8_begin, m_X7_forget, m_X5_forget, m_X11_town, m_X12_taken, m_X12_peek, m_X12_isSmall, m_X12_isDigit, m_X12_next, m_X12_isWord, m_X12_bad, m_X12_isName, m_X12_find, m_X12_fresh, m_X12_looksAt, m_X12_takesName, m_X12_bitOf, m_X12_isIn, m_X12_takes, m_X12_puts, m_X12_readPain, m_X12_line, m_X12_isSign, m_X12_sign, m_X12_town, m_X11_fault, m_X12_fault, m_X12_isPain, m_X12_throwsIf, m_X12_pain, m_X11_isPerson, m_X8_painsOf, m_X8_painsAt, m_X8_weightAt, m_X11_person, m_X12_isPerson, m_X12_isOver, m_X12_painsAt, m_X12_weightOf, m_X12_person, m_X12_isPorter, m_X12_hasLearnt, m_X12_heaves, m_X12_heavesAll, m_X12_porter, m_X11_sort, m_X12_sort, m_X8_painless, m_X11_sum, m_X8_isCarried, m_X8_carriedNow, m_X11_now, m_X12_freeSet, m_X12_sum, m_X12_isCarried, m_X12_carriedSet, m_X12_now, m_X11_isPorter, m_X11_isPain, m_X9_isForbidden, m_X8_heaveOf, m_X8_whyNotCarry, m_X8_whyNotFetch, m_X8_copyFrom, m_X5_keep, m_X8_give, m_X11_fetch, m_X12_cant, m_X12_cantNow, m_X12_whyFetch, m_X12_keep, m_X12_fetch, m_X8_whyNotHand, m_X11_hand, m_X12_whyHand, m_X12_hand, m_X8_whyNotDrop, m_X8_letFall, m_X11_drop, m_X12_whyDrop, m_X12_drops, m_X12_drop, m_X8_whyNotHome, m_X11_home, m_X12_whyHome, m_X12_home, m_X8_payPorters, m_X8_isFirstOfSort, m_X8_practise, m_X8_wearOff, m_X8_fallOnSomebody, m_X8_passHours, m_X11_hours, m_X12_pays, m_X12_lesser, m_X12_learns, m_X12_hour, m_X12_goesOn, m_X12_hours, m_X5_bringBack, m_X11_undo, m_X12_undo, m_X11_can, m_X12_can, m_X11_isAmong, m_X3_gather, m_X3_findKeys, m_J9_min_f86c9, m_X3_addPorter, m_X3_leastCost, m_X3_freeing, m_X3_tell, m_X11_free, m_X12_lists, m_X12_bits, m_X12_costTo, m_X12_assigns, m_X12_tells, m_X12_free, m_X11_by, m_X12_by, m_X3_fewestFor, m_X11_fewest, m_X12_fewest, m_X11_load, m_X12_load, m_J6_bitCount_0f7a4, m_X2_findLost, m_X2_layDown, m_X2_bearsThat, m_X2_noteWay, m_X2_countWays, m_X2_waysBy, m_X11_limps, m_X12_octet, m_X12_limpsBy, m_X12_tellsLimps, m_X12_limps, m_X2_sureHolder, m_X11_surely, m_X12_surely, m_X2_bestQuestion, m_X11_ask, m_X12_ask, m_X11_share, m_X12_share, m_X3_cheapestFor, m_X3_shareByFees, m_J9_max_7cf53, m_X3_changeFees, m_X3_settleFees, m_X11_rest, m_X12_goesTo, m_X12_greater, m_X12_round, m_X12_rest, m_X11_fee, m_X12_fee, m_X12_part, m_X12_unharmed, m_X11_ease, m_X12_tries, m_X12_back, m_X12_ease, m_X11_later, m_X12_later, m_X11_lasts, m_X12_lasts, m_X11_cheapest, m_X12_cheapest, m_X11_isCarriable, m_X11_hopeless, m_X12_hopeless, m_X0_draw, m_X0_act, m_X0_live, m_X11_drawn, m_X12_draw, m_X12_drawsPorter, m_X12_draws, m_X12_drawn, m_X11_odds, m_X12_odds, m_X4_readHour, m_X4_readHome, m_X4_readDeed, m_X4_readLine, m_X4_read, m_X4_liveHanding, m_X4_liveLine, m_X4_goodLines, m_X11_log, m_X12_logLine, m_X12_does, m_X12_log, m_X11_logged, m_X12_logged, m_X7_putOpen, m_X7_step, m_X7_readPlain, m_X7_closeNots, m_X7_readOne, m_X7_closeJoins, m_X7_readBetween, m_X7_read, m_X11_sentence, m_X12_code, m_X12_nots, m_X12_joins, m_X12_behind, m_X12_leafOf, m_X12_looksAtBoth, m_X12_operand, m_X12_sentence, m_X7_compares, m_X7_holds, m_X7_plainSet, m_X7_saidOf, m_X11_said, m_X12_isLeaf, m_X12_isSaid, m_X12_said, m_X9_copyFrom, m_X7_copyFrom, m_X11_image, m_X12_image, m_X11_restore, m_X12_restore, m_X11_count, m_X12_count, m_X11_pain, m_X8_learntBy, m_X11_porter, m_X11_unharmed] [2, 2, 2, 2, 2, 1, 1, 1, 1, 1, 1, 0, 1, 1, 1, 1, 1, 1, 1, 1, 1, 1, 1, 1, 1, 1, 1, 1, 1, 1, 1, 1, 1, 1, 1, 1, 1, 1, 1, 1, 1, 1, 1, 0, 0, 1, 1, 1, 1, 1, 1, 1, 1, 0, 0, 1, 1, 1, 1, 1, 1, 1, 1, 1, 1, 1, 1, 1, 1, 1, 1, 1, 1, 1, 1, 1, 1, 1, 1, 1, 1, 1, 1, 1, 1, 0, 1, 1, 1, 1, 1, 1, 1, 1, 1, 1, 1, 1, 1, 1, 1, 1, 1, 1, 1, 1, 1, 1, 1, 1, 1, 1, 1, 1, 1, 1, 1, 1, 1, 1, 1, 1, 1, 1, 1, 1, 1, 1, 1, 1, 1, 0, 1, 1, 1, 1, 1, 1, 1, 1, 1, 0, 1, 1, 0, 1, 1, 1, 1, 1, 1, 0, 1, 1, 1, 1, 1, 1, 1, 1, 1, 1, 1, 0, 1, 1, 1, 1, 1, 1, 1, 1, 1, 1, 1, 1, 1, 1, 1, 1, 1, 1, 1, 1, 1, 0, 1, 1, 1, 1, 0, 1, 1, 1, 1, 0, 1, 1, 1, 1, 1, 1, 1, 1, 1, 1, 1, 1, 1, 1, 1, 1, 1, 1, 1, 1, 1, 1, 1, 1, 1, 1, 1, 1, 1, 1, 1, 1, 1, 1, 1, 1, 1, 1, 1, 1, 1, 1, 1, 1, 1, 1, 1, 1, 1, 1, 1, 1, 1, 1, 1, 1, 1, 1, 1, 1, 1, 1, 1, 1, 1, 1, 1, 1, 1, 1, 1, 1, 1, 1, 1] := ⟨m_X2_init_w, ⟨m_X0_init_w, ⟨m_X1_init_w, ⟨m_X11_init_w, ⟨m_X12_init_w, ⟨m_X11_putNumber_w, ⟨m_X11_feed_w, ⟨m_X12_four_w, ⟨m_X12_feed_w, ⟨m_X11_end_w, ⟨m_X12_end_w, ⟨m_J9_min_7cf53_w, ⟨m_X6_begin_w, ⟨m_X11_takeTape_w, ⟨m_X9_clear_w, ⟨m_X6_findKeyword_w, ⟨m_X6_readRun_w, ⟨m_X6_advance_w, ⟨m_X9_findClashes_w, ⟨m_X6_fail_w, vmw_2⟩⟩⟩⟩⟩⟩⟩⟩⟩⟩⟩⟩⟩⟩⟩⟩⟩⟩⟩⟩
theorem vmw_0 : vMwA [m_J0_coder_7d493, m_J0_length_8abf5, m_J0_isLatin1_aae02, m_J3_checkIndex_8e157, m_J0_checkIndex_df160, m_J1_charAt_3b067, m_J2_length_9d52b, m_J2_checkIndex_2214a, m_J2_getChar_3b067, m_J2_charAt_3b067, m_J0_charAt_5068e, m_X6_joined, m_X6_init, m_X9_init, m_X10_init, m_X8_init, m_X7_init, m_X4_init, m_X5_init, m_X3_init, m_X2_init, m_X0_init, m_X1_init, m_X11_init, m_X12_init, m_X11_putNumber, m_X11_feed, m_X12_four, m_X12_feed, m_X11_end, m_X12_end, m_J9_min_7cf53, m_X6_begin, m_X11_takeTape, m_X9_clear, m_X6_findKeyword, m_X6_readRun, m_X6_advance, m_X9_findClashes, m_X6_fail, m_X6_isName, m_X9_find, m_X9_name, m_X10_readNewName, m_X6_endsLine, m_X10_readSort, m_X6_readName, m_X6_nextEndsLine, m_X10_readTalks, m_X6_readNumber, m_X10_readPerson, m_X10_readPorter, m_X10_readBars, m_X10_readPain, m_X10_readHarm, m_X10_readLine, m_X10_read, m_X8_begin, m_X7_forget, m_X5_forget, m_X11_town, m_X12_taken, m_X12_peek, m_X12_isSmall, m_X12_isDigit, m_X12_next, m_X12_isWord, m_X12_bad, m_X12_isName, m_X12_find, m_X12_fresh, m_X12_looksAt, m_X12_takesName, m_X12_bitOf, m_X12_isIn, m_X12_takes, m_X12_puts, m_X12_readPain, m_X12_line, m_X12_isSign, m_X12_sign, m_X12_town, m_X11_fault, m_X12_fault, m_X12_isPain, m_X12_throwsIf, m_X12_pain, m_X11_isPerson, m_X8_painsOf, m_X8_painsAt, m_X8_weightAt, m_X11_person, m_X12_isPerson, m_X12_isOver, m_X12_painsAt, m_X12_weightOf, m_X12_person, m_X12_isPorter, m_X12_hasLearnt, m_X12_heaves, m_X12_heavesAll, m_X12_porter, m_X11_sort, m_X12_sort, m_X8_painless, m_X11_sum, m_X8_isCarried, m_X8_carriedNow, m_X11_now, m_X12_freeSet, m_X12_sum, m_X12_isCarried, m_X12_carriedSet, m_X12_now, m_X11_isPorter, m_X11_isPain, m_X9_isForbidden, m_X8_heaveOf, m_X8_whyNotCarry, m_X8_whyNotFetch, m_X8_copyFrom, m_X5_keep, m_X8_give, m_X11_fetch, m_X12_cant, m_X12_cantNow, m_X12_whyFetch, m_X12_keep, m_X12_fetch, m_X8_whyNotHand, m_X11_hand, m_X12_whyHand, m_X12_hand, m_X8_whyNotDrop, m_X8_letFall, m_X11_drop, m_X12_whyDrop, m_X12_drops, m_X12_drop, m_X8_whyNotHome, m_X11_home, m_X12_whyHome, m_X12_home, m_X8_payPorters, m_X8_isFirstOfSort, m_X8_practise, m_X8_wearOff, m_X8_fallOnSomebody, m_X8_passHours, m_X11_hours, m_X12_pays, m_X12_lesser, m_X12_learns, m_X12_hour, m_X12_goesOn, m_X12_hours, m_X5_bringBack, m_X11_undo, m_X12_undo, m_X11_can, m_X12_can, m_X11_isAmong, m_X3_gather, m_X3_findKeys, m_J9_min_f86c9, m_X3_addPorter, m_X3_leastCost, m_X3_freeing, m_X3_tell, m_X11_free, m_X12_lists, m_X12_bits, m_X12_costTo, m_X12_assigns, m_X12_tells, m_X12_free, m_X11_by, m_X12_by, m_X3_fewestFor, m_X11_fewest, m_X12_fewest, m_X11_load, m_X12_load, m_J6_bitCount_0f7a4, m_X2_findLost, m_X2_layDown, m_X2_bearsThat, m_X2_noteWay, m_X2_countWays, m_X2_waysBy, m_X11_limps, m_X12_octet, m_X12_limpsBy, m_X12_tellsLimps, m_X12_limps, m_X2_sureHolder, m_X11_surely, m_X12_surely, m_X2_bestQuestion, m_X11_ask, m_X12_ask, m_X11_share, m_X12_share, m_X3_cheapestFor, m_X3_shareByFees, m_J9_max_7cf53, m_X3_changeFees, m_X3_settleFees, m_X11_rest, m_X12_goesTo, m_X12_greater, m_X12_round, m_X12_rest, m_X11_fee, m_X12_fee, m_X12_part, m_X12_unharmed, m_X11_ease, m_X12_tries, m_X12_back, m_X12_ease, m_X11_later, m_X12_later, m_X11_lasts, m_X12_lasts, m_X11_cheapest, m_X12_cheapest, m_X11_isCarriable, m_X11_hopeless, m_X12_hopeless, m_X0_draw, m_X0_act, m_X0_live, m_X11_drawn, m_X12_draw, m_X12_drawsPorter, m_X12_draws, m_X12_drawn, m_X11_odds, m_X12_odds, m_X4_readHour, m_X4_readHome, m_X4_readDeed, m_X4_readLine, m_X4_read, m_X4_liveHanding, m_X4_liveLine, m_X4_goodLines, m_X11_log, m_X12_logLine, m_X12_does, m_X12_log, m_X11_logged, m_X12_logged, m_X7_putOpen, m_X7_step, m_X7_readPlain, m_X7_closeNots, m_X7_readOne, m_X7_closeJoins, m_X7_readBetween, m_X7_read, m_X11_sentence, m_X12_code, m_X12_nots, m_X12_joins, m_X12_behind, m_X12_leafOf, m_X12_looksAtBoth, m_X12_operand, m_X12_sentence, m_X7_compares, m_X7_holds, m_X7_plainSet, m_X7_saidOf, m_X11_said, m_X12_isLeaf, m_X12_isSaid, m_X12_said, m_X9_copyFrom, m_X7_copyFrom, m_X11_image, m_X12_image, m_X11_restore, m_X12_restore, m_X11_count, m_X12_count, m_X11_pain, m_X8_learntBy, m_X11_porter, m_X11_unharmed] [1, 1, 1, 0, 0, 0, 0, 0, 0, 0, 1, 0, 2, 2, 2, 2, 2, 2, 2, 2, 2, 2, 2, 2, 2, 1, 1, 1, 1, 1, 1, 0, 1, 1, 1, 1, 1, 1, 1, 1, 1, 1, 1, 1, 1, 1, 1, 1, 1, 1, 1, 1, 1, 1, 1, 1, 1, 1, 1, 1, 1, 1, 1, 0, 0, 1, 1, 1, 1, 1, 1, 1, 1, 0, 0, 1, 1, 1, 1, 1, 1, 1, 1, 1, 1, 1, 1, 1, 1, 1, 1, 1, 1, 1, 1, 1, 1, 1, 1, 1, 1, 1, 1, 1, 1, 0, 1, 1, 1, 1, 1, 1, 1, 1, 1, 1, 1, 1, 1, 1, 1, 1, 1, 1, 1, 1, 1, 1, 1, 1, 1, 1, 1, 1, 1, 1, 1, 1, 1, 1, 1, 1, 1, 1, 1, 1, 1, 1, 1, 1, 1, 0, 1, 1, 1, 1, 1, 1, 1, 1, 1, 0, 1, 1, 0, 1, 1, 1, 1, 1, 1, 0, 1, 1, 1, 1, 1, 1, 1, 1, 1, 1, 1, 0, 1, 1, 1, 1, 1, 1, 1, 1, 1, 1, 1, 1, 1, 1, 1, 1, 1, 1, 1, 1, 1, 0, 1, 1, 1, 1, 0, 1, 1, 1, 1, 0, 1, 1, 1, 1, 1, 1, 1, 1, 1, 1, 1, 1, 1, 1, 1, 1, 1, 1, 1, 1, 1, 1, 1, 1, 1, 1, 1, 1, 1, 1, 1, 1, 1, 1, 1, 1, 1, 1, 1, 1, 1, 1, 1, 1, 1, 1, 1, 1, 1, 1, 1, 1, 1, 1, 1, 1, 1, 1, 1, 1, 1, 1, 1, 1, 1, 1, 1, 1, 1, 1, 1, 1, 1, 1, 1] := ⟨m_J0_coder_7d493_w, ⟨m_J0_length_8abf5_w, ⟨m_J0_isLatin1_aae02_w, ⟨m_J3_checkIndex_8e157_w, ⟨m_J0_checkIndex_df160_w, ⟨m_J1_charAt_3b067_w, ⟨m_J2_length_9d52b_w, ⟨m_J2_checkIndex_2214a_w, ⟨m_J2_getChar_3b067_w, ⟨m_J2_charAt_3b067_w, ⟨m_J0_charAt_5068e_w, ⟨m_X6_joined_w, ⟨m_X6_init_w, ⟨m_X9_init_w, ⟨m_X10_init_w, ⟨m_X8_init_w, ⟨m_X7_init_w, ⟨m_X4_init_w, ⟨m_X5_init_w, ⟨m_X3_init_w, vmw_1⟩⟩⟩⟩⟩⟩⟩⟩⟩⟩⟩⟩⟩⟩⟩⟩⟩⟩⟩⟩
theorem vkn : vKnd vms vkinds := vKnd_of vmw_0
theorem vplain : ∀ (j : Nat) (M : vMt), vms[j]? = some M → plainFor M.1 = true := vPlain_of (kinds := vkinds) vmw_0
