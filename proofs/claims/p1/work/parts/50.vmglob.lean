/-! ===== classes, common words, all methods ===== -/
def vDfB (x : vAV) (ty : FieldType) : Bool := match x, ty with
  | .inl 0, .int => true
  | .inl 0, .boolean => true
  | .inr (.inr (.inl 0)), .long => true
  | .inr (.inr (.inr (.inl none))), .object _ => true
  | .inr (.inr (.inr (.inl none))), .array _ => true
  | _, _ => false
theorem vDfB_ok {x : vAV} {ty : FieldType} (h : vDfB x ty = true) (b sa sv : Nat) : vG b sa sv [] x (defaultValue ty) := by
  unfold vDfB at h
  split at h
  · exact ⟨by omega, by decide⟩
  · exact ⟨by omega, by decide⟩
  · exact ⟨by omega, by decide⟩
  · exact rfl
  · exact rfl
  · cases h
def vDfA (d : List vAV) (ty : Nat → FieldType) (N : Nat) : Bool := Nat.beq d.length N && (List.range N).all (fun j => match d[j]? with
  | some x => vDfB x (ty j)
  | none => false)
theorem vDfA_ok {d : List vAV} {ty : Nat → FieldType} {N : Nat} (h : vDfA d ty N = true) : d.length = N ∧ ∀ (j : Nat) (x : vAV), d[j]? = some x → ∀ b sa sv, vG b sa sv [] x (defaultValue (ty j)) := by
  obtain ⟨h1, h2⟩ := vBx h
  have h1 := Nat.eq_of_beq_eq_true h1
  refine ⟨h1, fun j x hj b sa sv => ?_⟩
  have hlt : j < N := by rw [← h1]; exact (List.getElem?_eq_some_iff.mp hj).1
  have h3 := List.all_eq_true.mp h2 j (List.mem_range.mpr hlt)
  rw [hj] at h3
  exact vDfB_ok h3 b sa sv
set_option maxRecDepth 100000 in
theorem vc0_w : ∀ w ∈ u_ws RX0 TX0 1, w ∈ WT := vAt_ok [621] _ (by decide +kernel)
set_option maxRecDepth 100000 in
theorem vc0_t : ∀ k, k < 1 → parseFieldDescriptor (TX0 k).2.2.1 = some (tyX0 k) := by decide +kernel
set_option maxRecDepth 100000 in
theorem vc0_n : ∀ a, a < 1 → ∀ b, b < 1 → a ≠ b → (TX0 a).2.1 ≠ (TX0 b).2.1 := by decide +kernel
theorem vc0_d : ∀ d, vdf[0]? = some d → d.length = 1 ∧ ∀ (j : Nat) (x : vAV), d[j]? = some x → ∀ b sa sv, vG b sa sv [] x (defaultValue (tyX0 j)) := fun d hd => vDfA_ok (by cases hd; decide +kernel)
set_option maxRecDepth 100000 in
theorem vc1_w : ∀ w ∈ u_ws RX1 TX1 4, w ∈ WT := vAt_ok [642, 644, 646, 648] _ (by decide +kernel)
set_option maxRecDepth 100000 in
theorem vc1_t : ∀ k, k < 4 → parseFieldDescriptor (TX1 k).2.2.1 = some (tyX1 k) := by decide +kernel
set_option maxRecDepth 100000 in
theorem vc1_n : ∀ a, a < 4 → ∀ b, b < 4 → a ≠ b → (TX1 a).2.1 ≠ (TX1 b).2.1 := by decide +kernel
theorem vc1_d : ∀ d, vdf[1]? = some d → d.length = 4 ∧ ∀ (j : Nat) (x : vAV), d[j]? = some x → ∀ b sa sv, vG b sa sv [] x (defaultValue (tyX1 j)) := fun d hd => vDfA_ok (by cases hd; decide +kernel)
set_option maxRecDepth 100000 in
theorem vc2_w : ∀ w ∈ u_ws RX2 TX2 7, w ∈ WT := vAt_ok [599, 601, 603, 605, 607, 609, 611] _ (by decide +kernel)
set_option maxRecDepth 100000 in
theorem vc2_t : ∀ k, k < 7 → parseFieldDescriptor (TX2 k).2.2.1 = some (tyX2 k) := by decide +kernel
set_option maxRecDepth 100000 in
theorem vc2_n : ∀ a, a < 7 → ∀ b, b < 7 → a ≠ b → (TX2 a).2.1 ≠ (TX2 b).2.1 := by decide +kernel
theorem vc2_d : ∀ d, vdf[2]? = some d → d.length = 7 ∧ ∀ (j : Nat) (x : vAV), d[j]? = some x → ∀ b sa sv, vG b sa sv [] x (defaultValue (tyX2 j)) := fun d hd => vDfA_ok (by cases hd; decide +kernel)
set_option maxRecDepth 100000 in
theorem vc3_w : ∀ w ∈ u_ws RX3 TX3 11, w ∈ WT := vAt_ok [563, 565, 567, 569, 571, 573, 575, 577, 579, 581, 583] _ (by decide +kernel)
set_option maxRecDepth 100000 in
theorem vc3_t : ∀ k, k < 11 → parseFieldDescriptor (TX3 k).2.2.1 = some (tyX3 k) := by decide +kernel
set_option maxRecDepth 100000 in
theorem vc3_n : ∀ a, a < 11 → ∀ b, b < 11 → a ≠ b → (TX3 a).2.1 ≠ (TX3 b).2.1 := by decide +kernel
theorem vc3_d : ∀ d, vdf[3]? = some d → d.length = 11 ∧ ∀ (j : Nat) (x : vAV), d[j]? = some x → ∀ b sa sv, vG b sa sv [] x (defaultValue (tyX3 j)) := fun d hd => vDfA_ok (by cases hd; decide +kernel)
set_option maxRecDepth 100000 in
theorem vc4_w : ∀ w ∈ u_ws RX4 TX4 6, w ∈ WT := vAt_ok [512, 514, 516, 518, 520, 522] _ (by decide +kernel)
set_option maxRecDepth 100000 in
theorem vc4_t : ∀ k, k < 6 → parseFieldDescriptor (TX4 k).2.2.1 = some (tyX4 k) := by decide +kernel
set_option maxRecDepth 100000 in
theorem vc4_n : ∀ a, a < 6 → ∀ b, b < 6 → a ≠ b → (TX4 a).2.1 ≠ (TX4 b).2.1 := by decide +kernel
theorem vc4_d : ∀ d, vdf[4]? = some d → d.length = 6 ∧ ∀ (j : Nat) (x : vAV), d[j]? = some x → ∀ b sa sv, vG b sa sv [] x (defaultValue (tyX4 j)) := fun d hd => vDfA_ok (by cases hd; decide +kernel)
set_option maxRecDepth 100000 in
theorem vc5_w : ∀ w ∈ u_ws RX5 TX5 3, w ∈ WT := vAt_ok [537, 539, 541] _ (by decide +kernel)
set_option maxRecDepth 100000 in
theorem vc5_t : ∀ k, k < 3 → parseFieldDescriptor (TX5 k).2.2.1 = some (tyX5 k) := by decide +kernel
set_option maxRecDepth 100000 in
theorem vc5_n : ∀ a, a < 3 → ∀ b, b < 3 → a ≠ b → (TX5 a).2.1 ≠ (TX5 b).2.1 := by decide +kernel
theorem vc5_d : ∀ d, vdf[5]? = some d → d.length = 3 ∧ ∀ (j : Nat) (x : vAV), d[j]? = some x → ∀ b sa sv, vG b sa sv [] x (defaultValue (tyX5 j)) := fun d hd => vDfA_ok (by cases hd; decide +kernel)
set_option maxRecDepth 100000 in
theorem vc6_w : ∀ w ∈ u_ws RX6 TX6 13, w ∈ WT := vAt_ok [241, 243, 245, 247, 249, 251, 253, 255, 257, 259, 261, 263, 265] _ (by decide +kernel)
set_option maxRecDepth 100000 in
theorem vc6_t : ∀ k, k < 13 → parseFieldDescriptor (TX6 k).2.2.1 = some (tyX6 k) := by decide +kernel
set_option maxRecDepth 100000 in
theorem vc6_n : ∀ a, a < 13 → ∀ b, b < 13 → a ≠ b → (TX6 a).2.1 ≠ (TX6 b).2.1 := by decide +kernel
theorem vc6_d : ∀ d, vdf[6]? = some d → d.length = 13 ∧ ∀ (j : Nat) (x : vAV), d[j]? = some x → ∀ b sa sv, vG b sa sv [] x (defaultValue (tyX6 j)) := fun d hd => vDfA_ok (by cases hd; decide +kernel)
set_option maxRecDepth 100000 in
theorem vc7_w : ∀ w ∈ u_ws RX7 TX7 12, w ∈ WT := vAt_ok [474, 476, 478, 480, 482, 484, 486, 488, 490, 492, 494, 496] _ (by decide +kernel)
set_option maxRecDepth 100000 in
theorem vc7_t : ∀ k, k < 12 → parseFieldDescriptor (TX7 k).2.2.1 = some (tyX7 k) := by decide +kernel
set_option maxRecDepth 100000 in
theorem vc7_n : ∀ a, a < 12 → ∀ b, b < 12 → a ≠ b → (TX7 a).2.1 ≠ (TX7 b).2.1 := by decide +kernel
theorem vc7_d : ∀ d, vdf[7]? = some d → d.length = 12 ∧ ∀ (j : Nat) (x : vAV), d[j]? = some x → ∀ b sa sv, vG b sa sv [] x (defaultValue (tyX7 j)) := fun d hd => vDfA_ok (by cases hd; decide +kernel)
set_option maxRecDepth 100000 in
theorem vc8_w : ∀ w ∈ u_ws RX8 TX8 9, w ∈ WT := vAt_ok [435, 437, 439, 441, 443, 445, 447, 449, 451] _ (by decide +kernel)
set_option maxRecDepth 100000 in
theorem vc8_t : ∀ k, k < 9 → parseFieldDescriptor (TX8 k).2.2.1 = some (tyX8 k) := by decide +kernel
set_option maxRecDepth 100000 in
theorem vc8_n : ∀ a, a < 9 → ∀ b, b < 9 → a ≠ b → (TX8 a).2.1 ≠ (TX8 b).2.1 := by decide +kernel
theorem vc8_d : ∀ d, vdf[8]? = some d → d.length = 9 ∧ ∀ (j : Nat) (x : vAV), d[j]? = some x → ∀ b sa sv, vG b sa sv [] x (defaultValue (tyX8 j)) := fun d hd => vDfA_ok (by cases hd; decide +kernel)
set_option maxRecDepth 100000 in
theorem vc9_w : ∀ w ∈ u_ws RX9 TX9 19, w ∈ WT := vAt_ok [350, 352, 354, 356, 358, 360, 362, 364, 366, 368, 370, 372, 374, 376, 378, 380, 382, 384, 386] _ (by decide +kernel)
set_option maxRecDepth 100000 in
theorem vc9_t : ∀ k, k < 19 → parseFieldDescriptor (TX9 k).2.2.1 = some (tyX9 k) := by decide +kernel
set_option maxRecDepth 100000 in
theorem vc9_n : ∀ a, a < 19 → ∀ b, b < 19 → a ≠ b → (TX9 a).2.1 ≠ (TX9 b).2.1 := by decide +kernel
theorem vc9_d : ∀ d, vdf[9]? = some d → d.length = 19 ∧ ∀ (j : Nat) (x : vAV), d[j]? = some x → ∀ b sa sv, vG b sa sv [] x (defaultValue (tyX9 j)) := fun d hd => vDfA_ok (by cases hd; decide +kernel)
set_option maxRecDepth 100000 in
theorem vc10_w : ∀ w ∈ u_ws RX10 TX10 3, w ∈ WT := vAt_ok [399, 401, 403] _ (by decide +kernel)
set_option maxRecDepth 100000 in
theorem vc10_t : ∀ k, k < 3 → parseFieldDescriptor (TX10 k).2.2.1 = some (tyX10 k) := by decide +kernel
set_option maxRecDepth 100000 in
theorem vc10_n : ∀ a, a < 3 → ∀ b, b < 3 → a ≠ b → (TX10 a).2.1 ≠ (TX10 b).2.1 := by decide +kernel
theorem vc10_d : ∀ d, vdf[10]? = some d → d.length = 3 ∧ ∀ (j : Nat) (x : vAV), d[j]? = some x → ∀ b sa sv, vG b sa sv [] x (defaultValue (tyX10 j)) := fun d hd => vDfA_ok (by cases hd; decide +kernel)
set_option maxRecDepth 100000 in
theorem vc11_w : ∀ w ∈ u_ws RX11 TX11 19, w ∈ WT := vAt_ok [670, 672, 674, 676, 678, 680, 682, 684, 686, 688, 690, 692, 694, 696, 698, 700, 702, 704, 706] _ (by decide +kernel)
set_option maxRecDepth 100000 in
theorem vc11_t : ∀ k, k < 19 → parseFieldDescriptor (TX11 k).2.2.1 = some (tyX11 k) := by decide +kernel
set_option maxRecDepth 100000 in
theorem vc11_n : ∀ a, a < 19 → ∀ b, b < 19 → a ≠ b → (TX11 a).2.1 ≠ (TX11 b).2.1 := by decide +kernel
theorem vc11_d : ∀ d, vdf[11]? = some d → d.length = 19 ∧ ∀ (j : Nat) (x : vAV), d[j]? = some x → ∀ b sa sv, vG b sa sv [] x (defaultValue (tyX11 j)) := fun d hd => vDfA_ok (by cases hd; decide +kernel)
set_option maxRecDepth 100000 in
theorem vc12_w : ∀ w ∈ u_ws RX12 TX12 60, w ∈ WT := vAt_ok [1536, 1538, 1540, 1542, 1544, 1546, 1548, 1550, 1552, 1554, 1556, 1558, 1560, 1562, 1564, 1566, 1568, 1570, 1572, 1574, 1576, 1578, 1580, 1582, 1584, 1586, 1588, 1590, 1592, 1594, 1596, 1598, 1600, 1602, 1604, 1606, 1608, 1610, 1612, 1614, 1616, 1618, 1620, 1622, 1624, 1626, 1628, 1630, 1632, 1634, 1636, 1638, 1640, 1642, 1644, 1646, 1648, 1650, 1652, 1654] _ (by decide +kernel)
set_option maxRecDepth 100000 in
theorem vc12_t : ∀ k, k < 60 → parseFieldDescriptor (TX12 k).2.2.1 = some (tyX12 k) := by decide +kernel
set_option maxRecDepth 100000 in
theorem vc12_n : ∀ a, a < 60 → ∀ b, b < 60 → a ≠ b → (TX12 a).2.1 ≠ (TX12 b).2.1 := by decide +kernel
theorem vc12_d : ∀ d, vdf[12]? = some d → d.length = 60 ∧ ∀ (j : Nat) (x : vAV), d[j]? = some x → ∀ b sa sv, vG b sa sv [] x (defaultValue (tyX12 j)) := fun d hd => vDfA_ok (by cases hd; decide +kernel)
theorem vcls_at : ∀ (a : Nat), a < 13 → ∀ (r : vw_C), vwCl[a]? = some r → (∀ w ∈ u_ws r.1 r.2.1 r.2.2, w ∈ WT) ∧ ∃ ty0 : Nat → FieldType, (∀ k, k < r.2.2 → parseFieldDescriptor (r.2.1 k).2.2.1 = some (ty0 k)) ∧ (∀ a, a < r.2.2 → ∀ b, b < r.2.2 → a ≠ b → (r.2.1 a).2.1 ≠ (r.2.1 b).2.1) ∧ ∀ d, vdf[a]? = some d → d.length = r.2.2 ∧ ∀ (j : Nat) (x : vAV), d[j]? = some x → ∀ b sa sv, vG b sa sv [] x (defaultValue (ty0 j))
  | 0, _, r, hr => by cases hr; exact ⟨vc0_w, tyX0, vc0_t, vc0_n, vc0_d⟩
  | 1, _, r, hr => by cases hr; exact ⟨vc1_w, tyX1, vc1_t, vc1_n, vc1_d⟩
  | 2, _, r, hr => by cases hr; exact ⟨vc2_w, tyX2, vc2_t, vc2_n, vc2_d⟩
  | 3, _, r, hr => by cases hr; exact ⟨vc3_w, tyX3, vc3_t, vc3_n, vc3_d⟩
  | 4, _, r, hr => by cases hr; exact ⟨vc4_w, tyX4, vc4_t, vc4_n, vc4_d⟩
  | 5, _, r, hr => by cases hr; exact ⟨vc5_w, tyX5, vc5_t, vc5_n, vc5_d⟩
  | 6, _, r, hr => by cases hr; exact ⟨vc6_w, tyX6, vc6_t, vc6_n, vc6_d⟩
  | 7, _, r, hr => by cases hr; exact ⟨vc7_w, tyX7, vc7_t, vc7_n, vc7_d⟩
  | 8, _, r, hr => by cases hr; exact ⟨vc8_w, tyX8, vc8_t, vc8_n, vc8_d⟩
  | 9, _, r, hr => by cases hr; exact ⟨vc9_w, tyX9, vc9_t, vc9_n, vc9_d⟩
  | 10, _, r, hr => by cases hr; exact ⟨vc10_w, tyX10, vc10_t, vc10_n, vc10_d⟩
  | 11, _, r, hr => by cases hr; exact ⟨vc11_w, tyX11, vc11_t, vc11_n, vc11_d⟩
  | 12, _, r, hr => by cases hr; exact ⟨vc12_w, tyX12, vc12_t, vc12_n, vc12_d⟩
  | n + 13, h, _, _ => by omega
theorem vcls : vClsOK vdf := fun a r hr => vcls_at a ((List.getElem?_eq_some_iff.mp hr).1) r hr
set_option maxRecDepth 100000 in
theorem vcm_a : ∀ w ∈ [Cond.instanceMethod Lib.objectInit, Cond.native arraycopyName, Cond.static arraycopyName, Cond.initialized "java/lang/System"], w ∈ WT := vAt_ok [152, 931, 930, 144] _ (by decide +kernel)
set_option maxRecDepth 100000 in
theorem vcm_c : Cond.code Lib.objectInit ⟨#[0xb1]⟩ 1 none ∈ WT := WT_of (tin_1 (List.mem_of_getElem? (i := 32) rfl)) rfl
theorem vcm : vCommon WT := ⟨vcm_a _ (List.mem_of_getElem? (i := 0) rfl), vcm_c, vcm_a _ (List.mem_of_getElem? (i := 1) rfl), vcm_a _ (List.mem_of_getElem? (i := 2) rfl), vcm_a _ (List.mem_of_getElem? (i := 3) rfl)⟩
def vMOA : List vMt → Prop
  | [] => True
  | M :: l => vMOK vms vdf M ∧ vMOA l
theorem vMOA_ok : ∀ (l : List vMt), vMOA l → ∀ (j : Nat) (M : vMt), l[j]? = some M → vMOK vms vdf M
  | [], _, j, M, h => by simp at h
  | M0 :: l, h, j, M, hj => by
    match j, hj with
    | 0, hj =>
      cases hj
      exact h.1
    | j + 1, hj => exact vMOA_ok l h.2 j M hj
theorem vmo_9 : vMOA [] := trivial
theorem vmo_8 : vMOA [m_X11_sentence, m_X12_leafOf, m_X12_operand, m_X12_sentence, m_X11_said, m_X12_said, m_X9_copyFrom, m_X7_copyFrom, m_X11_image, m_X12_image, m_X11_restore, m_X12_restore, m_X11_count, m_X12_count, m_X11_pain, m_X11_porter, m_X11_unharmed] := ⟨m_X11_sentence_ok, ⟨m_X12_leafOf_ok, ⟨m_X12_operand_ok, ⟨m_X12_sentence_ok, ⟨m_X11_said_ok, ⟨m_X12_said_ok, ⟨m_X9_copyFrom_ok, ⟨m_X7_copyFrom_ok, ⟨m_X11_image_ok, ⟨m_X12_image_ok, ⟨m_X11_restore_ok, ⟨m_X12_restore_ok, ⟨m_X11_count_ok, ⟨m_X12_count_ok, ⟨m_X11_pain_ok, ⟨m_X11_porter_ok, ⟨m_X11_unharmed_ok, vmo_9⟩⟩⟩⟩⟩⟩⟩⟩⟩⟩⟩⟩⟩⟩⟩⟩⟩
theorem vmo_7 : vMOA [m_X11_later, m_X12_later, m_X11_lasts, m_X12_lasts, m_X11_cheapest, m_X12_cheapest, m_X11_hopeless, m_X12_hopeless, m_X11_drawn, m_X12_drawn, m_X11_odds, m_X12_odds, m_X4_read, m_X4_goodLines, m_X11_log, m_X12_log, m_X11_logged, m_X12_logged, m_X7_readOne, m_X7_read, m_X11_sentence, m_X12_leafOf, m_X12_operand, m_X12_sentence, m_X11_said, m_X12_said, m_X9_copyFrom, m_X7_copyFrom, m_X11_image, m_X12_image, m_X11_restore, m_X12_restore, m_X11_count, m_X12_count, m_X11_pain, m_X11_porter, m_X11_unharmed] := ⟨m_X11_later_ok, ⟨m_X12_later_ok, ⟨m_X11_lasts_ok, ⟨m_X12_lasts_ok, ⟨m_X11_cheapest_ok, ⟨m_X12_cheapest_ok, ⟨m_X11_hopeless_ok, ⟨m_X12_hopeless_ok, ⟨m_X11_drawn_ok, ⟨m_X12_drawn_ok, ⟨m_X11_odds_ok, ⟨m_X12_odds_ok, ⟨m_X4_read_ok, ⟨m_X4_goodLines_ok, ⟨m_X11_log_ok, ⟨m_X12_log_ok, ⟨m_X11_logged_ok, ⟨m_X12_logged_ok, ⟨m_X7_readOne_ok, ⟨m_X7_read_ok, vmo_8⟩⟩⟩⟩⟩⟩⟩⟩⟩⟩⟩⟩⟩⟩⟩⟩⟩⟩⟩⟩
theorem vmo_6 : vMOA [m_X12_surely, m_X2_bestQuestion, m_X11_ask, m_X12_ask, m_X11_share, m_X12_share, m_X3_shareByFees, m_X3_changeFees, m_X3_settleFees, m_X11_rest, m_X12_round, m_X12_rest, m_X11_fee, m_X12_fee, m_X12_part, m_X12_unharmed, m_X11_ease, m_X12_tries, m_X12_back, m_X12_ease, m_X11_later, m_X12_later, m_X11_lasts, m_X12_lasts, m_X11_cheapest, m_X12_cheapest, m_X11_hopeless, m_X12_hopeless, m_X11_drawn, m_X12_drawn, m_X11_odds, m_X12_odds, m_X4_read, m_X4_goodLines, m_X11_log, m_X12_log, m_X11_logged, m_X12_logged, m_X7_readOne, m_X7_read, m_X11_sentence, m_X12_leafOf, m_X12_operand, m_X12_sentence, m_X11_said, m_X12_said, m_X9_copyFrom, m_X7_copyFrom, m_X11_image, m_X12_image, m_X11_restore, m_X12_restore, m_X11_count, m_X12_count, m_X11_pain, m_X11_porter, m_X11_unharmed] := ⟨m_X12_surely_ok, ⟨m_X2_bestQuestion_ok, ⟨m_X11_ask_ok, ⟨m_X12_ask_ok, ⟨m_X11_share_ok, ⟨m_X12_share_ok, ⟨m_X3_shareByFees_ok, ⟨m_X3_changeFees_ok, ⟨m_X3_settleFees_ok, ⟨m_X11_rest_ok, ⟨m_X12_round_ok, ⟨m_X12_rest_ok, ⟨m_X11_fee_ok, ⟨m_X12_fee_ok, ⟨m_X12_part_ok, ⟨m_X12_unharmed_ok, ⟨m_X11_ease_ok, ⟨m_X12_tries_ok, ⟨m_X12_back_ok, ⟨m_X12_ease_ok, vmo_7⟩⟩⟩⟩⟩⟩⟩⟩⟩⟩⟩⟩⟩⟩⟩⟩⟩⟩⟩⟩
theorem vmo_5 : vMOA [m_X3_gather, m_X3_leastCost, m_X3_freeing, m_X3_tell, m_X11_free, m_X12_lists, m_X12_assigns, m_X12_tells, m_X12_free, m_X11_by, m_X12_by, m_X3_fewestFor, m_X11_fewest, m_X12_fewest, m_X11_load, m_X12_load, m_J6_bitCount_0f7a4, m_X11_limps, m_X12_limps, m_X11_surely, m_X12_surely, m_X2_bestQuestion, m_X11_ask, m_X12_ask, m_X11_share, m_X12_share, m_X3_shareByFees, m_X3_changeFees, m_X3_settleFees, m_X11_rest, m_X12_round, m_X12_rest, m_X11_fee, m_X12_fee, m_X12_part, m_X12_unharmed, m_X11_ease, m_X12_tries, m_X12_back, m_X12_ease, m_X11_later, m_X12_later, m_X11_lasts, m_X12_lasts, m_X11_cheapest, m_X12_cheapest, m_X11_hopeless, m_X12_hopeless, m_X11_drawn, m_X12_drawn, m_X11_odds, m_X12_odds, m_X4_read, m_X4_goodLines, m_X11_log, m_X12_log, m_X11_logged, m_X12_logged, m_X7_readOne, m_X7_read, m_X11_sentence, m_X12_leafOf, m_X12_operand, m_X12_sentence, m_X11_said, m_X12_said, m_X9_copyFrom, m_X7_copyFrom, m_X11_image, m_X12_image, m_X11_restore, m_X12_restore, m_X11_count, m_X12_count, m_X11_pain, m_X11_porter, m_X11_unharmed] := ⟨m_X3_gather_ok, ⟨m_X3_leastCost_ok, ⟨m_X3_freeing_ok, ⟨m_X3_tell_ok, ⟨m_X11_free_ok, ⟨m_X12_lists_ok, ⟨m_X12_assigns_ok, ⟨m_X12_tells_ok, ⟨m_X12_free_ok, ⟨m_X11_by_ok, ⟨m_X12_by_ok, ⟨m_X3_fewestFor_ok, ⟨m_X11_fewest_ok, ⟨m_X12_fewest_ok, ⟨m_X11_load_ok, ⟨m_X12_load_ok, ⟨m_J6_bitCount_0f7a4_ok, ⟨m_X11_limps_ok, ⟨m_X12_limps_ok, ⟨m_X11_surely_ok, vmo_6⟩⟩⟩⟩⟩⟩⟩⟩⟩⟩⟩⟩⟩⟩⟩⟩⟩⟩⟩⟩
theorem vmo_4 : vMOA [m_X11_drop, m_X12_drop, m_X11_home, m_X12_home, m_X8_payPorters, m_X8_practise, m_X8_wearOff, m_X8_fallOnSomebody, m_X8_passHours, m_X11_hours, m_X12_learns, m_X12_hour, m_X12_goesOn, m_X12_hours, m_X5_bringBack, m_X11_undo, m_X12_undo, m_X11_can, m_X12_can, m_X11_isAmong, m_X3_gather, m_X3_leastCost, m_X3_freeing, m_X3_tell, m_X11_free, m_X12_lists, m_X12_assigns, m_X12_tells, m_X12_free, m_X11_by, m_X12_by, m_X3_fewestFor, m_X11_fewest, m_X12_fewest, m_X11_load, m_X12_load, m_J6_bitCount_0f7a4, m_X11_limps, m_X12_limps, m_X11_surely, m_X12_surely, m_X2_bestQuestion, m_X11_ask, m_X12_ask, m_X11_share, m_X12_share, m_X3_shareByFees, m_X3_changeFees, m_X3_settleFees, m_X11_rest, m_X12_round, m_X12_rest, m_X11_fee, m_X12_fee, m_X12_part, m_X12_unharmed, m_X11_ease, m_X12_tries, m_X12_back, m_X12_ease, m_X11_later, m_X12_later, m_X11_lasts, m_X12_lasts, m_X11_cheapest, m_X12_cheapest, m_X11_hopeless, m_X12_hopeless, m_X11_drawn, m_X12_drawn, m_X11_odds, m_X12_odds, m_X4_read, m_X4_goodLines, m_X11_log, m_X12_log, m_X11_logged, m_X12_logged, m_X7_readOne, m_X7_read, m_X11_sentence, m_X12_leafOf, m_X12_operand, m_X12_sentence, m_X11_said, m_X12_said, m_X9_copyFrom, m_X7_copyFrom, m_X11_image, m_X12_image, m_X11_restore, m_X12_restore, m_X11_count, m_X12_count, m_X11_pain, m_X11_porter, m_X11_unharmed] := ⟨m_X11_drop_ok, ⟨m_X12_drop_ok, ⟨m_X11_home_ok, ⟨m_X12_home_ok, ⟨m_X8_payPorters_ok, ⟨m_X8_practise_ok, ⟨m_X8_wearOff_ok, ⟨m_X8_fallOnSomebody_ok, ⟨m_X8_passHours_ok, ⟨m_X11_hours_ok, ⟨m_X12_learns_ok, ⟨m_X12_hour_ok, ⟨m_X12_goesOn_ok, ⟨m_X12_hours_ok, ⟨m_X5_bringBack_ok, ⟨m_X11_undo_ok, ⟨m_X12_undo_ok, ⟨m_X11_can_ok, ⟨m_X12_can_ok, ⟨m_X11_isAmong_ok, vmo_5⟩⟩⟩⟩⟩⟩⟩⟩⟩⟩⟩⟩⟩⟩⟩⟩⟩⟩⟩⟩
theorem vmo_3 : vMOA [m_X12_porter, m_X11_sort, m_X12_sort, m_X8_painless, m_X11_sum, m_X8_carriedNow, m_X11_now, m_X12_freeSet, m_X12_sum, m_X12_carriedSet, m_X12_now, m_X11_isPorter, m_X11_isPain, m_X8_copyFrom, m_X5_keep, m_X11_fetch, m_X12_keep, m_X12_fetch, m_X11_hand, m_X12_hand, m_X11_drop, m_X12_drop, m_X11_home, m_X12_home, m_X8_payPorters, m_X8_practise, m_X8_wearOff, m_X8_fallOnSomebody, m_X8_passHours, m_X11_hours, m_X12_learns, m_X12_hour, m_X12_goesOn, m_X12_hours, m_X5_bringBack, m_X11_undo, m_X12_undo, m_X11_can, m_X12_can, m_X11_isAmong, m_X3_gather, m_X3_leastCost, m_X3_freeing, m_X3_tell, m_X11_free, m_X12_lists, m_X12_assigns, m_X12_tells, m_X12_free, m_X11_by, m_X12_by, m_X3_fewestFor, m_X11_fewest, m_X12_fewest, m_X11_load, m_X12_load, m_J6_bitCount_0f7a4, m_X11_limps, m_X12_limps, m_X11_surely, m_X12_surely, m_X2_bestQuestion, m_X11_ask, m_X12_ask, m_X11_share, m_X12_share, m_X3_shareByFees, m_X3_changeFees, m_X3_settleFees, m_X11_rest, m_X12_round, m_X12_rest, m_X11_fee, m_X12_fee, m_X12_part, m_X12_unharmed, m_X11_ease, m_X12_tries, m_X12_back, m_X12_ease, m_X11_later, m_X12_later, m_X11_lasts, m_X12_lasts, m_X11_cheapest, m_X12_cheapest, m_X11_hopeless, m_X12_hopeless, m_X11_drawn, m_X12_drawn, m_X11_odds, m_X12_odds, m_X4_read, m_X4_goodLines, m_X11_log, m_X12_log, m_X11_logged, m_X12_logged, m_X7_readOne, m_X7_read, m_X11_sentence, m_X12_leafOf, m_X12_operand, m_X12_sentence, m_X11_said, m_X12_said, m_X9_copyFrom, m_X7_copyFrom, m_X11_image, m_X12_image, m_X11_restore, m_X12_restore, m_X11_count, m_X12_count, m_X11_pain, m_X11_porter, m_X11_unharmed] := ⟨m_X12_porter_ok, ⟨m_X11_sort_ok, ⟨m_X12_sort_ok, ⟨m_X8_painless_ok, ⟨m_X11_sum_ok, ⟨m_X8_carriedNow_ok, ⟨m_X11_now_ok, ⟨m_X12_freeSet_ok, ⟨m_X12_sum_ok, ⟨m_X12_carriedSet_ok, ⟨m_X12_now_ok, ⟨m_X11_isPorter_ok, ⟨m_X11_isPain_ok, ⟨m_X8_copyFrom_ok, ⟨m_X5_keep_ok, ⟨m_X11_fetch_ok, ⟨m_X12_keep_ok, ⟨m_X12_fetch_ok, ⟨m_X11_hand_ok, ⟨m_X12_hand_ok, vmo_4⟩⟩⟩⟩⟩⟩⟩⟩⟩⟩⟩⟩⟩⟩⟩⟩⟩⟩⟩⟩
theorem vmo_2 : vMOA [m_X12_peek, m_X12_next, m_X12_isWord, m_X12_bad, m_X12_isIn, m_X12_isSign, m_X12_town, m_X11_fault, m_X12_fault, m_X12_isPain, m_X12_throwsIf, m_X12_pain, m_X12_thrown, m_X11_isPerson, m_X8_painsAt, m_X11_person, m_X12_isPerson, m_X12_painsAt, m_X12_person, m_X12_isPorter, m_X12_porter, m_X11_sort, m_X12_sort, m_X8_painless, m_X11_sum, m_X8_carriedNow, m_X11_now, m_X12_freeSet, m_X12_sum, m_X12_carriedSet, m_X12_now, m_X11_isPorter, m_X11_isPain, m_X8_copyFrom, m_X5_keep, m_X11_fetch, m_X12_keep, m_X12_fetch, m_X11_hand, m_X12_hand, m_X11_drop, m_X12_drop, m_X11_home, m_X12_home, m_X8_payPorters, m_X8_practise, m_X8_wearOff, m_X8_fallOnSomebody, m_X8_passHours, m_X11_hours, m_X12_learns, m_X12_hour, m_X12_goesOn, m_X12_hours, m_X5_bringBack, m_X11_undo, m_X12_undo, m_X11_can, m_X12_can, m_X11_isAmong, m_X3_gather, m_X3_leastCost, m_X3_freeing, m_X3_tell, m_X11_free, m_X12_lists, m_X12_assigns, m_X12_tells, m_X12_free, m_X11_by, m_X12_by, m_X3_fewestFor, m_X11_fewest, m_X12_fewest, m_X11_load, m_X12_load, m_J6_bitCount_0f7a4, m_X11_limps, m_X12_limps, m_X11_surely, m_X12_surely, m_X2_bestQuestion, m_X11_ask, m_X12_ask, m_X11_share, m_X12_share, m_X3_shareByFees, m_X3_changeFees, m_X3_settleFees, m_X11_rest, m_X12_round, m_X12_rest, m_X11_fee, m_X12_fee, m_X12_part, m_X12_unharmed, m_X11_ease, m_X12_tries, m_X12_back, m_X12_ease, m_X11_later, m_X12_later, m_X11_lasts, m_X12_lasts, m_X11_cheapest, m_X12_cheapest, m_X11_hopeless, m_X12_hopeless, m_X11_drawn, m_X12_drawn, m_X11_odds, m_X12_odds, m_X4_read, m_X4_goodLines, m_X11_log, m_X12_log, m_X11_logged, m_X12_logged, m_X7_readOne, m_X7_read, m_X11_sentence, m_X12_leafOf, m_X12_operand, m_X12_sentence, m_X11_said, m_X12_said, m_X9_copyFrom, m_X7_copyFrom, m_X11_image, m_X12_image, m_X11_restore, m_X12_restore, m_X11_count, m_X12_count, m_X11_pain, m_X11_porter, m_X11_unharmed] := ⟨m_X12_peek_ok, ⟨m_X12_next_ok, ⟨m_X12_isWord_ok, ⟨m_X12_bad_ok, ⟨m_X12_isIn_ok, ⟨m_X12_isSign_ok, ⟨m_X12_town_ok, ⟨m_X11_fault_ok, ⟨m_X12_fault_ok, ⟨m_X12_isPain_ok, ⟨m_X12_throwsIf_ok, ⟨m_X12_pain_ok, ⟨m_X12_thrown_ok, ⟨m_X11_isPerson_ok, ⟨m_X8_painsAt_ok, ⟨m_X11_person_ok, ⟨m_X12_isPerson_ok, ⟨m_X12_painsAt_ok, ⟨m_X12_person_ok, ⟨m_X12_isPorter_ok, vmo_3⟩⟩⟩⟩⟩⟩⟩⟩⟩⟩⟩⟩⟩⟩⟩⟩⟩⟩⟩⟩
theorem vmo_1 : vMOA [m_X12_init, m_X11_putNumber, m_X11_feed, m_X12_four, m_X12_feed, m_X11_end, m_X12_end, m_J9_min_7cf53, m_X6_begin, m_X11_takeTape, m_X9_clear, m_X6_advance, m_X9_findClashes, m_X6_fail, m_X10_read, m_X8_begin, m_X7_forget, m_X5_forget, m_X11_town, m_X12_taken, m_X12_peek, m_X12_next, m_X12_isWord, m_X12_bad, m_X12_isIn, m_X12_isSign, m_X12_town, m_X11_fault, m_X12_fault, m_X12_isPain, m_X12_throwsIf, m_X12_pain, m_X12_thrown, m_X11_isPerson, m_X8_painsAt, m_X11_person, m_X12_isPerson, m_X12_painsAt, m_X12_person, m_X12_isPorter, m_X12_porter, m_X11_sort, m_X12_sort, m_X8_painless, m_X11_sum, m_X8_carriedNow, m_X11_now, m_X12_freeSet, m_X12_sum, m_X12_carriedSet, m_X12_now, m_X11_isPorter, m_X11_isPain, m_X8_copyFrom, m_X5_keep, m_X11_fetch, m_X12_keep, m_X12_fetch, m_X11_hand, m_X12_hand, m_X11_drop, m_X12_drop, m_X11_home, m_X12_home, m_X8_payPorters, m_X8_practise, m_X8_wearOff, m_X8_fallOnSomebody, m_X8_passHours, m_X11_hours, m_X12_learns, m_X12_hour, m_X12_goesOn, m_X12_hours, m_X5_bringBack, m_X11_undo, m_X12_undo, m_X11_can, m_X12_can, m_X11_isAmong, m_X3_gather, m_X3_leastCost, m_X3_freeing, m_X3_tell, m_X11_free, m_X12_lists, m_X12_assigns, m_X12_tells, m_X12_free, m_X11_by, m_X12_by, m_X3_fewestFor, m_X11_fewest, m_X12_fewest, m_X11_load, m_X12_load, m_J6_bitCount_0f7a4, m_X11_limps, m_X12_limps, m_X11_surely, m_X12_surely, m_X2_bestQuestion, m_X11_ask, m_X12_ask, m_X11_share, m_X12_share, m_X3_shareByFees, m_X3_changeFees, m_X3_settleFees, m_X11_rest, m_X12_round, m_X12_rest, m_X11_fee, m_X12_fee, m_X12_part, m_X12_unharmed, m_X11_ease, m_X12_tries, m_X12_back, m_X12_ease, m_X11_later, m_X12_later, m_X11_lasts, m_X12_lasts, m_X11_cheapest, m_X12_cheapest, m_X11_hopeless, m_X12_hopeless, m_X11_drawn, m_X12_drawn, m_X11_odds, m_X12_odds, m_X4_read, m_X4_goodLines, m_X11_log, m_X12_log, m_X11_logged, m_X12_logged, m_X7_readOne, m_X7_read, m_X11_sentence, m_X12_leafOf, m_X12_operand, m_X12_sentence, m_X11_said, m_X12_said, m_X9_copyFrom, m_X7_copyFrom, m_X11_image, m_X12_image, m_X11_restore, m_X12_restore, m_X11_count, m_X12_count, m_X11_pain, m_X11_porter, m_X11_unharmed] := ⟨m_X12_init_ok, ⟨m_X11_putNumber_ok, ⟨m_X11_feed_ok, ⟨m_X12_four_ok, ⟨m_X12_feed_ok, ⟨m_X11_end_ok, ⟨m_X12_end_ok, ⟨m_J9_min_7cf53_ok, ⟨m_X6_begin_ok, ⟨m_X11_takeTape_ok, ⟨m_X9_clear_ok, ⟨m_X6_advance_ok, ⟨m_X9_findClashes_ok, ⟨m_X6_fail_ok, ⟨m_X10_read_ok, ⟨m_X8_begin_ok, ⟨m_X7_forget_ok, ⟨m_X5_forget_ok, ⟨m_X11_town_ok, ⟨m_X12_taken_ok, vmo_2⟩⟩⟩⟩⟩⟩⟩⟩⟩⟩⟩⟩⟩⟩⟩⟩⟩⟩⟩⟩
theorem vmo_0 : vMOA [m_J0_coder_7d493, m_J0_length_8abf5, m_J0_isLatin1_aae02, m_J3_checkIndex_8e157, m_J0_checkIndex_df160, m_J1_charAt_3b067, m_J0_charAt_5068e, m_X6_joined, m_X6_init, m_X9_init, m_X10_init, m_X8_init, m_X7_init, m_X4_init, m_X5_init, m_X3_init, m_X2_init, m_X0_init, m_X1_init, m_X11_init, m_X12_init, m_X11_putNumber, m_X11_feed, m_X12_four, m_X12_feed, m_X11_end, m_X12_end, m_J9_min_7cf53, m_X6_begin, m_X11_takeTape, m_X9_clear, m_X6_advance, m_X9_findClashes, m_X6_fail, m_X10_read, m_X8_begin, m_X7_forget, m_X5_forget, m_X11_town, m_X12_taken, m_X12_peek, m_X12_next, m_X12_isWord, m_X12_bad, m_X12_isIn, m_X12_isSign, m_X12_town, m_X11_fault, m_X12_fault, m_X12_isPain, m_X12_throwsIf, m_X12_pain, m_X12_thrown, m_X11_isPerson, m_X8_painsAt, m_X11_person, m_X12_isPerson, m_X12_painsAt, m_X12_person, m_X12_isPorter, m_X12_porter, m_X11_sort, m_X12_sort, m_X8_painless, m_X11_sum, m_X8_carriedNow, m_X11_now, m_X12_freeSet, m_X12_sum, m_X12_carriedSet, m_X12_now, m_X11_isPorter, m_X11_isPain, m_X8_copyFrom, m_X5_keep, m_X11_fetch, m_X12_keep, m_X12_fetch, m_X11_hand, m_X12_hand, m_X11_drop, m_X12_drop, m_X11_home, m_X12_home, m_X8_payPorters, m_X8_practise, m_X8_wearOff, m_X8_fallOnSomebody, m_X8_passHours, m_X11_hours, m_X12_learns, m_X12_hour, m_X12_goesOn, m_X12_hours, m_X5_bringBack, m_X11_undo, m_X12_undo, m_X11_can, m_X12_can, m_X11_isAmong, m_X3_gather, m_X3_leastCost, m_X3_freeing, m_X3_tell, m_X11_free, m_X12_lists, m_X12_assigns, m_X12_tells, m_X12_free, m_X11_by, m_X12_by, m_X3_fewestFor, m_X11_fewest, m_X12_fewest, m_X11_load, m_X12_load, m_J6_bitCount_0f7a4, m_X11_limps, m_X12_limps, m_X11_surely, m_X12_surely, m_X2_bestQuestion, m_X11_ask, m_X12_ask, m_X11_share, m_X12_share, m_X3_shareByFees, m_X3_changeFees, m_X3_settleFees, m_X11_rest, m_X12_round, m_X12_rest, m_X11_fee, m_X12_fee, m_X12_part, m_X12_unharmed, m_X11_ease, m_X12_tries, m_X12_back, m_X12_ease, m_X11_later, m_X12_later, m_X11_lasts, m_X12_lasts, m_X11_cheapest, m_X12_cheapest, m_X11_hopeless, m_X12_hopeless, m_X11_drawn, m_X12_drawn, m_X11_odds, m_X12_odds, m_X4_read, m_X4_goodLines, m_X11_log, m_X12_log, m_X11_logged, m_X12_logged, m_X7_readOne, m_X7_read, m_X11_sentence, m_X12_leafOf, m_X12_operand, m_X12_sentence, m_X11_said, m_X12_said, m_X9_copyFrom, m_X7_copyFrom, m_X11_image, m_X12_image, m_X11_restore, m_X12_restore, m_X11_count, m_X12_count, m_X11_pain, m_X11_porter, m_X11_unharmed] := ⟨m_J0_coder_7d493_ok, ⟨m_J0_length_8abf5_ok, ⟨m_J0_isLatin1_aae02_ok, ⟨m_J3_checkIndex_8e157_ok, ⟨m_J0_checkIndex_df160_ok, ⟨m_J1_charAt_3b067_ok, ⟨m_J0_charAt_5068e_ok, ⟨m_X6_joined_ok, ⟨m_X6_init_ok, ⟨m_X9_init_ok, ⟨m_X10_init_ok, ⟨m_X8_init_ok, ⟨m_X7_init_ok, ⟨m_X4_init_ok, ⟨m_X5_init_ok, ⟨m_X3_init_ok, ⟨m_X2_init_ok, ⟨m_X0_init_ok, ⟨m_X1_init_ok, ⟨m_X11_init_ok, vmo_1⟩⟩⟩⟩⟩⟩⟩⟩⟩⟩⟩⟩⟩⟩⟩⟩⟩⟩⟩⟩
theorem vall : ∀ (j : Nat) (M : vMt), vms[j]? = some M → vMOK vms vdf M := vMOA_ok vms vmo_0
noncomputable def vcal : vCal := vCalD vms vdf 100000 12
theorem vcal_ok (l : Launch) : vCalOK l vms vcal := vCalD_ok l vcls (by decide) vcm vall 100000 12
