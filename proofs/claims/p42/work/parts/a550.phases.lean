section
/-! ===== log() and image() of the class ===== -/
set_option maxRecDepth 100000 in
theorem mXl_X : mdX mXl = true := by decide +kernel
theorem xk_log {c tw : Nat} (hc : c < 4) (hV : xlV (hTcN c) tw) : xOK 248 1 c := by
  intro hp args hty hl hi
  match args, hl with
  | [a], _ =>
    obtain ⟨w, w1, w2⟩ := hi a List.mem_cons_self
    subst w2
    obtain ⟨r, hp', h1, h2, h3, h4⟩ := xlog_okV hV (d := 59) (by decide) w1 hty
    obtain ⟨u, u1, u2⟩ := sRt_int h2
    subst u2
    exact ⟨u, hp', _, h1, u1, ⟨c, hc, h3⟩, h4, mXl_X⟩
/-- image(w): 1 for 0 and 1, else 0 -/
def xIm (c : Nat) : Prop := ∀ (hp : List vOb) (w : Nat), kTy (hTcN c) plC hp → w < 4294967296 → ∃ hp' md, (∃ N, ∀ fuel, N ≤ fuel → vCalD vms vdf fuel 60 281 [yV 0, .inl w] hp = some (some (.inl (if w < 2 then 1 else 0)), hp', 0, 0)) ∧ kTy (hTcN c) plC hp' ∧ sFr md hp hp' ∧ mdX md = true
theorem xIm_of {c : Nat} {e0 e1 e2 : sCtE} (h0 : cOK vms vdf 60 (hTcN c) e0) (h1 : cOK vms vdf 60 (hTcN c) e1) (h2 : cOK vms vdf 60 hT e2) (j0 : e0.1 = 281) (j1 : e1.1 = 281) (j2 : e2.1 = 281) (a0 : e0.2.1 = [yO 0, zS 0 0]) (a1 : e1.2.1 = [yO 0, zS 1 1]) (a2 : e2.2.1 = [yO 0, .inr [(0, 2147483647), (2147483650, 4294967295)]]) (r0 : e0.2.2.2.1 = some (zS 1 1)) (r1 : e1.2.2.2.1 = some (zS 1 1)) (r2 : e2.2.2.2.1 = some (zS 0 0)) (b0 : xB e0 = true) (b1 : xB e1 = true) (p2 : e2.2.2.1 = []) (m2 : e2.2.2.2.2 = []) : xIm c := by
  intro hp w hty hw
  have one : ∀ (e : sCtE) (n : Nat), e.1 = 281 → e.2.1 = [yO 0, zS n n] → n < 2 → w = n → e.2.2.2.1 = some (zS 1 1) → xB e = true → cOK vms vdf 60 (hTcN c) e → ∃ hp' md, (∃ N, ∀ fuel, N ≤ fuel → vCalD vms vdf fuel 60 281 [yV 0, .inl w] hp = some (some (.inl (if w < 2 then 1 else 0)), hp', 0, 0)) ∧ kTy (hTcN c) plC hp' ∧ sFr md hp hp' ∧ mdX md = true := fun e n hj ha hn hwn hr hb hc => by
    subst hwn
    unfold xB at hb
    rw [Bool.and_eq_true, Bool.and_eq_true] at hb
    obtain ⟨q1, q2, q3⟩ := hb
    obtain ⟨r, hp', g1, g2, g3, g4⟩ := hc [yV 0, .inl w] hp (by rw [ha]; exact ⟨rfl, ⟨w, hw, sIn_one (by unfold sBi; omega) (by unfold sBi; omega), rfl⟩, trivial⟩) (kTy_sub (plC_mem q1) hty)
    rw [hr] at g2
    have er := zRt (by decide) g2
    subst er
    rw [hj] at g1
    rw [if_pos hn]
    exact ⟨hp', _, g1, kTy_upd q3 g3 hty g4, g3, q2⟩
  by_cases c0 : w = 0
  · exact one e0 0 j0 a0 (by decide) c0 r0 b0 h0
  · by_cases c1 : w = 1
    · exact one e1 1 j1 a1 (by decide) c1 r1 b1 h1
    · obtain ⟨r, hp', g1, g2, g3, g4⟩ := h2 [yV 0, .inl w] hp (by
        rw [a2]
        refine ⟨rfl, ⟨w, hw, ?_, rfl⟩, trivial⟩
        by_cases hlt : sBi w ≤ 2147483647
        · exact ⟨(0, 2147483647), by decide, Nat.zero_le _, hlt⟩
        · refine ⟨(2147483650, 4294967295), by decide, ?_, ?_⟩
          · show 2147483650 ≤ sBi w
            unfold sBi at hlt ⊢
            omega
          · show sBi w ≤ 4294967295
            have := sBi_lt w
            omega) (by rw [p2]; exact fun k hk => by cases hk)
      rw [r2] at g2
      have er := zRt (by decide) g2
      subst er
      rw [j2] at g1
      rw [m2] at g3
      rw [if_neg (by omega)]
      exact ⟨hp', [], g1, kTy_fr0 g3 hty, g3, rfl⟩
end
section
/-! ===== the same, in each shape ===== -/
theorem xk_log_0 : xOK 248 1 0 := xk_log (tw := 4) (by decide) xl_V0
set_option maxRecDepth 100000 in
theorem xk_image_0 : xIm 0 := xIm_of (c := 0) (e0 := cc0_X_image_1071_e) (e1 := cc0_X_image_1072_e) (e2 := cc_X_image_1073_e) (cc0_X_image_1071_ok 60 (by decide)) (cc0_X_image_1072_ok 60 (by decide)) (cc_X_image_1073_ok 60 (by decide)) rfl rfl rfl rfl rfl rfl rfl rfl rfl (by decide +kernel) (by decide +kernel) rfl rfl
theorem xk_log_1 : xOK 248 1 1 := xk_log (tw := 17) (by decide) xl_V1
set_option maxRecDepth 100000 in
theorem xk_image_1 : xIm 1 := xIm_of (c := 1) (e0 := cc1_X_image_1074_e) (e1 := cc1_X_image_1075_e) (e2 := cc_X_image_1073_e) (cc1_X_image_1074_ok 60 (by decide)) (cc1_X_image_1075_ok 60 (by decide)) (cc_X_image_1073_ok 60 (by decide)) rfl rfl rfl rfl rfl rfl rfl rfl rfl (by decide +kernel) (by decide +kernel) rfl rfl
theorem xk_log_2 : xOK 248 1 2 := xk_log (tw := 4) (by decide) xl_V2
set_option maxRecDepth 100000 in
theorem xk_image_2 : xIm 2 := xIm_of (c := 2) (e0 := cc2_X_image_1076_e) (e1 := cc2_X_image_1077_e) (e2 := cc_X_image_1073_e) (cc2_X_image_1076_ok 60 (by decide)) (cc2_X_image_1077_ok 60 (by decide)) (cc_X_image_1073_ok 60 (by decide)) rfl rfl rfl rfl rfl rfl rfl rfl rfl (by decide +kernel) (by decide +kernel) rfl rfl
theorem xk_log_3 : xOK 248 1 3 := xk_log (tw := 17) (by decide) xl_V3
set_option maxRecDepth 100000 in
theorem xk_image_3 : xIm 3 := xIm_of (c := 3) (e0 := cc3_X_image_1078_e) (e1 := cc3_X_image_1079_e) (e2 := cc_X_image_1073_e) (cc3_X_image_1078_ok 60 (by decide)) (cc3_X_image_1079_ok 60 (by decide)) (cc_X_image_1073_ok 60 (by decide)) rfl rfl rfl rfl rfl rfl rfl rfl rfl (by decide +kernel) (by decide +kernel) rfl rfl
end
section
/-! ===== the calls of the reference, by their contracts ===== -/
def hTrN (v : Nat) : sHp := match v with
  | 0 => hTr0
  | 1 => hTr1
  | 2 => hTr2
  | _ => hTr3
theorem hTrN_is (v : Nat) : ∃ o, hTrN v = (222, o) :: hT := by
  unfold hTrN
  split
  · exact ⟨_, rfl⟩
  · exact ⟨_, rfl⟩
  · exact ⟨_, rfl⟩
  · exact ⟨_, rfl⟩
def plM : List Nat := [220, 221, 222, 223, 224, 225, 226, 227, 228, 229, 230, 231, 232, 233, 234, 235, 236, 237, 238, 239, 240, 241, 242, 243, 244, 245, 246, 247]
/-- rows of the reference alone, neither an image nor the codes -/
def mdM (md : sMd) : Bool := md.all (fun m => (Nat.ble 220 m.1 && Nat.ble m.1 247) && (!Nat.beq m.1 245 && !(Nat.beq m.1 222 && Nat.ble 142 m.2.2)))
theorem mdM_ok {md : sMd} (h : mdM md = true) {k i : Nat} (hm : sMin md k i) : 220 ≤ k ∧ k ≤ 247 ∧ k ≠ 245 ∧ (k = 222 → i < 142) := by
  obtain ⟨m, m1, m2, m3, m4⟩ := hm
  have h1 := List.all_eq_true.mp h m m1
  rw [Bool.and_eq_true, Bool.and_eq_true, Bool.and_eq_true] at h1
  obtain ⟨⟨q1, q2⟩, q3, q4⟩ := h1
  have q1 := Nat.le_of_ble_eq_true q1
  have q2 := Nat.le_of_ble_eq_true q2
  refine ⟨by omega, by omega, fun e => ?_, fun e => ?_⟩
  · rw [m2, e, Nat.beq_refl] at q3
    cases q3
  · by_cases hi : i < 142
    · exact hi
    · rw [m2, e, Nat.beq_refl, Nat.ble_eq_true_of_le (show 142 ≤ m.2.2 by omega)] at q4
      cases q4
def mOK (j k v : Nat) : Prop := ∀ (hp : List vOb) (args : List vAV), kTy (hTrN v) plM hp → args.length = k → ints args → ∃ u hp' md, (∃ N, ∀ fuel, N ≤ fuel → vCalD vms vdf fuel 60 j (yV 220 :: args) hp = some (some (.inl u), hp', 0, 0)) ∧ u < 4294967296 ∧ kTy (hTrN v) plM hp' ∧ sFr md hp hp' ∧ mdM md = true
def mB (e : sCtE) : Bool := e.2.2.1.all (fun k => sStop k plM) && (mdM e.2.2.2.2 && plM.all (fun k => sStop k e.2.2.1 || !sHas k e.2.2.2.2))
theorem plM_mem {pl : List Nat} (h : pl.all (fun k => sStop k plM) = true) : ∀ k ∈ pl, k ∈ plM := fun k hk => sStop_mem (List.all_eq_true.mp h k hk)
theorem mOK_of {e : sCtE} {k v : Nat} {S : sSet} (hc : cOK vms vdf 60 (hTrN v) e) (ha : e.2.1 = yO 220 :: List.replicate k zF) (hr : e.2.2.2.1 = some (.inr S)) (hB : mB e = true) : mOK e.1 k v := by
  intro hp args hty hl hi
  unfold mB at hB
  rw [Bool.and_eq_true, Bool.and_eq_true] at hB
  obtain ⟨b1, b2, b3⟩ := hB
  obtain ⟨r, hp', h1, h2, h3, h4⟩ := hc (yV 220 :: args) hp (by rw [ha]; exact ⟨rfl, sAr_full k hl hi⟩) (kTy_sub (plM_mem b1) hty)
  rw [hr] at h2
  obtain ⟨u, u1, u2⟩ := sRt_int h2
  subst u2
  exact ⟨u, hp', _, h1, u1, kTy_upd b3 h3 hty h4, h3, b2⟩
theorem mOK_of0 {e : sCtE} {k v : Nat} {S : sSet} (hc : cOK vms vdf 60 hT e) (ha : e.2.1 = yO 220 :: List.replicate k zF) (hr : e.2.2.2.1 = some (.inr S)) (hB : mB e = true) (hs : tSame 222 e.2.2.1 = true) : mOK e.1 k v := by
  intro hp args hty hl hi
  unfold mB at hB
  rw [Bool.and_eq_true, Bool.and_eq_true] at hB
  obtain ⟨b1, b2, b3⟩ := hB
  obtain ⟨o, ho⟩ := hTrN_is v
  have hty0 : kTy hT e.2.2.1 hp := by
    have h := kTy_sub (plM_mem b1) hty
    rw [ho] at h
    exact (kTy_cons hs).mp h
  obtain ⟨r, hp', h1, h2, h3, h4⟩ := hc (yV 220 :: args) hp (by rw [ha]; exact ⟨rfl, sAr_full k hl hi⟩) hty0
  rw [hr] at h2
  obtain ⟨u, u1, u2⟩ := sRt_int h2
  subst u2
  refine ⟨u, hp', _, h1, u1, kTy_upd b3 h3 hty ?_, h3, b2⟩
  rw [ho]
  exact (kTy_cons hs).mpr h4
end
section
/-! ===== the public calls of the reference ===== -/
set_option maxRecDepth 100000 in
theorem mk_feed_0 : mOK 28 5 0 := mOK_of0 (e := cc_M_feed_572_e) (k := 5) (v := 0) (cc_M_feed_572_ok 60 (by decide)) rfl rfl (by decide +kernel) (by decide +kernel)
set_option maxRecDepth 100000 in
theorem mk_feed_1 : mOK 28 5 1 := mOK_of0 (e := cc_M_feed_572_e) (k := 5) (v := 1) (cc_M_feed_572_ok 60 (by decide)) rfl rfl (by decide +kernel) (by decide +kernel)
set_option maxRecDepth 100000 in
theorem mk_feed_2 : mOK 28 5 2 := mOK_of0 (e := cc_M_feed_572_e) (k := 5) (v := 2) (cc_M_feed_572_ok 60 (by decide)) rfl rfl (by decide +kernel) (by decide +kernel)
set_option maxRecDepth 100000 in
theorem mk_feed_3 : mOK 28 5 3 := mOK_of0 (e := cc_M_feed_572_e) (k := 5) (v := 3) (cc_M_feed_572_ok 60 (by decide)) rfl rfl (by decide +kernel) (by decide +kernel)
set_option maxRecDepth 100000 in
theorem mk_end_0 : mOK 30 1 0 := mOK_of0 (e := cc_M_end_573_e) (k := 1) (v := 0) (cc_M_end_573_ok 60 (by decide)) rfl rfl (by decide +kernel) (by decide +kernel)
set_option maxRecDepth 100000 in
theorem mk_end_1 : mOK 30 1 1 := mOK_of0 (e := cc_M_end_573_e) (k := 1) (v := 1) (cc_M_end_573_ok 60 (by decide)) rfl rfl (by decide +kernel) (by decide +kernel)
set_option maxRecDepth 100000 in
theorem mk_end_2 : mOK 30 1 2 := mOK_of0 (e := cc_M_end_573_e) (k := 1) (v := 2) (cc_M_end_573_ok 60 (by decide)) rfl rfl (by decide +kernel) (by decide +kernel)
set_option maxRecDepth 100000 in
theorem mk_end_3 : mOK 30 1 3 := mOK_of0 (e := cc_M_end_573_e) (k := 1) (v := 3) (cc_M_end_573_ok 60 (by decide)) rfl rfl (by decide +kernel) (by decide +kernel)
set_option maxRecDepth 100000 in
theorem mk_fault_0 : mOK 83 0 0 := mOK_of0 (e := cc_M_fault_574_e) (k := 0) (v := 0) (cc_M_fault_574_ok 60 (by decide)) rfl rfl (by decide +kernel) (by decide +kernel)
set_option maxRecDepth 100000 in
theorem mk_fault_1 : mOK 83 0 1 := mOK_of0 (e := cc_M_fault_574_e) (k := 0) (v := 1) (cc_M_fault_574_ok 60 (by decide)) rfl rfl (by decide +kernel) (by decide +kernel)
set_option maxRecDepth 100000 in
theorem mk_fault_2 : mOK 83 0 2 := mOK_of0 (e := cc_M_fault_574_e) (k := 0) (v := 2) (cc_M_fault_574_ok 60 (by decide)) rfl rfl (by decide +kernel) (by decide +kernel)
set_option maxRecDepth 100000 in
theorem mk_fault_3 : mOK 83 0 3 := mOK_of0 (e := cc_M_fault_574_e) (k := 0) (v := 3) (cc_M_fault_574_ok 60 (by decide)) rfl rfl (by decide +kernel) (by decide +kernel)
set_option maxRecDepth 100000 in
theorem mk_pain_0 : mOK 86 2 0 := mOK_of (e := cr0_M_pain_909_e) (k := 2) (v := 0) (cr0_M_pain_909_ok 60 (by decide)) rfl rfl (by decide +kernel)
set_option maxRecDepth 100000 in
theorem mk_pain_1 : mOK 86 2 1 := mOK_of (e := cr1_M_pain_830_e) (k := 2) (v := 1) (cr1_M_pain_830_ok 60 (by decide)) rfl rfl (by decide +kernel)
set_option maxRecDepth 100000 in
theorem mk_pain_2 : mOK 86 2 2 := mOK_of (e := cr2_M_pain_739_e) (k := 2) (v := 2) (cr2_M_pain_739_ok 60 (by decide)) rfl rfl (by decide +kernel)
set_option maxRecDepth 100000 in
theorem mk_pain_3 : mOK 86 2 3 := mOK_of (e := cr3_M_pain_575_e) (k := 2) (v := 3) (cr3_M_pain_575_ok 60 (by decide)) rfl rfl (by decide +kernel)
set_option maxRecDepth 100000 in
theorem mk_person_0 : mOK 96 2 0 := mOK_of (e := cr0_M_person_912_e) (k := 2) (v := 0) (cr0_M_person_912_ok 60 (by decide)) rfl rfl (by decide +kernel)
set_option maxRecDepth 100000 in
theorem mk_person_1 : mOK 96 2 1 := mOK_of (e := cr1_M_person_833_e) (k := 2) (v := 1) (cr1_M_person_833_ok 60 (by decide)) rfl rfl (by decide +kernel)
set_option maxRecDepth 100000 in
theorem mk_person_2 : mOK 96 2 2 := mOK_of (e := cr2_M_person_742_e) (k := 2) (v := 2) (cr2_M_person_742_ok 60 (by decide)) rfl rfl (by decide +kernel)
set_option maxRecDepth 100000 in
theorem mk_person_3 : mOK 96 2 3 := mOK_of (e := cr3_M_person_578_e) (k := 2) (v := 3) (cr3_M_person_578_ok 60 (by decide)) rfl rfl (by decide +kernel)
set_option maxRecDepth 100000 in
theorem mk_porter_0 : mOK 101 2 0 := mOK_of (e := cr0_M_porter_913_e) (k := 2) (v := 0) (cr0_M_porter_913_ok 60 (by decide)) rfl rfl (by decide +kernel)
set_option maxRecDepth 100000 in
theorem mk_porter_1 : mOK 101 2 1 := mOK_of (e := cr1_M_porter_834_e) (k := 2) (v := 1) (cr1_M_porter_834_ok 60 (by decide)) rfl rfl (by decide +kernel)
set_option maxRecDepth 100000 in
theorem mk_porter_2 : mOK 101 2 2 := mOK_of (e := cr2_M_porter_745_e) (k := 2) (v := 2) (cr2_M_porter_745_ok 60 (by decide)) rfl rfl (by decide +kernel)
set_option maxRecDepth 100000 in
theorem mk_porter_3 : mOK 101 2 3 := mOK_of (e := cr3_M_porter_581_e) (k := 2) (v := 3) (cr3_M_porter_581_ok 60 (by decide)) rfl rfl (by decide +kernel)
set_option maxRecDepth 100000 in
theorem mk_sort_0 : mOK 103 2 0 := mOK_of (e := cr0_M_sort_914_e) (k := 2) (v := 0) (cr0_M_sort_914_ok 60 (by decide)) rfl rfl (by decide +kernel)
set_option maxRecDepth 100000 in
theorem mk_sort_1 : mOK 103 2 1 := mOK_of (e := cr1_M_sort_835_e) (k := 2) (v := 1) (cr1_M_sort_835_ok 60 (by decide)) rfl rfl (by decide +kernel)
set_option maxRecDepth 100000 in
theorem mk_sort_2 : mOK 103 2 2 := mOK_of (e := cr2_M_sort_746_e) (k := 2) (v := 2) (cr2_M_sort_746_ok 60 (by decide)) rfl rfl (by decide +kernel)
set_option maxRecDepth 100000 in
theorem mk_sort_3 : mOK 103 2 3 := mOK_of (e := cr3_M_sort_582_e) (k := 2) (v := 3) (cr3_M_sort_582_ok 60 (by decide)) rfl rfl (by decide +kernel)
set_option maxRecDepth 100000 in
theorem mk_now_0 : mOK 113 1 0 := mOK_of (e := cr0_M_now_923_e) (k := 1) (v := 0) (cr0_M_now_923_ok 60 (by decide)) rfl rfl (by decide +kernel)
set_option maxRecDepth 100000 in
theorem mk_now_1 : mOK 113 1 1 := mOK_of (e := cr1_M_now_844_e) (k := 1) (v := 1) (cr1_M_now_844_ok 60 (by decide)) rfl rfl (by decide +kernel)
set_option maxRecDepth 100000 in
theorem mk_now_2 : mOK 113 1 2 := mOK_of (e := cr2_M_now_755_e) (k := 1) (v := 2) (cr2_M_now_755_ok 60 (by decide)) rfl rfl (by decide +kernel)
set_option maxRecDepth 100000 in
theorem mk_now_3 : mOK 113 1 3 := mOK_of (e := cr3_M_now_591_e) (k := 1) (v := 3) (cr3_M_now_591_ok 60 (by decide)) rfl rfl (by decide +kernel)
set_option maxRecDepth 100000 in
theorem mk_fetch_0 : mOK 128 2 0 := mOK_of (e := cr0_M_fetch_924_e) (k := 2) (v := 0) (cr0_M_fetch_924_ok 60 (by decide)) rfl rfl (by decide +kernel)
set_option maxRecDepth 100000 in
theorem mk_fetch_1 : mOK 128 2 1 := mOK_of (e := cr1_M_fetch_845_e) (k := 2) (v := 1) (cr1_M_fetch_845_ok 60 (by decide)) rfl rfl (by decide +kernel)
set_option maxRecDepth 100000 in
theorem mk_fetch_2 : mOK 128 2 2 := mOK_of (e := cr2_M_fetch_756_e) (k := 2) (v := 2) (cr2_M_fetch_756_ok 60 (by decide)) rfl rfl (by decide +kernel)
set_option maxRecDepth 100000 in
theorem mk_fetch_3 : mOK 128 2 3 := mOK_of (e := cr3_M_fetch_594_e) (k := 2) (v := 3) (cr3_M_fetch_594_ok 60 (by decide)) rfl rfl (by decide +kernel)
set_option maxRecDepth 100000 in
theorem mk_hand_0 : mOK 132 3 0 := mOK_of (e := cr0_M_hand_925_e) (k := 3) (v := 0) (cr0_M_hand_925_ok 60 (by decide)) rfl rfl (by decide +kernel)
set_option maxRecDepth 100000 in
theorem mk_hand_1 : mOK 132 3 1 := mOK_of (e := cr1_M_hand_846_e) (k := 3) (v := 1) (cr1_M_hand_846_ok 60 (by decide)) rfl rfl (by decide +kernel)
set_option maxRecDepth 100000 in
theorem mk_hand_2 : mOK 132 3 2 := mOK_of (e := cr2_M_hand_757_e) (k := 3) (v := 2) (cr2_M_hand_757_ok 60 (by decide)) rfl rfl (by decide +kernel)
set_option maxRecDepth 100000 in
theorem mk_hand_3 : mOK 132 3 3 := mOK_of (e := cr3_M_hand_595_e) (k := 3) (v := 3) (cr3_M_hand_595_ok 60 (by decide)) rfl rfl (by decide +kernel)
set_option maxRecDepth 100000 in
theorem mk_drop_0 : mOK 138 2 0 := mOK_of (e := cr0_M_drop_926_e) (k := 2) (v := 0) (cr0_M_drop_926_ok 60 (by decide)) rfl rfl (by decide +kernel)
set_option maxRecDepth 100000 in
theorem mk_drop_1 : mOK 138 2 1 := mOK_of (e := cr1_M_drop_847_e) (k := 2) (v := 1) (cr1_M_drop_847_ok 60 (by decide)) rfl rfl (by decide +kernel)
set_option maxRecDepth 100000 in
theorem mk_drop_2 : mOK 138 2 2 := mOK_of (e := cr2_M_drop_758_e) (k := 2) (v := 2) (cr2_M_drop_758_ok 60 (by decide)) rfl rfl (by decide +kernel)
set_option maxRecDepth 100000 in
theorem mk_drop_3 : mOK 138 2 3 := mOK_of (e := cr3_M_drop_596_e) (k := 2) (v := 3) (cr3_M_drop_596_ok 60 (by decide)) rfl rfl (by decide +kernel)
set_option maxRecDepth 100000 in
theorem mk_home_0 : mOK 142 1 0 := mOK_of (e := cr0_M_home_927_e) (k := 1) (v := 0) (cr0_M_home_927_ok 60 (by decide)) rfl rfl (by decide +kernel)
set_option maxRecDepth 100000 in
theorem mk_home_1 : mOK 142 1 1 := mOK_of (e := cr1_M_home_849_e) (k := 1) (v := 1) (cr1_M_home_849_ok 60 (by decide)) rfl rfl (by decide +kernel)
set_option maxRecDepth 100000 in
theorem mk_home_2 : mOK 142 1 2 := mOK_of (e := cr2_M_home_759_e) (k := 1) (v := 2) (cr2_M_home_759_ok 60 (by decide)) rfl rfl (by decide +kernel)
set_option maxRecDepth 100000 in
theorem mk_home_3 : mOK 142 1 3 := mOK_of (e := cr3_M_home_597_e) (k := 1) (v := 3) (cr3_M_home_597_ok 60 (by decide)) rfl rfl (by decide +kernel)
set_option maxRecDepth 100000 in
theorem mk_hours_0 : mOK 155 1 0 := mOK_of (e := cr0_M_hours_930_e) (k := 1) (v := 0) (cr0_M_hours_930_ok 60 (by decide)) rfl rfl (by decide +kernel)
set_option maxRecDepth 100000 in
theorem mk_hours_1 : mOK 155 1 1 := mOK_of (e := cr1_M_hours_851_e) (k := 1) (v := 1) (cr1_M_hours_851_ok 60 (by decide)) rfl rfl (by decide +kernel)
set_option maxRecDepth 100000 in
theorem mk_hours_2 : mOK 155 1 2 := mOK_of (e := cr2_M_hours_762_e) (k := 1) (v := 2) (cr2_M_hours_762_ok 60 (by decide)) rfl rfl (by decide +kernel)
set_option maxRecDepth 100000 in
theorem mk_hours_3 : mOK 155 1 3 := mOK_of (e := cr3_M_hours_599_e) (k := 1) (v := 3) (cr3_M_hours_599_ok 60 (by decide)) rfl rfl (by decide +kernel)
set_option maxRecDepth 100000 in
theorem mk_undo_0 : mOK 158 0 0 := mOK_of (e := cr0_M_undo_931_e) (k := 0) (v := 0) (cr0_M_undo_931_ok 60 (by decide)) rfl rfl (by decide +kernel)
set_option maxRecDepth 100000 in
theorem mk_undo_1 : mOK 158 0 1 := mOK_of (e := cr1_M_undo_852_e) (k := 0) (v := 1) (cr1_M_undo_852_ok 60 (by decide)) rfl rfl (by decide +kernel)
set_option maxRecDepth 100000 in
theorem mk_undo_2 : mOK 158 0 2 := mOK_of (e := cr2_M_undo_763_e) (k := 0) (v := 2) (cr2_M_undo_763_ok 60 (by decide)) rfl rfl (by decide +kernel)
set_option maxRecDepth 100000 in
theorem mk_undo_3 : mOK 158 0 3 := mOK_of (e := cr3_M_undo_600_e) (k := 0) (v := 3) (cr3_M_undo_600_ok 60 (by decide)) rfl rfl (by decide +kernel)
set_option maxRecDepth 100000 in
theorem mk_can_0 : mOK 160 2 0 := mOK_of (e := cr0_M_can_932_e) (k := 2) (v := 0) (cr0_M_can_932_ok 60 (by decide)) rfl rfl (by decide +kernel)
set_option maxRecDepth 100000 in
theorem mk_can_1 : mOK 160 2 1 := mOK_of (e := cr1_M_can_853_e) (k := 2) (v := 1) (cr1_M_can_853_ok 60 (by decide)) rfl rfl (by decide +kernel)
set_option maxRecDepth 100000 in
theorem mk_can_2 : mOK 160 2 2 := mOK_of (e := cr2_M_can_764_e) (k := 2) (v := 2) (cr2_M_can_764_ok 60 (by decide)) rfl rfl (by decide +kernel)
set_option maxRecDepth 100000 in
theorem mk_can_3 : mOK 160 2 3 := mOK_of (e := cr3_M_can_601_e) (k := 2) (v := 3) (cr3_M_can_601_ok 60 (by decide)) rfl rfl (by decide +kernel)
set_option maxRecDepth 100000 in
theorem mk_free_0 : mOK 175 2 0 := mOK_of (e := cr0_M_free_938_e) (k := 2) (v := 0) (cr0_M_free_938_ok 60 (by decide)) rfl rfl (by decide +kernel)
set_option maxRecDepth 100000 in
theorem mk_free_1 : mOK 175 2 1 := mOK_of (e := cr1_M_free_859_e) (k := 2) (v := 1) (cr1_M_free_859_ok 60 (by decide)) rfl rfl (by decide +kernel)
set_option maxRecDepth 100000 in
theorem mk_free_2 : mOK 175 2 2 := mOK_of (e := cr2_M_free_787_e) (k := 2) (v := 2) (cr2_M_free_787_ok 60 (by decide)) rfl rfl (by decide +kernel)
set_option maxRecDepth 100000 in
theorem mk_free_3 : mOK 175 2 3 := mOK_of (e := cr3_M_free_627_e) (k := 2) (v := 3) (cr3_M_free_627_ok 60 (by decide)) rfl rfl (by decide +kernel)
set_option maxRecDepth 100000 in
theorem mk_by_0 : mOK 177 1 0 := mOK_of0 (e := cc_M_by_628_e) (k := 1) (v := 0) (cc_M_by_628_ok 60 (by decide)) rfl rfl (by decide +kernel) (by decide +kernel)
set_option maxRecDepth 100000 in
theorem mk_by_1 : mOK 177 1 1 := mOK_of0 (e := cc_M_by_628_e) (k := 1) (v := 1) (cc_M_by_628_ok 60 (by decide)) rfl rfl (by decide +kernel) (by decide +kernel)
set_option maxRecDepth 100000 in
theorem mk_by_2 : mOK 177 1 2 := mOK_of0 (e := cc_M_by_628_e) (k := 1) (v := 2) (cc_M_by_628_ok 60 (by decide)) rfl rfl (by decide +kernel) (by decide +kernel)
set_option maxRecDepth 100000 in
theorem mk_by_3 : mOK 177 1 3 := mOK_of0 (e := cc_M_by_628_e) (k := 1) (v := 3) (cc_M_by_628_ok 60 (by decide)) rfl rfl (by decide +kernel) (by decide +kernel)
set_option maxRecDepth 100000 in
theorem mk_fewest_0 : mOK 180 1 0 := mOK_of (e := cr0_M_fewest_939_e) (k := 1) (v := 0) (cr0_M_fewest_939_ok 60 (by decide)) rfl rfl (by decide +kernel)
set_option maxRecDepth 100000 in
theorem mk_fewest_1 : mOK 180 1 1 := mOK_of (e := cr1_M_fewest_860_e) (k := 1) (v := 1) (cr1_M_fewest_860_ok 60 (by decide)) rfl rfl (by decide +kernel)
set_option maxRecDepth 100000 in
theorem mk_fewest_2 : mOK 180 1 2 := mOK_of (e := cr2_M_fewest_788_e) (k := 1) (v := 2) (cr2_M_fewest_788_ok 60 (by decide)) rfl rfl (by decide +kernel)
set_option maxRecDepth 100000 in
theorem mk_fewest_3 : mOK 180 1 3 := mOK_of (e := cr3_M_fewest_630_e) (k := 1) (v := 3) (cr3_M_fewest_630_ok 60 (by decide)) rfl rfl (by decide +kernel)
set_option maxRecDepth 100000 in
theorem mk_load_0 : mOK 182 1 0 := mOK_of0 (e := cc_M_load_631_e) (k := 1) (v := 0) (cc_M_load_631_ok 60 (by decide)) rfl rfl (by decide +kernel) (by decide +kernel)
set_option maxRecDepth 100000 in
theorem mk_load_1 : mOK 182 1 1 := mOK_of0 (e := cc_M_load_631_e) (k := 1) (v := 1) (cc_M_load_631_ok 60 (by decide)) rfl rfl (by decide +kernel) (by decide +kernel)
set_option maxRecDepth 100000 in
theorem mk_load_2 : mOK 182 1 2 := mOK_of0 (e := cc_M_load_631_e) (k := 1) (v := 2) (cc_M_load_631_ok 60 (by decide)) rfl rfl (by decide +kernel) (by decide +kernel)
set_option maxRecDepth 100000 in
theorem mk_load_3 : mOK 182 1 3 := mOK_of0 (e := cc_M_load_631_e) (k := 1) (v := 3) (cc_M_load_631_ok 60 (by decide)) rfl rfl (by decide +kernel) (by decide +kernel)
set_option maxRecDepth 100000 in
theorem mk_limps_0 : mOK 194 0 0 := mOK_of (e := cr0_M_limps_964_e) (k := 0) (v := 0) (cr0_M_limps_964_ok 60 (by decide)) rfl rfl (by decide +kernel)
set_option maxRecDepth 100000 in
theorem mk_limps_1 : mOK 194 0 1 := mOK_of (e := cr1_M_limps_885_e) (k := 0) (v := 1) (cr1_M_limps_885_ok 60 (by decide)) rfl rfl (by decide +kernel)
set_option maxRecDepth 100000 in
theorem mk_limps_2 : mOK 194 0 2 := mOK_of (e := cr2_M_limps_813_e) (k := 0) (v := 2) (cr2_M_limps_813_ok 60 (by decide)) rfl rfl (by decide +kernel)
set_option maxRecDepth 100000 in
theorem mk_limps_3 : mOK 194 0 3 := mOK_of (e := cr3_M_limps_657_e) (k := 0) (v := 3) (cr3_M_limps_657_ok 60 (by decide)) rfl rfl (by decide +kernel)
set_option maxRecDepth 100000 in
theorem mk_surely_0 : mOK 197 1 0 := mOK_of0 (e := cc_M_surely_658_e) (k := 1) (v := 0) (cc_M_surely_658_ok 60 (by decide)) rfl rfl (by decide +kernel) (by decide +kernel)
set_option maxRecDepth 100000 in
theorem mk_surely_1 : mOK 197 1 1 := mOK_of0 (e := cc_M_surely_658_e) (k := 1) (v := 1) (cc_M_surely_658_ok 60 (by decide)) rfl rfl (by decide +kernel) (by decide +kernel)
set_option maxRecDepth 100000 in
theorem mk_surely_2 : mOK 197 1 2 := mOK_of0 (e := cc_M_surely_658_e) (k := 1) (v := 2) (cc_M_surely_658_ok 60 (by decide)) rfl rfl (by decide +kernel) (by decide +kernel)
set_option maxRecDepth 100000 in
theorem mk_surely_3 : mOK 197 1 3 := mOK_of0 (e := cc_M_surely_658_e) (k := 1) (v := 3) (cc_M_surely_658_ok 60 (by decide)) rfl rfl (by decide +kernel) (by decide +kernel)
set_option maxRecDepth 100000 in
theorem mk_ask_0 : mOK 200 0 0 := mOK_of0 (e := cc_M_ask_659_e) (k := 0) (v := 0) (cc_M_ask_659_ok 60 (by decide)) rfl rfl (by decide +kernel) (by decide +kernel)
set_option maxRecDepth 100000 in
theorem mk_ask_1 : mOK 200 0 1 := mOK_of0 (e := cc_M_ask_659_e) (k := 0) (v := 1) (cc_M_ask_659_ok 60 (by decide)) rfl rfl (by decide +kernel) (by decide +kernel)
set_option maxRecDepth 100000 in
theorem mk_ask_2 : mOK 200 0 2 := mOK_of0 (e := cc_M_ask_659_e) (k := 0) (v := 2) (cc_M_ask_659_ok 60 (by decide)) rfl rfl (by decide +kernel) (by decide +kernel)
set_option maxRecDepth 100000 in
theorem mk_ask_3 : mOK 200 0 3 := mOK_of0 (e := cc_M_ask_659_e) (k := 0) (v := 3) (cc_M_ask_659_ok 60 (by decide)) rfl rfl (by decide +kernel) (by decide +kernel)
set_option maxRecDepth 100000 in
theorem mk_share_0 : mOK 202 2 0 := mOK_of (e := cr0_M_share_965_e) (k := 2) (v := 0) (cr0_M_share_965_ok 60 (by decide)) rfl rfl (by decide +kernel)
set_option maxRecDepth 100000 in
theorem mk_share_1 : mOK 202 2 1 := mOK_of (e := cr1_M_share_886_e) (k := 2) (v := 1) (cr1_M_share_886_ok 60 (by decide)) rfl rfl (by decide +kernel)
set_option maxRecDepth 100000 in
theorem mk_share_2 : mOK 202 2 2 := mOK_of (e := cr2_M_share_814_e) (k := 2) (v := 2) (cr2_M_share_814_ok 60 (by decide)) rfl rfl (by decide +kernel)
set_option maxRecDepth 100000 in
theorem mk_share_3 : mOK 202 2 3 := mOK_of (e := cr3_M_share_660_e) (k := 2) (v := 3) (cr3_M_share_660_ok 60 (by decide)) rfl rfl (by decide +kernel)
set_option maxRecDepth 100000 in
theorem mk_rest_0 : mOK 212 0 0 := mOK_of (e := cr0_M_rest_967_e) (k := 0) (v := 0) (cr0_M_rest_967_ok 60 (by decide)) rfl rfl (by decide +kernel)
set_option maxRecDepth 100000 in
theorem mk_rest_1 : mOK 212 0 1 := mOK_of (e := cr1_M_rest_896_e) (k := 0) (v := 1) (cr1_M_rest_896_ok 60 (by decide)) rfl rfl (by decide +kernel)
set_option maxRecDepth 100000 in
theorem mk_rest_2 : mOK 212 0 2 := mOK_of (e := cr2_M_rest_817_e) (k := 0) (v := 2) (cr2_M_rest_817_ok 60 (by decide)) rfl rfl (by decide +kernel)
set_option maxRecDepth 100000 in
theorem mk_rest_3 : mOK 212 0 3 := mOK_of (e := cr3_M_rest_672_e) (k := 0) (v := 3) (cr3_M_rest_672_ok 60 (by decide)) rfl rfl (by decide +kernel)
set_option maxRecDepth 100000 in
theorem mk_fee_0 : mOK 214 1 0 := mOK_of0 (e := cc_M_fee_673_e) (k := 1) (v := 0) (cc_M_fee_673_ok 60 (by decide)) rfl rfl (by decide +kernel) (by decide +kernel)
set_option maxRecDepth 100000 in
theorem mk_fee_1 : mOK 214 1 1 := mOK_of0 (e := cc_M_fee_673_e) (k := 1) (v := 1) (cc_M_fee_673_ok 60 (by decide)) rfl rfl (by decide +kernel) (by decide +kernel)
set_option maxRecDepth 100000 in
theorem mk_fee_2 : mOK 214 1 2 := mOK_of0 (e := cc_M_fee_673_e) (k := 1) (v := 2) (cc_M_fee_673_ok 60 (by decide)) rfl rfl (by decide +kernel) (by decide +kernel)
set_option maxRecDepth 100000 in
theorem mk_fee_3 : mOK 214 1 3 := mOK_of0 (e := cc_M_fee_673_e) (k := 1) (v := 3) (cc_M_fee_673_ok 60 (by decide)) rfl rfl (by decide +kernel) (by decide +kernel)
set_option maxRecDepth 100000 in
theorem mk_unharmed_0 : mOK 216 2 0 := mOK_of (e := cr0_M_unharmed_968_e) (k := 2) (v := 0) (cr0_M_unharmed_968_ok 60 (by decide)) rfl rfl (by decide +kernel)
set_option maxRecDepth 100000 in
theorem mk_unharmed_1 : mOK 216 2 1 := mOK_of (e := cr1_M_unharmed_897_e) (k := 2) (v := 1) (cr1_M_unharmed_897_ok 60 (by decide)) rfl rfl (by decide +kernel)
set_option maxRecDepth 100000 in
theorem mk_unharmed_2 : mOK 216 2 2 := mOK_of (e := cr2_M_unharmed_818_e) (k := 2) (v := 2) (cr2_M_unharmed_818_ok 60 (by decide)) rfl rfl (by decide +kernel)
set_option maxRecDepth 100000 in
theorem mk_unharmed_3 : mOK 216 2 3 := mOK_of (e := cr3_M_unharmed_679_e) (k := 2) (v := 3) (cr3_M_unharmed_679_ok 60 (by decide)) rfl rfl (by decide +kernel)
set_option maxRecDepth 100000 in
theorem mk_ease_0 : mOK 220 1 0 := mOK_of (e := cr0_M_ease_971_e) (k := 1) (v := 0) (cr0_M_ease_971_ok 60 (by decide)) rfl rfl (by decide +kernel)
set_option maxRecDepth 100000 in
theorem mk_ease_1 : mOK 220 1 1 := mOK_of (e := cr1_M_ease_900_e) (k := 1) (v := 1) (cr1_M_ease_900_ok 60 (by decide)) rfl rfl (by decide +kernel)
set_option maxRecDepth 100000 in
theorem mk_ease_2 : mOK 220 1 2 := mOK_of (e := cr2_M_ease_821_e) (k := 1) (v := 2) (cr2_M_ease_821_ok 60 (by decide)) rfl rfl (by decide +kernel)
set_option maxRecDepth 100000 in
theorem mk_ease_3 : mOK 220 1 3 := mOK_of (e := cr3_M_ease_682_e) (k := 1) (v := 3) (cr3_M_ease_682_ok 60 (by decide)) rfl rfl (by decide +kernel)
set_option maxRecDepth 100000 in
theorem mk_later_0 : mOK 222 2 0 := mOK_of (e := cr0_M_later_973_e) (k := 2) (v := 0) (cr0_M_later_973_ok 60 (by decide)) rfl rfl (by decide +kernel)
set_option maxRecDepth 100000 in
theorem mk_later_1 : mOK 222 2 1 := mOK_of (e := cr1_M_later_902_e) (k := 2) (v := 1) (cr1_M_later_902_ok 60 (by decide)) rfl rfl (by decide +kernel)
set_option maxRecDepth 100000 in
theorem mk_later_2 : mOK 222 2 2 := mOK_of (e := cr2_M_later_823_e) (k := 2) (v := 2) (cr2_M_later_823_ok 60 (by decide)) rfl rfl (by decide +kernel)
set_option maxRecDepth 100000 in
theorem mk_later_3 : mOK 222 2 3 := mOK_of (e := cr3_M_later_684_e) (k := 2) (v := 3) (cr3_M_later_684_ok 60 (by decide)) rfl rfl (by decide +kernel)
set_option maxRecDepth 100000 in
theorem mk_lasts_0 : mOK 224 1 0 := mOK_of (e := cr0_M_lasts_974_e) (k := 1) (v := 0) (cr0_M_lasts_974_ok 60 (by decide)) rfl rfl (by decide +kernel)
set_option maxRecDepth 100000 in
theorem mk_lasts_1 : mOK 224 1 1 := mOK_of (e := cr1_M_lasts_903_e) (k := 1) (v := 1) (cr1_M_lasts_903_ok 60 (by decide)) rfl rfl (by decide +kernel)
set_option maxRecDepth 100000 in
theorem mk_lasts_2 : mOK 224 1 2 := mOK_of (e := cr2_M_lasts_824_e) (k := 1) (v := 2) (cr2_M_lasts_824_ok 60 (by decide)) rfl rfl (by decide +kernel)
set_option maxRecDepth 100000 in
theorem mk_lasts_3 : mOK 224 1 3 := mOK_of (e := cr3_M_lasts_685_e) (k := 1) (v := 3) (cr3_M_lasts_685_ok 60 (by decide)) rfl rfl (by decide +kernel)
set_option maxRecDepth 100000 in
theorem mk_cheapest_0 : mOK 226 1 0 := mOK_of (e := cr0_M_cheapest_975_e) (k := 1) (v := 0) (cr0_M_cheapest_975_ok 60 (by decide)) rfl rfl (by decide +kernel)
set_option maxRecDepth 100000 in
theorem mk_cheapest_1 : mOK 226 1 1 := mOK_of (e := cr1_M_cheapest_904_e) (k := 1) (v := 1) (cr1_M_cheapest_904_ok 60 (by decide)) rfl rfl (by decide +kernel)
set_option maxRecDepth 100000 in
theorem mk_cheapest_2 : mOK 226 1 2 := mOK_of (e := cr2_M_cheapest_825_e) (k := 1) (v := 2) (cr2_M_cheapest_825_ok 60 (by decide)) rfl rfl (by decide +kernel)
set_option maxRecDepth 100000 in
theorem mk_cheapest_3 : mOK 226 1 3 := mOK_of (e := cr3_M_cheapest_694_e) (k := 1) (v := 3) (cr3_M_cheapest_694_ok 60 (by decide)) rfl rfl (by decide +kernel)
set_option maxRecDepth 100000 in
theorem mk_hopeless_0 : mOK 229 0 0 := mOK_of (e := cr0_M_hopeless_976_e) (k := 0) (v := 0) (cr0_M_hopeless_976_ok 60 (by decide)) rfl rfl (by decide +kernel)
set_option maxRecDepth 100000 in
theorem mk_hopeless_1 : mOK 229 0 1 := mOK_of (e := cr1_M_hopeless_905_e) (k := 0) (v := 1) (cr1_M_hopeless_905_ok 60 (by decide)) rfl rfl (by decide +kernel)
set_option maxRecDepth 100000 in
theorem mk_hopeless_2 : mOK 229 0 2 := mOK_of (e := cr2_M_hopeless_826_e) (k := 0) (v := 2) (cr2_M_hopeless_826_ok 60 (by decide)) rfl rfl (by decide +kernel)
set_option maxRecDepth 100000 in
theorem mk_hopeless_3 : mOK 229 0 3 := mOK_of (e := cr3_M_hopeless_730_e) (k := 0) (v := 3) (cr3_M_hopeless_730_ok 60 (by decide)) rfl rfl (by decide +kernel)
set_option maxRecDepth 100000 in
theorem mk_drawn_0 : mOK 237 2 0 := mOK_of (e := cr0_M_drawn_977_e) (k := 2) (v := 0) (cr0_M_drawn_977_ok 60 (by decide)) rfl rfl (by decide +kernel)
set_option maxRecDepth 100000 in
theorem mk_drawn_1 : mOK 237 2 1 := mOK_of (e := cr1_M_drawn_906_e) (k := 2) (v := 1) (cr1_M_drawn_906_ok 60 (by decide)) rfl rfl (by decide +kernel)
set_option maxRecDepth 100000 in
theorem mk_drawn_2 : mOK 237 2 2 := mOK_of (e := cr2_M_drawn_827_e) (k := 2) (v := 2) (cr2_M_drawn_827_ok 60 (by decide)) rfl rfl (by decide +kernel)
set_option maxRecDepth 100000 in
theorem mk_drawn_3 : mOK 237 2 3 := mOK_of (e := cr3_M_drawn_734_e) (k := 2) (v := 3) (cr3_M_drawn_734_ok 60 (by decide)) rfl rfl (by decide +kernel)
set_option maxRecDepth 100000 in
theorem mk_odds_0 : mOK 239 3 0 := mOK_of (e := cr0_M_odds_978_e) (k := 3) (v := 0) (cr0_M_odds_978_ok 60 (by decide)) rfl rfl (by decide +kernel)
set_option maxRecDepth 100000 in
theorem mk_odds_1 : mOK 239 3 1 := mOK_of (e := cr1_M_odds_907_e) (k := 3) (v := 1) (cr1_M_odds_907_ok 60 (by decide)) rfl rfl (by decide +kernel)
set_option maxRecDepth 100000 in
theorem mk_odds_2 : mOK 239 3 2 := mOK_of (e := cr2_M_odds_828_e) (k := 3) (v := 2) (cr2_M_odds_828_ok 60 (by decide)) rfl rfl (by decide +kernel)
set_option maxRecDepth 100000 in
theorem mk_odds_3 : mOK 239 3 3 := mOK_of (e := cr3_M_odds_736_e) (k := 3) (v := 3) (cr3_M_odds_736_ok 60 (by decide)) rfl rfl (by decide +kernel)
set_option maxRecDepth 100000 in
theorem mk_logged_0 : mOK 253 1 0 := mOK_of0 (e := cc_M_logged_737_e) (k := 1) (v := 0) (cc_M_logged_737_ok 60 (by decide)) rfl rfl (by decide +kernel) (by decide +kernel)
set_option maxRecDepth 100000 in
theorem mk_logged_1 : mOK 253 1 1 := mOK_of0 (e := cc_M_logged_737_e) (k := 1) (v := 1) (cc_M_logged_737_ok 60 (by decide)) rfl rfl (by decide +kernel) (by decide +kernel)
set_option maxRecDepth 100000 in
theorem mk_logged_2 : mOK 253 1 2 := mOK_of0 (e := cc_M_logged_737_e) (k := 1) (v := 2) (cc_M_logged_737_ok 60 (by decide)) rfl rfl (by decide +kernel) (by decide +kernel)
set_option maxRecDepth 100000 in
theorem mk_logged_3 : mOK 253 1 3 := mOK_of0 (e := cc_M_logged_737_e) (k := 1) (v := 3) (cc_M_logged_737_ok 60 (by decide)) rfl rfl (by decide +kernel) (by decide +kernel)
set_option maxRecDepth 100000 in
theorem mk_count_0 : mOK 286 1 0 := mOK_of (e := cr0_M_count_979_e) (k := 1) (v := 0) (cr0_M_count_979_ok 60 (by decide)) rfl rfl (by decide +kernel)
set_option maxRecDepth 100000 in
theorem mk_count_1 : mOK 286 1 1 := mOK_of (e := cr1_M_count_908_e) (k := 1) (v := 1) (cr1_M_count_908_ok 60 (by decide)) rfl rfl (by decide +kernel)
set_option maxRecDepth 100000 in
theorem mk_count_2 : mOK 286 1 2 := mOK_of (e := cr2_M_count_829_e) (k := 1) (v := 2) (cr2_M_count_829_ok 60 (by decide)) rfl rfl (by decide +kernel)
set_option maxRecDepth 100000 in
theorem mk_count_3 : mOK 286 1 3 := mOK_of (e := cr3_M_count_738_e) (k := 1) (v := 3) (cr3_M_count_738_ok 60 (by decide)) rfl rfl (by decide +kernel)
end
section
/-! ===== a method in two phases ===== -/
/-- up to a place, or to a return -/
noncomputable def pCh1 (vms : List vMt) (T : sHp) (scal : sCal) (md1 : sMd) (fuel : Nat) (e : sCtE) (op : sOp) (cuts tms : List sCut) : Bool := match vNth vms e.1, sTp T e.2.2.1 with
  | some M, some h0 => (Nat.beq (mRm M).cells 0 && (Nat.beq (mRm M).slots 0 && Nat.ble (sArgs (sIni e.2.1 (0, [], [])).1).length M.2.2.1)) && sMch op scal md1 M.2.2.2.2.1 fuel cuts (fun σ => cFin T M e σ || sArr none σ tms) none (0, sEnt (sIni e.2.1 (0, [], [])).1 M.2.2.1, [], h0, (sIni e.2.1 (0, [], [])).2)
  | _, _ => false
noncomputable def pCh2 (vms : List vMt) (T : sHp) (scal : sCal) (md1 : sMd) (fuel : Nat) (e : sCtE) (op : sOp) (cuts tms cs : List sCut) : Bool := match vNth vms e.1 with
  | some M => cs.all (fun c => rOk c.1.2.2.2.2 c.2.2 && sMch op scal md1 M.2.2.2.2.1 fuel cuts (fun σ => cFin T M e σ || sArr none σ tms) (some c.2.2) c.1)
  | none => false
/-- from a place on -/
noncomputable def pCh3 (vms : List vMt) (Ts : List sHp) (scal : sCal) (md2 : sMd) (fuel : Nat) (e : sCtE) (op : sOp) (cuts tms : List sCut) : Bool := match vNth vms e.1 with
  | some M => tms.all (fun c => sMch op scal md2 M.2.2.2.2.1 fuel cuts (cFinS Ts M e) none c.1)
  | none => false
noncomputable def pCh4 (vms : List vMt) (Ts : List sHp) (scal : sCal) (md2 : sMd) (fuel : Nat) (e : sCtE) (op : sOp) (cuts cs : List sCut) : Bool := match vNth vms e.1 with
  | some M => cs.all (fun c => rOk c.1.2.2.2.2 c.2.2 && sMch op scal md2 M.2.2.2.2.1 fuel cuts (cFinS Ts M e) (some c.2.2) c.1)
  | none => false
section PHASE
variable {vms : List vMt} {df : List (List vAV)} {d : Nat} {T : sHp} {Ts : List sHp} {scal scal2 : sCal} {md1 md2 : sMd} {fuel : Nat} {e : sCtE} {op op2 : sOp} {cuts cuts2 tms : List sCut}
theorem ph1 {M : vMt} (hM : vms[e.1]? = some M) (hs : ∀ hp0, sCalOK vms df d md1 hp0 scal) (h1 : pCh1 vms T scal md1 fuel e op cuts tms = true) (h2 : ∀ c ∈ cuts, pCh2 vms T scal md1 fuel e op cuts tms [c] = true) {kav : List vAV} {hp : List vOb} (hav : sAr e.2.1 kav) (hty : kTy T e.2.2.1 hp) :
    ((vArgs kav).length ≤ M.2.2.1 ∧ (mRm M).cells = 0 ∧ (mRm M).slots = 0) ∧ ∃ κ, kRe vms df d M.2.2.2.2.1 0 0 (0, vEnt kav M.2.2.1, [], hp) κ ∧ ((∃ i len a b t kr, vGet M.2.2.2.2.1 κ.1 = some (i, len, a, b, t) ∧ sFin i = true ∧ vRet M.2.2.2.1 i κ.2.2.1 = some kr ∧ sRtC e.2.2.2.1 kr ∧ sFr md1 hp κ.2.2.2 ∧ kTy T e.2.2.1 κ.2.2.2) ∨ ∃ c ∈ tms, c.1.1 = κ.1 ∧ ∃ ρ', sR md1 hp ρ' c.1.2.1 c.1.2.2.1 c.1.2.2.2.1 c.1.2.2.2.2 κ.2.1 κ.2.2.1 κ.2.2.2) := by
  unfold pCh1 at h1
  rw [vNth_eq, hM] at h1
  split at h1
  · next M' h0 hM' hh0 =>
    have hM' := Option.some.inj hM'
    subst hM'
    rw [Bool.and_eq_true, Bool.and_eq_true, Bool.and_eq_true] at h1
    obtain ⟨⟨b1, b2, b3⟩, b4⟩ := h1
    obtain ⟨xs, i1, i2⟩ := sIni_ok hav sG0
    rw [List.nil_append] at i1 i2
    obtain ⟨q1, q2⟩ := sEnt_ok i2 M.2.2.1
    refine ⟨⟨by rw [q2]; exact Nat.le_of_ble_eq_true b3, Nat.eq_of_beq_eq_true b1, Nat.eq_of_beq_eq_true b2⟩, ?_⟩
    exact sWhole (Q := fun κ => (∃ i len a b t kr, vGet M.2.2.2.2.1 κ.1 = some (i, len, a, b, t) ∧ sFin i = true ∧ vRet M.2.2.2.1 i κ.2.2.1 = some kr ∧ sRtC e.2.2.2.1 kr ∧ sFr md1 hp κ.2.2.2 ∧ kTy T e.2.2.1 κ.2.2.2) ∨ ∃ c ∈ tms, c.1.1 = κ.1 ∧ ∃ ρ', sR md1 hp ρ' c.1.2.1 c.1.2.2.1 c.1.2.2.2.1 c.1.2.2.2.2 κ.2.1 κ.2.2.1 κ.2.2.2) (mc := 0) (ms := 0) (hs hp) (fun σ ρ kl ks hp1 hfin hR => by
      rcases Bool.or_eq_true_iff.mp hfin with hf | hf
      · left
        unfold cFin at hf
        split at hf
        · next x hx =>
          obtain ⟨i, len, a, b, t⟩ := x
          rw [Bool.and_eq_true] at hf
          have h2 := hf.2
          split at h2
          · next r hr =>
            rw [Bool.and_eq_true] at h2
            obtain ⟨kr, r1, r2⟩ := sRetV_ok hR.2.2.2.1 hR.2.1 hr
            exact ⟨i, len, a, b, t, kr, hx, hf.1, r1, sRtB_ok hR.2.2.2.1 h2.1 r2, hR.2.2.2.2, sTlc_ok hR.2.2.2.1 hR.2.2.1 h2.2⟩
          · cases h2
        · cases hf
      · right
        obtain ⟨c, c1, c2, ρ', c3, -⟩ := sArr_ok hR hf
        exact ⟨c, c1, c2, ρ', c3⟩) (fun c hc => by
      have h := h2 c hc
      unfold pCh2 at h
      rw [vNth_eq, hM] at h
      dsimp only at h
      rw [List.all_cons, List.all_nil, Bool.and_true, Bool.and_eq_true] at h
      exact h) b4 (ρ := xs) (kl := vEnt kav M.2.2.1) (ks := []) (hp := hp) ⟨q1, trivial, sHr_nil (sTp_ok hh0 hty), i1, sFr.rf _ _⟩
  · cases h1
theorem ph2 {M : vMt} (hM : vms[e.1]? = some M) (hs : ∀ hp0, sCalOK vms df d md2 hp0 scal2) (h3 : ∀ c ∈ tms, pCh3 vms Ts scal2 md2 fuel e op2 cuts2 [c] = true) (h4 : ∀ c ∈ cuts2, pCh4 vms Ts scal2 md2 fuel e op2 cuts2 [c] = true) {c : sCut} (hc : c ∈ tms) {ρ : List Nat} {kl : vLs} {ks : List vAV} {hp hp1 : List vOb} (hR : sR md1 hp ρ c.1.2.1 c.1.2.2.1 c.1.2.2.2.1 c.1.2.2.2.2 kl ks hp1) :
    kEnd vms df d M (c.1.1, kl, ks, hp1) (fun kr hp' => sRtC e.2.2.2.1 kr ∧ sFr md2 hp1 hp' ∧ ∃ T' ∈ Ts, kTy T' e.2.2.1 hp') := by
  have h := h3 c hc
  unfold pCh3 at h
  rw [vNth_eq, hM] at h
  dsimp only at h
  rw [List.all_cons, List.all_nil, Bool.and_true] at h
  obtain ⟨κ, k1, i, len, a, b, t, kr, g1, g2, g3, g4, g5, g6⟩ := sWhole (Q := fun κ => ∃ i len a b t kr, vGet M.2.2.2.2.1 κ.1 = some (i, len, a, b, t) ∧ sFin i = true ∧ vRet M.2.2.2.1 i κ.2.2.1 = some kr ∧ sRtC e.2.2.2.1 kr ∧ sFr md2 hp1 κ.2.2.2 ∧ ∃ T' ∈ Ts, kTy T' e.2.2.1 κ.2.2.2) (mc := 0) (ms := 0) (hs hp1) (fun σ ρ kl ks hp2 hfin hR => by
    unfold cFinS at hfin
    split at hfin
    · next x hx =>
      obtain ⟨i, len, a, b, t⟩ := x
      rw [Bool.and_eq_true] at hfin
      have h2 := hfin.2
      split at h2
      · next r hr =>
        rw [Bool.and_eq_true] at h2
        obtain ⟨kr, r1, r2⟩ := sRetV_ok hR.2.2.2.1 hR.2.1 hr
        obtain ⟨T', t1, t2⟩ := List.any_eq_true.mp h2.2
        exact ⟨i, len, a, b, t, kr, hx, hfin.1, r1, sRtB_ok hR.2.2.2.1 h2.1 r2, hR.2.2.2.2, T', t1, sTlc_ok hR.2.2.2.1 hR.2.2.1 t2⟩
      · cases h2
    · cases hfin) (fun c' hc' => by
    have h := h4 c' hc'
    unfold pCh4 at h
    rw [vNth_eq, hM] at h
    dsimp only at h
    rw [List.all_cons, List.all_nil, Bool.and_true, Bool.and_eq_true] at h
    exact h) h (ρ := ρ) (kl := kl) (ks := ks) (hp := hp1) ⟨hR.1, hR.2.1, hR.2.2.1, hR.2.2.2.1, sFr.rf _ _⟩
  exact ⟨κ, k1, i, len, a, b, t, kr, g1, g2, g3, g4, g5, g6⟩
end PHASE
end
