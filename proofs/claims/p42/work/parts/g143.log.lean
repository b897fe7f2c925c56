/-! ===== log() of the reference empties the tape ===== -/
set_option maxRecDepth 1000000 in
theorem lg_hz : nChk0 m_X12_log hT plL (lgS mG0) mG0 [39] 3000 (0, [some zT, some (zS 0 1), none, none, none], [], []) [(39, lg5 none none none, [], [(220, 2, zK 0), (220, 47, zK 0)])] = true := by decide +kernel
set_option maxRecDepth 1000000 in
theorem lg_hh : nChk0 m_X12_log hT [220] (lgS [(220, 0, 0)]) [(220, 0, 0)] [39] 3000 (0, [some zT, some (.inr [(0, 2147483647), (2147483650, 4294967295)]), none, none, none], [], []) [(17, lgN, [zF], [])] = true := by decide +kernel
def mLh1 : sMd := [(220, 0, 0), (220, 3, 5), (220, 11, 18), (220, 47, 47), (224, 0, 163)]
def mLh : sMd := [(220, 0, 0), (220, 3, 5), (220, 11, 18), (220, 25, 25), (220, 47, 47), (220, 49, 49), (222, 64, 141), (224, 0, 163), (227, 0, 623), (228, 0, 77), (242, 0, 3)]
theorem mLl_subz {t : Nat} (ht : t ≤ 40) {hp hp' : List vOb} (h : sFr (mLl t) hp hp') : sFr mLh1 hp hp' := h.mono (fun k i ⟨m, m1, m2, m3, m4⟩ => by
  unfold mLl at m1
  simp only [List.mem_cons, List.not_mem_nil, or_false] at m1
  rcases m1 with rfl | rfl | rfl
  · exact ⟨(220, 3, 5), by decide, m2, by dsimp only at m3 ⊢; omega, by dsimp only at m4 ⊢; omega⟩
  · exact ⟨(220, 11, 18), by decide, m2, m3, m4⟩
  · exact ⟨(224, 0, 163), by decide, m2, Nat.zero_le _, by dsimp only at m4 ⊢; omega⟩)
theorem log_head1z {d : Nat} (hd : 14 ≤ d) {hp0 : List vOb} {P : Option vAV → List vOb → Prop} (ret : ∀ kr hp', sRtC (some zF) kr → kTy hT plL hp' → sFr mLh1 hp0 hp' → P kr hp') (cont : ∀ (t : Nat) (kl : vLs) (hp : List vOb), t ≤ 40 → nLr [] (lg5 none none none) kl → kTy hT plL hp → hC hp 220 47 (.inl t) → (∀ i, i < t → Rec hp i) → sFr mLh1 hp0 hp → kEnd vms vdf d m_X12_log (83, kl, [], hp) P) (n : Nat) : ∀ (t : Nat) (kl : vLs) (hp : List vOb), t + n = 40 → nLr [] (lg5 none none none) kl → kTy hT plL hp → hC hp 220 47 (.inl t) → (∀ i, i < t → Rec hp i) → sFr mLh1 hp0 hp → kEnd vms vdf d m_X12_log (39, kl, [], hp) P := by
  obtain ⟨d1, rfl⟩ : ∃ d1, d = d1 + 1 := ⟨d - 1, by omega⟩
  have key : ∀ (t : Nat) (kl : vLs) (hp : List vOb), t ≤ 40 → nLr [] (lg5 none none none) kl → kTy hT plL hp → hC hp 220 47 (.inl t) → (∀ i, i < t → Rec hp i) → sFr mLh1 hp0 hp → (t < 40 → ∀ (kl' : vLs) (hp' : List vOb), nLr [] (lg5 none none none) kl' → kTy hT plL hp' → hC hp' 220 47 (.inl (t + 1)) → (∀ i, i < t + 1 → Rec hp' i) → sFr mLh1 hp0 hp' → kEnd vms vdf (d1 + 1) m_X12_log (39, kl', [], hp') P) → kEnd vms vdf (d1 + 1) m_X12_log (39, kl, [], hp) P := by
    intro t kl hp ht hl hty htd hR hF again
    obtain ⟨κ1, B, a1, a2, a3, a4⟩ := n_ok0 (d := d1 + 1) (κ := (39, kl, [], hp)) (fun hp0 => sNo_ok) lg_i ⟨rfl, hl, trivial, hty, nCs_nil⟩
    refine kEnd.of a2 ?_
    obtain ⟨pc1, kl1, ks1, hp1⟩ := κ1
    have F1 : sFr mLh1 hp0 hp1 := hF.tr (sFr_nil a3)
    have R1 : ∀ i, i < t → Rec hp1 i := fun i hi => Rec_fr a3 (fun j _ ⟨m, m1, _⟩ => by cases m1) (hR i hi)
    simp only [List.mem_cons, List.not_mem_nil, or_false] at a1
    rcases a1 with rfl | rfl
    · have e1 : pc1 = 47 := a4.1
      subst e1
      have e2 := nAr_eq (as := [zO]) rfl a4.2.2.1
      dsimp only at e2
      subst e2
      obtain ⟨r, hp2, hcal, hty2, f2, hr⟩ := logLine_ok (d := d1) (by omega) ht a4.2.2.2.1 (hC_fr0 a3 htd)
      have k2 := z_call' (M := m_X12_log) (kl := kl1) lg_t'.1 (show vTk 0 [] [zO] = some ([], [zO]) from rfl) (by decide) a4.2.2.2.1 hcal
      have F2 := F1.tr (mLl_subz ht f2)
      refine kEnd.of k2 ?_
      rcases hr with rfl | ⟨rfl, ht40, hrec⟩
      · obtain ⟨κ3, b2, b3, b4⟩ := n_one (d := d1 + 1) (κ := (47 + 3, kl1, [.inl 0], hp2)) (fun hp0 => sNo_ok) lg_j ⟨rfl, a4.2.1, ⟨⟨by omega, rfl⟩, trivial⟩, hty2, nCs_nil⟩
        exact kEnd.of b2 (n_ret (List.all_eq_true.mp lg_r 69 (by decide)) b4 (fun kr hkr => ret kr _ hkr b4.2.2.2.1 (F2.tr (sFr_nil b3))))
      · have hm : ∀ i j, i < t → j < 4 → ¬ sMin (mLl t) 224 (4 * i + j) := fun i j hi hj ⟨m, m1, m2, m3, m4⟩ => by
          unfold mLl at m1
          simp only [List.mem_cons, List.not_mem_nil, or_false] at m1
          rcases m1 with rfl | rfl | rfl <;> dsimp only at m2 m3 m4 <;> omega
        have htd2 : hC hp2 220 47 (.inl t) := hC_fr f2 (fun ⟨m, m1, m2, m3, m4⟩ => by
          unfold mLl at m1
          simp only [List.mem_cons, List.not_mem_nil, or_false] at m1
          rcases m1 with rfl | rfl | rfl <;> dsimp only at m2 m3 m4 <;> omega) (hC_fr0 a3 htd)
        have R2 : ∀ i, i < t + 1 → Rec hp2 i := fun i hi => by
          by_cases e : i = t
          · subst e; exact hrec
          · exact Rec_fr f2 (fun j hj => hm i j (by omega) hj) (R1 i (by omega))
        obtain ⟨κ3, B, b1, b2, b3, b4⟩ := n_ok0 (d := d1 + 1) (κ := (47 + 3, kl1, [.inl 1], hp2)) (lgS_ok (by omega)) (List.all_eq_true.mp lg_k t (List.mem_range.mpr ht40)) ⟨rfl, a4.2.1, ⟨⟨by omega, rfl⟩, trivial⟩, hty2, nCs_cons (by omega) htd2 nCs_nil⟩
        refine kEnd.of b2 ?_
        have F3 : sFr mLh1 hp0 κ3.2.2.2 := F2.tr (b3.mono (sMsub_ok (by decide)))
        simp only [List.mem_cons, List.not_mem_nil, or_false] at b1
        rcases b1 with rfl | rfl
        · exact n_ret (List.all_eq_true.mp lg_r 69 (by decide)) b4 (fun kr hkr => ret kr _ hkr b4.2.2.2.1 F3)
        · obtain ⟨pc3, kl3, ks3, hp3⟩ := κ3
          have e3 : pc3 = 39 := b4.1
          subst e3
          have e4 := nAr_eq (as := []) rfl b4.2.2.1
          dsimp only at e4
          subst e4
          exact again ht40 kl3 hp3 b4.2.1 b4.2.2.2.1 (nSat_cell b4 List.mem_cons_self) (fun i hi => Rec_fr b3 (fun j _ => sMnot_ok rfl) (R2 i hi)) F3
    · have e1 : pc1 = 83 := a4.1
      subst e1
      have e2 := nAr_eq (as := []) rfl a4.2.2.1
      dsimp only at e2
      subst e2
      exact cont t kl1 hp1 ht a4.2.1 a4.2.2.2.1 (hC_fr0 a3 htd) R1 F1
  induction n with
  | zero =>
    intro t kl hp hn hl hty htd hR hF
    exact key t kl hp (by omega) hl hty htd hR hF (fun h => by omega)
  | succ n ih =>
    intro t kl hp hn hl hty htd hR hF
    exact key t kl hp (by omega) hl hty htd hR hF (fun h kl' hp' => ih (t + 1) kl' hp' (by omega))
def logQ (T : sHp) (hp : List vOb) (kr : Option vAV) (hp' : List vOb) : Prop := sRtC (some zF) kr ∧ kTy T plG hp' ∧ sFr mLh hp hp'
theorem log_Z {T : sHp} {S : sMd → sCal} (hV : lgV T S) {d : Nat} (hd : 34 ≤ d) {hp : List vOb} {l : Nat} (hl : l < 2) (hty : kTy T plG hp) : ∃ r hp', (∃ N, ∀ fuel, N ≤ fuel → vCalD vms vdf fuel (d + 1) 251 [zO, .inl l] hp = some (r, hp', 0, 0)) ∧ hC hp' 220 2 (.inl 0) := by
  have hV' := hV
  obtain ⟨⟨o, ho⟩, hS, hA, hB, hC3, hK, hW⟩ := hV
  have hTL : kTy hT plL hp := kW_of hW hp (kTy_sub (by decide) hty)
  -- the typing after what the parser may change
  have up : ∀ hp', kTy hT plL hp' → sFr mLg1 hp hp' → kTy T plG hp' := fun hp' h1 h2 => by
    have h3 : kTy T [222, 227, 228, 242] hp' := kTy_frame (by decide) h2 (kTy_sub (by decide) hty)
    have h4 : kTy T [220, 221, 224, 225, 226] hp' := by
      rw [ho]
      exact (kTy_cons (by decide)).mpr (kTy_sub (by decide) h1)
    exact kTy_or (by decide) h3 h4
  refine kEnd_cal hM_log (show 2 ≤ 5 by omega) rfl rfl ?_
  obtain ⟨κ1, a2, a3, a4⟩ := n_one (d := d) (κ := (0, [some zO, some (.inl l), none, none, none], [], hp)) (lgS_ok (by omega)) lg_hz ⟨rfl, nLr_this ⟨fun c hc => by cases hc; exact ⟨_, rfl, l, by omega, sIn_one (by unfold sBi; omega) (by unfold sBi; omega), rfl⟩, nLr_none (nLr_none (nLr_none trivial))⟩, trivial, hTL, nCs_nil⟩
  have F1 : sFr mLg1 hp κ1.2.2.2 := a3.mono (sMsub_ok (by decide))
  obtain ⟨pc1, kl1, ks1, hp1⟩ := κ1
  have e1 : pc1 = 39 := a4.1
  subst e1
  have e2 := nAr_eq (as := []) rfl a4.2.2.1
  dsimp only at e2
  subst e2
  dsimp only at F1
  have hz : hC hp1 220 2 (.inl 0) := nSat_cell a4 List.mem_cons_self
  have ret : ∀ kr hp', sRtC (some zF) kr → kTy hT plL hp' → sFr mLh1 hp1 hp' → logQ T hp1 kr hp' := fun kr hp' h1 h2 h3 => ⟨h1, up hp' h2 (F1.tr (h3.mono (sMsub_ok (by decide)))), h3.mono (sMsub_ok (by decide))⟩
  refine kEnd.of a2 (kEnd.mono (P := logQ T hp1) ?_ (fun kr hp' h => hC_fr h.2.2 (sMnot_ok rfl) hz))
  refine log_head1z (by omega) ret (fun t kl hp2 ht hl2 hty2 htd2 hR2 hF2 => ?_) 40 0 kl1 hp1 (by omega) a4.2.1 a4.2.2.2.1 (nSat_cell a4 (List.mem_cons_of_mem _ List.mem_cons_self)) (fun i hi => by omega) (sFr.rf _ _)
  have T2 : kTy T plG hp2 := up hp2 hty2 (F1.tr (hF2.mono (sMsub_ok (by decide))))
  obtain ⟨κ3, b2, b3, b4⟩ := n_one (d := d) (κ := (83, kl, [], hp2)) (fun hp0 => hS mP1 d hp0 hd) hA ⟨rfl, hl2, trivial, kTy_sub (by decide) T2, nCs_nil⟩
  refine kEnd.of b2 ?_
  obtain ⟨pc3, kl3, ks3, hp3⟩ := κ3
  have e3 : pc3 = 111 := b4.1
  subst e3
  have e4 := nAr_eq (as := []) rfl b4.2.2.1
  dsimp only at e4
  subst e4
  have F3 : sFr mLh hp1 hp3 := (hF2.mono (sMsub_ok (by decide))).tr (b3.mono (sMsub_ok (by decide)))
  have T3 : kTy T [221, 225, 226] hp3 := kTy_frame (by decide) b3 (kTy_sub (by decide) T2)
  refine log_head2 hV' hd ht (hp0 := hp3) (fun kl5 hp5 hl5 hty5 hF5 => ?_) t 0 kl3 hp3 (by omega) b4.2.1 b4.2.2.2.1 (hC_fr b3 (sMnot_ok rfl) htd2) (fun j hj => Rec_fr b3 (fun j _ => sMnot_ok rfl) (hR2 j hj)) (sFr.rf _ _)
  have T5 : kTy T [221, 225, 226] hp5 := kTy_frame (by decide) hF5 T3
  have F5 : sFr mLh hp1 hp5 := F3.tr (hF5.mono (sMsub_ok (by decide)))
  obtain ⟨κ6, B, c1, c2, c3, c4⟩ := n_ok0 (d := d) (κ := (202, kl5, [], hp5)) (fun hp0 => hS mP3 d hp0 hd) hC3 ⟨rfl, hl5, trivial, hty5, nCs_nil⟩
  refine kEnd.of c2 ?_
  have T6 : kTy T [221, 225, 226] κ6.2.2.2 := kTy_frame (by decide) c3 T5
  have F6 : sFr mLh hp1 κ6.2.2.2 := F5.tr (c3.mono (sMsub_ok (by decide)))
  simp only [List.mem_cons, List.not_mem_nil, or_false] at c1
  rcases c1 with rfl | rfl
  · obtain ⟨pc6, kl6, ks6, hp6⟩ := κ6
    have e5 : pc6 = 245 := c4.1
    subst e5
    have e6 := nAr_eq (as := [zO]) rfl c4.2.2.1
    dsimp only at e6
    subst e6
    have h220 : kTy hT [220] hp6 := by
      have h := c4.2.2.2.1
      rw [ho] at h
      exact (kTy_cons (by decide)).mp (kTy_sub (pl' := [220]) (by decide) h)
    obtain ⟨hp7, hcal, f7, hty7, u, hu, hu2⟩ := hK d hp6 (by omega) (kTy_sub (by decide) c4.2.2.2.1)
    have k7 := z_call' (M := m_X12_log) (kl := kl6) lg_t'.2 (show vTk 0 [] [zO] = some ([], [zO]) from rfl) (by decide) h220 hcal
    have T7 : kTy T plG hp7 := by
      have h3 : kTy T [224, 228, 242] hp7 := kTy_frame (by decide) f7 (kTy_sub (by decide) c4.2.2.2.1)
      have h4 : kTy T [221, 225, 226] hp7 := kTy_frame (by decide) f7 T6
      exact kTy_or (pl1 := [220, 222, 227]) (pl2 := [224, 228, 242, 221, 225, 226]) (by decide) hty7 (kTy_or (by decide) h3 h4)
    have h8 : kTy hT [220, 227, 228] hp7 := by
      have h := T7
      rw [ho] at h
      exact (kTy_cons (by decide)).mp (kTy_sub (pl' := [220, 227, 228]) (by decide) h)
    obtain ⟨κ8, i2, i3, i4⟩ := n_one (d := d) (κ := (245 + 3, kl6, [], hp7)) (fun hp0 => sNo_ok) (List.all_eq_true.mp lg_d u (List.mem_range.mpr hu)) ⟨rfl, c4.2.1, trivial, h8, nCs_cons (by omega) hu2 nCs_nil⟩
    refine kEnd.of k7 (kEnd.of i2 (n_ret (List.all_eq_true.mp lg_r 293 (by decide)) i4 (fun kr hkr => ⟨hkr, ?_, (F6.tr (f7.mono (sMsub_ok (by decide)))).tr (i3.mono (sMsub_ok (by decide)))⟩)))
    have h9 : kTy T [221, 222, 224, 225, 226, 242] κ8.2.2.2 := kTy_frame (by decide) i3 (kTy_sub (by decide) T7)
    have h10 : kTy T [220, 227, 228] κ8.2.2.2 := by
      rw [ho]
      exact (kTy_cons (by decide)).mpr i4.2.2.2.1
    exact kTy_or (by decide) h9 h10
  · exact n_ret (List.all_eq_true.mp lg_r 293 (by decide)) c4 (fun kr hkr => ⟨hkr, kTy_or (by decide) c4.2.2.2.1 T6, F6⟩)
