section
/-! ===== typings and frames ===== -/
theorem sHas_no {k i : Nat} : ∀ {md : sMd}, sHas k md = false → ¬ sMin md k i
  | [], _, ⟨m, m1, _⟩ => by cases m1
  | a :: l, h, ⟨m, m1, m2, m3⟩ => by
    unfold sHas at h
    cases hb : Nat.beq a.1 k with
    | true => rw [hb] at h; cases h
    | false =>
      rw [hb, cond_false] at h
      rcases List.mem_cons.mp m1 with e | e
      · subst e
        rw [m2, Nat.beq_refl] at hb
        cases hb
      · exact sHas_no h ⟨m, e, m2, m3⟩
theorem row_same {md : sMd} {hp hp' : List vOb} {k : Nat} {ob : vOb} (hf : sFr md hp hp') (hm : sHas k md = false) (ho : hp[k]? = some ob) : hp'[k]? = some ob := by
  obtain ⟨o, q1, q2, q3, q4⟩ := hf.2 _ _ ho
  have e : o = ob := Prod.ext q2 (List.ext_getElem? (fun i => q4 i (sHas_no hm)))
  rw [q1, e]
theorem kTy_frame {T : sHp} {pl : List Nat} {md : sMd} {hp hp' : List vOb} (hm : pl.all (fun k => !sHas k md) = true) (hf : sFr md hp hp') (h : kTy T pl hp) : kTy T pl hp' := fun k hk => by
  obtain ⟨oT, ob, h1, h2, h3⟩ := h k hk
  have := List.all_eq_true.mp hm k hk
  exact ⟨oT, ob, h1, row_same hf (by cases hb : sHas k md with
    | false => rfl
    | true => rw [hb] at this; cases this) h2, h3⟩
theorem kTy_or {T : sHp} {pl pl1 pl2 : List Nat} {hp : List vOb} (h : pl.all (fun k => sStop k pl1 || sStop k pl2) = true) (h1 : kTy T pl1 hp) (h2 : kTy T pl2 hp) : kTy T pl hp := fun k hk => by
  rcases Bool.or_eq_true_iff.mp (List.all_eq_true.mp h k hk) with e | e
  · exact h1 k (sStop_mem e)
  · exact h2 k (sStop_mem e)
theorem kTy_cell {T : sHp} {pl : List Nat} {hp : List vOb} {k i : Nat} {c : sC} (hk : k ∈ pl) (hT : (match sGo T k with | some o => sRd o.2.1 i | none => none) = some c) (h : kTy T pl hp) : ∃ v, hC hp k i v ∧ sCr [] c v := by
  obtain ⟨oT, ob, g1, g2, g3⟩ := h k hk
  rw [g1] at hT
  dsimp only at hT
  have hl : i < ob.2.length := by rw [g3.2.1.1]; exact sRd_lt hT
  exact ⟨_, ⟨ob, g2, List.getElem?_eq_getElem hl⟩, g3.2.1.2 i c _ hT (List.getElem?_eq_getElem hl)⟩
/-! ===== log() ===== -/
def mLg1 : sMd := [(220, 0, 0), (220, 2, 5), (220, 11, 18), (220, 47, 47), (224, 0, 163)]
def mLg : sMd := [(220, 0, 0), (220, 2, 5), (220, 11, 18), (220, 25, 25), (220, 47, 47), (220, 49, 49), (222, 64, 141), (224, 0, 163), (227, 0, 623), (228, 0, 77), (242, 0, 3)]
theorem lg_t' : zCb m_X12_log 47 249 0 = true ∧ zCb m_X12_log 245 127 0 = true := by
  have h := lg_t
  rw [Bool.and_eq_true] at h
  exact h
theorem mLl_sub {t : Nat} (ht : t ≤ 40) {hp hp' : List vOb} (h : sFr (mLl t) hp hp') : sFr mLg1 hp hp' := h.mono (fun k i ⟨m, m1, m2, m3, m4⟩ => by
  unfold mLl at m1
  simp only [List.mem_cons, List.not_mem_nil, or_false] at m1
  rcases m1 with rfl | rfl | rfl
  · exact ⟨(220, 2, 5), by decide, m2, by dsimp only at m3 ⊢; omega, by dsimp only at m4 ⊢; omega⟩
  · exact ⟨(220, 11, 18), by decide, m2, m3, m4⟩
  · exact ⟨(224, 0, 163), by decide, m2, Nat.zero_le _, by dsimp only at m4 ⊢; omega⟩)
theorem sFr_nil {md : sMd} {hp hp' : List vOb} (h : sFr [] hp hp') : sFr md hp hp' := h.mono (fun k i ⟨m, m1, _⟩ => by cases m1)
theorem log_head1 {d : Nat} (hd : 14 ≤ d) {hp0 : List vOb} {P : Option vAV → List vOb → Prop} (ret : ∀ kr hp', sRtC (some zF) kr → kTy hT plL hp' → sFr mLg1 hp0 hp' → P kr hp') (cont : ∀ (t : Nat) (kl : vLs) (hp : List vOb), t ≤ 40 → nLr [] (lg5 none none none) kl → kTy hT plL hp → hC hp 220 47 (.inl t) → (∀ i, i < t → Rec hp i) → sFr mLg1 hp0 hp → kEnd vms vdf d m_X12_log (83, kl, [], hp) P) (n : Nat) : ∀ (t : Nat) (kl : vLs) (hp : List vOb), t + n = 40 → nLr [] (lg5 none none none) kl → kTy hT plL hp → hC hp 220 47 (.inl t) → (∀ i, i < t → Rec hp i) → sFr mLg1 hp0 hp → kEnd vms vdf d m_X12_log (39, kl, [], hp) P := by
  obtain ⟨d1, rfl⟩ : ∃ d1, d = d1 + 1 := ⟨d - 1, by omega⟩
  have key : ∀ (t : Nat) (kl : vLs) (hp : List vOb), t ≤ 40 → nLr [] (lg5 none none none) kl → kTy hT plL hp → hC hp 220 47 (.inl t) → (∀ i, i < t → Rec hp i) → sFr mLg1 hp0 hp → (t < 40 → ∀ (kl' : vLs) (hp' : List vOb), nLr [] (lg5 none none none) kl' → kTy hT plL hp' → hC hp' 220 47 (.inl (t + 1)) → (∀ i, i < t + 1 → Rec hp' i) → sFr mLg1 hp0 hp' → kEnd vms vdf (d1 + 1) m_X12_log (39, kl', [], hp') P) → kEnd vms vdf (d1 + 1) m_X12_log (39, kl, [], hp) P := by
    intro t kl hp ht hl hty htd hR hF again
    obtain ⟨κ1, B, a1, a2, a3, a4⟩ := n_ok0 (d := d1 + 1) (κ := (39, kl, [], hp)) (fun hp0 => sNo_ok) lg_i ⟨rfl, hl, trivial, hty, nCs_nil⟩
    refine kEnd.of a2 ?_
    obtain ⟨pc1, kl1, ks1, hp1⟩ := κ1
    have F1 : sFr mLg1 hp0 hp1 := hF.tr (sFr_nil a3)
    have R1 : ∀ i, i < t → Rec hp1 i := fun i hi => Rec_fr a3 (fun j _ ⟨m, m1, _⟩ => by cases m1) (hR i hi)
    simp only [List.mem_cons, List.not_mem_nil, or_false] at a1
    rcases a1 with rfl | rfl
    · have e1 : pc1 = 47 := a4.1
      subst e1
      have e2 := nAr_eq (as := [zO]) rfl a4.2.2.1
      dsimp only at e2
      subst e2
      obtain ⟨r, hp2, hcal, hty2, f2, hr⟩ := logLine_ok (d := d1) (by omega) ht a4.2.2.2.1 (hC_fr0 a3 htd)
      have k2 := z_call' (M := m_X12_log) (kl := kl1) lg_t'.1 (show vTk 0 [] [zO] = some ([], [zO]) from rfl) (by decide) a4.2.2.2.1 hcal
      have F2 := F1.tr (mLl_sub ht f2)
      refine kEnd.of k2 ?_
      rcases hr with rfl | ⟨rfl, ht40, hrec⟩
      · obtain ⟨κ3, b2, b3, b4⟩ := n_one (d := d1 + 1) (κ := (47 + 3, kl1, [.inl 0], hp2)) (fun hp0 => sNo_ok) lg_j ⟨rfl, a4.2.1, ⟨⟨by omega, rfl⟩, trivial⟩, hty2, nCs_nil⟩
        exact kEnd.of b2 (n_ret (List.all_eq_true.mp lg_r 69 (by decide)) b4 (fun kr hkr => ret kr _ hkr b4.2.2.2.1 (F2.tr (sFr_nil b3))))
      · have hm : ∀ i j, i < t → j < 4 → ¬ sMin (mLl t) 224 (4 * i + j) := fun i j hi hj ⟨m, m1, m2, m3, m4⟩ => by
          unfold mLl at m1
          simp only [List.mem_cons, List.not_mem_nil, or_false] at m1
          rcases m1 with rfl | rfl | rfl <;> dsimp only at m2 m3 m4 <;> omega
        have htd2 : hC hp2 220 47 (.inl t) := hC_fr f2 (fun ⟨m, m1, m2, m3, m4⟩ => by
          unfold mLl at m1
          simp only [List.mem_cons, List.not_mem_nil, or_false] at m1
          rcases m1 with rfl | rfl | rfl <;> dsimp only at m2 m3 m4 <;> omega) (hC_fr0 a3 htd)
        have R2 : ∀ i, i < t + 1 → Rec hp2 i := fun i hi => by
          by_cases e : i = t
          · subst e; exact hrec
          · exact Rec_fr f2 (fun j hj => hm i j (by omega) hj) (R1 i (by omega))
        obtain ⟨κ3, B, b1, b2, b3, b4⟩ := n_ok0 (d := d1 + 1) (κ := (47 + 3, kl1, [.inl 1], hp2)) (lgS_ok (by omega)) (List.all_eq_true.mp lg_k t (List.mem_range.mpr ht40)) ⟨rfl, a4.2.1, ⟨⟨by omega, rfl⟩, trivial⟩, hty2, nCs_cons (by omega) htd2 nCs_nil⟩
        refine kEnd.of b2 ?_
        have F3 : sFr mLg1 hp0 κ3.2.2.2 := F2.tr (b3.mono (sMsub_ok (by decide)))
        simp only [List.mem_cons, List.not_mem_nil, or_false] at b1
        rcases b1 with rfl | rfl
        · exact n_ret (List.all_eq_true.mp lg_r 69 (by decide)) b4 (fun kr hkr => ret kr _ hkr b4.2.2.2.1 F3)
        · obtain ⟨pc3, kl3, ks3, hp3⟩ := κ3
          have e3 : pc3 = 39 := b4.1
          subst e3
          have e4 := nAr_eq (as := []) rfl b4.2.2.1
          dsimp only at e4
          subst e4
          exact again ht40 kl3 hp3 b4.2.1 b4.2.2.2.1 (nSat_cell b4 List.mem_cons_self) (fun i hi => Rec_fr b3 (fun j _ => sMnot_ok rfl) (R2 i hi)) F3
    · have e1 : pc1 = 83 := a4.1
      subst e1
      have e2 := nAr_eq (as := []) rfl a4.2.2.1
      dsimp only at e2
      subst e2
      exact cont t kl1 hp1 ht a4.2.1 a4.2.2.2.1 (hC_fr0 a3 htd) R1 F1
  induction n with
  | zero =>
    intro t kl hp hn hl hty htd hR hF
    exact key t kl hp (by omega) hl hty htd hR hF (fun h => by omega)
  | succ n ih =>
    intro t kl hp hn hl hty htd hR hF
    exact key t kl hp (by omega) hl hty htd hR hF (fun h kl' hp' => ih (t + 1) kl' hp' (by omega))
theorem lgR_ok {hp : List vOb} {i : Nat} (h : Rec hp i) : ∃ w, w ∈ [0, 1, 2, 3, 4] ∧ nCs [] hp (lgR i w) := by
  obtain ⟨w, a, b, e, h1, h2, h3, h4, h5⟩ := h
  rcases h5 with ⟨rfl, q1, q2⟩ | ⟨rfl, q1, q2, q3⟩ | ⟨rfl, q1, q2⟩ | ⟨rfl, q1⟩ | ⟨rfl, q1, q2⟩
  · exact ⟨0, by decide, nCs_cons (by omega) h1 (nCs_cset (by omega) h2 (by omega) q1 (nCs_cset (by omega) h3 (by omega) q2 nCs_nil))⟩
  · exact ⟨1, by decide, nCs_cons (by omega) h1 (nCs_cset (by omega) h2 (by omega) q1 (nCs_cset (by omega) h3 (by omega) q2 (nCs_cset (by omega) h4 (by omega) q3 nCs_nil)))⟩
  · exact ⟨2, by decide, nCs_cons (by omega) h1 (nCs_cset (by omega) h2 (by omega) q1 (nCs_cset (by omega) h3 (by omega) q2 nCs_nil))⟩
  · exact ⟨3, by decide, nCs_cons (by omega) h1 (nCs_cset (by omega) h3 (by omega) q1 nCs_nil)⟩
  · exact ⟨4, by decide, nCs_cons (by omega) h1 (nCs_cset (by omega) h2 q1 q2 nCs_nil)⟩
/-- what is asked of a variant -/
def lgV (T : sHp) (S : sMd → sCal) : Prop := (∃ o, T = (222, o) :: hT) ∧ (∀ (md : sMd) (d : Nat) (hp0 : List vOb), 34 ≤ d → sCalOK vms vdf d md hp0 (S md)) ∧ nChk0 m_X12_log T plH (S mP1) mP1 [111] 3000 (83, lg5 none none none, [], []) [(111, lg5 (some zM1) (some (zK 0)) none, [], [])] = true ∧ (∀ i w, i < 40 → w ∈ [0, 1, 2, 3, 4] → nChk0 m_X12_log T plH (S mP2) mP2 [111] 3000 (123, lg5 (some zM1) (some (zK i)) none, [], lgR i w) [(111, lg5 (some zM1) (some (zK (i + 1))) none, [], []), (111, lg5 (some (zK i)) (some (zK (i + 1))) none, [], [])] = true) ∧ nChk0 m_X12_log T plH (S mP3) mP3 [245] 3000 (202, lg5 (some zF) none none, [], []) [(245, [some zT, some (zK 1), some zF, none, none], [zT], []), (293, lgN, [zF], [])] = true ∧ (∀ (d : Nat) (hp : List vOb), 7 ≤ d → kTy T [220, 222, 227] hp → ∃ hp', (∃ N, ∀ fuel, N ≤ fuel → vCalD vms vdf fuel d 127 [zO] hp = some (none, hp', 0, 0)) ∧ sFr [(220, 25, 25), (227, 0, 623)] hp hp' ∧ kTy T [220, 222, 227] hp' ∧ ∃ u, u < 8 ∧ hC hp' 220 25 (.inl (u + 1))) ∧ kWb T hT plL = true
theorem log_head2 {T : sHp} {S : sMd → sCal} (hV : lgV T S) {d t : Nat} (hd : 34 ≤ d) (ht : t ≤ 40) {hp0 : List vOb} {P : Option vAV → List vOb → Prop} (cont : ∀ (kl : vLs) (hp : List vOb), nLr [] (lg5 (some zF) none none) kl → kTy T plH hp → sFr mP2 hp0 hp → kEnd vms vdf d m_X12_log (202, kl, [], hp) P) (n : Nat) : ∀ (i : Nat) (kl : vLs) (hp : List vOb), i + n = t → nLr [] (lg5 (some zM1) (some (zK i)) none) kl → kTy T plH hp → hC hp 220 47 (.inl t) → (∀ j, j < t → Rec hp j) → sFr mP2 hp0 hp → kEnd vms vdf d m_X12_log (111, kl, [], hp) P := by
  obtain ⟨⟨o, ho⟩, hS, -, hB, -, -, -⟩ := hV
  have h220 : ∀ hp, kTy T plH hp → kTy hT [220] hp := fun hp h => by
    rw [ho] at h
    exact (kTy_cons (by decide)).mp (kTy_sub (pl' := [220]) (by decide) h)
  induction n with
  | zero =>
    intro i kl hp hin hl hty htd hR hF
    have ei : i = t := by omega
    subst ei
    obtain ⟨κ1, a2, a3, a4⟩ := n_one (d := d) (κ := (111, kl, [], hp)) (fun hp0 => sNo_ok) (List.all_eq_true.mp lg_f i (List.mem_range.mpr (by omega))) ⟨rfl, hl, trivial, h220 hp hty, nCs_cons (by omega) htd nCs_nil⟩
    obtain ⟨pc1, kl1, ks1, hp1⟩ := κ1
    have e1 : pc1 = 202 := a4.1
    subst e1
    have e2 := nAr_eq (as := []) rfl a4.2.2.1
    dsimp only at e2
    subst e2
    exact kEnd.of a2 (cont kl1 hp1 a4.2.1 (kTy_fr0 a3 hty) (hF.tr (sFr_nil a3)))
  | succ n ih =>
    intro i kl hp hin hl hty htd hR hF
    obtain ⟨κ1, a2, a3, a4⟩ := n_one (d := d) (κ := (111, kl, [], hp)) (fun hp0 => sNo_ok) (List.all_eq_true.mp (List.all_eq_true.mp lg_e t (List.mem_range.mpr (by omega))) i (List.mem_range.mpr (by omega))) ⟨rfl, hl, trivial, h220 hp hty, nCs_cons (by omega) htd nCs_nil⟩
    refine kEnd.of a2 ?_
    have R1 : ∀ j, j < t → Rec κ1.2.2.2 j := fun j hj => Rec_fr a3 (fun j _ ⟨m, m1, _⟩ => by cases m1) (hR j hj)
    obtain ⟨w, hw, hcs⟩ := lgR_ok (R1 i (by omega))
    obtain ⟨κ2, B, b1, b2, b3, b4⟩ := n_ok0 (d := d) (κ := κ1) (fun hp0 => hS mP2 d hp0 hd) (hB i w (by omega) hw) ⟨a4.1, a4.2.1, a4.2.2.1, kTy_fr0 a3 hty, hcs⟩
    refine kEnd.of b2 ?_
    obtain ⟨pc2, kl2, ks2, hp2⟩ := κ2
    have F2 : sFr mP2 hp0 hp2 := (hF.tr (sFr_nil a3)).tr b3
    have htd2 : hC hp2 220 47 (.inl t) := hC_fr b3 (sMnot_ok rfl) (hC_fr0 a3 htd)
    have R2 : ∀ j, j < t → Rec hp2 j := fun j hj => Rec_fr b3 (fun j _ => sMnot_ok rfl) (R1 j hj)
    simp only [List.mem_cons, List.not_mem_nil, or_false] at b1
    rcases b1 with rfl | rfl
    · have e1 : pc2 = 111 := b4.1
      subst e1
      have e2 := nAr_eq (as := []) rfl b4.2.2.1
      dsimp only at e2
      subst e2
      exact ih (i + 1) kl2 hp2 (by omega) b4.2.1 b4.2.2.2.1 htd2 R2 F2
    · have e1 : pc2 = 111 := b4.1
      subst e1
      have e2 := nAr_eq (as := []) rfl b4.2.2.1
      dsimp only at e2
      subst e2
      have hl2 : nLr [] (lg5 (some (zS 0 39)) (some (zS 0 40)) none) kl2 := by
        have h := b4.2.1
        dsimp only at h
        match kl2, h with
        | [], h => exact h.elim
        | [_], h => exact h.2.elim
        | [_, _], h => exact h.2.2.elim
        | [_, _, _], h => exact h.2.2.2.elim
        | [_, _, _, _], h => exact h.2.2.2.2.elim
        | _ :: _ :: _ :: _ :: _ :: _ :: _, h => exact h.2.2.2.2.2.elim
        | [k0, k1, k2, k3, k4], h =>
          refine ⟨h.1, h.2.1, fun c hc => ?_, fun c hc => ?_, h.2.2.2.2.1, trivial⟩
          · cases hc
            obtain ⟨y, y1, y2, y3⟩ := h.2.2.1 _ rfl
            exact ⟨y, y1, i, y2, sIn_one (by unfold sBi; omega) (by unfold sBi; omega), y3⟩
          · cases hc
            obtain ⟨y, y1, y2, y3⟩ := h.2.2.2.1 _ rfl
            exact ⟨y, y1, i + 1, y2, sIn_one (by unfold sBi; omega) (by unfold sBi; omega), y3⟩
      obtain ⟨κ3, c2, c3, c4⟩ := n_one (d := d) (κ := (111, kl2, [], hp2)) (fun hp0 => sNo_ok) lg_g ⟨rfl, hl2, trivial, h220 _ b4.2.2.2.1, nCs_nil⟩
      obtain ⟨pc3, kl3, ks3, hp3⟩ := κ3
      have e3 : pc3 = 202 := c4.1
      subst e3
      have e4 := nAr_eq (as := []) rfl c4.2.2.1
      dsimp only at e4
      subst e4
      exact kEnd.of c2 (cont kl3 hp3 c4.2.1 (kTy_fr0 c3 b4.2.2.2.1) (F2.tr (sFr_nil c3)))
def logP (T : sHp) (hp : List vOb) (kr : Option vAV) (hp' : List vOb) : Prop := sRtC (some zF) kr ∧ kTy T plG hp' ∧ sFr mLg hp hp'
theorem log_okV {T : sHp} {S : sMd → sCal} (hV : lgV T S) {d : Nat} (hd : 34 ≤ d) {hp : List vOb} {l : Nat} (hl : l < 4294967296) (hty : kTy T plG hp) : ∃ r hp', (∃ N, ∀ fuel, N ≤ fuel → vCalD vms vdf fuel (d + 1) 251 [zO, .inl l] hp = some (r, hp', 0, 0)) ∧ logP T hp r hp' := by
  have hV' := hV
  obtain ⟨⟨o, ho⟩, hS, hA, hB, hC3, hK, hW⟩ := hV
  have hTL : kTy hT plL hp := kW_of hW hp (kTy_sub (by decide) hty)
  -- the typing after what the parser may change
  have up : ∀ hp', kTy hT plL hp' → sFr mLg1 hp hp' → kTy T plG hp' := fun hp' h1 h2 => by
    have h3 : kTy T [222, 227, 228, 242] hp' := kTy_frame (by decide) h2 (kTy_sub (by decide) hty)
    have h4 : kTy T [220, 221, 224, 225, 226] hp' := by
      rw [ho]
      exact (kTy_cons (by decide)).mpr (kTy_sub (by decide) h1)
    exact kTy_or (by decide) h3 h4
  refine kEnd_cal hM_log (show 2 ≤ 5 by omega) rfl rfl ?_
  obtain ⟨κ1, B, a1, a2, a3, a4⟩ := n_ok0 (d := d) (κ := (0, [some zO, some (.inl l), none, none, none], [], hp)) (lgS_ok (by omega)) lg_h ⟨rfl, nLr_this ⟨fun c hc => by cases hc; exact ⟨_, rfl, l, hl, sIn_full (sBi_lt l), rfl⟩, nLr_none (nLr_none (nLr_none trivial))⟩, trivial, hTL, nCs_nil⟩
  refine kEnd.of a2 ?_
  have F1 : sFr mLg1 hp κ1.2.2.2 := a3.mono (sMsub_ok (by decide))
  have ret : ∀ kr hp', sRtC (some zF) kr → kTy hT plL hp' → sFr mLg1 hp hp' → logP T hp kr hp' := fun kr hp' h1 h2 h3 => ⟨h1, up hp' h2 h3, h3.mono (sMsub_ok (by decide))⟩
  simp only [List.mem_cons, List.not_mem_nil, or_false] at a1
  rcases a1 with rfl | rfl
  · exact n_ret (List.all_eq_true.mp lg_r 17 (by decide)) a4 (fun kr hkr => ret kr _ hkr a4.2.2.2.1 F1)
  obtain ⟨pc1, kl1, ks1, hp1⟩ := κ1
  have e1 : pc1 = 39 := a4.1
  subst e1
  have e2 := nAr_eq (as := []) rfl a4.2.2.1
  dsimp only at e2
  subst e2
  refine log_head1 (by omega) ret (fun t kl hp2 ht hl2 hty2 htd2 hR2 hF2 => ?_) 40 0 kl1 hp1 (by omega) a4.2.1 a4.2.2.2.1 (nSat_cell a4 List.mem_cons_self) (fun i hi => by omega) F1
  have T2 : kTy T plG hp2 := up hp2 hty2 hF2
  obtain ⟨κ3, b2, b3, b4⟩ := n_one (d := d) (κ := (83, kl, [], hp2)) (fun hp0 => hS mP1 d hp0 hd) hA ⟨rfl, hl2, trivial, kTy_sub (by decide) T2, nCs_nil⟩
  refine kEnd.of b2 ?_
  obtain ⟨pc3, kl3, ks3, hp3⟩ := κ3
  have e3 : pc3 = 111 := b4.1
  subst e3
  have e4 := nAr_eq (as := []) rfl b4.2.2.1
  dsimp only at e4
  subst e4
  have F3 : sFr mLg hp hp3 := (hF2.mono (sMsub_ok (by decide))).tr (b3.mono (sMsub_ok (by decide)))
  have T3 : kTy T [221, 225, 226] hp3 := kTy_frame (by decide) b3 (kTy_sub (by decide) T2)
  refine log_head2 hV' hd ht (hp0 := hp3) (fun kl5 hp5 hl5 hty5 hF5 => ?_) t 0 kl3 hp3 (by omega) b4.2.1 b4.2.2.2.1 (hC_fr b3 (sMnot_ok rfl) htd2) (fun j hj => Rec_fr b3 (fun j _ => sMnot_ok rfl) (hR2 j hj)) (sFr.rf _ _)
  have T5 : kTy T [221, 225, 226] hp5 := kTy_frame (by decide) hF5 T3
  have F5 : sFr mLg hp hp5 := F3.tr (hF5.mono (sMsub_ok (by decide)))
  obtain ⟨κ6, B, c1, c2, c3, c4⟩ := n_ok0 (d := d) (κ := (202, kl5, [], hp5)) (fun hp0 => hS mP3 d hp0 hd) hC3 ⟨rfl, hl5, trivial, hty5, nCs_nil⟩
  refine kEnd.of c2 ?_
  have T6 : kTy T [221, 225, 226] κ6.2.2.2 := kTy_frame (by decide) c3 T5
  have F6 : sFr mLg hp κ6.2.2.2 := F5.tr (c3.mono (sMsub_ok (by decide)))
  simp only [List.mem_cons, List.not_mem_nil, or_false] at c1
  rcases c1 with rfl | rfl
  · obtain ⟨pc6, kl6, ks6, hp6⟩ := κ6
    have e5 : pc6 = 245 := c4.1
    subst e5
    have e6 := nAr_eq (as := [zO]) rfl c4.2.2.1
    dsimp only at e6
    subst e6
    have h220 : kTy hT [220] hp6 := by
      have h := c4.2.2.2.1
      rw [ho] at h
      exact (kTy_cons (by decide)).mp (kTy_sub (pl' := [220]) (by decide) h)
    obtain ⟨hp7, hcal, f7, hty7, u, hu, hu2⟩ := hK d hp6 (by omega) (kTy_sub (by decide) c4.2.2.2.1)
    have k7 := z_call' (M := m_X12_log) (kl := kl6) lg_t'.2 (show vTk 0 [] [zO] = some ([], [zO]) from rfl) (by decide) h220 hcal
    have T7 : kTy T plG hp7 := by
      have h3 : kTy T [224, 228, 242] hp7 := kTy_frame (by decide) f7 (kTy_sub (by decide) c4.2.2.2.1)
      have h4 : kTy T [221, 225, 226] hp7 := kTy_frame (by decide) f7 T6
      exact kTy_or (pl1 := [220, 222, 227]) (pl2 := [224, 228, 242, 221, 225, 226]) (by decide) hty7 (kTy_or (by decide) h3 h4)
    have h8 : kTy hT [220, 227, 228] hp7 := by
      have h := T7
      rw [ho] at h
      exact (kTy_cons (by decide)).mp (kTy_sub (pl' := [220, 227, 228]) (by decide) h)
    obtain ⟨κ8, i2, i3, i4⟩ := n_one (d := d) (κ := (245 + 3, kl6, [], hp7)) (fun hp0 => sNo_ok) (List.all_eq_true.mp lg_d u (List.mem_range.mpr hu)) ⟨rfl, c4.2.1, trivial, h8, nCs_cons (by omega) hu2 nCs_nil⟩
    refine kEnd.of k7 (kEnd.of i2 (n_ret (List.all_eq_true.mp lg_r 293 (by decide)) i4 (fun kr hkr => ⟨hkr, ?_, (F6.tr (f7.mono (sMsub_ok (by decide)))).tr (i3.mono (sMsub_ok (by decide)))⟩)))
    have h9 : kTy T [221, 222, 224, 225, 226, 242] κ8.2.2.2 := kTy_frame (by decide) i3 (kTy_sub (by decide) T7)
    have h10 : kTy T [220, 227, 228] κ8.2.2.2 := by
      rw [ho]
      exact (kTy_cons (by decide)).mpr i4.2.2.2.1
    exact kTy_or (by decide) h9 h10
  · exact n_ret (List.all_eq_true.mp lg_r 293 (by decide)) c4 (fun kr hkr => ⟨hkr, kTy_or (by decide) c4.2.2.2.1 T6, F6⟩)
end
section
/-! ===== log() of the reference in each variant ===== -/
set_option maxRecDepth 1000000 in
theorem lg_w0 : kWb hTr0 hT plL = true := by decide +kernel
set_option maxRecDepth 1000000 in
theorem lg_u0 : kWb hTu0 hTr0 [220, 222, 227] = true := by decide +kernel
theorem lg_V0 : lgV hTr0 lvS0 := by
  refine ⟨⟨_, rfl⟩, fun md d hp0 hd => lvS0_ok hd hp0, lg_a0, fun i w hi hw => ?_, lg_c0, fun d hp hd hty => ?_, lg_w0⟩
  · obtain ⟨c, j, rfl, hc, hj⟩ : ∃ c j, i = 8 * c + j ∧ c < 5 ∧ j < 8 := ⟨i / 8, i % 8, by omega, by omega, by omega⟩
    have : c = 0 ∨ c = 1 ∨ c = 2 ∨ c = 3 ∨ c = 4 := by omega
    rcases this with rfl | rfl | rfl | rfl | rfl
    · exact List.all_eq_true.mp (List.all_eq_true.mp lg_b0_0 j (List.mem_range.mpr hj)) w hw
    · exact List.all_eq_true.mp (List.all_eq_true.mp lg_b0_1 j (List.mem_range.mpr hj)) w hw
    · exact List.all_eq_true.mp (List.all_eq_true.mp lg_b0_2 j (List.mem_range.mpr hj)) w hw
    · exact List.all_eq_true.mp (List.all_eq_true.mp lg_b0_3 j (List.mem_range.mpr hj)) w hw
    · exact List.all_eq_true.mp (List.all_eq_true.mp lg_b0_4 j (List.mem_range.mpr hj)) w hw
  · obtain ⟨r, hp', h1, h2, h3, T', h4, h5⟩ := cr0_M_keep_1057_ok d hd [zO] hp ⟨rfl, trivial⟩ hty
    rw [List.mem_singleton] at h4
    subst h4
    have e := sRtN h2
    subst e
    obtain ⟨v, v1, v2⟩ := kTy_cell (k := 220) (i := 25) (c := zS 1 8) (by decide) (by rfl) h5
    obtain ⟨u, u1, u2, u3⟩ := zSab (by omega) v2
    refine ⟨hp', h1, h3, kW_of lg_u0 hp' h5, u - 1, by omega, ?_⟩
    rw [u1] at v1
    have e : u - 1 + 1 = u := by omega
    rw [e]
    exact v1
set_option maxRecDepth 1000000 in
theorem lg_w1 : kWb hTr1 hT plL = true := by decide +kernel
set_option maxRecDepth 1000000 in
theorem lg_u1 : kWb hTu1 hTr1 [220, 222, 227] = true := by decide +kernel
theorem lg_V1 : lgV hTr1 lvS1 := by
  refine ⟨⟨_, rfl⟩, fun md d hp0 hd => lvS1_ok hd hp0, lg_a1, fun i w hi hw => ?_, lg_c1, fun d hp hd hty => ?_, lg_w1⟩
  · obtain ⟨c, j, rfl, hc, hj⟩ : ∃ c j, i = 8 * c + j ∧ c < 5 ∧ j < 8 := ⟨i / 8, i % 8, by omega, by omega, by omega⟩
    have : c = 0 ∨ c = 1 ∨ c = 2 ∨ c = 3 ∨ c = 4 := by omega
    rcases this with rfl | rfl | rfl | rfl | rfl
    · exact List.all_eq_true.mp (List.all_eq_true.mp lg_b1_0 j (List.mem_range.mpr hj)) w hw
    · exact List.all_eq_true.mp (List.all_eq_true.mp lg_b1_1 j (List.mem_range.mpr hj)) w hw
    · exact List.all_eq_true.mp (List.all_eq_true.mp lg_b1_2 j (List.mem_range.mpr hj)) w hw
    · exact List.all_eq_true.mp (List.all_eq_true.mp lg_b1_3 j (List.mem_range.mpr hj)) w hw
    · exact List.all_eq_true.mp (List.all_eq_true.mp lg_b1_4 j (List.mem_range.mpr hj)) w hw
  · obtain ⟨r, hp', h1, h2, h3, T', h4, h5⟩ := cr1_M_keep_1057_ok d hd [zO] hp ⟨rfl, trivial⟩ hty
    rw [List.mem_singleton] at h4
    subst h4
    have e := sRtN h2
    subst e
    obtain ⟨v, v1, v2⟩ := kTy_cell (k := 220) (i := 25) (c := zS 1 8) (by decide) (by rfl) h5
    obtain ⟨u, u1, u2, u3⟩ := zSab (by omega) v2
    refine ⟨hp', h1, h3, kW_of lg_u1 hp' h5, u - 1, by omega, ?_⟩
    rw [u1] at v1
    have e : u - 1 + 1 = u := by omega
    rw [e]
    exact v1
set_option maxRecDepth 1000000 in
theorem lg_w2 : kWb hTr2 hT plL = true := by decide +kernel
set_option maxRecDepth 1000000 in
theorem lg_u2 : kWb hTu2 hTr2 [220, 222, 227] = true := by decide +kernel
theorem lg_V2 : lgV hTr2 lvS2 := by
  refine ⟨⟨_, rfl⟩, fun md d hp0 hd => lvS2_ok hd hp0, lg_a2, fun i w hi hw => ?_, lg_c2, fun d hp hd hty => ?_, lg_w2⟩
  · obtain ⟨c, j, rfl, hc, hj⟩ : ∃ c j, i = 8 * c + j ∧ c < 5 ∧ j < 8 := ⟨i / 8, i % 8, by omega, by omega, by omega⟩
    have : c = 0 ∨ c = 1 ∨ c = 2 ∨ c = 3 ∨ c = 4 := by omega
    rcases this with rfl | rfl | rfl | rfl | rfl
    · exact List.all_eq_true.mp (List.all_eq_true.mp lg_b2_0 j (List.mem_range.mpr hj)) w hw
    · exact List.all_eq_true.mp (List.all_eq_true.mp lg_b2_1 j (List.mem_range.mpr hj)) w hw
    · exact List.all_eq_true.mp (List.all_eq_true.mp lg_b2_2 j (List.mem_range.mpr hj)) w hw
    · exact List.all_eq_true.mp (List.all_eq_true.mp lg_b2_3 j (List.mem_range.mpr hj)) w hw
    · exact List.all_eq_true.mp (List.all_eq_true.mp lg_b2_4 j (List.mem_range.mpr hj)) w hw
  · obtain ⟨r, hp', h1, h2, h3, T', h4, h5⟩ := cr2_M_keep_1057_ok d hd [zO] hp ⟨rfl, trivial⟩ hty
    rw [List.mem_singleton] at h4
    subst h4
    have e := sRtN h2
    subst e
    obtain ⟨v, v1, v2⟩ := kTy_cell (k := 220) (i := 25) (c := zS 1 8) (by decide) (by rfl) h5
    obtain ⟨u, u1, u2, u3⟩ := zSab (by omega) v2
    refine ⟨hp', h1, h3, kW_of lg_u2 hp' h5, u - 1, by omega, ?_⟩
    rw [u1] at v1
    have e : u - 1 + 1 = u := by omega
    rw [e]
    exact v1
set_option maxRecDepth 1000000 in
theorem lg_w3 : kWb hTr3 hT plL = true := by decide +kernel
set_option maxRecDepth 1000000 in
theorem lg_u3 : kWb hTu3 hTr3 [220, 222, 227] = true := by decide +kernel
theorem lg_V3 : lgV hTr3 lvS3 := by
  refine ⟨⟨_, rfl⟩, fun md d hp0 hd => lvS3_ok hd hp0, lg_a3, fun i w hi hw => ?_, lg_c3, fun d hp hd hty => ?_, lg_w3⟩
  · obtain ⟨c, j, rfl, hc, hj⟩ : ∃ c j, i = 8 * c + j ∧ c < 5 ∧ j < 8 := ⟨i / 8, i % 8, by omega, by omega, by omega⟩
    have : c = 0 ∨ c = 1 ∨ c = 2 ∨ c = 3 ∨ c = 4 := by omega
    rcases this with rfl | rfl | rfl | rfl | rfl
    · exact List.all_eq_true.mp (List.all_eq_true.mp lg_b3_0 j (List.mem_range.mpr hj)) w hw
    · exact List.all_eq_true.mp (List.all_eq_true.mp lg_b3_1 j (List.mem_range.mpr hj)) w hw
    · exact List.all_eq_true.mp (List.all_eq_true.mp lg_b3_2 j (List.mem_range.mpr hj)) w hw
    · exact List.all_eq_true.mp (List.all_eq_true.mp lg_b3_3 j (List.mem_range.mpr hj)) w hw
    · exact List.all_eq_true.mp (List.all_eq_true.mp lg_b3_4 j (List.mem_range.mpr hj)) w hw
  · obtain ⟨r, hp', h1, h2, h3, T', h4, h5⟩ := cr3_M_keep_1057_ok d hd [zO] hp ⟨rfl, trivial⟩ hty
    rw [List.mem_singleton] at h4
    subst h4
    have e := sRtN h2
    subst e
    obtain ⟨v, v1, v2⟩ := kTy_cell (k := 220) (i := 25) (c := zS 1 8) (by decide) (by rfl) h5
    obtain ⟨u, u1, u2, u3⟩ := zSab (by omega) v2
    refine ⟨hp', h1, h3, kW_of lg_u3 hp' h5, u - 1, by omega, ?_⟩
    rw [u1] at v1
    have e : u - 1 + 1 = u := by omega
    rw [e]
    exact v1
end
section
/-! ===== contracts of what the log of the class calls, 0 ===== -/
def cc_State_passHours_1057_e : sCtE := (148, [.inl (.inr (.inr (.inr (.inl (some 31))))), .inl (.inr (.inr (.inr (.inl (some 4))))), .inr [(2147483648, 2147483708)]], [4, 8, 10, 11, 31, 32, 33, 34, 35, 36, 37, 39], some (.inr [(0, 2147483708)]), [(31, 0, 0), (32, 0, 4), (33, 0, 4), (34, 0, 4), (35, 0, 29), (36, 0, 7), (37, 0, 7), (39, 0, 7)])
def cc_State_passHours_1057_c : List sCut := [((24, [some (.inr (.inr (.inr (.inl (some 31))))), some (.inr (.inr (.inr (.inl (some 4))))), some (.inr (.inl (0, 0))), some (.inr (.inl (1, 0))), some (.inr (.inl (2, 0))), some (.inr (.inl (3, 0)))], [], [(4, (72, [(1, .inr [(2147483648, 2147483654)]), (2, .inr [(2147483648, 2147483653)]), (1, .inr [(2147483648, 2147483656)]), (1, .inr [(2147483648, 2147483660)]), (1, .inr [(2147483648, 2147483711)]), (1, .inl (.inr (.inr (.inr (.inl (some 5)))))), (1, .inl (.inr (.inr (.inr (.inl (some 6)))))), (1, .inl (.inr (.inr (.inr (.inl (some 7)))))), (1, .inl (.inr (.inr (.inr (.inl (some 8)))))), (1, .inl (.inr (.inr (.inr (.inl (some 9)))))), (1, .inl (.inr (.inr (.inr (.inl (some 10)))))), (1, .inl (.inr (.inr (.inr (.inl (some 11)))))), (1, .inl (.inr (.inr (.inr (.inl (some 12)))))), (1, .inl (.inr (.inr (.inr (.inl (some 13)))))), (1, .inl (.inr (.inr (.inr (.inl (some 14)))))), (1, .inl (.inr (.inr (.inr (.inl (some 15)))))), (1, .inl (.inr (.inr (.inr (.inl (some 16)))))), (1, .inr [(2147483648, 2147483672)])], [])), (8, (1, [(5, .inr [(2147483648, 2147483668)])], [])), (10, (1, [(8, .inr [(2147483648, 2147483652)])], [])), (11, (1, [(8, .inr [(2147483648, 2147483653)])], [])), (31, (64, [(1, .inl (.inr (.inl (4, 0)))), (1, .inl (.inr (.inr (.inr (.inl (some 32)))))), (1, .inl (.inr (.inr (.inr (.inl (some 33)))))), (1, .inl (.inr (.inr (.inr (.inl (some 34)))))), (1, .inl (.inr (.inr (.inr (.inl (some 35)))))), (1, .inl (.inr (.inr (.inr (.inl (some 36)))))), (1, .inl (.inr (.inr (.inr (.inl (some 37)))))), (1, .inl (.inr (.inr (.inr (.inl (some 38)))))), (1, .inl (.inr (.inr (.inr (.inl (some 39))))))], [])), (32, (1, [(5, .inr [(0, 4294967295)])], [])), (33, (1, [(5, .inr [(0, 4294967295)])], [])), (34, (1, [(5, .inr [(0, 4294967295)])], [])), (35, (1, [(30, .inr [(0, 4294967295)])], [])), (36, (1, [(8, .inr [(0, 4294967295)])], [])), (37, (1, [(8, .inr [(2147483644, 2147483652), (2147483658, 2147483662), (2147483668, 2147483668), (2147483678, 2147483678)])], [])), (39, (1, [(8, .inr [(0, 4294967295)])], []))], (5, [(0, [(2147483648, 2147483708)]), (1, [(0, 2147483708)]), (2, [(0, 4294967295)]), (3, [(2147483648, 2147483649)]), (4, [(0, 4294967295)])], [])), [(0, 2, 0), (0, 3, 0), (0, 4, 0), (0, 5, 0), (1, 31, 0)], [(true, .inl 900), (true, .inr 4)])]
set_option maxRecDepth 1000000 in
theorem cc_State_passHours_1057_k : cChk vms hT (sCalI vms (sCt hT cc_State_passHours_1057_e.2.2.2.2 [cc_State_fallOnSomebody_57_e, cc_State_payPorters_46_e, cc_State_practise_55_e, cc_State_wearOff_56_e]) cc_State_passHours_1057_e.2.2.2.2 3000 6) 3000 cc_State_passHours_1057_e ([], [], []) [] cc_State_passHours_1057_c = true := by decide +kernel
theorem cc_State_passHours_1057_ok (d : Nat) (hd : 21 ≤ d) : cOK vms vdf d hT cc_State_passHours_1057_e := by
  obtain ⟨d', rfl⟩ : ∃ d', d = d' + 1 := ⟨d - 1, by omega⟩
  exact cOK_of (fun hp0 => sCalI_ok (d0 := 14) (fun m hm => sCt_ok (T := hT) (cs_cons (cc_State_fallOnSomebody_57_ok m (by omega)) (cs_cons (cc_State_payPorters_46_ok m (by omega)) (cs_cons (cc_State_practise_55_ok m (by omega)) (cs_cons (cc_State_wearOff_56_ok m (by omega)) (cs_nil)))))) 6 d' (by omega)) cc_State_passHours_1057_k

def cc_State_passHours_1058_e : sCtE := (148, [.inl (.inr (.inr (.inr (.inl (some 40))))), .inl (.inr (.inr (.inr (.inl (some 4))))), .inr [(2147483648, 2147483708)]], [4, 8, 10, 11, 40, 41, 42, 43, 44, 45, 46, 48], some (.inr [(0, 2147483708)]), [(40, 0, 0), (41, 0, 4), (42, 0, 4), (43, 0, 4), (44, 0, 29), (45, 0, 7), (46, 0, 7), (48, 0, 7)])
def cc_State_passHours_1058_c : List sCut := [((24, [some (.inr (.inr (.inr (.inl (some 40))))), some (.inr (.inr (.inr (.inl (some 4))))), some (.inr (.inl (0, 0))), some (.inr (.inl (1, 0))), some (.inr (.inl (2, 0))), some (.inr (.inl (3, 0)))], [], [(4, (72, [(1, .inr [(2147483648, 2147483654)]), (2, .inr [(2147483648, 2147483653)]), (1, .inr [(2147483648, 2147483656)]), (1, .inr [(2147483648, 2147483660)]), (1, .inr [(2147483648, 2147483711)]), (1, .inl (.inr (.inr (.inr (.inl (some 5)))))), (1, .inl (.inr (.inr (.inr (.inl (some 6)))))), (1, .inl (.inr (.inr (.inr (.inl (some 7)))))), (1, .inl (.inr (.inr (.inr (.inl (some 8)))))), (1, .inl (.inr (.inr (.inr (.inl (some 9)))))), (1, .inl (.inr (.inr (.inr (.inl (some 10)))))), (1, .inl (.inr (.inr (.inr (.inl (some 11)))))), (1, .inl (.inr (.inr (.inr (.inl (some 12)))))), (1, .inl (.inr (.inr (.inr (.inl (some 13)))))), (1, .inl (.inr (.inr (.inr (.inl (some 14)))))), (1, .inl (.inr (.inr (.inr (.inl (some 15)))))), (1, .inl (.inr (.inr (.inr (.inl (some 16)))))), (1, .inr [(2147483648, 2147483672)])], [])), (8, (1, [(5, .inr [(2147483648, 2147483668)])], [])), (10, (1, [(8, .inr [(2147483648, 2147483652)])], [])), (11, (1, [(8, .inr [(2147483648, 2147483653)])], [])), (40, (64, [(1, .inl (.inr (.inl (4, 0)))), (1, .inl (.inr (.inr (.inr (.inl (some 41)))))), (1, .inl (.inr (.inr (.inr (.inl (some 42)))))), (1, .inl (.inr (.inr (.inr (.inl (some 43)))))), (1, .inl (.inr (.inr (.inr (.inl (some 44)))))), (1, .inl (.inr (.inr (.inr (.inl (some 45)))))), (1, .inl (.inr (.inr (.inr (.inl (some 46)))))), (1, .inl (.inr (.inr (.inr (.inl (some 47)))))), (1, .inl (.inr (.inr (.inr (.inl (some 48))))))], [])), (41, (1, [(5, .inr [(0, 4294967295)])], [])), (42, (1, [(5, .inr [(0, 4294967295)])], [])), (43, (1, [(5, .inr [(0, 4294967295)])], [])), (44, (1, [(30, .inr [(0, 4294967295)])], [])), (45, (1, [(8, .inr [(0, 4294967295)])], [])), (46, (1, [(8, .inr [(2147483644, 2147483652), (2147483658, 2147483662), (2147483668, 2147483668), (2147483678, 2147483678)])], [])), (48, (1, [(8, .inr [(0, 4294967295)])], []))], (5, [(0, [(2147483648, 2147483708)]), (1, [(0, 2147483708)]), (2, [(0, 4294967295)]), (3, [(2147483648, 2147483649)]), (4, [(0, 4294967295)])], [])), [(0, 2, 0), (0, 3, 0), (0, 4, 0), (0, 5, 0), (1, 40, 0)], [(true, .inl 900), (true, .inr 4)])]
set_option maxRecDepth 1000000 in
theorem cc_State_passHours_1058_k : cChk vms hT (sCalI vms (sCt hT cc_State_passHours_1058_e.2.2.2.2 [cc_State_fallOnSomebody_172_e, cc_State_payPorters_161_e, cc_State_practise_170_e, cc_State_wearOff_171_e]) cc_State_passHours_1058_e.2.2.2.2 3000 6) 3000 cc_State_passHours_1058_e ([], [], []) [] cc_State_passHours_1058_c = true := by decide +kernel
theorem cc_State_passHours_1058_ok (d : Nat) (hd : 21 ≤ d) : cOK vms vdf d hT cc_State_passHours_1058_e := by
  obtain ⟨d', rfl⟩ : ∃ d', d = d' + 1 := ⟨d - 1, by omega⟩
  exact cOK_of (fun hp0 => sCalI_ok (d0 := 14) (fun m hm => sCt_ok (T := hT) (cs_cons (cc_State_fallOnSomebody_172_ok m (by omega)) (cs_cons (cc_State_payPorters_161_ok m (by omega)) (cs_cons (cc_State_practise_170_ok m (by omega)) (cs_cons (cc_State_wearOff_171_ok m (by omega)) (cs_nil)))))) 6 d' (by omega)) cc_State_passHours_1058_k

def cc_State_painsAt_1059_e : sCtE := (89, [.inl (.inr (.inr (.inr (.inl (some 40))))), .inl (.inr (.inr (.inr (.inl (some 4))))), .inr [(2147483648, 2147483648)]], [4, 40, 46], some (.inr [(2147483648, 2147483903)]), [])
def cc_State_painsAt_1059_c : List sCut := [((5, [some (.inr (.inr (.inr (.inl (some 40))))), some (.inr (.inr (.inr (.inl (some 4))))), some (.inl 0), some (.inr (.inl (0, 0))), some (.inr (.inl (1, 0)))], [], [(4, (72, [(1, .inr [(2147483648, 2147483654)]), (2, .inr [(2147483648, 2147483653)]), (1, .inl (.inr (.inl (2, 0)))), (1, .inr [(2147483648, 2147483660)]), (1, .inr [(2147483648, 2147483711)]), (1, .inl (.inr (.inr (.inr (.inl (some 5)))))), (1, .inl (.inr (.inr (.inr (.inl (some 6)))))), (1, .inl (.inr (.inr (.inr (.inl (some 7)))))), (1, .inl (.inr (.inr (.inr (.inl (some 8)))))), (1, .inl (.inr (.inr (.inr (.inl (some 9)))))), (1, .inl (.inr (.inr (.inr (.inl (some 10)))))), (1, .inl (.inr (.inr (.inr (.inl (some 11)))))), (1, .inl (.inr (.inr (.inr (.inl (some 12)))))), (1, .inl (.inr (.inr (.inr (.inl (some 13)))))), (1, .inl (.inr (.inr (.inr (.inl (some 14)))))), (1, .inl (.inr (.inr (.inr (.inl (some 15)))))), (1, .inl (.inr (.inr (.inr (.inl (some 16)))))), (1, .inr [(2147483648, 2147483672)])], [])), (40, (64, [(1, .inr [(0, 4294967295)]), (1, .inl (.inr (.inr (.inr (.inl (some 41)))))), (1, .inl (.inr (.inr (.inr (.inl (some 42)))))), (1, .inl (.inr (.inr (.inr (.inl (some 43)))))), (1, .inl (.inr (.inr (.inr (.inl (some 44)))))), (1, .inl (.inr (.inr (.inr (.inl (some 45)))))), (1, .inl (.inr (.inr (.inr (.inl (some 46)))))), (1, .inl (.inr (.inr (.inr (.inl (some 47)))))), (1, .inl (.inr (.inr (.inr (.inl (some 48))))))], [])), (46, (1, [(8, .inr [(2147483644, 2147483652), (2147483658, 2147483662), (2147483668, 2147483668), (2147483678, 2147483678)])], []))], (3, [(0, [(2147483648, 2147483903)]), (1, [(2147483648, 2147483656)]), (2, [(2147483648, 2147483656)])], [])), [(0, 3, 0), (0, 4, 0), (1, 4, 3)], [(true, .inl 900), (true, .inr 1)])]
set_option maxRecDepth 1000000 in
theorem cc_State_painsAt_1059_k : cChk vms hT (sCalI vms (sCt hT cc_State_painsAt_1059_e.2.2.2.2 []) cc_State_painsAt_1059_e.2.2.2.2 3000 6) 3000 cc_State_painsAt_1059_e ([], [], []) [] cc_State_painsAt_1059_c = true := by decide +kernel
theorem cc_State_painsAt_1059_ok (d : Nat) (hd : 7 ≤ d) : cOK vms vdf d hT cc_State_painsAt_1059_e := by
  obtain ⟨d', rfl⟩ : ∃ d', d = d' + 1 := ⟨d - 1, by omega⟩
  exact cOK_of (fun hp0 => sCalI_ok (d0 := 0) (fun m hm => sCt_ok (T := hT) (cs_nil)) 6 d' (by omega)) cc_State_painsAt_1059_k

def cc_State_painsAt_1060_e : sCtE := (89, [.inl (.inr (.inr (.inr (.inl (some 40))))), .inl (.inr (.inr (.inr (.inl (some 4))))), .inr [(2147483648, 2147483649)]], [4, 40, 46], some (.inr [(2147483648, 2147483903)]), [])
def cc_State_painsAt_1060_c : List sCut := [((5, [some (.inr (.inr (.inr (.inl (some 40))))), some (.inr (.inr (.inr (.inl (some 4))))), some (.inr (.inl (0, 0))), some (.inr (.inl (1, 0))), some (.inr (.inl (2, 0)))], [], [(4, (72, [(1, .inr [(2147483648, 2147483654)]), (2, .inr [(2147483648, 2147483653)]), (1, .inl (.inr (.inl (3, 0)))), (1, .inr [(2147483648, 2147483660)]), (1, .inr [(2147483648, 2147483711)]), (1, .inl (.inr (.inr (.inr (.inl (some 5)))))), (1, .inl (.inr (.inr (.inr (.inl (some 6)))))), (1, .inl (.inr (.inr (.inr (.inl (some 7)))))), (1, .inl (.inr (.inr (.inr (.inl (some 8)))))), (1, .inl (.inr (.inr (.inr (.inl (some 9)))))), (1, .inl (.inr (.inr (.inr (.inl (some 10)))))), (1, .inl (.inr (.inr (.inr (.inl (some 11)))))), (1, .inl (.inr (.inr (.inr (.inl (some 12)))))), (1, .inl (.inr (.inr (.inr (.inl (some 13)))))), (1, .inl (.inr (.inr (.inr (.inl (some 14)))))), (1, .inl (.inr (.inr (.inr (.inl (some 15)))))), (1, .inl (.inr (.inr (.inr (.inl (some 16)))))), (1, .inr [(2147483648, 2147483672)])], [])), (40, (64, [(1, .inr [(0, 4294967295)]), (1, .inl (.inr (.inr (.inr (.inl (some 41)))))), (1, .inl (.inr (.inr (.inr (.inl (some 42)))))), (1, .inl (.inr (.inr (.inr (.inl (some 43)))))), (1, .inl (.inr (.inr (.inr (.inl (some 44)))))), (1, .inl (.inr (.inr (.inr (.inl (some 45)))))), (1, .inl (.inr (.inr (.inr (.inl (some 46)))))), (1, .inl (.inr (.inr (.inr (.inl (some 47)))))), (1, .inl (.inr (.inr (.inr (.inl (some 48))))))], [])), (46, (1, [(8, .inr [(2147483644, 2147483652), (2147483658, 2147483662), (2147483668, 2147483668), (2147483678, 2147483678)])], []))], (4, [(0, [(2147483648, 2147483649)]), (1, [(2147483648, 2147483903)]), (2, [(2147483648, 2147483656)]), (3, [(2147483648, 2147483656)])], [])), [(0, 2, 0), (0, 3, 0), (0, 4, 0), (1, 4, 3)], [(true, .inl 900), (true, .inr 2)])]
set_option maxRecDepth 1000000 in
theorem cc_State_painsAt_1060_k : cChk vms hT (sCalI vms (sCt hT cc_State_painsAt_1060_e.2.2.2.2 []) cc_State_painsAt_1060_e.2.2.2.2 3000 6) 3000 cc_State_painsAt_1060_e ([], [], []) [] cc_State_painsAt_1060_c = true := by decide +kernel
theorem cc_State_painsAt_1060_ok (d : Nat) (hd : 7 ≤ d) : cOK vms vdf d hT cc_State_painsAt_1060_e := by
  obtain ⟨d', rfl⟩ : ∃ d', d = d' + 1 := ⟨d - 1, by omega⟩
  exact cOK_of (fun hp0 => sCalI_ok (d0 := 0) (fun m hm => sCt_ok (T := hT) (cs_nil)) 6 d' (by omega)) cc_State_painsAt_1060_k

def cc_State_painsAt_1061_e : sCtE := (89, [.inl (.inr (.inr (.inr (.inl (some 40))))), .inl (.inr (.inr (.inr (.inl (some 4))))), .inr [(2147483648, 2147483650)]], [4, 40, 46], some (.inr [(2147483648, 2147483903)]), [])
def cc_State_painsAt_1061_c : List sCut := [((5, [some (.inr (.inr (.inr (.inl (some 40))))), some (.inr (.inr (.inr (.inl (some 4))))), some (.inr (.inl (0, 0))), some (.inr (.inl (1, 0))), some (.inr (.inl (2, 0)))], [], [(4, (72, [(1, .inr [(2147483648, 2147483654)]), (2, .inr [(2147483648, 2147483653)]), (1, .inl (.inr (.inl (3, 0)))), (1, .inr [(2147483648, 2147483660)]), (1, .inr [(2147483648, 2147483711)]), (1, .inl (.inr (.inr (.inr (.inl (some 5)))))), (1, .inl (.inr (.inr (.inr (.inl (some 6)))))), (1, .inl (.inr (.inr (.inr (.inl (some 7)))))), (1, .inl (.inr (.inr (.inr (.inl (some 8)))))), (1, .inl (.inr (.inr (.inr (.inl (some 9)))))), (1, .inl (.inr (.inr (.inr (.inl (some 10)))))), (1, .inl (.inr (.inr (.inr (.inl (some 11)))))), (1, .inl (.inr (.inr (.inr (.inl (some 12)))))), (1, .inl (.inr (.inr (.inr (.inl (some 13)))))), (1, .inl (.inr (.inr (.inr (.inl (some 14)))))), (1, .inl (.inr (.inr (.inr (.inl (some 15)))))), (1, .inl (.inr (.inr (.inr (.inl (some 16)))))), (1, .inr [(2147483648, 2147483672)])], [])), (40, (64, [(1, .inr [(0, 4294967295)]), (1, .inl (.inr (.inr (.inr (.inl (some 41)))))), (1, .inl (.inr (.inr (.inr (.inl (some 42)))))), (1, .inl (.inr (.inr (.inr (.inl (some 43)))))), (1, .inl (.inr (.inr (.inr (.inl (some 44)))))), (1, .inl (.inr (.inr (.inr (.inl (some 45)))))), (1, .inl (.inr (.inr (.inr (.inl (some 46)))))), (1, .inl (.inr (.inr (.inr (.inl (some 47)))))), (1, .inl (.inr (.inr (.inr (.inl (some 48))))))], [])), (46, (1, [(8, .inr [(2147483644, 2147483652), (2147483658, 2147483662), (2147483668, 2147483668), (2147483678, 2147483678)])], []))], (4, [(0, [(2147483648, 2147483650)]), (1, [(2147483648, 2147483903)]), (2, [(2147483648, 2147483656)]), (3, [(2147483648, 2147483656)])], [])), [(0, 2, 0), (0, 3, 0), (0, 4, 0), (1, 4, 3)], [(true, .inl 900), (true, .inr 2)])]
set_option maxRecDepth 1000000 in
theorem cc_State_painsAt_1061_k : cChk vms hT (sCalI vms (sCt hT cc_State_painsAt_1061_e.2.2.2.2 []) cc_State_painsAt_1061_e.2.2.2.2 3000 6) 3000 cc_State_painsAt_1061_e ([], [], []) [] cc_State_painsAt_1061_c = true := by decide +kernel
theorem cc_State_painsAt_1061_ok (d : Nat) (hd : 7 ≤ d) : cOK vms vdf d hT cc_State_painsAt_1061_e := by
  obtain ⟨d', rfl⟩ : ∃ d', d = d' + 1 := ⟨d - 1, by omega⟩
  exact cOK_of (fun hp0 => sCalI_ok (d0 := 0) (fun m hm => sCt_ok (T := hT) (cs_nil)) 6 d' (by omega)) cc_State_painsAt_1061_k

def cc_State_painsAt_1062_e : sCtE := (89, [.inl (.inr (.inr (.inr (.inl (some 40))))), .inl (.inr (.inr (.inr (.inl (some 4))))), .inr [(2147483648, 2147483651)]], [4, 40, 46], some (.inr [(2147483648, 2147483903)]), [])
def cc_State_painsAt_1062_c : List sCut := [((5, [some (.inr (.inr (.inr (.inl (some 40))))), some (.inr (.inr (.inr (.inl (some 4))))), some (.inr (.inl (0, 0))), some (.inr (.inl (1, 0))), some (.inr (.inl (2, 0)))], [], [(4, (72, [(1, .inr [(2147483648, 2147483654)]), (2, .inr [(2147483648, 2147483653)]), (1, .inl (.inr (.inl (3, 0)))), (1, .inr [(2147483648, 2147483660)]), (1, .inr [(2147483648, 2147483711)]), (1, .inl (.inr (.inr (.inr (.inl (some 5)))))), (1, .inl (.inr (.inr (.inr (.inl (some 6)))))), (1, .inl (.inr (.inr (.inr (.inl (some 7)))))), (1, .inl (.inr (.inr (.inr (.inl (some 8)))))), (1, .inl (.inr (.inr (.inr (.inl (some 9)))))), (1, .inl (.inr (.inr (.inr (.inl (some 10)))))), (1, .inl (.inr (.inr (.inr (.inl (some 11)))))), (1, .inl (.inr (.inr (.inr (.inl (some 12)))))), (1, .inl (.inr (.inr (.inr (.inl (some 13)))))), (1, .inl (.inr (.inr (.inr (.inl (some 14)))))), (1, .inl (.inr (.inr (.inr (.inl (some 15)))))), (1, .inl (.inr (.inr (.inr (.inl (some 16)))))), (1, .inr [(2147483648, 2147483672)])], [])), (40, (64, [(1, .inr [(0, 4294967295)]), (1, .inl (.inr (.inr (.inr (.inl (some 41)))))), (1, .inl (.inr (.inr (.inr (.inl (some 42)))))), (1, .inl (.inr (.inr (.inr (.inl (some 43)))))), (1, .inl (.inr (.inr (.inr (.inl (some 44)))))), (1, .inl (.inr (.inr (.inr (.inl (some 45)))))), (1, .inl (.inr (.inr (.inr (.inl (some 46)))))), (1, .inl (.inr (.inr (.inr (.inl (some 47)))))), (1, .inl (.inr (.inr (.inr (.inl (some 48))))))], [])), (46, (1, [(8, .inr [(2147483644, 2147483652), (2147483658, 2147483662), (2147483668, 2147483668), (2147483678, 2147483678)])], []))], (4, [(0, [(2147483648, 2147483651)]), (1, [(2147483648, 2147483903)]), (2, [(2147483648, 2147483656)]), (3, [(2147483648, 2147483656)])], [])), [(0, 2, 0), (0, 3, 0), (0, 4, 0), (1, 4, 3)], [(true, .inl 900), (true, .inr 2)])]
set_option maxRecDepth 1000000 in
theorem cc_State_painsAt_1062_k : cChk vms hT (sCalI vms (sCt hT cc_State_painsAt_1062_e.2.2.2.2 []) cc_State_painsAt_1062_e.2.2.2.2 3000 6) 3000 cc_State_painsAt_1062_e ([], [], []) [] cc_State_painsAt_1062_c = true := by decide +kernel
theorem cc_State_painsAt_1062_ok (d : Nat) (hd : 7 ≤ d) : cOK vms vdf d hT cc_State_painsAt_1062_e := by
  obtain ⟨d', rfl⟩ : ∃ d', d = d' + 1 := ⟨d - 1, by omega⟩
  exact cOK_of (fun hp0 => sCalI_ok (d0 := 0) (fun m hm => sCt_ok (T := hT) (cs_nil)) 6 d' (by omega)) cc_State_painsAt_1062_k

def cc_State_painless_1063_e : sCtE := (104, [.inl (.inr (.inr (.inr (.inl (some 40))))), .inl (.inr (.inr (.inr (.inl (some 4)))))], [4, 40, 46], some (.inr [(2147483648, 2147483679)]), [])
def cc_State_painless_1063_c : List sCut := [((4, [some (.inr (.inr (.inr (.inl (some 40))))), some (.inr (.inr (.inr (.inl (some 4))))), some (.inr (.inl (0, 0))), some (.inr (.inl (1, 0)))], [], [(4, (72, [(1, .inr [(2147483648, 2147483654)]), (1, .inl (.inr (.inl (2, 0)))), (1, .inr [(2147483648, 2147483653)]), (1, .inr [(2147483648, 2147483656)]), (1, .inr [(2147483648, 2147483660)]), (1, .inr [(2147483648, 2147483711)]), (1, .inl (.inr (.inr (.inr (.inl (some 5)))))), (1, .inl (.inr (.inr (.inr (.inl (some 6)))))), (1, .inl (.inr (.inr (.inr (.inl (some 7)))))), (1, .inl (.inr (.inr (.inr (.inl (some 8)))))), (1, .inl (.inr (.inr (.inr (.inl (some 9)))))), (1, .inl (.inr (.inr (.inr (.inl (some 10)))))), (1, .inl (.inr (.inr (.inr (.inl (some 11)))))), (1, .inl (.inr (.inr (.inr (.inl (some 12)))))), (1, .inl (.inr (.inr (.inr (.inl (some 13)))))), (1, .inl (.inr (.inr (.inr (.inl (some 14)))))), (1, .inl (.inr (.inr (.inr (.inl (some 15)))))), (1, .inl (.inr (.inr (.inr (.inl (some 16)))))), (1, .inr [(2147483648, 2147483672)])], [])), (40, (64, [(1, .inr [(0, 4294967295)]), (1, .inl (.inr (.inr (.inr (.inl (some 41)))))), (1, .inl (.inr (.inr (.inr (.inl (some 42)))))), (1, .inl (.inr (.inr (.inr (.inl (some 43)))))), (1, .inl (.inr (.inr (.inr (.inl (some 44)))))), (1, .inl (.inr (.inr (.inr (.inl (some 45)))))), (1, .inl (.inr (.inr (.inr (.inl (some 46)))))), (1, .inl (.inr (.inr (.inr (.inl (some 47)))))), (1, .inl (.inr (.inr (.inr (.inl (some 48))))))], [])), (46, (1, [(8, .inr [(2147483644, 2147483652), (2147483658, 2147483662), (2147483668, 2147483668), (2147483678, 2147483678)])], []))], (3, [(0, [(2147483648, 2147483679)]), (1, [(2147483648, 2147483653)]), (2, [(2147483648, 2147483653)])], [])), [(0, 2, 0), (0, 3, 0), (1, 4, 1)], [(true, .inl 900), (true, .inr 1)])]
set_option maxRecDepth 1000000 in
theorem cc_State_painless_1063_k : cChk vms hT (sCalI vms (sCt hT cc_State_painless_1063_e.2.2.2.2 [cc_State_painsAt_1059_e, cc_State_painsAt_1060_e, cc_State_painsAt_1061_e, cc_State_painsAt_1062_e, cc_State_painsAt_160_e]) cc_State_painless_1063_e.2.2.2.2 3000 6) 3000 cc_State_painless_1063_e ([], [], []) [] cc_State_painless_1063_c = true := by decide +kernel
theorem cc_State_painless_1063_ok (d : Nat) (hd : 14 ≤ d) : cOK vms vdf d hT cc_State_painless_1063_e := by
  obtain ⟨d', rfl⟩ : ∃ d', d = d' + 1 := ⟨d - 1, by omega⟩
  exact cOK_of (fun hp0 => sCalI_ok (d0 := 7) (fun m hm => sCt_ok (T := hT) (cs_cons (cc_State_painsAt_1059_ok m (by omega)) (cs_cons (cc_State_painsAt_1060_ok m (by omega)) (cs_cons (cc_State_painsAt_1061_ok m (by omega)) (cs_cons (cc_State_painsAt_1062_ok m (by omega)) (cs_cons (cc_State_painsAt_160_ok m (by omega)) (cs_nil))))))) 6 d' (by omega)) cc_State_painless_1063_k

def cc_State_passHours_1064_e : sCtE := (148, [.inl (.inr (.inr (.inr (.inl (some 31))))), .inl (.inr (.inr (.inr (.inl (some 17))))), .inr [(2147483648, 2147483708)]], [17, 21, 23, 24, 31, 32, 33, 34, 35, 36, 37, 39], some (.inr [(0, 2147483708)]), [(31, 0, 0), (32, 0, 4), (33, 0, 4), (34, 0, 4), (35, 0, 29), (36, 0, 7), (37, 0, 7), (39, 0, 7)])
def cc_State_passHours_1064_c : List sCut := [((24, [some (.inr (.inr (.inr (.inl (some 31))))), some (.inr (.inr (.inr (.inl (some 17))))), some (.inr (.inl (0, 0))), some (.inr (.inl (1, 0))), some (.inr (.inl (2, 0))), some (.inr (.inl (3, 0)))], [], [(17, (72, [(1, .inr [(2147483648, 2147483654)]), (2, .inr [(2147483648, 2147483653)]), (1, .inr [(2147483648, 2147483656)]), (1, .inr [(2147483648, 2147483660)]), (1, .inr [(2147483648, 2147483711)]), (1, .inl (.inr (.inr (.inr (.inl (some 18)))))), (1, .inl (.inr (.inr (.inr (.inl (some 19)))))), (1, .inl (.inr (.inr (.inr (.inl (some 20)))))), (1, .inl (.inr (.inr (.inr (.inl (some 21)))))), (1, .inl (.inr (.inr (.inr (.inl (some 22)))))), (1, .inl (.inr (.inr (.inr (.inl (some 23)))))), (1, .inl (.inr (.inr (.inr (.inl (some 24)))))), (1, .inl (.inr (.inr (.inr (.inl (some 25)))))), (1, .inl (.inr (.inr (.inr (.inl (some 26)))))), (1, .inl (.inr (.inr (.inr (.inl (some 27)))))), (1, .inl (.inr (.inr (.inr (.inl (some 28)))))), (1, .inl (.inr (.inr (.inr (.inl (some 29)))))), (1, .inr [(2147483648, 2147483672)])], [])), (21, (1, [(5, .inr [(2147483648, 2147483668)])], [])), (23, (1, [(8, .inr [(2147483648, 2147483652)])], [])), (24, (1, [(8, .inr [(2147483648, 2147483653)])], [])), (31, (64, [(1, .inl (.inr (.inl (4, 0)))), (1, .inl (.inr (.inr (.inr (.inl (some 32)))))), (1, .inl (.inr (.inr (.inr (.inl (some 33)))))), (1, .inl (.inr (.inr (.inr (.inl (some 34)))))), (1, .inl (.inr (.inr (.inr (.inl (some 35)))))), (1, .inl (.inr (.inr (.inr (.inl (some 36)))))), (1, .inl (.inr (.inr (.inr (.inl (some 37)))))), (1, .inl (.inr (.inr (.inr (.inl (some 38)))))), (1, .inl (.inr (.inr (.inr (.inl (some 39))))))], [])), (32, (1, [(5, .inr [(0, 4294967295)])], [])), (33, (1, [(5, .inr [(0, 4294967295)])], [])), (34, (1, [(5, .inr [(0, 4294967295)])], [])), (35, (1, [(30, .inr [(0, 4294967295)])], [])), (36, (1, [(8, .inr [(0, 4294967295)])], [])), (37, (1, [(8, .inr [(2147483644, 2147483652), (2147483658, 2147483662), (2147483668, 2147483668), (2147483678, 2147483678)])], [])), (39, (1, [(8, .inr [(0, 4294967295)])], []))], (5, [(0, [(2147483648, 2147483708)]), (1, [(0, 2147483708)]), (2, [(0, 4294967295)]), (3, [(2147483648, 2147483649)]), (4, [(0, 4294967295)])], [])), [(0, 2, 0), (0, 3, 0), (0, 4, 0), (0, 5, 0), (1, 31, 0)], [(true, .inl 900), (true, .inr 4)])]
set_option maxRecDepth 1000000 in
theorem cc_State_passHours_1064_k : cChk vms hT (sCalI vms (sCt hT cc_State_passHours_1064_e.2.2.2.2 [cc_State_fallOnSomebody_281_e, cc_State_payPorters_270_e, cc_State_practise_279_e, cc_State_wearOff_280_e]) cc_State_passHours_1064_e.2.2.2.2 3000 6) 3000 cc_State_passHours_1064_e ([], [], []) [] cc_State_passHours_1064_c = true := by decide +kernel
theorem cc_State_passHours_1064_ok (d : Nat) (hd : 21 ≤ d) : cOK vms vdf d hT cc_State_passHours_1064_e := by
  obtain ⟨d', rfl⟩ : ∃ d', d = d' + 1 := ⟨d - 1, by omega⟩
  exact cOK_of (fun hp0 => sCalI_ok (d0 := 14) (fun m hm => sCt_ok (T := hT) (cs_cons (cc_State_fallOnSomebody_281_ok m (by omega)) (cs_cons (cc_State_payPorters_270_ok m (by omega)) (cs_cons (cc_State_practise_279_ok m (by omega)) (cs_cons (cc_State_wearOff_280_ok m (by omega)) (cs_nil)))))) 6 d' (by omega)) cc_State_passHours_1064_k

def cc_State_passHours_1065_e : sCtE := (148, [.inl (.inr (.inr (.inr (.inl (some 40))))), .inl (.inr (.inr (.inr (.inl (some 17))))), .inr [(2147483648, 2147483708)]], [17, 21, 23, 24, 40, 41, 42, 43, 44, 45, 46, 48], some (.inr [(0, 2147483708)]), [(40, 0, 0), (41, 0, 4), (42, 0, 4), (43, 0, 4), (44, 0, 29), (45, 0, 7), (46, 0, 7), (48, 0, 7)])
def cc_State_passHours_1065_c : List sCut := [((24, [some (.inr (.inr (.inr (.inl (some 40))))), some (.inr (.inr (.inr (.inl (some 17))))), some (.inr (.inl (0, 0))), some (.inr (.inl (1, 0))), some (.inr (.inl (2, 0))), some (.inr (.inl (3, 0)))], [], [(17, (72, [(1, .inr [(2147483648, 2147483654)]), (2, .inr [(2147483648, 2147483653)]), (1, .inr [(2147483648, 2147483656)]), (1, .inr [(2147483648, 2147483660)]), (1, .inr [(2147483648, 2147483711)]), (1, .inl (.inr (.inr (.inr (.inl (some 18)))))), (1, .inl (.inr (.inr (.inr (.inl (some 19)))))), (1, .inl (.inr (.inr (.inr (.inl (some 20)))))), (1, .inl (.inr (.inr (.inr (.inl (some 21)))))), (1, .inl (.inr (.inr (.inr (.inl (some 22)))))), (1, .inl (.inr (.inr (.inr (.inl (some 23)))))), (1, .inl (.inr (.inr (.inr (.inl (some 24)))))), (1, .inl (.inr (.inr (.inr (.inl (some 25)))))), (1, .inl (.inr (.inr (.inr (.inl (some 26)))))), (1, .inl (.inr (.inr (.inr (.inl (some 27)))))), (1, .inl (.inr (.inr (.inr (.inl (some 28)))))), (1, .inl (.inr (.inr (.inr (.inl (some 29)))))), (1, .inr [(2147483648, 2147483672)])], [])), (21, (1, [(5, .inr [(2147483648, 2147483668)])], [])), (23, (1, [(8, .inr [(2147483648, 2147483652)])], [])), (24, (1, [(8, .inr [(2147483648, 2147483653)])], [])), (40, (64, [(1, .inl (.inr (.inl (4, 0)))), (1, .inl (.inr (.inr (.inr (.inl (some 41)))))), (1, .inl (.inr (.inr (.inr (.inl (some 42)))))), (1, .inl (.inr (.inr (.inr (.inl (some 43)))))), (1, .inl (.inr (.inr (.inr (.inl (some 44)))))), (1, .inl (.inr (.inr (.inr (.inl (some 45)))))), (1, .inl (.inr (.inr (.inr (.inl (some 46)))))), (1, .inl (.inr (.inr (.inr (.inl (some 47)))))), (1, .inl (.inr (.inr (.inr (.inl (some 48))))))], [])), (41, (1, [(5, .inr [(0, 4294967295)])], [])), (42, (1, [(5, .inr [(0, 4294967295)])], [])), (43, (1, [(5, .inr [(0, 4294967295)])], [])), (44, (1, [(30, .inr [(0, 4294967295)])], [])), (45, (1, [(8, .inr [(0, 4294967295)])], [])), (46, (1, [(8, .inr [(2147483644, 2147483652), (2147483658, 2147483662), (2147483668, 2147483668), (2147483678, 2147483678)])], [])), (48, (1, [(8, .inr [(0, 4294967295)])], []))], (5, [(0, [(2147483648, 2147483708)]), (1, [(0, 2147483708)]), (2, [(0, 4294967295)]), (3, [(2147483648, 2147483649)]), (4, [(0, 4294967295)])], [])), [(0, 2, 0), (0, 3, 0), (0, 4, 0), (0, 5, 0), (1, 40, 0)], [(true, .inl 900), (true, .inr 4)])]
set_option maxRecDepth 1000000 in
theorem cc_State_passHours_1065_k : cChk vms hT (sCalI vms (sCt hT cc_State_passHours_1065_e.2.2.2.2 [cc_State_fallOnSomebody_372_e, cc_State_payPorters_361_e, cc_State_practise_370_e, cc_State_wearOff_371_e]) cc_State_passHours_1065_e.2.2.2.2 3000 6) 3000 cc_State_passHours_1065_e ([], [], []) [] cc_State_passHours_1065_c = true := by decide +kernel
theorem cc_State_passHours_1065_ok (d : Nat) (hd : 21 ≤ d) : cOK vms vdf d hT cc_State_passHours_1065_e := by
  obtain ⟨d', rfl⟩ : ∃ d', d = d' + 1 := ⟨d - 1, by omega⟩
  exact cOK_of (fun hp0 => sCalI_ok (d0 := 14) (fun m hm => sCt_ok (T := hT) (cs_cons (cc_State_fallOnSomebody_372_ok m (by omega)) (cs_cons (cc_State_payPorters_361_ok m (by omega)) (cs_cons (cc_State_practise_370_ok m (by omega)) (cs_cons (cc_State_wearOff_371_ok m (by omega)) (cs_nil)))))) 6 d' (by omega)) cc_State_passHours_1065_k

def cc_State_painsAt_1066_e : sCtE := (89, [.inl (.inr (.inr (.inr (.inl (some 40))))), .inl (.inr (.inr (.inr (.inl (some 17))))), .inr [(2147483648, 2147483648)]], [17, 40, 46], some (.inr [(2147483648, 2147483903)]), [])
def cc_State_painsAt_1066_c : List sCut := [((5, [some (.inr (.inr (.inr (.inl (some 40))))), some (.inr (.inr (.inr (.inl (some 17))))), some (.inl 0), some (.inr (.inl (0, 0))), some (.inr (.inl (1, 0)))], [], [(17, (72, [(1, .inr [(2147483648, 2147483654)]), (2, .inr [(2147483648, 2147483653)]), (1, .inl (.inr (.inl (2, 0)))), (1, .inr [(2147483648, 2147483660)]), (1, .inr [(2147483648, 2147483711)]), (1, .inl (.inr (.inr (.inr (.inl (some 18)))))), (1, .inl (.inr (.inr (.inr (.inl (some 19)))))), (1, .inl (.inr (.inr (.inr (.inl (some 20)))))), (1, .inl (.inr (.inr (.inr (.inl (some 21)))))), (1, .inl (.inr (.inr (.inr (.inl (some 22)))))), (1, .inl (.inr (.inr (.inr (.inl (some 23)))))), (1, .inl (.inr (.inr (.inr (.inl (some 24)))))), (1, .inl (.inr (.inr (.inr (.inl (some 25)))))), (1, .inl (.inr (.inr (.inr (.inl (some 26)))))), (1, .inl (.inr (.inr (.inr (.inl (some 27)))))), (1, .inl (.inr (.inr (.inr (.inl (some 28)))))), (1, .inl (.inr (.inr (.inr (.inl (some 29)))))), (1, .inr [(2147483648, 2147483672)])], [])), (40, (64, [(1, .inr [(0, 4294967295)]), (1, .inl (.inr (.inr (.inr (.inl (some 41)))))), (1, .inl (.inr (.inr (.inr (.inl (some 42)))))), (1, .inl (.inr (.inr (.inr (.inl (some 43)))))), (1, .inl (.inr (.inr (.inr (.inl (some 44)))))), (1, .inl (.inr (.inr (.inr (.inl (some 45)))))), (1, .inl (.inr (.inr (.inr (.inl (some 46)))))), (1, .inl (.inr (.inr (.inr (.inl (some 47)))))), (1, .inl (.inr (.inr (.inr (.inl (some 48))))))], [])), (46, (1, [(8, .inr [(2147483644, 2147483652), (2147483658, 2147483662), (2147483668, 2147483668), (2147483678, 2147483678)])], []))], (3, [(0, [(2147483648, 2147483903)]), (1, [(2147483648, 2147483656)]), (2, [(2147483648, 2147483656)])], [])), [(0, 3, 0), (0, 4, 0), (1, 17, 3)], [(true, .inl 900), (true, .inr 1)])]
set_option maxRecDepth 1000000 in
theorem cc_State_painsAt_1066_k : cChk vms hT (sCalI vms (sCt hT cc_State_painsAt_1066_e.2.2.2.2 []) cc_State_painsAt_1066_e.2.2.2.2 3000 6) 3000 cc_State_painsAt_1066_e ([], [], []) [] cc_State_painsAt_1066_c = true := by decide +kernel
theorem cc_State_painsAt_1066_ok (d : Nat) (hd : 7 ≤ d) : cOK vms vdf d hT cc_State_painsAt_1066_e := by
  obtain ⟨d', rfl⟩ : ∃ d', d = d' + 1 := ⟨d - 1, by omega⟩
  exact cOK_of (fun hp0 => sCalI_ok (d0 := 0) (fun m hm => sCt_ok (T := hT) (cs_nil)) 6 d' (by omega)) cc_State_painsAt_1066_k

def cc_State_painsAt_1067_e : sCtE := (89, [.inl (.inr (.inr (.inr (.inl (some 40))))), .inl (.inr (.inr (.inr (.inl (some 17))))), .inr [(2147483648, 2147483649)]], [17, 40, 46], some (.inr [(2147483648, 2147483903)]), [])
def cc_State_painsAt_1067_c : List sCut := [((5, [some (.inr (.inr (.inr (.inl (some 40))))), some (.inr (.inr (.inr (.inl (some 17))))), some (.inr (.inl (0, 0))), some (.inr (.inl (1, 0))), some (.inr (.inl (2, 0)))], [], [(17, (72, [(1, .inr [(2147483648, 2147483654)]), (2, .inr [(2147483648, 2147483653)]), (1, .inl (.inr (.inl (3, 0)))), (1, .inr [(2147483648, 2147483660)]), (1, .inr [(2147483648, 2147483711)]), (1, .inl (.inr (.inr (.inr (.inl (some 18)))))), (1, .inl (.inr (.inr (.inr (.inl (some 19)))))), (1, .inl (.inr (.inr (.inr (.inl (some 20)))))), (1, .inl (.inr (.inr (.inr (.inl (some 21)))))), (1, .inl (.inr (.inr (.inr (.inl (some 22)))))), (1, .inl (.inr (.inr (.inr (.inl (some 23)))))), (1, .inl (.inr (.inr (.inr (.inl (some 24)))))), (1, .inl (.inr (.inr (.inr (.inl (some 25)))))), (1, .inl (.inr (.inr (.inr (.inl (some 26)))))), (1, .inl (.inr (.inr (.inr (.inl (some 27)))))), (1, .inl (.inr (.inr (.inr (.inl (some 28)))))), (1, .inl (.inr (.inr (.inr (.inl (some 29)))))), (1, .inr [(2147483648, 2147483672)])], [])), (40, (64, [(1, .inr [(0, 4294967295)]), (1, .inl (.inr (.inr (.inr (.inl (some 41)))))), (1, .inl (.inr (.inr (.inr (.inl (some 42)))))), (1, .inl (.inr (.inr (.inr (.inl (some 43)))))), (1, .inl (.inr (.inr (.inr (.inl (some 44)))))), (1, .inl (.inr (.inr (.inr (.inl (some 45)))))), (1, .inl (.inr (.inr (.inr (.inl (some 46)))))), (1, .inl (.inr (.inr (.inr (.inl (some 47)))))), (1, .inl (.inr (.inr (.inr (.inl (some 48))))))], [])), (46, (1, [(8, .inr [(2147483644, 2147483652), (2147483658, 2147483662), (2147483668, 2147483668), (2147483678, 2147483678)])], []))], (4, [(0, [(2147483648, 2147483649)]), (1, [(2147483648, 2147483903)]), (2, [(2147483648, 2147483656)]), (3, [(2147483648, 2147483656)])], [])), [(0, 2, 0), (0, 3, 0), (0, 4, 0), (1, 17, 3)], [(true, .inl 900), (true, .inr 2)])]
set_option maxRecDepth 1000000 in
theorem cc_State_painsAt_1067_k : cChk vms hT (sCalI vms (sCt hT cc_State_painsAt_1067_e.2.2.2.2 []) cc_State_painsAt_1067_e.2.2.2.2 3000 6) 3000 cc_State_painsAt_1067_e ([], [], []) [] cc_State_painsAt_1067_c = true := by decide +kernel
theorem cc_State_painsAt_1067_ok (d : Nat) (hd : 7 ≤ d) : cOK vms vdf d hT cc_State_painsAt_1067_e := by
  obtain ⟨d', rfl⟩ : ∃ d', d = d' + 1 := ⟨d - 1, by omega⟩
  exact cOK_of (fun hp0 => sCalI_ok (d0 := 0) (fun m hm => sCt_ok (T := hT) (cs_nil)) 6 d' (by omega)) cc_State_painsAt_1067_k

def cc_State_painsAt_1068_e : sCtE := (89, [.inl (.inr (.inr (.inr (.inl (some 40))))), .inl (.inr (.inr (.inr (.inl (some 17))))), .inr [(2147483648, 2147483650)]], [17, 40, 46], some (.inr [(2147483648, 2147483903)]), [])
def cc_State_painsAt_1068_c : List sCut := [((5, [some (.inr (.inr (.inr (.inl (some 40))))), some (.inr (.inr (.inr (.inl (some 17))))), some (.inr (.inl (0, 0))), some (.inr (.inl (1, 0))), some (.inr (.inl (2, 0)))], [], [(17, (72, [(1, .inr [(2147483648, 2147483654)]), (2, .inr [(2147483648, 2147483653)]), (1, .inl (.inr (.inl (3, 0)))), (1, .inr [(2147483648, 2147483660)]), (1, .inr [(2147483648, 2147483711)]), (1, .inl (.inr (.inr (.inr (.inl (some 18)))))), (1, .inl (.inr (.inr (.inr (.inl (some 19)))))), (1, .inl (.inr (.inr (.inr (.inl (some 20)))))), (1, .inl (.inr (.inr (.inr (.inl (some 21)))))), (1, .inl (.inr (.inr (.inr (.inl (some 22)))))), (1, .inl (.inr (.inr (.inr (.inl (some 23)))))), (1, .inl (.inr (.inr (.inr (.inl (some 24)))))), (1, .inl (.inr (.inr (.inr (.inl (some 25)))))), (1, .inl (.inr (.inr (.inr (.inl (some 26)))))), (1, .inl (.inr (.inr (.inr (.inl (some 27)))))), (1, .inl (.inr (.inr (.inr (.inl (some 28)))))), (1, .inl (.inr (.inr (.inr (.inl (some 29)))))), (1, .inr [(2147483648, 2147483672)])], [])), (40, (64, [(1, .inr [(0, 4294967295)]), (1, .inl (.inr (.inr (.inr (.inl (some 41)))))), (1, .inl (.inr (.inr (.inr (.inl (some 42)))))), (1, .inl (.inr (.inr (.inr (.inl (some 43)))))), (1, .inl (.inr (.inr (.inr (.inl (some 44)))))), (1, .inl (.inr (.inr (.inr (.inl (some 45)))))), (1, .inl (.inr (.inr (.inr (.inl (some 46)))))), (1, .inl (.inr (.inr (.inr (.inl (some 47)))))), (1, .inl (.inr (.inr (.inr (.inl (some 48))))))], [])), (46, (1, [(8, .inr [(2147483644, 2147483652), (2147483658, 2147483662), (2147483668, 2147483668), (2147483678, 2147483678)])], []))], (4, [(0, [(2147483648, 2147483650)]), (1, [(2147483648, 2147483903)]), (2, [(2147483648, 2147483656)]), (3, [(2147483648, 2147483656)])], [])), [(0, 2, 0), (0, 3, 0), (0, 4, 0), (1, 17, 3)], [(true, .inl 900), (true, .inr 2)])]
set_option maxRecDepth 1000000 in
theorem cc_State_painsAt_1068_k : cChk vms hT (sCalI vms (sCt hT cc_State_painsAt_1068_e.2.2.2.2 []) cc_State_painsAt_1068_e.2.2.2.2 3000 6) 3000 cc_State_painsAt_1068_e ([], [], []) [] cc_State_painsAt_1068_c = true := by decide +kernel
theorem cc_State_painsAt_1068_ok (d : Nat) (hd : 7 ≤ d) : cOK vms vdf d hT cc_State_painsAt_1068_e := by
  obtain ⟨d', rfl⟩ : ∃ d', d = d' + 1 := ⟨d - 1, by omega⟩
  exact cOK_of (fun hp0 => sCalI_ok (d0 := 0) (fun m hm => sCt_ok (T := hT) (cs_nil)) 6 d' (by omega)) cc_State_painsAt_1068_k

def cc_State_painsAt_1069_e : sCtE := (89, [.inl (.inr (.inr (.inr (.inl (some 40))))), .inl (.inr (.inr (.inr (.inl (some 17))))), .inr [(2147483648, 2147483651)]], [17, 40, 46], some (.inr [(2147483648, 2147483903)]), [])
def cc_State_painsAt_1069_c : List sCut := [((5, [some (.inr (.inr (.inr (.inl (some 40))))), some (.inr (.inr (.inr (.inl (some 17))))), some (.inr (.inl (0, 0))), some (.inr (.inl (1, 0))), some (.inr (.inl (2, 0)))], [], [(17, (72, [(1, .inr [(2147483648, 2147483654)]), (2, .inr [(2147483648, 2147483653)]), (1, .inl (.inr (.inl (3, 0)))), (1, .inr [(2147483648, 2147483660)]), (1, .inr [(2147483648, 2147483711)]), (1, .inl (.inr (.inr (.inr (.inl (some 18)))))), (1, .inl (.inr (.inr (.inr (.inl (some 19)))))), (1, .inl (.inr (.inr (.inr (.inl (some 20)))))), (1, .inl (.inr (.inr (.inr (.inl (some 21)))))), (1, .inl (.inr (.inr (.inr (.inl (some 22)))))), (1, .inl (.inr (.inr (.inr (.inl (some 23)))))), (1, .inl (.inr (.inr (.inr (.inl (some 24)))))), (1, .inl (.inr (.inr (.inr (.inl (some 25)))))), (1, .inl (.inr (.inr (.inr (.inl (some 26)))))), (1, .inl (.inr (.inr (.inr (.inl (some 27)))))), (1, .inl (.inr (.inr (.inr (.inl (some 28)))))), (1, .inl (.inr (.inr (.inr (.inl (some 29)))))), (1, .inr [(2147483648, 2147483672)])], [])), (40, (64, [(1, .inr [(0, 4294967295)]), (1, .inl (.inr (.inr (.inr (.inl (some 41)))))), (1, .inl (.inr (.inr (.inr (.inl (some 42)))))), (1, .inl (.inr (.inr (.inr (.inl (some 43)))))), (1, .inl (.inr (.inr (.inr (.inl (some 44)))))), (1, .inl (.inr (.inr (.inr (.inl (some 45)))))), (1, .inl (.inr (.inr (.inr (.inl (some 46)))))), (1, .inl (.inr (.inr (.inr (.inl (some 47)))))), (1, .inl (.inr (.inr (.inr (.inl (some 48))))))], [])), (46, (1, [(8, .inr [(2147483644, 2147483652), (2147483658, 2147483662), (2147483668, 2147483668), (2147483678, 2147483678)])], []))], (4, [(0, [(2147483648, 2147483651)]), (1, [(2147483648, 2147483903)]), (2, [(2147483648, 2147483656)]), (3, [(2147483648, 2147483656)])], [])), [(0, 2, 0), (0, 3, 0), (0, 4, 0), (1, 17, 3)], [(true, .inl 900), (true, .inr 2)])]
set_option maxRecDepth 1000000 in
theorem cc_State_painsAt_1069_k : cChk vms hT (sCalI vms (sCt hT cc_State_painsAt_1069_e.2.2.2.2 []) cc_State_painsAt_1069_e.2.2.2.2 3000 6) 3000 cc_State_painsAt_1069_e ([], [], []) [] cc_State_painsAt_1069_c = true := by decide +kernel
theorem cc_State_painsAt_1069_ok (d : Nat) (hd : 7 ≤ d) : cOK vms vdf d hT cc_State_painsAt_1069_e := by
  obtain ⟨d', rfl⟩ : ∃ d', d = d' + 1 := ⟨d - 1, by omega⟩
  exact cOK_of (fun hp0 => sCalI_ok (d0 := 0) (fun m hm => sCt_ok (T := hT) (cs_nil)) 6 d' (by omega)) cc_State_painsAt_1069_k

def cc_State_painless_1070_e : sCtE := (104, [.inl (.inr (.inr (.inr (.inl (some 40))))), .inl (.inr (.inr (.inr (.inl (some 17)))))], [17, 40, 46], some (.inr [(2147483648, 2147483679)]), [])
def cc_State_painless_1070_c : List sCut := [((4, [some (.inr (.inr (.inr (.inl (some 40))))), some (.inr (.inr (.inr (.inl (some 17))))), some (.inr (.inl (0, 0))), some (.inr (.inl (1, 0)))], [], [(17, (72, [(1, .inr [(2147483648, 2147483654)]), (1, .inl (.inr (.inl (2, 0)))), (1, .inr [(2147483648, 2147483653)]), (1, .inr [(2147483648, 2147483656)]), (1, .inr [(2147483648, 2147483660)]), (1, .inr [(2147483648, 2147483711)]), (1, .inl (.inr (.inr (.inr (.inl (some 18)))))), (1, .inl (.inr (.inr (.inr (.inl (some 19)))))), (1, .inl (.inr (.inr (.inr (.inl (some 20)))))), (1, .inl (.inr (.inr (.inr (.inl (some 21)))))), (1, .inl (.inr (.inr (.inr (.inl (some 22)))))), (1, .inl (.inr (.inr (.inr (.inl (some 23)))))), (1, .inl (.inr (.inr (.inr (.inl (some 24)))))), (1, .inl (.inr (.inr (.inr (.inl (some 25)))))), (1, .inl (.inr (.inr (.inr (.inl (some 26)))))), (1, .inl (.inr (.inr (.inr (.inl (some 27)))))), (1, .inl (.inr (.inr (.inr (.inl (some 28)))))), (1, .inl (.inr (.inr (.inr (.inl (some 29)))))), (1, .inr [(2147483648, 2147483672)])], [])), (40, (64, [(1, .inr [(0, 4294967295)]), (1, .inl (.inr (.inr (.inr (.inl (some 41)))))), (1, .inl (.inr (.inr (.inr (.inl (some 42)))))), (1, .inl (.inr (.inr (.inr (.inl (some 43)))))), (1, .inl (.inr (.inr (.inr (.inl (some 44)))))), (1, .inl (.inr (.inr (.inr (.inl (some 45)))))), (1, .inl (.inr (.inr (.inr (.inl (some 46)))))), (1, .inl (.inr (.inr (.inr (.inl (some 47)))))), (1, .inl (.inr (.inr (.inr (.inl (some 48))))))], [])), (46, (1, [(8, .inr [(2147483644, 2147483652), (2147483658, 2147483662), (2147483668, 2147483668), (2147483678, 2147483678)])], []))], (3, [(0, [(2147483648, 2147483679)]), (1, [(2147483648, 2147483653)]), (2, [(2147483648, 2147483653)])], [])), [(0, 2, 0), (0, 3, 0), (1, 17, 1)], [(true, .inl 900), (true, .inr 1)])]
set_option maxRecDepth 1000000 in
theorem cc_State_painless_1070_k : cChk vms hT (sCalI vms (sCt hT cc_State_painless_1070_e.2.2.2.2 [cc_State_painsAt_1066_e, cc_State_painsAt_1067_e, cc_State_painsAt_1068_e, cc_State_painsAt_1069_e, cc_State_painsAt_360_e]) cc_State_painless_1070_e.2.2.2.2 3000 6) 3000 cc_State_painless_1070_e ([], [], []) [] cc_State_painless_1070_c = true := by decide +kernel
theorem cc_State_painless_1070_ok (d : Nat) (hd : 14 ≤ d) : cOK vms vdf d hT cc_State_painless_1070_e := by
  obtain ⟨d', rfl⟩ : ∃ d', d = d' + 1 := ⟨d - 1, by omega⟩
  exact cOK_of (fun hp0 => sCalI_ok (d0 := 7) (fun m hm => sCt_ok (T := hT) (cs_cons (cc_State_painsAt_1066_ok m (by omega)) (cs_cons (cc_State_painsAt_1067_ok m (by omega)) (cs_cons (cc_State_painsAt_1068_ok m (by omega)) (cs_cons (cc_State_painsAt_1069_ok m (by omega)) (cs_cons (cc_State_painsAt_360_ok m (by omega)) (cs_nil))))))) 6 d' (by omega)) cc_State_painless_1070_k
end
