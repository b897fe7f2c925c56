theorem hM_goodLines : vms[247]? = some m_X4_goodLines := by rw [← vNth_eq]; rfl
theorem gl_r' : nRet m_X4_goodLines (40, rdN, [zS 0 40], []) (some (zS 0 40)) = true ∧ nRet m_X4_goodLines glE (some (zS 0 40)) = true := by
  have h := gl_r
  rw [Bool.and_eq_true] at h
  exact h
def ps4 : List (Nat × Nat) := [(4, 31), (4, 40), (17, 31), (17, 40)]
/-- what is asked of town and state -/
def glV (tw st : Nat) (S : sMd → sCal) : Prop := (tw, st) ∈ ps4 ∧ (∀ (md : sMd) (d : Nat) (hp0 : List vOb), 27 ≤ d → sCalOK vms vdf d md hp0 (S md)) ∧ (∀ i w, i < 40 → w ∈ [0, 1] → nChk0 m_X4_goodLines hT (plQ tw st) (S (mQ st)) (mQ st) [7] 3000 (21, glL tw st i, [], glC i w) (glB tw st i) = true)
def goodP (tw st : Nat) (hp : List vOb) (kr : Option vAV) (hp' : List vOb) : Prop := sRtC (some (zS 0 40)) kr ∧ kTy hT (plQ tw st) hp' ∧ sFr (mQ st) hp hp'
theorem glC_ok {hp : List vOb} {i : Nat} (h : LRec hp i) : ∃ w, w ∈ [0, 1] ∧ nCs [] hp (glC i w) := by
  obtain ⟨a, h1, h2⟩ := h
  rcases h2 with ⟨rfl, e, h3, h4⟩ | h2
  · exact ⟨0, by decide, nCs_cons (by omega) h1 (nCs_cset (by omega) h3 (by omega) h4 nCs_nil)⟩
  · refine ⟨1, by decide, fun c hc => ?_⟩
    have hc : c ∈ [((62, i, yA) : Nat × Nat × sC)] := hc
    rw [List.mem_singleton] at hc
    subst hc
    refine ⟨_, h1, a, by omega, ?_, rfl⟩
    rcases h2 with rfl | rfl | rfl | rfl
    · exact ⟨(2147483656, 2147483657), by decide, by decide, by decide⟩
    · exact ⟨(2147483656, 2147483657), by decide, by decide, by decide⟩
    · exact ⟨(2147483659, 2147483660), by decide, by decide, by decide⟩
    · exact ⟨(2147483659, 2147483660), by decide, by decide, by decide⟩
theorem mem_plQ61 (tw st : Nat) : 61 ∈ plQ tw st := by unfold plQ; simp
theorem mQ_not {st k i : Nat} (hk : k = 62 ∨ k = 65 ∨ (k = 61 ∧ i = 4)) (hs : st = 31 ∨ st = 40) : ¬ sMin (mQ st) k i := fun ⟨m, m1, m2, m3, m4⟩ => by
  unfold mQ at m1
  simp only [List.mem_cons, List.not_mem_nil, or_false] at m1
  rcases m1 with rfl | rfl | rfl | rfl | rfl | rfl | rfl | rfl | rfl | rfl <;> dsimp only at m2 m3 m4 <;> omega
theorem good_head {tw st : Nat} {S : sMd → sCal} (hV : glV tw st S) {d n : Nat} (hd : 27 ≤ d) (hn : n ≤ 40) {hp0 : List vOb} (k : Nat) : ∀ (i : Nat) (kl : vLs) (hp : List vOb), i + k = n → nLr [] (glL tw st i) kl → kTy hT (plQ tw st) hp → hC hp 61 4 (.inl n) → (∀ j, j < n → LRec hp j) → sFr (mQ st) hp0 hp → kEnd vms vdf d m_X4_goodLines (7, kl, [], hp) (goodP tw st hp0) := by
  obtain ⟨hm, hS, hK⟩ := hV
  have hst : st = 31 ∨ st = 40 := by
    unfold ps4 at hm
    simp only [List.mem_cons, List.not_mem_nil, or_false, Prod.mk.injEq] at hm
    omega
  have h61 : ∀ hp, kTy hT (plQ tw st) hp → kTy hT [61] hp := fun hp h => kTy_sub (fun k hk => by
    rw [List.mem_singleton] at hk
    rw [hk]
    exact mem_plQ61 tw st) h
  induction k with
  | zero =>
    intro i kl hp hin hl hty hc hR hF
    have ei : i = n := by omega
    subst ei
    obtain ⟨κ1, a2, a3, a4⟩ := n_one (d := d) (κ := (7, kl, [], hp)) (fun hp0 => sNo_ok) (List.all_eq_true.mp (List.all_eq_true.mp gl_2 (tw, st) hm) i (List.mem_range.mpr (by omega))) ⟨rfl, hl, trivial, h61 hp hty, nCs_cons (by omega) hc nCs_nil⟩
    exact kEnd.of a2 (n_ret gl_r'.2 a4 (fun kr hkr => ⟨hkr, kTy_fr0 a3 hty, hF.tr (sFr_nil a3)⟩))
  | succ k ih =>
    intro i kl hp hin hl hty hc hR hF
    obtain ⟨κ1, a2, a3, a4⟩ := n_one (d := d) (κ := (7, kl, [], hp)) (fun hp0 => sNo_ok) (List.all_eq_true.mp (List.all_eq_true.mp (List.all_eq_true.mp gl_1 (tw, st) hm) n (List.mem_range.mpr (by omega))) i (List.mem_range.mpr (by omega))) ⟨rfl, hl, trivial, h61 hp hty, nCs_cons (by omega) hc nCs_nil⟩
    have R1 : ∀ j, j < n → LRec κ1.2.2.2 j := fun j hj => LRec_fr a3 (fun ⟨m, m1, _⟩ => by cases m1) (fun ⟨m, m1, _⟩ => by cases m1) (hR j hj)
    obtain ⟨w, hw, hcs⟩ := glC_ok (R1 i (by omega))
    obtain ⟨κ2, B, b1, b2, b3, b4⟩ := n_ok0 (d := d) (κ := κ1) (fun hp0 => hS (mQ st) d hp0 hd) (hK i w (by omega) hw) ⟨a4.1, a4.2.1, a4.2.2.1, kTy_fr0 a3 hty, hcs⟩
    refine kEnd.of a2 (kEnd.of b2 ?_)
    have F2 : sFr (mQ st) hp0 κ2.2.2.2 := (hF.tr (sFr_nil a3)).tr b3
    unfold glB at b1
    simp only [List.mem_cons, List.not_mem_nil, or_false] at b1
    rcases b1 with rfl | rfl
    · exact n_ret gl_r'.1 b4 (fun kr hkr => ⟨hkr, b4.2.2.2.1, F2⟩)
    · obtain ⟨pc2, kl2, ks2, hp2⟩ := κ2
      have e1 : pc2 = 7 := b4.1
      subst e1
      have e2 := nAr_eq (as := []) rfl b4.2.2.1
      dsimp only at e2
      subst e2
      exact ih (i + 1) kl2 hp2 (by omega) b4.2.1 b4.2.2.2.1 (hC_fr b3 (mQ_not (by omega) hst) (hC_fr0 a3 hc)) (fun j hj => LRec_fr b3 (mQ_not (by omega) hst) (mQ_not (by omega) hst) (R1 j hj)) F2
theorem good_ok {tw st : Nat} {S : sMd → sCal} (hV : glV tw st S) {d n : Nat} (hd : 27 ≤ d) (hn : n ≤ 40) {hp : List vOb} (hty : kTy hT (plQ tw st) hp) (hc : hC hp 61 4 (.inl n)) (hR : ∀ j, j < n → LRec hp j) : ∃ r hp', (∃ N, ∀ fuel, N ≤ fuel → vCalD vms vdf fuel (d + 1) 247 [yV 61, yV tw, yV st] hp = some (r, hp', 0, 0)) ∧ goodP tw st hp r hp' := by
  refine kEnd_cal hM_goodLines (show 3 ≤ 4 by omega) rfl rfl ?_
  obtain ⟨κ1, a2, a3, a4⟩ := n_one (d := d) (κ := (0, [some (yV 61), some (yV tw), some (yV st), none], [], hp)) (fun hp0 => sNo_ok) (List.all_eq_true.mp gl_0 (tw, st) hV.1) ⟨rfl, ⟨fun c hc => by cases hc; exact ⟨_, rfl, rfl⟩, fun c hc => by cases hc; exact ⟨_, rfl, rfl⟩, fun c hc => by cases hc; exact ⟨_, rfl, rfl⟩, nLr_none trivial⟩, trivial, hty, nCs_nil⟩
  obtain ⟨pc1, kl1, ks1, hp1⟩ := κ1
  have e1 : pc1 = 7 := a4.1
  subst e1
  have e2 := nAr_eq (as := []) rfl a4.2.2.1
  dsimp only at e2
  subst e2
  exact kEnd.of a2 (good_head hV hd hn n 0 kl1 hp1 (by omega) a4.2.1 a4.2.2.2.1 (hC_fr a3 (sMnot_ok rfl) hc) (fun j hj => LRec_fr a3 (sMnot_ok rfl) (sMnot_ok rfl) (hR j hj)) (a3.mono (fun k i ⟨m, m1, m2⟩ => ⟨m, by
    rw [List.mem_singleton] at m1
    rw [m1]
    unfold mQ
    simp, m2⟩)))
