def LRec (hp : List vOb) (i : Nat) : Prop := ∃ a, hC hp 62 i (.inl a) ∧ ((a = 10 ∧ ∃ e, hC hp 65 i (.inl e) ∧ e ≤ 4) ∨ a = 8 ∨ a = 9 ∨ a = 11 ∨ a = 12)
theorem LRec_fr {md : sMd} {hp hp' : List vOb} {i : Nat} (hf : sFr md hp hp') (h1 : ¬ sMin md 62 i) (h2 : ¬ sMin md 65 i) (h : LRec hp i) : LRec hp' i := by
  obtain ⟨a, q1, q2⟩ := h
  refine ⟨a, hC_fr hf h1 q1, ?_⟩
  rcases q2 with ⟨q2, e, q3, q4⟩ | q2
  · exact Or.inl ⟨q2, e, hC_fr hf h2 q3, q4⟩
  · exact Or.inr q2
theorem hM_read : vms[244]? = some m_X4_read := by rw [← vNth_eq]; rfl
theorem rd_r' : nRet m_X4_read (26, rdN, [zK 1], []) (some (zS 1 1)) = true ∧ nRet m_X4_read rdZ (some (zS 0 0)) = true := by
  have h := rd_r
  rw [Bool.and_eq_true] at h
  exact h
theorem yA_of {ρ : List Nat} {v : vAV} (h : sCr ρ yA v) : ∃ a, v = .inl a ∧ (a = 8 ∨ a = 9 ∨ a = 11 ∨ a = 12) := by
  obtain ⟨u, u1, ⟨p, p1, p2, p3⟩, u3⟩ := h
  refine ⟨u, u3, ?_⟩
  simp only [List.mem_cons, List.not_mem_nil, or_false] at p1
  rcases p1 with rfl | rfl <;> dsimp only at p2 p3 <;> unfold sBi at p2 p3 <;> omega
theorem rd_k {tw n : Nat} (ht : tw ∈ [4, 17]) (hn : n < 40) : nChk0 m_X4_read hT (plR tw) (rdS (mRd n)) (mRd n) [7] 3000 (7, rdL tw n, [], [(61, 4, zK n)]) (rdB tw n) = true := by
  obtain ⟨c, j, rfl, hc, hj⟩ : ∃ c j, n = 4 * c + j ∧ c < 10 ∧ j < 4 := ⟨n / 4, n % 4, by omega, by omega, by omega⟩
  have hcc : c = 0 ∨ c = 1 ∨ c = 2 ∨ c = 3 ∨ c = 4 ∨ c = 5 ∨ c = 6 ∨ c = 7 ∨ c = 8 ∨ c = 9 := by omega
  simp only [List.mem_cons, List.not_mem_nil, or_false] at ht
  have hj' := List.mem_range.mpr hj
  rcases ht with rfl | rfl
  · rcases hcc with rfl | rfl | rfl | rfl | rfl | rfl | rfl | rfl | rfl | rfl
    · exact List.all_eq_true.mp rd_k4_0 j hj'
    · exact List.all_eq_true.mp rd_k4_1 j hj'
    · exact List.all_eq_true.mp rd_k4_2 j hj'
    · exact List.all_eq_true.mp rd_k4_3 j hj'
    · exact List.all_eq_true.mp rd_k4_4 j hj'
    · exact List.all_eq_true.mp rd_k4_5 j hj'
    · exact List.all_eq_true.mp rd_k4_6 j hj'
    · exact List.all_eq_true.mp rd_k4_7 j hj'
    · exact List.all_eq_true.mp rd_k4_8 j hj'
    · exact List.all_eq_true.mp rd_k4_9 j hj'
  · rcases hcc with rfl | rfl | rfl | rfl | rfl | rfl | rfl | rfl | rfl | rfl
    · exact List.all_eq_true.mp rd_k17_0 j hj'
    · exact List.all_eq_true.mp rd_k17_1 j hj'
    · exact List.all_eq_true.mp rd_k17_2 j hj'
    · exact List.all_eq_true.mp rd_k17_3 j hj'
    · exact List.all_eq_true.mp rd_k17_4 j hj'
    · exact List.all_eq_true.mp rd_k17_5 j hj'
    · exact List.all_eq_true.mp rd_k17_6 j hj'
    · exact List.all_eq_true.mp rd_k17_7 j hj'
    · exact List.all_eq_true.mp rd_k17_8 j hj'
    · exact List.all_eq_true.mp rd_k17_9 j hj'
def readP (tw : Nat) (hp : List vOb) (kr : Option vAV) (hp' : List vOb) : Prop := kTy hT (plR tw) hp' ∧ sFr mRdA hp hp' ∧ (kr = some (.inl 0) ∨ (kr = some (.inl 1) ∧ ∃ n, n ≤ 40 ∧ hC hp' 61 4 (.inl n) ∧ ∀ i, i < n → LRec hp' i))
theorem mRd_A {n : Nat} (hn : n < 40) {hp hp' : List vOb} (h : sFr (mRd n) hp hp') : sFr mRdA hp hp' := h.mono (fun k i ⟨m, m1, m2, m3, m4⟩ => by
  unfold mRd at m1
  simp only [List.mem_cons, List.not_mem_nil, or_false] at m1
  rcases m1 with rfl | rfl | rfl | rfl | rfl | rfl
  · exact ⟨(1, 4, 12), by decide, m2, m3, m4⟩
  · exact ⟨(61, 4, 4), by decide, m2, m3, m4⟩
  · exact ⟨(62, 0, 39), by decide, m2, Nat.zero_le _, by dsimp only at m4 ⊢; omega⟩
  · exact ⟨(63, 0, 39), by decide, m2, Nat.zero_le _, by dsimp only at m4 ⊢; omega⟩
  · exact ⟨(64, 0, 39), by decide, m2, Nat.zero_le _, by dsimp only at m4 ⊢; omega⟩
  · exact ⟨(65, 0, 39), by decide, m2, Nat.zero_le _, by dsimp only at m4 ⊢; omega⟩)
theorem rd_head {d tw : Nat} (hd : 27 ≤ d) (ht : tw ∈ [4, 17]) {hp0 : List vOb} (k : Nat) : ∀ (n : Nat) (kl : vLs) (hp : List vOb), n + k = 40 → nLr [] (rdL tw n) kl → kTy hT (plR tw) hp → hC hp 61 4 (.inl n) → (∀ i, i < n → LRec hp i) → sFr mRdA hp0 hp → kEnd vms vdf d m_X4_read (7, kl, [], hp) (readP tw hp0) := by
  have yes : ∀ (n : Nat) (κ : kSt), n ≤ 40 → nSat hT (plR tw) [] (rdY n) κ → sFr mRdA hp0 κ.2.2.2 → (∀ i, i < n → LRec κ.2.2.2 i) → kEnd vms vdf d m_X4_read κ (readP tw hp0) := fun n κ hn hB hF hL =>
    n_ret rd_r'.1 (nSat_less hB rfl rfl) (fun kr hkr => ⟨hB.2.2.2.1, hF, Or.inr ⟨zRt (by omega) hkr, n, hn, nSat_cell hB List.mem_cons_self, hL⟩⟩)
  have no : ∀ (κ : kSt), nSat hT (plR tw) [] rdZ κ → sFr mRdA hp0 κ.2.2.2 → kEnd vms vdf d m_X4_read κ (readP tw hp0) := fun κ hB hF =>
    n_ret rd_r'.2 hB (fun kr hkr => ⟨hB.2.2.2.1, hF, Or.inl (zRt (by omega) hkr)⟩)
  induction k with
  | zero =>
    intro n kl hp hn hl hty hc hR hF
    have en : n = 40 := by omega
    subst en
    obtain ⟨κ1, B, a1, a2, a3, a4⟩ := n_ok0 (d := d) (κ := (7, kl, [], hp)) (rdS_ok hd) (List.all_eq_true.mp rd_40 tw ht) ⟨rfl, hl, trivial, hty, nCs_cons (by omega) hc nCs_nil⟩
    refine kEnd.of a2 ?_
    have F1 : sFr mRdA hp0 κ1.2.2.2 := hF.tr (a3.mono (sMsub_ok (by decide)))
    simp only [List.mem_cons, List.not_mem_nil, or_false] at a1
    rcases a1 with rfl | rfl
    · exact yes 40 κ1 (by omega) a4 F1 (fun i hi => LRec_fr a3 (sMnot_ok rfl) (sMnot_ok rfl) (hR i hi))
    · exact no κ1 a4 F1
  | succ k ih =>
    intro n kl hp hn hl hty hc hR hF
    obtain ⟨κ1, B, a1, a2, a3, a4⟩ := n_ok0 (d := d) (κ := (7, kl, [], hp)) (rdS_ok hd) (rd_k ht (show n < 40 by omega)) ⟨rfl, hl, trivial, hty, nCs_cons (by omega) hc nCs_nil⟩
    refine kEnd.of a2 ?_
    have F1 : sFr mRdA hp0 κ1.2.2.2 := hF.tr (mRd_A (by omega) a3)
    have hm : ∀ r i, i < n → (r = 62 ∨ r = 65) → ¬ sMin (mRd n) r i := fun r i hi hr ⟨m, m1, m2, m3, m4⟩ => by
      unfold mRd at m1
      simp only [List.mem_cons, List.not_mem_nil, or_false] at m1
      rcases m1 with rfl | rfl | rfl | rfl | rfl | rfl <;> dsimp only at m2 m3 m4 <;> omega
    have R1 : ∀ i, i < n → LRec κ1.2.2.2 i := fun i hi => LRec_fr a3 (hm _ _ hi (by omega)) (hm _ _ hi (by omega)) (hR i hi)
    have next : ∀ cs, nSat hT (plR tw) [] (7, rdL tw (n + 1), [], (61, 4, zK (n + 1)) :: cs) κ1 → LRec κ1.2.2.2 n → kEnd vms vdf d m_X4_read κ1 (readP tw hp0) := fun cs hB hrec => by
      obtain ⟨pc1, kl1, ks1, hp1⟩ := κ1
      have e1 : pc1 = 7 := hB.1
      subst e1
      have e2 := nAr_eq (as := []) rfl hB.2.2.1
      dsimp only at e2
      subst e2
      exact ih (n + 1) kl1 hp1 (by omega) hB.2.1 hB.2.2.2.1 (nSat_cell hB List.mem_cons_self) (fun i hi => by
        by_cases e : i = n
        · subst e; exact hrec
        · exact R1 i (by omega)) F1
    unfold rdB at a1
    simp only [List.mem_cons, List.not_mem_nil, or_false] at a1
    rcases a1 with rfl | rfl | rfl | rfl
    · exact yes n κ1 (by omega) a4 F1 R1
    · exact no κ1 a4 F1
    · obtain ⟨e, g1, -, g3⟩ := nSat_set a4 (k := 65) (i := n) (a := 0) (b := 4) (List.mem_cons_of_mem _ (List.mem_cons_of_mem _ List.mem_cons_self)) (by omega)
      exact next _ a4 ⟨10, nSat_cell a4 (List.mem_cons_of_mem _ List.mem_cons_self), Or.inl ⟨rfl, e, g1, g3⟩⟩
    · obtain ⟨v, v1, v2⟩ := a4.2.2.2.2 (62, n, yA) (List.mem_cons_of_mem _ List.mem_cons_self)
      obtain ⟨a, rfl, ha⟩ := yA_of v2
      exact next _ a4 ⟨a, v1, Or.inr ha⟩
theorem read_ok {d tw : Nat} (hd : 27 ≤ d) (ht : tw ∈ [4, 17]) {hp : List vOb} (hty : kTy hT (plR tw) hp) : ∃ r hp', (∃ N, ∀ fuel, N ≤ fuel → vCalD vms vdf fuel (d + 1) 244 [yV 61, yV 1, yV tw] hp = some (r, hp', 0, 0)) ∧ readP tw hp r hp' := by
  refine kEnd_cal hM_read (show 3 ≤ 4 by omega) rfl rfl ?_
  obtain ⟨κ1, a2, a3, a4⟩ := n_one (d := d) (κ := (0, [some (yV 61), some (yV 1), some (yV tw), none], [], hp)) (fun hp0 => sNo_ok) (List.all_eq_true.mp rd_0 tw ht) ⟨rfl, ⟨fun c hc => by cases hc; exact ⟨_, rfl, rfl⟩, fun c hc => by cases hc; exact ⟨_, rfl, rfl⟩, fun c hc => by cases hc; exact ⟨_, rfl, rfl⟩, nLr_none trivial⟩, trivial, hty, nCs_nil⟩
  obtain ⟨pc1, kl1, ks1, hp1⟩ := κ1
  have e1 : pc1 = 7 := a4.1
  subst e1
  have e2 := nAr_eq (as := []) rfl a4.2.2.1
  dsimp only at e2
  subst e2
  exact kEnd.of a2 (rd_head hd ht 40 0 kl1 hp1 (by omega) a4.2.1 a4.2.2.2.1 (nSat_cell a4 List.mem_cons_self) (fun i hi => by omega) (a3.mono (sMsub_ok (by decide))))
