/-! ===== town(), class and reference side by side ===== -/
noncomputable def eFi (tbl : vTbl) (pc : Nat) : Bool := match vGet tbl pc with
  | some (.ireturn, _, _, _, _) => true
  | _ => false
theorem k_int {M : vMt} {d pc u : Nat} {kl : vLs} {hp : List vOb} {P : Option vAV → List vOb → Prop} (h : eFi M.2.2.2.2.1 pc = true) (hr : M.2.2.2.1 = some .int) (hP : P (some (.inl u)) hp) : kEnd vms vdf d M (pc, kl, [.inl u], hp) P := by
  unfold eFi at h
  split at h
  · next hg => exact ⟨_, kRe.rf _, _, _, _, _, _, _, hg, rfl, (by rw [hr]; rfl), hP⟩
  · cases h
set_option maxRecDepth 1000000 in
theorem fi_rd1 : eFi vt_X10_read 44 = true := by decide +kernel
set_option maxRecDepth 1000000 in
theorem fi_rd2 : eFi vt_X10_read 55 = true := by decide +kernel
set_option maxRecDepth 1000000 in
theorem fi_xt1 : eFi vt_X11_town 36 = true := by decide +kernel
set_option maxRecDepth 1000000 in
theorem fi_xt2 : eFi vt_X11_town 81 = true := by decide +kernel
set_option maxRecDepth 1000000 in
theorem fi_mt1 : eFi vt_X12_town 98 = true := by decide +kernel
set_option maxRecDepth 1000000 in
theorem fi_mt2 : eFi vt_X12_town 268 = true := by decide +kernel
/-- what is asked of the class: its new TOWN is in the row t, the old one in the row h -/
def XQ (t h : Nat) (sh : List (Nat × Nat × Nat)) (rf : eD) (hp : List vOb) : Prop := eSh sh hp ∧ eSh [(0, 88, 19), (1, 48, 13), (2, 2, 940), (3, 4, 25), (31, 64, 9), (49, 56, 12), (55, 56, 12), (67, 40, 3)] hp ∧ hC hp 0 0 (.inr (.inr (.inr (.inl (some 1))))) ∧ hC hp 0 2 (.inr (.inr (.inr (.inl (some h))))) ∧ hC hp 0 3 (.inr (.inr (.inr (.inl (some t))))) ∧ hC hp 0 4 (.inr (.inr (.inr (.inl (some 30))))) ∧ hC hp 0 5 (.inr (.inr (.inr (.inl (some 31))))) ∧ (hC hp 0 7 (.inr (.inr (.inr (.inl (some 49))))) ∨ hC hp 0 7 (.inr (.inr (.inr (.inl (some 55)))))) ∧ hC hp 0 11 (.inr (.inr (.inr (.inl (some 67))))) ∧ hC hp 1 0 (.inr (.inr (.inr (.inl (some 2))))) ∧ hC hp 1 1 (.inr (.inr (.inr (.inl (some 3))))) ∧ eDt (rL []) rf hp ∧ cRs t hp ∧ kTy hT [31, 32, 33, 34, 35, 36, 37, 38, 39] hp
/-- what is asked of the reference -/
def MQr (hp : List vOb) : Prop := eSh shM hp ∧ hC hp 220 1 (.inr (.inr (.inr (.inl (some 221))))) ∧ hC hp 220 6 (.inr (.inr (.inr (.inl (some 222))))) ∧ hC hp 220 7 (.inr (.inr (.inr (.inl (some 223))))) ∧ hC hp 220 9 (.inr (.inr (.inr (.inl (some 225))))) ∧ RI hp
/-- text and keywords of the class -/
def XB (hp : List vOb) (τ K : Nat → Nat) (z : Nat) : Prop := hC hp 0 1 (.inl z) ∧ (∀ i, i < z → hC hp 2 i (.inl (τ i)) ∧ byR (τ i)) ∧ (∀ i, i < 25 → hC hp 3 i (.inr (.inr (.inl (K i)))) ∧ K i < 18446744073709551616)
/-- of the reference -/
def MB (hp : List vOb) (τ R : Nat → Nat) (z : Nat) : Prop := hC hp 220 2 (.inl z) ∧ (∀ i, i < z → hC hp 221 i (.inl (τ i))) ∧ mRs hp R
/-- what a town() that fails writes -/
def XF (t : Nat) (hp hp' : List vOb) : Prop := ∃ md, sFr md hp hp' ∧ ∀ k i, sMin md k i → (k = 0 ∧ i = 1) ∨ (k = 1 ∧ 2 ≤ i) ∨ k = 30 ∨ (t ≤ k ∧ k ≤ t + 12)
def MF (hp hp' : List vOb) : Prop := ∃ md, sFr md hp hp' ∧ ∀ k i, sMin md k i → (k = 220 ∧ i ≠ 1 ∧ i ≠ 6 ∧ i ≠ 7 ∧ i ≠ 9 ∧ i ≠ 10) ∨ k = 223 ∨ (k = 225 ∧ 24 ≤ i)
/-- both fail alike, or both have the same TOWN -/
def TWN (t h : Nat) (hp hpR : List vOb) : Prop := (∃ k a, (∃ hp1, (∃ N, ∀ fuel, N ≤ fuel → vCalD vms vdf fuel 60 60 [(.inr (.inr (.inr (.inl (some 0)))))] hp = some (some (.inl (eBn 1 4294967295 a)), hp1, 0, 0)) ∧ hC hp1 1 11 (.inl k) ∧ XF t hp hp1) ∧ (∃ hp2, (∃ N, ∀ fuel, N ≤ fuel → vCalD vms vdf fuel 60 81 [(.inr (.inr (.inr (.inl (some 220)))))] hpR = some (some (.inl (eBn 1 4294967295 a)), hp2, 0, 0)) ∧ hC hp2 220 15 (.inl k) ∧ MF hpR hp2)) ∨
  (∃ ln s q p r hm fx TK BR ST, ln ≤ 900 ∧ TB s q p r hm fx TK BR ST ∧ (∃ hp1, (∃ N, ∀ fuel, N ≤ fuel → vCalD vms vdf fuel 60 60 [(.inr (.inr (.inr (.inl (some 0)))))] hp = some (some (.inl ln), hp1, 0, 0)) ∧ CT t hp1 s q p r hm fx TK BR ST ∧ hC hp1 0 2 (.inr (.inr (.inr (.inl (some t))))) ∧ hC hp1 0 3 (.inr (.inr (.inr (.inl (some h)))))) ∧ (∃ hp2, (∃ N, ∀ fuel, N ≤ fuel → vCalD vms vdf fuel 60 81 [(.inr (.inr (.inr (.inl (some 220)))))] hpR = some (some (.inl ln), hp2, 0, 0)) ∧ MT 0 222 hp2 s q p r hm fx TK BR ST))
theorem PV_TB {ρ : Nat → Nat → Nat} {τ K R : Nat → Nat} {z m : Nat} {N DC NM TK BR ST : Nat → Nat} (hP : PV ρ τ K R z m N DC NM TK BR ST) : TB (ρ 0 1) (ρ 0 2) (ρ 0 3) (ρ 0 4) (ρ 0 5) (ρ 0 6) TK BR ST := by
  obtain ⟨b1, b2, b3, b4, -⟩ := PV_b hP
  obtain ⟨-, -, -, ⟨b5, b6, -⟩, hT, hB, hS, -⟩ := hP
  exact ⟨b1, b2, b3, b4, b5, b6, hT, hB, hS⟩
theorem RS_MT {hp : List vOb} {τ R : Nat → Nat} {z m : Nat} {ρ : Nat → Nat → Nat} {ht : Nat} {NM TK BR ST : Nat → Nat} (h : RS hp τ R z m ρ ht NM TK BR ST) : MT 0 223 hp (ρ 0 1) (ρ 0 2) (ρ 0 3) (ρ 0 4) (ρ 0 5) (ρ 0 6) TK BR ST := by
  have c : ∀ {i j : Nat}, (match eGet 223 [(0, i)] rH with
    | some q => evB q.1 (.inl [(1, j)]) && elB ecB q.2 []
    | none => false) = true → hC hp 223 i (.inl (ρ 0 j)) := fun {i j} hb => eDt_at (x := [(0, i)]) (y := .inl [(1, j)]) (g := []) h.2.2.2.2.1 hb (fun q hq => by cases hq) (eR_val (eR_c ρ i)) (eCv_i (eR_s rfl))
  exact ⟨c (by decide), c (by decide), c (by decide), c (by decide), c (by decide), c (by decide), fun i hi => by rw [Nat.zero_add]; exact h.2.2.2.2.2.2.1 i hi, fun i hi => by rw [Nat.zero_add]; exact h.2.2.2.2.2.2.2.1 i hi, fun i hi => by rw [Nat.zero_add]; exact h.2.2.2.2.2.2.2.2.1 i hi⟩
theorem MT_to {hp hp' : List vOb} {s q p r hm fx : Nat} {TK BR ST : Nat → Nat} (hr : r ≤ 5) (hc : ∀ i, i < 64 → ∀ v, hC hp 223 i (.inl v) → hC hp' 222 i (.inl v)) (h : MT 0 223 hp s q p r hm fx TK BR ST) : MT 0 222 hp' s q p r hm fx TK BR ST := by
  obtain ⟨h0, h1, h2, h3, h4, h5, h6, h7, h8⟩ := h
  exact ⟨hc _ (by omega) _ h0, hc _ (by omega) _ h1, hc _ (by omega) _ h2, hc _ (by omega) _ h3, hc _ (by omega) _ h4, hc _ (by omega) _ h5, fun i hi => hc _ (by omega) _ (h6 i hi), fun i hi => hc _ (by omega) _ (h7 i hi), fun i hi => hc _ (by omega) _ (h8 i hi)⟩
theorem MF_en {md : sMd} {hp hp' hp2 : List vOb} (hf : sFr md hp hp') (hm : ∀ k i, sMin md k i → (k = 220 ∧ (i ≤ 5 ∧ i ≠ 1 ∨ (11 ≤ i ∧ i ≤ 22))) ∨ k = 223) (h : RF hp' hp2) : MF hp hp2 := by
  obtain ⟨m2, f2, g2⟩ := h
  refine ⟨md ++ m2, (hf.mono (fun k i h => sMin_l h)).tr (f2.mono (fun k i h => sMin_r h)), fun k i h => ?_⟩
  rcases sMin_app h with h | h
  · rcases hm k i h with ⟨e, h1⟩ | e
    · exact Or.inl ⟨e, by omega, by omega, by omega, by omega, by omega⟩
    · exact Or.inr (Or.inl e)
  · rcases g2 k i h with ⟨e, h1⟩ | e | ⟨e, h1⟩
    · exact Or.inl ⟨e, by omega, by omega, by omega, by omega, by omega⟩
    · exact Or.inr (Or.inl e)
    · exact Or.inr (Or.inr ⟨e, h1⟩)
theorem XF_en {t : Nat} {hp hp' hp2 hp3 : List vOb} (hf : sFr [(0, 1, 1), (1, 2, 12)] hp hp') (h : CF t hp' hp2) (h3 : sFr [] hp2 hp3) : XF t hp hp3 := by
  obtain ⟨m2, f2, g2⟩ := h
  refine ⟨[(0, 1, 1), (1, 2, 12)] ++ m2, ((hf.mono (fun k i h => sMin_l h)).tr (f2.mono (fun k i h => sMin_r h))).tr (h3.mono (fun k i ⟨m, m1, _⟩ => by cases m1)), fun k i h => ?_⟩
  rcases sMin_app h with ⟨m, m1, m2, m3, m4⟩ | h
  · simp only [List.mem_cons, List.not_mem_nil, or_false] at m1
    rcases m1 with rfl | rfl
    · dsimp only at m2 m3 m4
      exact Or.inl ⟨m2.symm, by omega⟩
    · dsimp only at m2 m3 m4
      exact Or.inr (Or.inl ⟨m2.symm, m3⟩)
  · rcases g2 k i h with ⟨e, h1⟩ | e | e
    · exact Or.inr (Or.inl ⟨e, by omega⟩)
    · exact Or.inr (Or.inr (Or.inl e))
    · exact Or.inr (Or.inr (Or.inr e))
theorem twn4 {hp hpR : List vOb} {τ K R : Nat → Nat} {z : Nat} (hk : kwOK K R) (hz : z ≤ 940) (hX : XQ 4 17 shc4 (ei4.drop 1) hp) (hB : XB hp τ K z) (hM : MQr hpR) (hMB : MB hpR τ R z) : TWN 4 17 hp hpR := by
  obtain ⟨x1, x2, x00, x02, x03, x04, x05, x07, x011, x10, x11, xr, xc, xst⟩ := hX
  obtain ⟨bz, bT, bK⟩ := hB
  obtain ⟨m1, mr1, mr6, mr7, mr9, mI⟩ := hM
  obtain ⟨nz, nT, nR⟩ := hMB
  obtain ⟨klA, hpA, a1, a2, a3, a4, a5, a6, a7, a8, a9, a10⟩ := xtA4 (d := 59) (by decide) hz (eSh_mem x2 (by decide)) x1 (eSh_mem x2 (by decide)) x00 bz x03 x04 x10 x11 bT bK xr xc (kl := vEnt [(.inr (.inr (.inr (.inl (some 0)))))] m_X11_town.2.2.1) ⟨rfl, trivial⟩
  obtain ⟨ρ, klB, hpB, hP, hXt, v0, v1, v2, v3, v4, v5, v6, v7, v8, v9, v10, b1, b2, hCM, b4, b5⟩ := ent4 (d := 58) (by decide) hk hz a8 a3 a4 a6 a7 (kl := vEnt [(.inr (.inr (.inr (.inl (some 30))))), (.inr (.inr (.inr (.inl (some 1))))), (.inr (.inr (.inr (.inl (some 4)))))] m_X10_read.2.2.1) ⟨rfl, rfl, rfl, trivial⟩
  obtain ⟨klR, hpS, mdR, r1, r2, hRS, r4, r5, r6⟩ := entm (d := 59) (by decide) hz m1 nz mr7 mr9 mr1 nT nR mI (kl := vEnt [(.inr (.inr (.inr (.inl (some 220)))))] m_X12_town.2.2.1) ⟨rfl, trivial⟩ hP v0 v1 v2 v3 v4 v5 v6 v7 v8 v9
  have frA : ∀ {k i : Nat} {v : vAV}, k ≠ 0 → k ≠ 1 → hC hp k i v → hC hpA k i v := fun h0 h1 hv => hC_fr a10 (fun ⟨m, m1, m2, _⟩ => by
    simp only [List.mem_cons, List.not_mem_nil, or_false] at m1
    rcases m1 with rfl | rfl
    · exact h0 m2.symm
    · exact h1 m2.symm) hv
  have fr0 : ∀ {i : Nat} {v : vAV}, i ≠ 1 → hC hp 0 i v → hC hpA 0 i v := fun hi hv => hC_fr a10 (fun ⟨m, m1, m2, m3, m4⟩ => by
    simp only [List.mem_cons, List.not_mem_nil, or_false] at m1
    rcases m1 with rfl | rfl
    · dsimp only at m3 m4
      omega
    · dsimp only at m2
      omega) hv
  have cf : ∀ {hp2 : List vOb}, CF 4 hpB hp2 → ∀ {k i : Nat} {v : vAV}, (k = 0 ∨ (30 < k)) → hC hpA k i v → hC hp2 k i v := fun {hp2} h2 {k i v} hk hv => by
    obtain ⟨md, f1, f2⟩ := b5.tr h2
    exact hC_fr f1 (fun hm => by
      rcases f2 k i hm with h | h | h <;> omega) hv
  rcases lpT4 (d := 58) (d2 := 59) (by decide) (by decide) z (by omega) hP hXt hCM b4 b2 hRS r2 with ⟨k, a, ⟨kl1, hp1, c1, c2, c3, c4⟩, ⟨kl2, hp2, e1, e2, e3, e4⟩⟩ | ⟨ρ', ht, N, DC, NM, TK, BR, ST, hP', h7, ⟨kl1, hp1, c1, c2, c3, c4⟩, ⟨kl2, hp2, e1, e2, e3, e4⟩⟩
  · left
    refine ⟨k, a, ?_, ?_⟩
    · obtain ⟨rr, hp3, g1, g2, g3, g4, g5⟩ := kEnd_cal (d := 58) (kav := [(.inr (.inr (.inr (.inl (some 30))))), (.inr (.inr (.inr (.inl (some 1))))), (.inr (.inr (.inr (.inl (some 4)))))]) (hp := hpA) (P := fun r hp3 => r = some (.inl 4294967295) ∧ hC hp3 1 11 (.inl k) ∧ hC hp3 1 12 (.inl a) ∧ CF 4 hpA hp3) hM_rd (by decide) rfl rfl (kEnd.of (b1.tr c1) (k_int fi_rd2 rfl ⟨rfl, c2, c3, b5.tr c4⟩))
      subst g2
      have hcall : kRe vms vdf 59 vt_X11_town 0 0 (19, klA, [(.inr (.inr (.inr (.inl (some 4))))), (.inr (.inr (.inr (.inl (some 1))))), (.inr (.inr (.inr (.inl (some 30)))))], hpA) (22, klA, [.inl 4294967295], hp3) := e_callv (kas := [(.inr (.inr (.inr (.inl (some 1))))), (.inr (.inr (.inr (.inl (some 4)))))]) (rest := []) (r := some (.inl 4294967295)) iv_rd rfl rfl (vRc_sh (n := 3) (t := 10) a8 (by decide) rfl) g1
      have hf : ∀ {k i : Nat} {v : vAV}, k = 0 → hC hpA k i v → hC hp3 k i v := fun hk hv => by
        obtain ⟨md, f1, f2⟩ := g5
        exact hC_fr f1 (fun hm => by
          rcases f2 _ _ hm with h | h | h <;> omega) hv
      obtain ⟨md5, f51, f52⟩ := g5
      obtain ⟨kl4, hp4, q1, q2⟩ := xtF (d := 59) (by decide) (eSh_fr f51 (eSh_fr a10 (eSh_mem x2 (by decide)))) (hf rfl (fr0 (by decide) x00)) g4 a2
      obtain ⟨r5', hp5, w1, w2, w3, w4⟩ := kEnd_cal (d := 59) (kav := [(.inr (.inr (.inr (.inl (some 0)))))]) (hp := hp) (P := fun r hp3 => r = some (.inl (eBn 1 4294967295 a)) ∧ hC hp3 1 11 (.inl k) ∧ XF 4 hp hp3) hM_xt (by decide) rfl rfl (kEnd.of ((a1.tr hcall).tr q1) (k_int fi_xt1 rfl ⟨rfl, hC_fr q2 (fun ⟨m, m1, _⟩ => by cases m1) g3, XF_en a10 ⟨md5, f51, f52⟩ q2⟩))
      subst w2
      exact ⟨hp5, w1, w3, w4⟩
    · obtain ⟨r5', hp5, w1, w2, w3, w4⟩ := kEnd_cal (d := 59) (kav := [(.inr (.inr (.inr (.inl (some 220)))))]) (hp := hpR) (P := fun r hp3 => r = some (.inl (eBn 1 4294967295 a)) ∧ hC hp3 220 15 (.inl k) ∧ MF hpR hp3) hM_town (by decide) rfl rfl (kEnd.of (r1.tr e1) (k_int fi_mt1 rfl ⟨rfl, e2, MF_en r5 r6 e4⟩))
      subst w2
      exact ⟨hp5, w1, w3, w4⟩
  · right
    have hb := PV_b hP'
    refine ⟨ρ' 0 9, ρ' 0 1, ρ' 0 2, ρ' 0 3, ρ' 0 4, ρ' 0 5, ρ' 0 6, TK, BR, ST, by omega, PV_TB hP', ?_, ?_⟩
    · obtain ⟨kl6, hp6, u1, u2⟩ := rdE4 (d := 58) (by decide) hP' c3 c2
      have hct : CT 4 hp6 (ρ' 0 1) (ρ' 0 2) (ρ' 0 3) (ρ' 0 4) (ρ' 0 5) (ρ' 0 6) TK BR ST := CT_fr u2 (fun k i hk ⟨m, m1, m2, m3, m4⟩ => by
        rw [List.mem_singleton.mp m1] at m2
        dsimp only at m2
        omega) (CM_CT4 c3)
      have frE : ∀ {k i : Nat} {v : vAV}, k ≠ 14 → hC hp1 k i v → hC hp6 k i v := fun hk hv => hC_fr u2 (fun ⟨m, m1, m2, m3, m4⟩ => by
        rw [List.mem_singleton.mp m1] at m2
        exact hk m2.symm) hv
      obtain ⟨rr, hp3, g1, g2, g3⟩ := kEnd_cal (d := 58) (kav := [(.inr (.inr (.inr (.inl (some 30))))), (.inr (.inr (.inr (.inl (some 1))))), (.inr (.inr (.inr (.inl (some 4)))))]) (hp := hpA) (P := fun r hp3 => r = some (.inl (ρ' 0 9)) ∧ hp3 = hp6) hM_rd (by decide) rfl rfl (kEnd.of ((b1.tr c1).tr u1) (k_int fi_rd1 rfl ⟨rfl, rfl⟩))
      subst g2 g3
      have hcall : kRe vms vdf 59 vt_X11_town 0 0 (19, klA, [(.inr (.inr (.inr (.inl (some 4))))), (.inr (.inr (.inr (.inl (some 1))))), (.inr (.inr (.inr (.inl (some 30)))))], hpA) (22, klA, [.inl (ρ' 0 9)], hp3) := e_callv (kas := [(.inr (.inr (.inr (.inl (some 1))))), (.inr (.inr (.inr (.inl (some 4)))))]) (rest := []) (r := some (.inl (ρ' 0 9))) iv_rd rfl rfl (vRc_sh (n := 3) (t := 10) a8 (by decide) rfl) g1
      have hf : ∀ {k i : Nat} {v : vAV}, (k = 0 ∨ 30 < k) → hC hpA k i v → hC hp3 k i v := fun hk hv => frE (by omega) (cf c4 hk hv)
      have sh3 : eSh [(0, 88, 19), (31, 64, 9), (49, 56, 12), (55, 56, 12), (67, 40, 3)] hp3 := by
        obtain ⟨md, f1, f2⟩ := b5.tr c4
        exact eSh_fr u2 (eSh_fr f1 (eSh_fr a10 (eSh_mem x2 (by decide))))
      have hbs : kTy hT cc_State_begin_245_e.2.2.1 hp3 := by
        have hsh : ∀ e, e ∈ shc4 → ∃ ob, hp3[e.1]? = some ob ∧ ob.1 = e.2.1 ∧ ob.2.length = e.2.2 := eSh_fr u2 c3.1
        have k0 : kTy hT [4] hp3 := fun k hk => by
          rw [List.mem_singleton] at hk
          subst hk
          obtain ⟨oT, ob, q1, q2, q3⟩ := fcT4 hP' c3 4 (by decide)
          obtain ⟨o', w1, w2, w3, w4⟩ := u2.2 _ _ q2
          have e : o' = ob := Prod.ext w2 (List.ext_getElem? (fun i => w4 i (fun ⟨m, m1, m2, _⟩ => by
            rw [List.mem_singleton.mp m1] at m2
            exact absurd m2 (by decide))))
          exact ⟨oT, ob, q1, by rw [w1, e], q3⟩
        have k2 : kTy hT [6] hp3 := kTy_ints (b := 999) (n := 5) (hi := 2147484647) rfl (hsh (6, 1, 5) (by decide)) (by omega) (by omega) (cR_r (fun hv => frE (by decide) hv) c3.2.2.2.2.2.2.2.2.1)
        have k6 : kTy hT [10] hp3 := kTy_ints (b := 4) (n := 8) (hi := 2147483652) rfl (hsh (10, 1, 8) (by decide)) (by omega) (by omega) (cR_r (fun hv => frE (by decide) hv) c3.2.2.2.2.2.2.2.2.2.1)
        have k9 : kTy hT [13] hp3 := kTy_ints (b := 200) (n := 8) (hi := 2147483848) rfl (hsh (13, 1, 8) (by decide)) (by omega) (by omega) (cR_r (fun hv => frE (by decide) hv) c3.2.2.2.2.2.2.2.2.2.2.2.1)
        have ks : kTy hT [31, 32, 33, 34, 35, 36, 37, 38, 39] hp3 := fun k hk => by
          have hk31 : 31 ≤ k := by
            have h31 : ∀ k ∈ [31, 32, 33, 34, 35, 36, 37, 38, 39], 31 ≤ k := by decide
            exact h31 k hk
          obtain ⟨oT, ob, q1, q2, q3⟩ := xst k hk
          obtain ⟨md, f1, f2⟩ := b5.tr c4
          have F : sFr ([(0, 1, 1), (1, 2, 12)] ++ (md ++ [(14, 0, 7)])) hp hp3 := ((a10.mono (fun k i h => sMin_l h)).tr (f1.mono (fun k i h => sMin_r (sMin_l h)))).tr (u2.mono (fun k i h => sMin_r (sMin_r h)))
          obtain ⟨o', w1, w2, w3, w4⟩ := F.2 _ _ q2
          have e : o' = ob := Prod.ext w2 (List.ext_getElem? (fun i => w4 i (fun hm => by
            rcases sMin_app hm with ⟨m, m1, m2, _⟩ | hm
            · simp only [List.mem_cons, List.not_mem_nil, or_false] at m1
              rcases m1 with rfl | rfl <;> dsimp only at m2 <;> omega
            · rcases sMin_app hm with hm | ⟨m, m1, m2, _⟩
              · rcases f2 _ _ hm with h | h | h <;> omega
              · rw [List.mem_singleton.mp m1] at m2
                dsimp only at m2
                omega)))
          exact ⟨oT, ob, q1, by rw [w1, e], q3⟩
        exact kTy_app (pl1 := [4]) k0 (kTy_app (pl1 := [6]) k2 (kTy_app (pl1 := [10]) k6 (kTy_app (pl1 := [13]) k9 ks)))
      obtain ⟨kl4, hp4, q1, q2, q3, q4⟩ := xtS4 (d := 59) (by decide) (show ρ' 0 9 ≤ 900 by omega) sh3 (hf (Or.inl rfl) (fr0 (by decide) x02)) (hf (Or.inl rfl) (fr0 (by decide) x03)) (hf (Or.inl rfl) (fr0 (by decide) x05)) (x07.imp (fun h => hf (Or.inl rfl) (fr0 (by decide) h)) (fun h => hf (Or.inl rfl) (fr0 (by decide) h))) (hf (Or.inl rfl) (fr0 (by decide) x011)) hbs a2
      obtain ⟨r5', hp5, w1, w2, w3⟩ := kEnd_cal (d := 59) (kav := [(.inr (.inr (.inr (.inl (some 0)))))]) (hp := hp) (P := fun r hp3 => r = some (.inl (ρ' 0 9)) ∧ hp3 = hp4) hM_xt (by decide) rfl rfl (kEnd.of ((a1.tr hcall).tr q1) (k_int fi_xt2 rfl ⟨rfl, rfl⟩))
      subst w2 w3
      refine ⟨hp5, w1, CT_fr q4 (fun k i hk ⟨m, m1, m2, m3, m4⟩ => ?_) hct, q2, q3⟩
      have hm := List.all_eq_true.mp (show ((0, 2, 3) :: (49, 0, 2) :: (55, 0, 2) :: (67, 2, 2) :: cc_State_begin_245_e.2.2.2.2).all (fun m => Nat.beq m.1 0 || Nat.ble 31 m.1) = true by decide) m m1
      rw [Bool.or_eq_true] at hm
      rcases hm with hm | hm
      · have := Nat.eq_of_beq_eq_true hm
        omega
      · have := Nat.le_of_ble_eq_true hm
        omega
    · have c19 : hC hp2 220 19 (.inl (ρ' 0 9)) := eDt_at (x := [(0, 19)]) (y := .inl [(1, 9)]) (g := []) e3.2.2.2.2.1 (by decide) (fun q hq => by cases hq) (eR_val (eR_c ρ' 19)) (eCv_i (eR_s rfl))
      have c11 : hC hp2 220 11 (.inl 0) := eDt_at (x := [(0, 11)]) (y := .inl [(1, 0), (4, 7)]) (g := []) e3.2.2.2.2.1 (by decide) (fun q hq => by cases hq) (eR_val (eR_c ρ' 11)) (eCv_i (eR_to (eR_t 7 (eR_s rfl)) h7))
      have c7 : hC hp2 220 7 (.inr (.inr (.inr (.inl (some 223))))) := eDt_at (x := [(0, 7)]) (y := .inr (.inr (some 223))) (g := []) e3.2.2.2.2.1 (by decide) (fun q hq => by cases hq) (eR_val (eR_c ρ' 7)) rfl
      have c6 : hC hp2 220 6 (.inr (.inr (.inr (.inl (some 222))))) := by
        obtain ⟨md, f1, f2⟩ := e4
        refine hC_fr f1 (fun hm => ?_) (hC_fr r5 (fun hm => ?_) mr6)
        · rcases f2 _ _ hm with h | h | h <;> omega
        · rcases r6 _ _ hm with h | h <;> omega
      obtain ⟨kl3, hp3, w1, w2, w3, w4⟩ := tlM (d := 59) (by decide) e3.1 e3.2.2.2.2.2.2.2.2.2.2 c11 c6 c7 e3.2.2.2.1 c19 (eLm_in (vs := [some (.inr (.inr (.inr (.inl (some 220))))), none]) ⟨rfl, trivial⟩ (eLm_out (ρ := ρ') (ls := LSR) ⟨rfl, trivial⟩ e2))
      obtain ⟨r5', hp5, q1, q2, q3⟩ := kEnd_cal (d := 59) (kav := [(.inr (.inr (.inr (.inl (some 220)))))]) (hp := hpR) (P := fun r hp4 => r = some (.inl (ρ' 0 9)) ∧ hp4 = hp3) hM_town (by decide) rfl rfl (kEnd.of ((r1.tr e1).tr w1) (k_int fi_mt2 rfl ⟨rfl, rfl⟩))
      subst q2 q3
      exact ⟨hp5, q1, MT_to hb.2.2.2.1 w2 (RS_MT e3)⟩
theorem twn17 {hp hpR : List vOb} {τ K R : Nat → Nat} {z : Nat} (hk : kwOK K R) (hz : z ≤ 940) (hX : XQ 17 4 shc17 (ei17.drop 1) hp) (hB : XB hp τ K z) (hM : MQr hpR) (hMB : MB hpR τ R z) : TWN 17 4 hp hpR := by
  obtain ⟨x1, x2, x00, x02, x03, x04, x05, x07, x011, x10, x11, xr, xc, xst⟩ := hX
  obtain ⟨bz, bT, bK⟩ := hB
  obtain ⟨m1, mr1, mr6, mr7, mr9, mI⟩ := hM
  obtain ⟨nz, nT, nR⟩ := hMB
  obtain ⟨klA, hpA, a1, a2, a3, a4, a5, a6, a7, a8, a9, a10⟩ := xtA17 (d := 59) (by decide) hz (eSh_mem x2 (by decide)) x1 (eSh_mem x2 (by decide)) x00 bz x03 x04 x10 x11 bT bK xr xc (kl := vEnt [(.inr (.inr (.inr (.inl (some 0)))))] m_X11_town.2.2.1) ⟨rfl, trivial⟩
  obtain ⟨ρ, klB, hpB, hP, hXt, v0, v1, v2, v3, v4, v5, v6, v7, v8, v9, v10, b1, b2, hCM, b4, b5⟩ := ent17 (d := 58) (by decide) hk hz a8 a3 a4 a6 a7 (kl := vEnt [(.inr (.inr (.inr (.inl (some 30))))), (.inr (.inr (.inr (.inl (some 1))))), (.inr (.inr (.inr (.inl (some 17)))))] m_X10_read.2.2.1) ⟨rfl, rfl, rfl, trivial⟩
  obtain ⟨klR, hpS, mdR, r1, r2, hRS, r4, r5, r6⟩ := entm (d := 59) (by decide) hz m1 nz mr7 mr9 mr1 nT nR mI (kl := vEnt [(.inr (.inr (.inr (.inl (some 220)))))] m_X12_town.2.2.1) ⟨rfl, trivial⟩ hP v0 v1 v2 v3 v4 v5 v6 v7 v8 v9
  have frA : ∀ {k i : Nat} {v : vAV}, k ≠ 0 → k ≠ 1 → hC hp k i v → hC hpA k i v := fun h0 h1 hv => hC_fr a10 (fun ⟨m, m1, m2, _⟩ => by
    simp only [List.mem_cons, List.not_mem_nil, or_false] at m1
    rcases m1 with rfl | rfl
    · exact h0 m2.symm
    · exact h1 m2.symm) hv
  have fr0 : ∀ {i : Nat} {v : vAV}, i ≠ 1 → hC hp 0 i v → hC hpA 0 i v := fun hi hv => hC_fr a10 (fun ⟨m, m1, m2, m3, m4⟩ => by
    simp only [List.mem_cons, List.not_mem_nil, or_false] at m1
    rcases m1 with rfl | rfl
    · dsimp only at m3 m4
      omega
    · dsimp only at m2
      omega) hv
  have cf : ∀ {hp2 : List vOb}, CF 17 hpB hp2 → ∀ {k i : Nat} {v : vAV}, (k = 0 ∨ (30 < k)) → hC hpA k i v → hC hp2 k i v := fun {hp2} h2 {k i v} hk hv => by
    obtain ⟨md, f1, f2⟩ := b5.tr h2
    exact hC_fr f1 (fun hm => by
      rcases f2 k i hm with h | h | h <;> omega) hv
  rcases lpT17 (d := 58) (d2 := 59) (by decide) (by decide) z (by omega) hP hXt hCM b4 b2 hRS r2 with ⟨k, a, ⟨kl1, hp1, c1, c2, c3, c4⟩, ⟨kl2, hp2, e1, e2, e3, e4⟩⟩ | ⟨ρ', ht, N, DC, NM, TK, BR, ST, hP', h7, ⟨kl1, hp1, c1, c2, c3, c4⟩, ⟨kl2, hp2, e1, e2, e3, e4⟩⟩
  · left
    refine ⟨k, a, ?_, ?_⟩
    · obtain ⟨rr, hp3, g1, g2, g3, g4, g5⟩ := kEnd_cal (d := 58) (kav := [(.inr (.inr (.inr (.inl (some 30))))), (.inr (.inr (.inr (.inl (some 1))))), (.inr (.inr (.inr (.inl (some 17)))))]) (hp := hpA) (P := fun r hp3 => r = some (.inl 4294967295) ∧ hC hp3 1 11 (.inl k) ∧ hC hp3 1 12 (.inl a) ∧ CF 17 hpA hp3) hM_rd (by decide) rfl rfl (kEnd.of (b1.tr c1) (k_int fi_rd2 rfl ⟨rfl, c2, c3, b5.tr c4⟩))
      subst g2
      have hcall : kRe vms vdf 59 vt_X11_town 0 0 (19, klA, [(.inr (.inr (.inr (.inl (some 17))))), (.inr (.inr (.inr (.inl (some 1))))), (.inr (.inr (.inr (.inl (some 30)))))], hpA) (22, klA, [.inl 4294967295], hp3) := e_callv (kas := [(.inr (.inr (.inr (.inl (some 1))))), (.inr (.inr (.inr (.inl (some 17)))))]) (rest := []) (r := some (.inl 4294967295)) iv_rd rfl rfl (vRc_sh (n := 3) (t := 10) a8 (by decide) rfl) g1
      have hf : ∀ {k i : Nat} {v : vAV}, k = 0 → hC hpA k i v → hC hp3 k i v := fun hk hv => by
        obtain ⟨md, f1, f2⟩ := g5
        exact hC_fr f1 (fun hm => by
          rcases f2 _ _ hm with h | h | h <;> omega) hv
      obtain ⟨md5, f51, f52⟩ := g5
      obtain ⟨kl4, hp4, q1, q2⟩ := xtF (d := 59) (by decide) (eSh_fr f51 (eSh_fr a10 (eSh_mem x2 (by decide)))) (hf rfl (fr0 (by decide) x00)) g4 a2
      obtain ⟨r5', hp5, w1, w2, w3, w4⟩ := kEnd_cal (d := 59) (kav := [(.inr (.inr (.inr (.inl (some 0)))))]) (hp := hp) (P := fun r hp3 => r = some (.inl (eBn 1 4294967295 a)) ∧ hC hp3 1 11 (.inl k) ∧ XF 17 hp hp3) hM_xt (by decide) rfl rfl (kEnd.of ((a1.tr hcall).tr q1) (k_int fi_xt1 rfl ⟨rfl, hC_fr q2 (fun ⟨m, m1, _⟩ => by cases m1) g3, XF_en a10 ⟨md5, f51, f52⟩ q2⟩))
      subst w2
      exact ⟨hp5, w1, w3, w4⟩
    · obtain ⟨r5', hp5, w1, w2, w3, w4⟩ := kEnd_cal (d := 59) (kav := [(.inr (.inr (.inr (.inl (some 220)))))]) (hp := hpR) (P := fun r hp3 => r = some (.inl (eBn 1 4294967295 a)) ∧ hC hp3 220 15 (.inl k) ∧ MF hpR hp3) hM_town (by decide) rfl rfl (kEnd.of (r1.tr e1) (k_int fi_mt1 rfl ⟨rfl, e2, MF_en r5 r6 e4⟩))
      subst w2
      exact ⟨hp5, w1, w3, w4⟩
  · right
    have hb := PV_b hP'
    refine ⟨ρ' 0 9, ρ' 0 1, ρ' 0 2, ρ' 0 3, ρ' 0 4, ρ' 0 5, ρ' 0 6, TK, BR, ST, by omega, PV_TB hP', ?_, ?_⟩
    · obtain ⟨kl6, hp6, u1, u2⟩ := rdE17 (d := 58) (by decide) hP' c3 c2
      have hct : CT 17 hp6 (ρ' 0 1) (ρ' 0 2) (ρ' 0 3) (ρ' 0 4) (ρ' 0 5) (ρ' 0 6) TK BR ST := CT_fr u2 (fun k i hk ⟨m, m1, m2, m3, m4⟩ => by
        rw [List.mem_singleton.mp m1] at m2
        dsimp only at m2
        omega) (CM_CT17 c3)
      have frE : ∀ {k i : Nat} {v : vAV}, k ≠ 27 → hC hp1 k i v → hC hp6 k i v := fun hk hv => hC_fr u2 (fun ⟨m, m1, m2, m3, m4⟩ => by
        rw [List.mem_singleton.mp m1] at m2
        exact hk m2.symm) hv
      obtain ⟨rr, hp3, g1, g2, g3⟩ := kEnd_cal (d := 58) (kav := [(.inr (.inr (.inr (.inl (some 30))))), (.inr (.inr (.inr (.inl (some 1))))), (.inr (.inr (.inr (.inl (some 17)))))]) (hp := hpA) (P := fun r hp3 => r = some (.inl (ρ' 0 9)) ∧ hp3 = hp6) hM_rd (by decide) rfl rfl (kEnd.of ((b1.tr c1).tr u1) (k_int fi_rd1 rfl ⟨rfl, rfl⟩))
      subst g2 g3
      have hcall : kRe vms vdf 59 vt_X11_town 0 0 (19, klA, [(.inr (.inr (.inr (.inl (some 17))))), (.inr (.inr (.inr (.inl (some 1))))), (.inr (.inr (.inr (.inl (some 30)))))], hpA) (22, klA, [.inl (ρ' 0 9)], hp3) := e_callv (kas := [(.inr (.inr (.inr (.inl (some 1))))), (.inr (.inr (.inr (.inl (some 17)))))]) (rest := []) (r := some (.inl (ρ' 0 9))) iv_rd rfl rfl (vRc_sh (n := 3) (t := 10) a8 (by decide) rfl) g1
      have hf : ∀ {k i : Nat} {v : vAV}, (k = 0 ∨ 30 < k) → hC hpA k i v → hC hp3 k i v := fun hk hv => frE (by omega) (cf c4 hk hv)
      have sh3 : eSh [(0, 88, 19), (31, 64, 9), (49, 56, 12), (55, 56, 12), (67, 40, 3)] hp3 := by
        obtain ⟨md, f1, f2⟩ := b5.tr c4
        exact eSh_fr u2 (eSh_fr f1 (eSh_fr a10 (eSh_mem x2 (by decide))))
      have hbs : kTy hT cc_State_begin_18_e.2.2.1 hp3 := by
        have hsh : ∀ e, e ∈ shc17 → ∃ ob, hp3[e.1]? = some ob ∧ ob.1 = e.2.1 ∧ ob.2.length = e.2.2 := eSh_fr u2 c3.1
        have k0 : kTy hT [17] hp3 := fun k hk => by
          rw [List.mem_singleton] at hk
          subst hk
          obtain ⟨oT, ob, q1, q2, q3⟩ := fcT17 hP' c3 17 (by decide)
          obtain ⟨o', w1, w2, w3, w4⟩ := u2.2 _ _ q2
          have e : o' = ob := Prod.ext w2 (List.ext_getElem? (fun i => w4 i (fun ⟨m, m1, m2, _⟩ => by
            rw [List.mem_singleton.mp m1] at m2
            exact absurd m2 (by decide))))
          exact ⟨oT, ob, q1, by rw [w1, e], q3⟩
        have k2 : kTy hT [19] hp3 := kTy_ints (b := 999) (n := 5) (hi := 2147484647) rfl (hsh (19, 1, 5) (by decide)) (by omega) (by omega) (cR_r (fun hv => frE (by decide) hv) c3.2.2.2.2.2.2.2.2.1)
        have k6 : kTy hT [23] hp3 := kTy_ints (b := 4) (n := 8) (hi := 2147483652) rfl (hsh (23, 1, 8) (by decide)) (by omega) (by omega) (cR_r (fun hv => frE (by decide) hv) c3.2.2.2.2.2.2.2.2.2.1)
        have k9 : kTy hT [26] hp3 := kTy_ints (b := 200) (n := 8) (hi := 2147483848) rfl (hsh (26, 1, 8) (by decide)) (by omega) (by omega) (cR_r (fun hv => frE (by decide) hv) c3.2.2.2.2.2.2.2.2.2.2.2.1)
        have ks : kTy hT [31, 32, 33, 34, 35, 36, 37, 38, 39] hp3 := fun k hk => by
          have hk31 : 31 ≤ k := by
            have h31 : ∀ k ∈ [31, 32, 33, 34, 35, 36, 37, 38, 39], 31 ≤ k := by decide
            exact h31 k hk
          obtain ⟨oT, ob, q1, q2, q3⟩ := xst k hk
          obtain ⟨md, f1, f2⟩ := b5.tr c4
          have F : sFr ([(0, 1, 1), (1, 2, 12)] ++ (md ++ [(27, 0, 7)])) hp hp3 := ((a10.mono (fun k i h => sMin_l h)).tr (f1.mono (fun k i h => sMin_r (sMin_l h)))).tr (u2.mono (fun k i h => sMin_r (sMin_r h)))
          obtain ⟨o', w1, w2, w3, w4⟩ := F.2 _ _ q2
          have e : o' = ob := Prod.ext w2 (List.ext_getElem? (fun i => w4 i (fun hm => by
            rcases sMin_app hm with ⟨m, m1, m2, _⟩ | hm
            · simp only [List.mem_cons, List.not_mem_nil, or_false] at m1
              rcases m1 with rfl | rfl <;> dsimp only at m2 <;> omega
            · rcases sMin_app hm with hm | ⟨m, m1, m2, _⟩
              · rcases f2 _ _ hm with h | h | h <;> omega
              · rw [List.mem_singleton.mp m1] at m2
                dsimp only at m2
                omega)))
          exact ⟨oT, ob, q1, by rw [w1, e], q3⟩
        exact kTy_app (pl1 := [17]) k0 (kTy_app (pl1 := [19]) k2 (kTy_app (pl1 := [23]) k6 (kTy_app (pl1 := [26]) k9 ks)))
      obtain ⟨kl4, hp4, q1, q2, q3, q4⟩ := xtS17 (d := 59) (by decide) (show ρ' 0 9 ≤ 900 by omega) sh3 (hf (Or.inl rfl) (fr0 (by decide) x02)) (hf (Or.inl rfl) (fr0 (by decide) x03)) (hf (Or.inl rfl) (fr0 (by decide) x05)) (x07.imp (fun h => hf (Or.inl rfl) (fr0 (by decide) h)) (fun h => hf (Or.inl rfl) (fr0 (by decide) h))) (hf (Or.inl rfl) (fr0 (by decide) x011)) hbs a2
      obtain ⟨r5', hp5, w1, w2, w3⟩ := kEnd_cal (d := 59) (kav := [(.inr (.inr (.inr (.inl (some 0)))))]) (hp := hp) (P := fun r hp3 => r = some (.inl (ρ' 0 9)) ∧ hp3 = hp4) hM_xt (by decide) rfl rfl (kEnd.of ((a1.tr hcall).tr q1) (k_int fi_xt2 rfl ⟨rfl, rfl⟩))
      subst w2 w3
      refine ⟨hp5, w1, CT_fr q4 (fun k i hk ⟨m, m1, m2, m3, m4⟩ => ?_) hct, q2, q3⟩
      have hm := List.all_eq_true.mp (show ((0, 2, 3) :: (49, 0, 2) :: (55, 0, 2) :: (67, 2, 2) :: cc_State_begin_18_e.2.2.2.2).all (fun m => Nat.beq m.1 0 || Nat.ble 31 m.1) = true by decide) m m1
      rw [Bool.or_eq_true] at hm
      rcases hm with hm | hm
      · have := Nat.eq_of_beq_eq_true hm
        omega
      · have := Nat.le_of_ble_eq_true hm
        omega
    · have c19 : hC hp2 220 19 (.inl (ρ' 0 9)) := eDt_at (x := [(0, 19)]) (y := .inl [(1, 9)]) (g := []) e3.2.2.2.2.1 (by decide) (fun q hq => by cases hq) (eR_val (eR_c ρ' 19)) (eCv_i (eR_s rfl))
      have c11 : hC hp2 220 11 (.inl 0) := eDt_at (x := [(0, 11)]) (y := .inl [(1, 0), (4, 7)]) (g := []) e3.2.2.2.2.1 (by decide) (fun q hq => by cases hq) (eR_val (eR_c ρ' 11)) (eCv_i (eR_to (eR_t 7 (eR_s rfl)) h7))
      have c7 : hC hp2 220 7 (.inr (.inr (.inr (.inl (some 223))))) := eDt_at (x := [(0, 7)]) (y := .inr (.inr (some 223))) (g := []) e3.2.2.2.2.1 (by decide) (fun q hq => by cases hq) (eR_val (eR_c ρ' 7)) rfl
      have c6 : hC hp2 220 6 (.inr (.inr (.inr (.inl (some 222))))) := by
        obtain ⟨md, f1, f2⟩ := e4
        refine hC_fr f1 (fun hm => ?_) (hC_fr r5 (fun hm => ?_) mr6)
        · rcases f2 _ _ hm with h | h | h <;> omega
        · rcases r6 _ _ hm with h | h <;> omega
      obtain ⟨kl3, hp3, w1, w2, w3, w4⟩ := tlM (d := 59) (by decide) e3.1 e3.2.2.2.2.2.2.2.2.2.2 c11 c6 c7 e3.2.2.2.1 c19 (eLm_in (vs := [some (.inr (.inr (.inr (.inl (some 220))))), none]) ⟨rfl, trivial⟩ (eLm_out (ρ := ρ') (ls := LSR) ⟨rfl, trivial⟩ e2))
      obtain ⟨r5', hp5, q1, q2, q3⟩ := kEnd_cal (d := 59) (kav := [(.inr (.inr (.inr (.inl (some 220)))))]) (hp := hpR) (P := fun r hp4 => r = some (.inl (ρ' 0 9)) ∧ hp4 = hp3) hM_town (by decide) rfl rfl (kEnd.of ((r1.tr e1).tr w1) (k_int fi_mt2 rfl ⟨rfl, rfl⟩))
      subst q2 q3
      exact ⟨hp5, q1, MT_to hb.2.2.2.1 w2 (RS_MT e3)⟩
