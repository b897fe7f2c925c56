/-! ===== the loop over the LINEs: states ===== -/
theorem eDt_sub {ρ : Nat → Nat → Nat} {D cs : eD} {hp : List vOb} (h : cs.all (fun e => match eGet e.1 e.2.1 D with
  | some q => evB q.1 e.2.2.1 && elB ecB q.2 e.2.2.2
  | none => false) = true) (hd : eDt ρ D hp) : eDt ρ cs hp := fun e he hg => by
  have h1 := List.all_eq_true.mp h e he
  split at h1
  · next q hq =>
    rw [Bool.and_eq_true] at h1
    have h2 := hd _ (eGet_ok hq) (fun r hr => hg r (by rw [← elB_ok ecB_ok h1.2]; exact hr))
    dsimp only at h2
    rw [evB_ok _ _ h1.1] at h2
    exact h2
  · cases h1
theorem eDt_app {ρ : Nat → Nat → Nat} {D D' : eD} {hp : List vOb} (h1 : eDt ρ D hp) (h2 : eDt ρ D' hp) : eDt ρ (D ++ D') hp := fun e he => by
  rcases List.mem_append.mp he with h | h
  · exact h1 e h
  · exact h2 e h
/-- a told cell of a list, by its place -/
theorem eDt_at {ρ : Nat → Nat → Nat} {D : eD} {hp : List vOb} {k : Nat} {x : eX} {y : eV} {g : eCs} {i : Nat} {v : vAV} (hd : eDt ρ D hp) (h : (match eGet k x D with
  | some q => evB q.1 y && elB ecB q.2 g
  | none => false) = true) (hg : ∀ q ∈ g, eCo ρ q) (hx : eVal ρ x = i) (hy : eCv ρ y = v) : hC hp k i v := by
  split at h
  · next q hq =>
    rw [Bool.and_eq_true] at h
    have h2 := hd _ (eGet_ok hq) (fun r hr => hg r (by rw [← elB_ok ecB_ok h.2]; exact hr))
    dsimp only at h2
    rw [evB_ok _ _ h.1, hx, hy] at h2
    exact h2
  · cases h
def cH4 : eD := [(30, [(0, 0)], .inl [(1, 7)], []), (30, [(0, 1)], .inl [(1, 8)], []), (4, [(0, 0)], .inl [(1, 1)], []), (4, [(0, 1)], .inl [(1, 2)], []), (4, [(0, 2)], .inl [(1, 4)], []), (4, [(0, 3)], .inl [(1, 3)], []), (4, [(0, 4)], .inl [(1, 5)], []), (4, [(0, 5)], .inl [(1, 6)], []), (4, [(0, 18)], .inl [(1, 10)], []), (4, [(0, 6)], .inr (.inr (some 5)), []), (4, [(0, 7)], .inr (.inr (some 6)), []), (4, [(0, 8)], .inr (.inr (some 7)), []), (4, [(0, 9)], .inr (.inr (some 8)), []), (4, [(0, 10)], .inr (.inr (some 9)), []), (4, [(0, 11)], .inr (.inr (some 10)), []), (4, [(0, 12)], .inr (.inr (some 11)), []), (4, [(0, 13)], .inr (.inr (some 12)), []), (4, [(0, 14)], .inr (.inr (some 13)), []), (4, [(0, 15)], .inr (.inr (some 14)), []), (4, [(0, 16)], .inr (.inr (some 15)), []), (4, [(0, 17)], .inr (.inr (some 16)), [])]
def cH17 : eD := [(30, [(0, 0)], .inl [(1, 7)], []), (30, [(0, 1)], .inl [(1, 8)], []), (17, [(0, 0)], .inl [(1, 1)], []), (17, [(0, 1)], .inl [(1, 2)], []), (17, [(0, 2)], .inl [(1, 4)], []), (17, [(0, 3)], .inl [(1, 3)], []), (17, [(0, 4)], .inl [(1, 5)], []), (17, [(0, 5)], .inl [(1, 6)], []), (17, [(0, 18)], .inl [(1, 10)], []), (17, [(0, 6)], .inr (.inr (some 18)), []), (17, [(0, 7)], .inr (.inr (some 19)), []), (17, [(0, 8)], .inr (.inr (some 20)), []), (17, [(0, 9)], .inr (.inr (some 21)), []), (17, [(0, 10)], .inr (.inr (some 22)), []), (17, [(0, 11)], .inr (.inr (some 23)), []), (17, [(0, 12)], .inr (.inr (some 24)), []), (17, [(0, 13)], .inr (.inr (some 25)), []), (17, [(0, 14)], .inr (.inr (some 26)), []), (17, [(0, 15)], .inr (.inr (some 27)), []), (17, [(0, 16)], .inr (.inr (some 28)), []), (17, [(0, 17)], .inr (.inr (some 29)), [])]
def rH : eD := [(220, [(0, 4)], .inl [(1, 0), (4, 1)], [(1, [(1, 0), (4, 7)], [(0, 4)], true)]), (220, [(0, 11)], .inl [(1, 0), (4, 7)], []), (220, [(0, 12)], .inl [(1, 0), (4, 2)], []), (220, [(0, 14)], .inl [(1, 0), (4, 6)], [(0, [(1, 0), (4, 10)], [(0, 1)], true)]), (220, [(0, 17)], .inr (.inl [(1, 0), (4, 8)]), [(0, [(1, 0), (4, 7)], [(0, 1)], true)]), (220, [(0, 7)], .inr (.inr (some 223)), []), (220, [(0, 9)], .inr (.inr (some 225)), []), (220, [(0, 20)], .inl [(1, 7)], []), (220, [(0, 21)], .inl [(1, 8)], []), (220, [(0, 19)], .inl [(1, 9)], []), (223, [(0, 0)], .inl [(1, 1)], []), (223, [(0, 1)], .inl [(1, 2)], []), (223, [(0, 2)], .inl [(1, 4)], []), (223, [(0, 3)], .inl [(1, 3)], []), (223, [(0, 4)], .inl [(1, 5)], []), (223, [(0, 5)], .inl [(1, 6)], [])]
/-- the token at the place n, read -/
def cLk (c : Nat) : eD := [(1, [(0, 4)], .inl [(1, 0), (4, 1)], [(1, [(1, 0), (4, 3)], [(0, 1)], true)]), (1, [(0, 5)], .inl [(1, 0), (4, 3)], []), (1, [(0, 6)], .inl [(1, 0), (4, 2)], []), (1, [(0, 10)], .inl [(0, c)], [])]
/-- the STRENGTHs: at most 40, 1 or more for each porter, 0 behind the last -/
def SB (r : Nat) (ST : Nat → Nat) : Prop := (∀ i, ST i ≤ 40) ∧ (∀ i, i < r → 1 ≤ ST i) ∧ (∀ i, r ≤ i → ST i = 0)
theorem SB_0 : SB 0 (fun _ => 0) := ⟨fun _ => Nat.zero_le _, fun i hi => absurd hi (Nat.not_lt_zero i), fun _ _ => rfl⟩
theorem SB_snoc {r v : Nat} {ST : Nat → Nat} (h : SB r ST) (h1 : 1 ≤ v) (h2 : v ≤ 40) : SB (r + 1) (snoc ST r v) := by
  refine ⟨fun i => ?_, fun i hi => ?_, fun i hi => ?_⟩
  · unfold snoc
    split
    · exact h2
    · exact h.1 i
  · unfold snoc
    split
    · exact h1
    · exact h.2.1 i (by omega)
  · unfold snoc
    split
    · omega
    · exact h.2.2 i (by omega)
/-- what class and reference say alike at the beginning of a LINE -/
def PV (ρ : Nat → Nat → Nat) (τ K R : Nat → Nat) (z m : Nat) (N DC NM TK BR ST : Nat → Nat) : Prop := tabA ρ τ K R N DC NM z m 24 (ρ 0 1) (ρ 0 2) (ρ 0 4) (ρ 0 3) (ρ 0 10) ∧ ρ 0 0 ≤ z ∧ z ≤ 940 ∧ (ρ 0 5 ≤ 12 ∧ ρ 0 6 < 64 ∧ ρ 0 7 ≤ 8 ∧ ρ 0 8 ≤ 8 ∧ 2 * ρ 0 9 ≤ ρ 0 0) ∧ (∀ i, TK i < 64) ∧ (∀ i, BR i < 64) ∧ SB (ρ 0 4) ST ∧ ρ 0 11 = TK (ρ 12 (ρ 1 (ρ 0 0)) % 8) ∧ ρ 0 12 = TK (ρ 12 (ρ 1 (ρ 1 (ρ 0 0))) % 8) ∧ ρ 0 13 = BR (ρ 12 (ρ 1 (ρ 0 0)) % 8)
/-- the cells of a row lie between 0 and b -/
def cR (hp : List vOb) (k len b : Nat) : Prop := ∀ i, i < len → ∃ v, v ≤ b ∧ hC hp k i (.inl v)
def cRs (t : Nat) (hp : List vOb) : Prop := cR hp (t + 2) 5 999 ∧ cR hp (t + 6) 8 4 ∧ cR hp (t + 7) 8 5 ∧ cR hp (t + 9) 8 200 ∧ cR hp (t + 10) 8 255
/-- the class in read(), but for its place in the text -/
def CM (t : Nat) (cH : eD) (sh : List (Nat × Nat × Nat)) (hp : List vOb) (τ K : Nat → Nat) (z m : Nat) (ρ : Nat → Nat → Nat) (ht : Nat) (N DC TK BR ST : Nat → Nat) : Prop := eSh sh hp ∧ cRdy hp τ K z m ∧ eDt ρ cH hp ∧ (hC hp 30 2 (.inl ht) ∧ ht < 2) ∧ (∀ i, i < 6 → hC hp (t + 1) i (.inl (TK i))) ∧ (∀ i, i < 5 → hC hp (t + 5) i (.inl (BR i))) ∧ (∀ i, i < ρ 0 4 → hC hp (t + 3) i (.inl (ST i))) ∧ (∀ i, i < ρ 0 10 → hC hp (t + 11) i (.inr (.inr (.inl (N i)))) ∧ N i < 18446744073709551616 ∧ hC hp (t + 12) i (.inl (DC i))) ∧ cRs t hp
/-- the cells of the reference's new TOWN are ints, those of its names longs -/
def RI (hp : List vOb) : Prop := (∀ i, i < 64 → ∃ v, hC hp 223 i (.inl v)) ∧ (∀ i, i < 48 → ∃ v, hC hp 225 i (.inr (.inr (.inl v))))
/-- the reference at pc 69 of town() -/
def RS (hp : List vOb) (τ R : Nat → Nat) (z m : Nat) (ρ : Nat → Nat → Nat) (ht : Nat) (NM TK BR ST : Nat → Nat) : Prop := eSh shM hp ∧ nRdy hp τ z m ∧ mRs hp R ∧ hC hp 220 9 (.inr (.inr (.inr (.inl (some 225))))) ∧ eDt ρ rH hp ∧ (hC hp 220 22 (.inl ht) ∧ ht < 2) ∧ (∀ i, i < 6 → hC hp 223 (6 + i) (.inl (TK i))) ∧ (∀ i, i < 5 → hC hp 223 (27 + i) (.inl (BR i))) ∧ (∀ i, i < 5 → hC hp 223 (17 + i) (.inl (ST i))) ∧ (∀ k, k < 4 → mNm hp NM (nrB 24 k) (nrC (ρ 0 1) (ρ 0 2) (ρ 0 4) (ρ 0 3) k)) ∧ RI hp
theorem PV_b {ρ : Nat → Nat → Nat} {τ K R : Nat → Nat} {z m : Nat} {N DC NM TK BR ST : Nat → Nat} (h : PV ρ τ K R z m N DC NM TK BR ST) : ρ 0 1 ≤ 6 ∧ ρ 0 2 ≤ 5 ∧ ρ 0 3 ≤ 8 ∧ ρ 0 4 ≤ 5 ∧ ρ 0 10 = ρ 0 1 + ρ 0 2 + ρ 0 4 + ρ 0 3 ∧ ρ 0 9 ≤ 900 ∧ ρ 0 11 < 64 ∧ ρ 0 12 < 64 ∧ ρ 0 13 < 64 := by
  obtain ⟨hA, h0, hz, ⟨a1, a2, a3, a4, a5⟩, hT, hB, hS, e1, e2, e3⟩ := h
  obtain ⟨n1, n2, n3, n4, n5, -⟩ := hA.2.2.2.1
  have b1 := hT (ρ 12 (ρ 1 (ρ 0 0)) % 8)
  have b2 := hT (ρ 12 (ρ 1 (ρ 1 (ρ 0 0))) % 8)
  have b3 := hB (ρ 12 (ρ 1 (ρ 0 0)) % 8)
  omega
theorem PV_DC {ρ : Nat → Nat → Nat} {τ K R : Nat → Nat} {z m : Nat} {N DC NM TK BR ST : Nat → Nat} (h : PV ρ τ K R z m N DC NM TK BR ST) : ∀ i, i < ρ 0 10 → DC i < 4294967295 := fun i hi => by
  obtain ⟨n1, n2, n3, n4, n5, n6, -⟩ := h.1.2.2.2.1
  obtain ⟨k, j, k1, k2, k3, -⟩ := n6 i hi
  have := nrC_le (k := k) n2 n3 n4 n5
  omega
theorem CM_nm4 {hp : List vOb} {τ K : Nat → Nat} {z m : Nat} {ρ : Nat → Nat → Nat} {ht : Nat} {N DC TK BR ST : Nat → Nat} (h : CM 4 cH4 shc4 hp τ K z m ρ ht N DC TK BR ST) : cNm 4 hp N DC (ρ 0 10) := by
  obtain ⟨h1, h2, h3, h4, h5, h6, h7, h8⟩ := h
  exact ⟨eDt_at (y := .inl [(1, 10)]) (g := []) h3 (by decide) (fun q hq => by cases hq) (eR_val (eR_c ρ 18)) (eCv_i (eR_s rfl)), eDt_at (y := .inr (.inr (some 15))) (g := []) h3 (by decide) (fun q hq => by cases hq) (eR_val (eR_c ρ 16)) rfl, eDt_at (y := .inr (.inr (some 16))) (g := []) h3 (by decide) (fun q hq => by cases hq) (eR_val (eR_c ρ 17)) rfl, h8.1⟩
theorem CM_or4 {hp : List vOb} {τ K R : Nat → Nat} {z m : Nat} {ρ : Nat → Nat → Nat} {ht : Nat} {N DC NM TK BR ST : Nat → Nat} (hP : PV ρ τ K R z m N DC NM TK BR ST) (h : CM 4 cH4 shc4 hp τ K z m ρ ht N DC TK BR ST) (d : Nat) (hd : 11 ≤ d) : eCalOK vms vdf d ρ hp oC4 := by
  have hs : eSh [(4, 72, 19), (4 + 11, 4, 24), (4 + 12, 1, 24)] hp := fun e he => h.1 e (by
    simp only [List.mem_cons, List.not_mem_nil, or_false] at he
    rcases he with rfl | rfl | rfl
    · decide
    · decide
    · decide)
  have hb := PV_b hP
  have hle : ρ 0 10 ≤ 24 := by omega
  have hG : tabG ρ N DC (ρ 0 10) z := ⟨hle, hP.1.2.2.2.2.2.1⟩
  exact eOr_ok (oAdv_ok h.2.1 hP.2.1 hP.1.1 d hd) (eOr_ok (oFdC_ok xfOK_4 hs (CM_nm4 h) hP.2.1 hP.1.1 hG d hd) (oFdD_ok xfOK_4 hs (CM_nm4 h) hle (PV_DC hP) hP.2.1 hP.1.1 hG d hd))
theorem CM_nm17 {hp : List vOb} {τ K : Nat → Nat} {z m : Nat} {ρ : Nat → Nat → Nat} {ht : Nat} {N DC TK BR ST : Nat → Nat} (h : CM 17 cH17 shc17 hp τ K z m ρ ht N DC TK BR ST) : cNm 17 hp N DC (ρ 0 10) := by
  obtain ⟨h1, h2, h3, h4, h5, h6, h7, h8⟩ := h
  exact ⟨eDt_at (y := .inl [(1, 10)]) (g := []) h3 (by decide) (fun q hq => by cases hq) (eR_val (eR_c ρ 18)) (eCv_i (eR_s rfl)), eDt_at (y := .inr (.inr (some 28))) (g := []) h3 (by decide) (fun q hq => by cases hq) (eR_val (eR_c ρ 16)) rfl, eDt_at (y := .inr (.inr (some 29))) (g := []) h3 (by decide) (fun q hq => by cases hq) (eR_val (eR_c ρ 17)) rfl, h8.1⟩
theorem CM_or17 {hp : List vOb} {τ K R : Nat → Nat} {z m : Nat} {ρ : Nat → Nat → Nat} {ht : Nat} {N DC NM TK BR ST : Nat → Nat} (hP : PV ρ τ K R z m N DC NM TK BR ST) (h : CM 17 cH17 shc17 hp τ K z m ρ ht N DC TK BR ST) (d : Nat) (hd : 11 ≤ d) : eCalOK vms vdf d ρ hp oC17 := by
  have hs : eSh [(17, 72, 19), (17 + 11, 4, 24), (17 + 12, 1, 24)] hp := fun e he => h.1 e (by
    simp only [List.mem_cons, List.not_mem_nil, or_false] at he
    rcases he with rfl | rfl | rfl
    · decide
    · decide
    · decide)
  have hb := PV_b hP
  have hle : ρ 0 10 ≤ 24 := by omega
  have hG : tabG ρ N DC (ρ 0 10) z := ⟨hle, hP.1.2.2.2.2.2.1⟩
  exact eOr_ok (oAdv_ok h.2.1 hP.2.1 hP.1.1 d hd) (eOr_ok (oFdC_ok xfOK_17 hs (CM_nm17 h) hP.2.1 hP.1.1 hG d hd) (oFdD_ok xfOK_17 hs (CM_nm17 h) hle (PV_DC hP) hP.2.1 hP.1.1 hG d hd))
theorem RS_or {hp : List vOb} {τ K R : Nat → Nat} {z m : Nat} {ρ : Nat → Nat → Nat} {ht : Nat} {N DC NM TK BR ST : Nat → Nat} (hP : PV ρ τ K R z m N DC NM TK BR ST) (h : RS hp τ R z m ρ ht NM TK BR ST) (d : Nat) (hd : 11 ≤ d) : eCalOK vms vdf d ρ hp oM := by
  obtain ⟨b1, b2, b3, b4, -⟩ := PV_b hP
  obtain ⟨-, hM, -, -, h11, -, hF⟩ := hP.1
  have hT : tabF ρ hp NM z [(24, 1, 13), (30, 2, 14), (35, 4, 15), (40, 3, 16)] := fun e he => by
    simp only [List.mem_cons, List.not_mem_nil, or_false] at he
    have hN := h.2.2.2.2.2.2.2.2.2.1
    rcases he with rfl | rfl | rfl | rfl
    · exact ⟨by dsimp only; omega, by decide, fun _ => by dsimp only; omega, hN 0 (by decide), hF 0 (by decide)⟩
    · exact ⟨by dsimp only; omega, by decide, fun _ => by dsimp only; omega, hN 1 (by decide), hF 1 (by decide)⟩
    · exact ⟨by dsimp only; omega, by decide, fun _ => by dsimp only; omega, hN 2 (by decide), hF 2 (by decide)⟩
    · exact ⟨by dsimp only; omega, by decide, fun h => absurd h (by decide), hN 3 (by decide), hF 3 (by decide)⟩
  exact eOr_ok (oNxt_ok h.2.1 hP.2.1 hM d hd) (eOr_ok (oNam_ok h.2.1 h.2.2.1 hP.2.1 hM h11 d hd) (oFdM_ok h.2.1 h.2.2.2.1 hP.2.1 b3 hM hT d hd))
set_option maxRecDepth 1000000 in
theorem ph4_a : eQ (eRun shc4 (eCalI oC4 vms shc4 600 8) vt_X10_read [45, 39] 8 [false, true] (21, [some (.inr (.inr (some 30))), some (.inr (.inr (some 1))), some (.inr (.inr (some 4))), some (.inl [(1, 9)])], [], [(1, [(0, 4)], .inl [(1, 0)], []), (30, [(0, 0)], .inl [(1, 7)], []), (30, [(0, 1)], .inl [(1, 8)], []), (4, [(0, 0)], .inl [(1, 1)], []), (4, [(0, 1)], .inl [(1, 2)], []), (4, [(0, 2)], .inl [(1, 4)], []), (4, [(0, 3)], .inl [(1, 3)], []), (4, [(0, 4)], .inl [(1, 5)], []), (4, [(0, 5)], .inl [(1, 6)], []), (4, [(0, 18)], .inl [(1, 10)], []), (4, [(0, 6)], .inr (.inr (some 5)), []), (4, [(0, 7)], .inr (.inr (some 6)), []), (4, [(0, 8)], .inr (.inr (some 7)), []), (4, [(0, 9)], .inr (.inr (some 8)), []), (4, [(0, 10)], .inr (.inr (some 9)), []), (4, [(0, 11)], .inr (.inr (some 10)), []), (4, [(0, 12)], .inr (.inr (some 11)), []), (4, [(0, 13)], .inr (.inr (some 12)), []), (4, [(0, 14)], .inr (.inr (some 13)), []), (4, [(0, 15)], .inr (.inr (some 14)), []), (4, [(0, 16)], .inr (.inr (some 15)), []), (4, [(0, 17)], .inr (.inr (some 16)), [])], [])) (45, [some (.inr (.inr (some 30))), some (.inr (.inr (some 1))), some (.inr (.inr (some 4))), some (.inl [(1, 9)])], [], [(1, [(0, 4)], .inl [(1, 0), (4, 1)], [(1, [(1, 0), (4, 3)], [(0, 1)], true)]), (1, [(0, 5)], .inl [(1, 0), (4, 3)], []), (1, [(0, 6)], .inl [(1, 0), (4, 2)], []), (1, [(0, 7)], .inl [(1, 0), (4, 6)], [(0, [(1, 0), (4, 3)], [(0, 3)], true)]), (1, [(0, 9)], .inr (.inl [(1, 0), (4, 5)]), [(0, [(1, 0), (4, 3)], [(0, 2)], true)]), (1, [(0, 10)], .inl [(1, 0), (4, 4)], []), (30, [(0, 0)], .inl [(1, 7)], []), (30, [(0, 1)], .inl [(1, 8)], []), (4, [(0, 0)], .inl [(1, 1)], []), (4, [(0, 1)], .inl [(1, 2)], []), (4, [(0, 2)], .inl [(1, 4)], []), (4, [(0, 3)], .inl [(1, 3)], []), (4, [(0, 4)], .inl [(1, 5)], []), (4, [(0, 5)], .inl [(1, 6)], []), (4, [(0, 18)], .inl [(1, 10)], []), (4, [(0, 6)], .inr (.inr (some 5)), []), (4, [(0, 7)], .inr (.inr (some 6)), []), (4, [(0, 8)], .inr (.inr (some 7)), []), (4, [(0, 9)], .inr (.inr (some 8)), []), (4, [(0, 10)], .inr (.inr (some 9)), []), (4, [(0, 11)], .inr (.inr (some 10)), []), (4, [(0, 12)], .inr (.inr (some 11)), []), (4, [(0, 13)], .inr (.inr (some 12)), []), (4, [(0, 14)], .inr (.inr (some 13)), []), (4, [(0, 15)], .inr (.inr (some 14)), []), (4, [(0, 16)], .inr (.inr (some 15)), []), (4, [(0, 17)], .inr (.inr (some 16)), [])], [(1, [(0, 4)]), (1, [(0, 5)]), (1, [(0, 6)]), (1, [(0, 7)]), (1, [(0, 9)]), (1, [(0, 10)])]) [(4, [(1, 9)], [(0, 900)], false), (1, [(1, 0), (4, 3)], [(0, 0)], true)] [] = true := by decide +kernel
def pd4_a : eD := [(1, [(0, 4)], .inl [(1, 0), (4, 1)], [(1, [(1, 0), (4, 3)], [(0, 1)], true)]), (1, [(0, 5)], .inl [(1, 0), (4, 3)], []), (1, [(0, 6)], .inl [(1, 0), (4, 2)], []), (1, [(0, 7)], .inl [(1, 0), (4, 6)], [(0, [(1, 0), (4, 3)], [(0, 3)], true)]), (1, [(0, 9)], .inr (.inl [(1, 0), (4, 5)]), [(0, [(1, 0), (4, 3)], [(0, 2)], true)]), (1, [(0, 10)], .inl [(1, 0), (4, 4)], []), (30, [(0, 0)], .inl [(1, 7)], []), (30, [(0, 1)], .inl [(1, 8)], []), (4, [(0, 0)], .inl [(1, 1)], []), (4, [(0, 1)], .inl [(1, 2)], []), (4, [(0, 2)], .inl [(1, 4)], []), (4, [(0, 3)], .inl [(1, 3)], []), (4, [(0, 4)], .inl [(1, 5)], []), (4, [(0, 5)], .inl [(1, 6)], []), (4, [(0, 18)], .inl [(1, 10)], []), (4, [(0, 6)], .inr (.inr (some 5)), []), (4, [(0, 7)], .inr (.inr (some 6)), []), (4, [(0, 8)], .inr (.inr (some 7)), []), (4, [(0, 9)], .inr (.inr (some 8)), []), (4, [(0, 10)], .inr (.inr (some 9)), []), (4, [(0, 11)], .inr (.inr (some 10)), []), (4, [(0, 12)], .inr (.inr (some 11)), []), (4, [(0, 13)], .inr (.inr (some 12)), []), (4, [(0, 14)], .inr (.inr (some 13)), []), (4, [(0, 15)], .inr (.inr (some 14)), []), (4, [(0, 16)], .inr (.inr (some 15)), []), (4, [(0, 17)], .inr (.inr (some 16)), [])]
def pw4_a : List (Nat × eX) := [(1, [(0, 4)]), (1, [(0, 5)]), (1, [(0, 6)]), (1, [(0, 7)]), (1, [(0, 9)]), (1, [(0, 10)])]
set_option maxRecDepth 1000000 in
theorem ph4_z : eQ (eRun shc4 (eCalI oC4 vms shc4 600 8) vt_X10_read [45, 39] 8 [false, false] (21, [some (.inr (.inr (some 30))), some (.inr (.inr (some 1))), some (.inr (.inr (some 4))), some (.inl [(1, 9)])], [], [(1, [(0, 4)], .inl [(1, 0)], []), (30, [(0, 0)], .inl [(1, 7)], []), (30, [(0, 1)], .inl [(1, 8)], []), (4, [(0, 0)], .inl [(1, 1)], []), (4, [(0, 1)], .inl [(1, 2)], []), (4, [(0, 2)], .inl [(1, 4)], []), (4, [(0, 3)], .inl [(1, 3)], []), (4, [(0, 4)], .inl [(1, 5)], []), (4, [(0, 5)], .inl [(1, 6)], []), (4, [(0, 18)], .inl [(1, 10)], []), (4, [(0, 6)], .inr (.inr (some 5)), []), (4, [(0, 7)], .inr (.inr (some 6)), []), (4, [(0, 8)], .inr (.inr (some 7)), []), (4, [(0, 9)], .inr (.inr (some 8)), []), (4, [(0, 10)], .inr (.inr (some 9)), []), (4, [(0, 11)], .inr (.inr (some 10)), []), (4, [(0, 12)], .inr (.inr (some 11)), []), (4, [(0, 13)], .inr (.inr (some 12)), []), (4, [(0, 14)], .inr (.inr (some 13)), []), (4, [(0, 15)], .inr (.inr (some 14)), []), (4, [(0, 16)], .inr (.inr (some 15)), []), (4, [(0, 17)], .inr (.inr (some 16)), [])], [])) (39, [some (.inr (.inr (some 30))), some (.inr (.inr (some 1))), some (.inr (.inr (some 4))), some (.inl [(1, 9)])], [], [(1, [(0, 4)], .inl [(1, 0), (4, 1)], [(1, [(1, 0), (4, 3)], [(0, 1)], true)]), (1, [(0, 5)], .inl [(1, 0), (4, 3)], []), (1, [(0, 6)], .inl [(1, 0), (4, 2)], []), (1, [(0, 7)], .inl [(1, 0), (4, 6)], [(0, [(1, 0), (4, 3)], [(0, 3)], true)]), (1, [(0, 9)], .inr (.inl [(1, 0), (4, 5)]), [(0, [(1, 0), (4, 3)], [(0, 2)], true)]), (1, [(0, 10)], .inl [(1, 0), (4, 4)], []), (30, [(0, 0)], .inl [(1, 7)], []), (30, [(0, 1)], .inl [(1, 8)], []), (4, [(0, 0)], .inl [(1, 1)], []), (4, [(0, 1)], .inl [(1, 2)], []), (4, [(0, 2)], .inl [(1, 4)], []), (4, [(0, 3)], .inl [(1, 3)], []), (4, [(0, 4)], .inl [(1, 5)], []), (4, [(0, 5)], .inl [(1, 6)], []), (4, [(0, 18)], .inl [(1, 10)], []), (4, [(0, 6)], .inr (.inr (some 5)), []), (4, [(0, 7)], .inr (.inr (some 6)), []), (4, [(0, 8)], .inr (.inr (some 7)), []), (4, [(0, 9)], .inr (.inr (some 8)), []), (4, [(0, 10)], .inr (.inr (some 9)), []), (4, [(0, 11)], .inr (.inr (some 10)), []), (4, [(0, 12)], .inr (.inr (some 11)), []), (4, [(0, 13)], .inr (.inr (some 12)), []), (4, [(0, 14)], .inr (.inr (some 13)), []), (4, [(0, 15)], .inr (.inr (some 14)), []), (4, [(0, 16)], .inr (.inr (some 15)), []), (4, [(0, 17)], .inr (.inr (some 16)), [])], [(1, [(0, 4)]), (1, [(0, 5)]), (1, [(0, 6)]), (1, [(0, 7)]), (1, [(0, 9)]), (1, [(0, 10)])]) [(4, [(1, 9)], [(0, 900)], false), (1, [(1, 0), (4, 3)], [(0, 0)], false)] [] = true := by decide +kernel
def pd4_z : eD := [(1, [(0, 4)], .inl [(1, 0), (4, 1)], [(1, [(1, 0), (4, 3)], [(0, 1)], true)]), (1, [(0, 5)], .inl [(1, 0), (4, 3)], []), (1, [(0, 6)], .inl [(1, 0), (4, 2)], []), (1, [(0, 7)], .inl [(1, 0), (4, 6)], [(0, [(1, 0), (4, 3)], [(0, 3)], true)]), (1, [(0, 9)], .inr (.inl [(1, 0), (4, 5)]), [(0, [(1, 0), (4, 3)], [(0, 2)], true)]), (1, [(0, 10)], .inl [(1, 0), (4, 4)], []), (30, [(0, 0)], .inl [(1, 7)], []), (30, [(0, 1)], .inl [(1, 8)], []), (4, [(0, 0)], .inl [(1, 1)], []), (4, [(0, 1)], .inl [(1, 2)], []), (4, [(0, 2)], .inl [(1, 4)], []), (4, [(0, 3)], .inl [(1, 3)], []), (4, [(0, 4)], .inl [(1, 5)], []), (4, [(0, 5)], .inl [(1, 6)], []), (4, [(0, 18)], .inl [(1, 10)], []), (4, [(0, 6)], .inr (.inr (some 5)), []), (4, [(0, 7)], .inr (.inr (some 6)), []), (4, [(0, 8)], .inr (.inr (some 7)), []), (4, [(0, 9)], .inr (.inr (some 8)), []), (4, [(0, 10)], .inr (.inr (some 9)), []), (4, [(0, 11)], .inr (.inr (some 10)), []), (4, [(0, 12)], .inr (.inr (some 11)), []), (4, [(0, 13)], .inr (.inr (some 12)), []), (4, [(0, 14)], .inr (.inr (some 13)), []), (4, [(0, 15)], .inr (.inr (some 14)), []), (4, [(0, 16)], .inr (.inr (some 15)), []), (4, [(0, 17)], .inr (.inr (some 16)), [])]
def pw4_z : List (Nat × eX) := [(1, [(0, 4)]), (1, [(0, 5)]), (1, [(0, 6)]), (1, [(0, 7)]), (1, [(0, 9)]), (1, [(0, 10)])]
set_option maxRecDepth 100000 in
theorem phw4 : (eWl [some (.inr (.inr (some 30))), some (.inr (.inr (some 1))), some (.inr (.inr (some 4))), some (.inl [(1, 9)])] && (([] : List eV).all eWv && eWd ((1, [(0, 4)], .inl [(1, 0)], []) :: cH4))) = true := by decide +kernel
set_option maxRecDepth 1000000 in
theorem ph17_a : eQ (eRun shc17 (eCalI oC17 vms shc17 600 8) vt_X10_read [45, 39] 8 [false, true] (21, [some (.inr (.inr (some 30))), some (.inr (.inr (some 1))), some (.inr (.inr (some 17))), some (.inl [(1, 9)])], [], [(1, [(0, 4)], .inl [(1, 0)], []), (30, [(0, 0)], .inl [(1, 7)], []), (30, [(0, 1)], .inl [(1, 8)], []), (17, [(0, 0)], .inl [(1, 1)], []), (17, [(0, 1)], .inl [(1, 2)], []), (17, [(0, 2)], .inl [(1, 4)], []), (17, [(0, 3)], .inl [(1, 3)], []), (17, [(0, 4)], .inl [(1, 5)], []), (17, [(0, 5)], .inl [(1, 6)], []), (17, [(0, 18)], .inl [(1, 10)], []), (17, [(0, 6)], .inr (.inr (some 18)), []), (17, [(0, 7)], .inr (.inr (some 19)), []), (17, [(0, 8)], .inr (.inr (some 20)), []), (17, [(0, 9)], .inr (.inr (some 21)), []), (17, [(0, 10)], .inr (.inr (some 22)), []), (17, [(0, 11)], .inr (.inr (some 23)), []), (17, [(0, 12)], .inr (.inr (some 24)), []), (17, [(0, 13)], .inr (.inr (some 25)), []), (17, [(0, 14)], .inr (.inr (some 26)), []), (17, [(0, 15)], .inr (.inr (some 27)), []), (17, [(0, 16)], .inr (.inr (some 28)), []), (17, [(0, 17)], .inr (.inr (some 29)), [])], [])) (45, [some (.inr (.inr (some 30))), some (.inr (.inr (some 1))), some (.inr (.inr (some 17))), some (.inl [(1, 9)])], [], [(1, [(0, 4)], .inl [(1, 0), (4, 1)], [(1, [(1, 0), (4, 3)], [(0, 1)], true)]), (1, [(0, 5)], .inl [(1, 0), (4, 3)], []), (1, [(0, 6)], .inl [(1, 0), (4, 2)], []), (1, [(0, 7)], .inl [(1, 0), (4, 6)], [(0, [(1, 0), (4, 3)], [(0, 3)], true)]), (1, [(0, 9)], .inr (.inl [(1, 0), (4, 5)]), [(0, [(1, 0), (4, 3)], [(0, 2)], true)]), (1, [(0, 10)], .inl [(1, 0), (4, 4)], []), (30, [(0, 0)], .inl [(1, 7)], []), (30, [(0, 1)], .inl [(1, 8)], []), (17, [(0, 0)], .inl [(1, 1)], []), (17, [(0, 1)], .inl [(1, 2)], []), (17, [(0, 2)], .inl [(1, 4)], []), (17, [(0, 3)], .inl [(1, 3)], []), (17, [(0, 4)], .inl [(1, 5)], []), (17, [(0, 5)], .inl [(1, 6)], []), (17, [(0, 18)], .inl [(1, 10)], []), (17, [(0, 6)], .inr (.inr (some 18)), []), (17, [(0, 7)], .inr (.inr (some 19)), []), (17, [(0, 8)], .inr (.inr (some 20)), []), (17, [(0, 9)], .inr (.inr (some 21)), []), (17, [(0, 10)], .inr (.inr (some 22)), []), (17, [(0, 11)], .inr (.inr (some 23)), []), (17, [(0, 12)], .inr (.inr (some 24)), []), (17, [(0, 13)], .inr (.inr (some 25)), []), (17, [(0, 14)], .inr (.inr (some 26)), []), (17, [(0, 15)], .inr (.inr (some 27)), []), (17, [(0, 16)], .inr (.inr (some 28)), []), (17, [(0, 17)], .inr (.inr (some 29)), [])], [(1, [(0, 4)]), (1, [(0, 5)]), (1, [(0, 6)]), (1, [(0, 7)]), (1, [(0, 9)]), (1, [(0, 10)])]) [(4, [(1, 9)], [(0, 900)], false), (1, [(1, 0), (4, 3)], [(0, 0)], true)] [] = true := by decide +kernel
def pd17_a : eD := [(1, [(0, 4)], .inl [(1, 0), (4, 1)], [(1, [(1, 0), (4, 3)], [(0, 1)], true)]), (1, [(0, 5)], .inl [(1, 0), (4, 3)], []), (1, [(0, 6)], .inl [(1, 0), (4, 2)], []), (1, [(0, 7)], .inl [(1, 0), (4, 6)], [(0, [(1, 0), (4, 3)], [(0, 3)], true)]), (1, [(0, 9)], .inr (.inl [(1, 0), (4, 5)]), [(0, [(1, 0), (4, 3)], [(0, 2)], true)]), (1, [(0, 10)], .inl [(1, 0), (4, 4)], []), (30, [(0, 0)], .inl [(1, 7)], []), (30, [(0, 1)], .inl [(1, 8)], []), (17, [(0, 0)], .inl [(1, 1)], []), (17, [(0, 1)], .inl [(1, 2)], []), (17, [(0, 2)], .inl [(1, 4)], []), (17, [(0, 3)], .inl [(1, 3)], []), (17, [(0, 4)], .inl [(1, 5)], []), (17, [(0, 5)], .inl [(1, 6)], []), (17, [(0, 18)], .inl [(1, 10)], []), (17, [(0, 6)], .inr (.inr (some 18)), []), (17, [(0, 7)], .inr (.inr (some 19)), []), (17, [(0, 8)], .inr (.inr (some 20)), []), (17, [(0, 9)], .inr (.inr (some 21)), []), (17, [(0, 10)], .inr (.inr (some 22)), []), (17, [(0, 11)], .inr (.inr (some 23)), []), (17, [(0, 12)], .inr (.inr (some 24)), []), (17, [(0, 13)], .inr (.inr (some 25)), []), (17, [(0, 14)], .inr (.inr (some 26)), []), (17, [(0, 15)], .inr (.inr (some 27)), []), (17, [(0, 16)], .inr (.inr (some 28)), []), (17, [(0, 17)], .inr (.inr (some 29)), [])]
def pw17_a : List (Nat × eX) := [(1, [(0, 4)]), (1, [(0, 5)]), (1, [(0, 6)]), (1, [(0, 7)]), (1, [(0, 9)]), (1, [(0, 10)])]
set_option maxRecDepth 1000000 in
theorem ph17_z : eQ (eRun shc17 (eCalI oC17 vms shc17 600 8) vt_X10_read [45, 39] 8 [false, false] (21, [some (.inr (.inr (some 30))), some (.inr (.inr (some 1))), some (.inr (.inr (some 17))), some (.inl [(1, 9)])], [], [(1, [(0, 4)], .inl [(1, 0)], []), (30, [(0, 0)], .inl [(1, 7)], []), (30, [(0, 1)], .inl [(1, 8)], []), (17, [(0, 0)], .inl [(1, 1)], []), (17, [(0, 1)], .inl [(1, 2)], []), (17, [(0, 2)], .inl [(1, 4)], []), (17, [(0, 3)], .inl [(1, 3)], []), (17, [(0, 4)], .inl [(1, 5)], []), (17, [(0, 5)], .inl [(1, 6)], []), (17, [(0, 18)], .inl [(1, 10)], []), (17, [(0, 6)], .inr (.inr (some 18)), []), (17, [(0, 7)], .inr (.inr (some 19)), []), (17, [(0, 8)], .inr (.inr (some 20)), []), (17, [(0, 9)], .inr (.inr (some 21)), []), (17, [(0, 10)], .inr (.inr (some 22)), []), (17, [(0, 11)], .inr (.inr (some 23)), []), (17, [(0, 12)], .inr (.inr (some 24)), []), (17, [(0, 13)], .inr (.inr (some 25)), []), (17, [(0, 14)], .inr (.inr (some 26)), []), (17, [(0, 15)], .inr (.inr (some 27)), []), (17, [(0, 16)], .inr (.inr (some 28)), []), (17, [(0, 17)], .inr (.inr (some 29)), [])], [])) (39, [some (.inr (.inr (some 30))), some (.inr (.inr (some 1))), some (.inr (.inr (some 17))), some (.inl [(1, 9)])], [], [(1, [(0, 4)], .inl [(1, 0), (4, 1)], [(1, [(1, 0), (4, 3)], [(0, 1)], true)]), (1, [(0, 5)], .inl [(1, 0), (4, 3)], []), (1, [(0, 6)], .inl [(1, 0), (4, 2)], []), (1, [(0, 7)], .inl [(1, 0), (4, 6)], [(0, [(1, 0), (4, 3)], [(0, 3)], true)]), (1, [(0, 9)], .inr (.inl [(1, 0), (4, 5)]), [(0, [(1, 0), (4, 3)], [(0, 2)], true)]), (1, [(0, 10)], .inl [(1, 0), (4, 4)], []), (30, [(0, 0)], .inl [(1, 7)], []), (30, [(0, 1)], .inl [(1, 8)], []), (17, [(0, 0)], .inl [(1, 1)], []), (17, [(0, 1)], .inl [(1, 2)], []), (17, [(0, 2)], .inl [(1, 4)], []), (17, [(0, 3)], .inl [(1, 3)], []), (17, [(0, 4)], .inl [(1, 5)], []), (17, [(0, 5)], .inl [(1, 6)], []), (17, [(0, 18)], .inl [(1, 10)], []), (17, [(0, 6)], .inr (.inr (some 18)), []), (17, [(0, 7)], .inr (.inr (some 19)), []), (17, [(0, 8)], .inr (.inr (some 20)), []), (17, [(0, 9)], .inr (.inr (some 21)), []), (17, [(0, 10)], .inr (.inr (some 22)), []), (17, [(0, 11)], .inr (.inr (some 23)), []), (17, [(0, 12)], .inr (.inr (some 24)), []), (17, [(0, 13)], .inr (.inr (some 25)), []), (17, [(0, 14)], .inr (.inr (some 26)), []), (17, [(0, 15)], .inr (.inr (some 27)), []), (17, [(0, 16)], .inr (.inr (some 28)), []), (17, [(0, 17)], .inr (.inr (some 29)), [])], [(1, [(0, 4)]), (1, [(0, 5)]), (1, [(0, 6)]), (1, [(0, 7)]), (1, [(0, 9)]), (1, [(0, 10)])]) [(4, [(1, 9)], [(0, 900)], false), (1, [(1, 0), (4, 3)], [(0, 0)], false)] [] = true := by decide +kernel
def pd17_z : eD := [(1, [(0, 4)], .inl [(1, 0), (4, 1)], [(1, [(1, 0), (4, 3)], [(0, 1)], true)]), (1, [(0, 5)], .inl [(1, 0), (4, 3)], []), (1, [(0, 6)], .inl [(1, 0), (4, 2)], []), (1, [(0, 7)], .inl [(1, 0), (4, 6)], [(0, [(1, 0), (4, 3)], [(0, 3)], true)]), (1, [(0, 9)], .inr (.inl [(1, 0), (4, 5)]), [(0, [(1, 0), (4, 3)], [(0, 2)], true)]), (1, [(0, 10)], .inl [(1, 0), (4, 4)], []), (30, [(0, 0)], .inl [(1, 7)], []), (30, [(0, 1)], .inl [(1, 8)], []), (17, [(0, 0)], .inl [(1, 1)], []), (17, [(0, 1)], .inl [(1, 2)], []), (17, [(0, 2)], .inl [(1, 4)], []), (17, [(0, 3)], .inl [(1, 3)], []), (17, [(0, 4)], .inl [(1, 5)], []), (17, [(0, 5)], .inl [(1, 6)], []), (17, [(0, 18)], .inl [(1, 10)], []), (17, [(0, 6)], .inr (.inr (some 18)), []), (17, [(0, 7)], .inr (.inr (some 19)), []), (17, [(0, 8)], .inr (.inr (some 20)), []), (17, [(0, 9)], .inr (.inr (some 21)), []), (17, [(0, 10)], .inr (.inr (some 22)), []), (17, [(0, 11)], .inr (.inr (some 23)), []), (17, [(0, 12)], .inr (.inr (some 24)), []), (17, [(0, 13)], .inr (.inr (some 25)), []), (17, [(0, 14)], .inr (.inr (some 26)), []), (17, [(0, 15)], .inr (.inr (some 27)), []), (17, [(0, 16)], .inr (.inr (some 28)), []), (17, [(0, 17)], .inr (.inr (some 29)), [])]
def pw17_z : List (Nat × eX) := [(1, [(0, 4)]), (1, [(0, 5)]), (1, [(0, 6)]), (1, [(0, 7)]), (1, [(0, 9)]), (1, [(0, 10)])]
set_option maxRecDepth 100000 in
theorem phw17 : (eWl [some (.inr (.inr (some 30))), some (.inr (.inr (some 1))), some (.inr (.inr (some 17))), some (.inl [(1, 9)])] && (([] : List eV).all eWv && eWd ((1, [(0, 4)], .inl [(1, 0)], []) :: cH17))) = true := by decide +kernel
/-- told cells of other rows stay -/
theorem eDt_rows {ρ : Nat → Nat → Nat} {W : List (Nat × eX)} {D : eD} {hp hp' : List vOb} (hf : sFr (eMd ρ W) hp hp') (h : D.all (fun e => W.all (fun w => !Nat.beq w.1 e.1)) = true) (hd : eDt ρ D hp) : eDt ρ D hp' := fun e he hg => eW_row hf (List.all_eq_true.mp h e he) (hd e he hg)
/-- nothing but the reader's own is written -/
def W1 (W : List (Nat × eX)) : Bool := W.all (fun e => Nat.beq e.1 1 && (match eCn e.2 with
  | some c => Nat.ble 4 c
  | none => false))
theorem W1_row {W : List (Nat × eX)} (h : W1 W = true) {k : Nat} (hk : k ≠ 1) : W.all (fun e => !Nat.beq e.1 k) = true := List.all_eq_true.mpr (fun e he => by
  have h1 := List.all_eq_true.mp h e he
  rw [Bool.and_eq_true] at h1
  rw [Nat.eq_of_beq_eq_true h1.1, beq_f (fun e => hk e.symm)]
  rfl)
theorem W1_c {ρ : Nat → Nat → Nat} {W : List (Nat × eX)} (h : W1 W = true) : ∀ k i, sMin (eMd ρ W) k i → k ≠ 2 ∧ k ≠ 3 ∧ (k = 1 → 4 ≤ i) := fun k i hm => by
  obtain ⟨e, e1, e2, e3⟩ := eMd_min hm
  have h1 := List.all_eq_true.mp h e e1
  rw [Bool.and_eq_true, e2] at h1
  have hk := Nat.eq_of_beq_eq_true h1.1
  refine ⟨by omega, by omega, fun _ => ?_⟩
  have h2 := h1.2
  split at h2
  · next c hc =>
    rw [e3, eR_val (eCn_ok hc)]
    exact Nat.le_of_ble_eq_true h2
  · cases h2
theorem cR_r {hp hp' : List vOb} {k len b : Nat} (h : ∀ {i : Nat} {v : vAV}, hC hp k i v → hC hp' k i v) (hr : cR hp k len b) : cR hp' k len b := fun i hi => by
  obtain ⟨v, v1, v2⟩ := hr i hi
  exact ⟨v, v1, h v2⟩
theorem CM_w {t : Nat} {cH : eD} {sh : List (Nat × Nat × Nat)} {hp hp' : List vOb} {τ K : Nat → Nat} {z m : Nat} {ρ : Nat → Nat → Nat} {ht : Nat} {N DC TK BR ST : Nat → Nat} {W : List (Nat × eX)} (hf : sFr (eMd ρ W) hp hp') (hW : W1 W = true) (ht1 : 1 < t) (hc : cH.all (fun e => !Nat.beq e.1 1) = true) (h : CM t cH sh hp τ K z m ρ ht N DC TK BR ST) : CM t cH sh hp' τ K z m ρ ht N DC TK BR ST := by
  obtain ⟨h1, h2, h3, h4, h5, h6, h7, h8⟩ := h
  have r : ∀ {k i : Nat} {v : vAV}, k ≠ 1 → hC hp k i v → hC hp' k i v := fun hk hv => eW_row hf (W1_row hW hk) hv
  refine ⟨eSh_fr hf h1, cRdy_g hf (W1_c hW) h2, fun e he hg => ?_, ⟨r (by decide) h4.1, h4.2⟩, fun i hi => r (by omega) (h5 i hi), fun i hi => r (by omega) (h6 i hi), fun i hi => r (by omega) (h7 i hi), ⟨fun i hi => ⟨r (by omega) (h8.1 i hi).1, (h8.1 i hi).2.1, r (by omega) (h8.1 i hi).2.2⟩, cR_r (fun hv => r (by omega) hv) h8.2.1, cR_r (fun hv => r (by omega) hv) h8.2.2.1, cR_r (fun hv => r (by omega) hv) h8.2.2.2.1, cR_r (fun hv => r (by omega) hv) h8.2.2.2.2.1, cR_r (fun hv => r (by omega) hv) h8.2.2.2.2.2⟩⟩
  have hk := List.all_eq_true.mp hc e he
  refine r (fun e1 => ?_) (h3 e he hg)
  rw [e1] at hk
  cases hk
theorem cA4 {d : Nat} (hd : 20 ≤ d) {hp : List vOb} {kl : vLs} {τ K R : Nat → Nat} {z m : Nat} {ρ : Nat → Nat → Nat} {ht : Nat} {N DC NM TK BR ST : Nat → Nat} (hP : PV ρ τ K R z m N DC NM TK BR ST) (h : CM 4 cH4 shc4 hp τ K z m ρ ht N DC TK BR ST) (hn : hC hp 1 4 (.inl (ρ 0 0))) (hl : eLm ρ [some (.inr (.inr (some 30))), some (.inr (.inr (some 1))), some (.inr (.inr (some 4))), some (.inl [(1, 9)])] kl) : ∃ kl' hp', kRe vms vdf d vt_X10_read 0 0 (21, kl, [], hp) ((if ρ 3 (ρ 0 0) = 0 then 39 else 45), kl', [], hp') ∧ eLm ρ [some (.inr (.inr (some 30))), some (.inr (.inr (some 1))), some (.inr (.inr (some 4))), some (.inl [(1, 9)])] kl' ∧ CM 4 cH4 shc4 hp' τ K z m ρ ht N DC TK BR ST ∧ (∃ W, sFr (eMd ρ W) hp hp' ∧ W1 W = true) ∧ (ρ 4 (ρ 0 0) < 25 ∨ ρ 4 (ρ 0 0) = 4294967295) ∧ ∀ c, ρ 4 (ρ 0 0) = c → eDt ρ (cH4 ++ cLk c) hp' := by
  have hb := PV_b hP
  have hk := tab_k hP.1 (u := ρ 0 0) hP.2.1
  have hw := tab_w hP.1 (u := ρ 0 0) hP.2.1
  have hD : eDt ρ ((1, [(0, 4)], .inl [(1, 0)], []) :: cH4) hp := eDt_add (eR_c ρ 4) (eCv_i (eR_s rfl)) hn h.2.2.1
  have g9 : eCo ρ (4, [(1, 9)], [(0, 900)], false) := eCo_of (eR_val (eR_s rfl)) (eR_val (eR_c ρ 900)) (by decide) (kc4f (by unfold sBi; omega))
  have fin : ∀ (D : eD) (W : List (Nat × eX)) (kl1 : vLs) (hp1 : List vOb), (∀ c : Nat, (cLk c).all (fun e => Nat.beq e.2.1.length 1) = true) → eDt ρ D hp1 → sFr (eMd ρ W) hp hp1 → W1 W = true → (∀ c, ρ 4 (ρ 0 0) = c → eDt ρ (cLk c) hp1) → CM 4 cH4 shc4 hp1 τ K z m ρ ht N DC TK BR ST ∧ (∃ W, sFr (eMd ρ W) hp hp1 ∧ W1 W = true) ∧ (ρ 4 (ρ 0 0) < 25 ∨ ρ 4 (ρ 0 0) = 4294967295) ∧ ∀ c, ρ 4 (ρ 0 0) = c → eDt ρ (cH4 ++ cLk c) hp1 := fun D W kl1 hp1 _ hD1 hf hW hc => by
    have hM := CM_w hf hW (by decide) (by decide) h
    exact ⟨hM, ⟨W, hf, hW⟩, by omega, fun c e => eDt_app hM.2.2.1 (hc c e)⟩
  have lk : ∀ (D : eD) (hp1 : List vOb), (D.take 6 = (oAdvD [(1, 0)])) → eDt ρ D hp1 → ∀ c, ρ 4 (ρ 0 0) = c → eDt ρ (cLk c) hp1 := fun D hp1 e hD1 c ec => by
    have hm : ∀ x, x ∈ oAdvD [(1, 0)] → x ∈ D := fun x hx => by
      rw [← e] at hx
      exact List.mem_of_mem_take hx
    refine eDt_cons (hD1 _ (hm _ (by unfold oAdvD; simp))) (eDt_cons (hD1 _ (hm _ (by unfold oAdvD; simp))) (eDt_cons (hD1 _ (hm _ (by unfold oAdvD; simp))) (eDt_cons (fun _ => ?_) eDt_nil)))
    have h1 := eDt_v (k := 1) (x := [(0, 10)]) (y := .inl [(1, 0), (4, 4)]) (i := 10) (v := .inl (ρ 4 (ρ 0 0))) hD1 (hm _ (by unfold oAdvD; simp)) (eR_c ρ 10) (eCv_i (eR_t 4 (eR_s rfl)))
    show hC hp1 1 (eVal ρ [(0, 10)]) (eCv ρ (.inl [(0, c)]))
    rw [eR_val (eR_c ρ 10), eCv_i (eR_c ρ c), ← ec]
    exact h1
  by_cases c : ρ 3 (ρ 0 0) = 0
  · have g3 : eCo ρ (1, [(1, 0), (4, 3)], [(0, 0)], false) := eCo_of (eR_val (eR_t 3 (eR_s rfl))) (eR_val (eR_c ρ 0)) (by decide) (kc1f (by unfold sBi; omega))
    obtain ⟨kl1, hp1, k1, k2, k3, k4⟩ := e_goo (vms := vms) (df := vdf) (d := d) (d0 := 11) (m := 8) (ρ := ρ) (CM_or4 hP h) (by omega) ph4_z phw4 h.1 (all_cons g9 (all_cons g3 all_nil)) hl hD
    rw [if_pos c]
    exact ⟨kl1, hp1, k1, k2, fin pd4_z pw4_z kl1 hp1 (fun _ => rfl) k3 k4 (by decide) (lk pd4_z hp1 rfl k3)⟩
  · have g3 : eCo ρ (1, [(1, 0), (4, 3)], [(0, 0)], true) := eCo_of (eR_val (eR_t 3 (eR_s rfl))) (eR_val (eR_c ρ 0)) (by decide) (kc1t (by unfold sBi; omega))
    obtain ⟨kl1, hp1, k1, k2, k3, k4⟩ := e_goo (vms := vms) (df := vdf) (d := d) (d0 := 11) (m := 8) (ρ := ρ) (CM_or4 hP h) (by omega) ph4_a phw4 h.1 (all_cons g9 (all_cons g3 all_nil)) hl hD
    rw [if_neg c]
    exact ⟨kl1, hp1, k1, k2, fin pd4_a pw4_a kl1 hp1 (fun _ => rfl) k3 k4 (by decide) (lk pd4_a hp1 rfl k3)⟩
theorem cA17 {d : Nat} (hd : 20 ≤ d) {hp : List vOb} {kl : vLs} {τ K R : Nat → Nat} {z m : Nat} {ρ : Nat → Nat → Nat} {ht : Nat} {N DC NM TK BR ST : Nat → Nat} (hP : PV ρ τ K R z m N DC NM TK BR ST) (h : CM 17 cH17 shc17 hp τ K z m ρ ht N DC TK BR ST) (hn : hC hp 1 4 (.inl (ρ 0 0))) (hl : eLm ρ [some (.inr (.inr (some 30))), some (.inr (.inr (some 1))), some (.inr (.inr (some 17))), some (.inl [(1, 9)])] kl) : ∃ kl' hp', kRe vms vdf d vt_X10_read 0 0 (21, kl, [], hp) ((if ρ 3 (ρ 0 0) = 0 then 39 else 45), kl', [], hp') ∧ eLm ρ [some (.inr (.inr (some 30))), some (.inr (.inr (some 1))), some (.inr (.inr (some 17))), some (.inl [(1, 9)])] kl' ∧ CM 17 cH17 shc17 hp' τ K z m ρ ht N DC TK BR ST ∧ (∃ W, sFr (eMd ρ W) hp hp' ∧ W1 W = true) ∧ (ρ 4 (ρ 0 0) < 25 ∨ ρ 4 (ρ 0 0) = 4294967295) ∧ ∀ c, ρ 4 (ρ 0 0) = c → eDt ρ (cH17 ++ cLk c) hp' := by
  have hb := PV_b hP
  have hk := tab_k hP.1 (u := ρ 0 0) hP.2.1
  have hw := tab_w hP.1 (u := ρ 0 0) hP.2.1
  have hD : eDt ρ ((1, [(0, 4)], .inl [(1, 0)], []) :: cH17) hp := eDt_add (eR_c ρ 4) (eCv_i (eR_s rfl)) hn h.2.2.1
  have g9 : eCo ρ (4, [(1, 9)], [(0, 900)], false) := eCo_of (eR_val (eR_s rfl)) (eR_val (eR_c ρ 900)) (by decide) (kc4f (by unfold sBi; omega))
  have fin : ∀ (D : eD) (W : List (Nat × eX)) (kl1 : vLs) (hp1 : List vOb), (∀ c : Nat, (cLk c).all (fun e => Nat.beq e.2.1.length 1) = true) → eDt ρ D hp1 → sFr (eMd ρ W) hp hp1 → W1 W = true → (∀ c, ρ 4 (ρ 0 0) = c → eDt ρ (cLk c) hp1) → CM 17 cH17 shc17 hp1 τ K z m ρ ht N DC TK BR ST ∧ (∃ W, sFr (eMd ρ W) hp hp1 ∧ W1 W = true) ∧ (ρ 4 (ρ 0 0) < 25 ∨ ρ 4 (ρ 0 0) = 4294967295) ∧ ∀ c, ρ 4 (ρ 0 0) = c → eDt ρ (cH17 ++ cLk c) hp1 := fun D W kl1 hp1 _ hD1 hf hW hc => by
    have hM := CM_w hf hW (by decide) (by decide) h
    exact ⟨hM, ⟨W, hf, hW⟩, by omega, fun c e => eDt_app hM.2.2.1 (hc c e)⟩
  have lk : ∀ (D : eD) (hp1 : List vOb), (D.take 6 = (oAdvD [(1, 0)])) → eDt ρ D hp1 → ∀ c, ρ 4 (ρ 0 0) = c → eDt ρ (cLk c) hp1 := fun D hp1 e hD1 c ec => by
    have hm : ∀ x, x ∈ oAdvD [(1, 0)] → x ∈ D := fun x hx => by
      rw [← e] at hx
      exact List.mem_of_mem_take hx
    refine eDt_cons (hD1 _ (hm _ (by unfold oAdvD; simp))) (eDt_cons (hD1 _ (hm _ (by unfold oAdvD; simp))) (eDt_cons (hD1 _ (hm _ (by unfold oAdvD; simp))) (eDt_cons (fun _ => ?_) eDt_nil)))
    have h1 := eDt_v (k := 1) (x := [(0, 10)]) (y := .inl [(1, 0), (4, 4)]) (i := 10) (v := .inl (ρ 4 (ρ 0 0))) hD1 (hm _ (by unfold oAdvD; simp)) (eR_c ρ 10) (eCv_i (eR_t 4 (eR_s rfl)))
    show hC hp1 1 (eVal ρ [(0, 10)]) (eCv ρ (.inl [(0, c)]))
    rw [eR_val (eR_c ρ 10), eCv_i (eR_c ρ c), ← ec]
    exact h1
  by_cases c : ρ 3 (ρ 0 0) = 0
  · have g3 : eCo ρ (1, [(1, 0), (4, 3)], [(0, 0)], false) := eCo_of (eR_val (eR_t 3 (eR_s rfl))) (eR_val (eR_c ρ 0)) (by decide) (kc1f (by unfold sBi; omega))
    obtain ⟨kl1, hp1, k1, k2, k3, k4⟩ := e_goo (vms := vms) (df := vdf) (d := d) (d0 := 11) (m := 8) (ρ := ρ) (CM_or17 hP h) (by omega) ph17_z phw17 h.1 (all_cons g9 (all_cons g3 all_nil)) hl hD
    rw [if_pos c]
    exact ⟨kl1, hp1, k1, k2, fin pd17_z pw17_z kl1 hp1 (fun _ => rfl) k3 k4 (by decide) (lk pd17_z hp1 rfl k3)⟩
  · have g3 : eCo ρ (1, [(1, 0), (4, 3)], [(0, 0)], true) := eCo_of (eR_val (eR_t 3 (eR_s rfl))) (eR_val (eR_c ρ 0)) (by decide) (kc1t (by unfold sBi; omega))
    obtain ⟨kl1, hp1, k1, k2, k3, k4⟩ := e_goo (vms := vms) (df := vdf) (d := d) (d0 := 11) (m := 8) (ρ := ρ) (CM_or17 hP h) (by omega) ph17_a phw17 h.1 (all_cons g9 (all_cons g3 all_nil)) hl hD
    rw [if_neg c]
    exact ⟨kl1, hp1, k1, k2, fin pd17_a pw17_a kl1 hp1 (fun _ => rfl) k3 k4 (by decide) (lk pd17_a hp1 rfl k3)⟩
