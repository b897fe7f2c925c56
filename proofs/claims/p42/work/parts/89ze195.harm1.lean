/-! ===== a LINE side by side: harm1 ===== -/
theorem ln17_harm1 {d d2 : Nat} (hd : 20 ≤ d) (hd2 : 20 ≤ d2) {hpC hpR : List vOb} {klC klR : vLs} {τ K R N DC NM TK BR ST : Nat → Nat} {z m ht : Nat} {ρ : Nat → Nat → Nat} (hP : PV ρ τ K R z m N DC NM TK BR ST) (hX : TX ρ τ K R z m) (hM : CM 17 cH17 shc17 hpC τ K z m ρ ht N DC TK BR ST) (hLk : eDt ρ (cH17 ++ cLk 7) hpC) (hlC : eLm ρ (LSC 17) klC) (hR : RS hpR τ R z m ρ ht NM TK BR ST) (hlR : eLm ρ LSR klR) (e0 : ρ 3 (ρ 0 0) = 2) (e1 : ρ 4 (ρ 0 0) = 7) (hh : ht = 1) : LL 17 cH17 shc17 d d2 hpC klC hpR klR τ K R z m ρ := by
  have hb := PV_b hP
  obtain ⟨b1, b2, b3, b4, b10, b9, b11, b12, b13⟩ := hb
  have hA := hP.1
  obtain ⟨-, h0, hz, ⟨b5, b6, b7, b8, bl⟩, hT, hB, hS, s11, s12, s13⟩ := hP
  have hP : PV ρ τ K R z m N DC NM TK BR ST := ⟨hA, h0, hz, ⟨b5, b6, b7, b8, bl⟩, hT, hB, hS, s11, s12, s13⟩
  have E0 : eCo ρ (0, [(1, 0), (4, 3)], [(0, 2)], true) := eCo_of (eR_val (eR_t 3 (eR_s rfl))) (eR_val (eR_c ρ 2)) (by decide) (kc0t (by rw [e0]))
  have E1 : eCo ρ (0, [(1, 0), (4, 4)], [(0, 7)], true) := eCo_of (eR_val (eR_t 4 (eR_s rfl))) (eR_val (eR_c ρ 7)) (by decide) (kc0t (by rw [e1]))
  have hLk := eDt_app hLk (eDt_add (k := 30) (eR_c ρ 2) (eCv_i (eR_c ρ 1)) (by rw [← hh]; exact hM.2.2.2.1.1) eDt_nil)
  have hrH := eDt_app hR.2.2.2.2.1 (eDt_add (k := 220) (eR_c ρ 22) (eCv_i (eR_c ρ 1)) (by rw [← hh]; exact hR.2.2.2.2.2.1.1) eDt_nil)
  have c1 := cl17_harm1 hd (CM_or17 hP hM) hM.1 hA h0 hz b1 b2 b3 b4 b10 b7 b8 b9 b11 b12 b13 E0 E1 hlC (eDt_sub (by decide) hLk)
  have c2 := rl_harm1 hd2 (RS_or hP hR) hR.1 hA h0 hz b1 b2 b3 b4 b10 b7 b8 b9 b11 b12 b13 E0 E1 hlR (eDt_sub (by decide) hrH)
  rcases pl_harm1_and c1 c2 with ⟨k, a, f1, f2⟩ | ⟨b, o1, o2⟩
  · exact Or.inl ⟨k, a, f1, f2⟩
  · exact o1.elim
theorem ln4_harm1 {d d2 : Nat} (hd : 20 ≤ d) (hd2 : 20 ≤ d2) {hpC hpR : List vOb} {klC klR : vLs} {τ K R N DC NM TK BR ST : Nat → Nat} {z m ht : Nat} {ρ : Nat → Nat → Nat} (hP : PV ρ τ K R z m N DC NM TK BR ST) (hX : TX ρ τ K R z m) (hM : CM 4 cH4 shc4 hpC τ K z m ρ ht N DC TK BR ST) (hLk : eDt ρ (cH4 ++ cLk 7) hpC) (hlC : eLm ρ (LSC 4) klC) (hR : RS hpR τ R z m ρ ht NM TK BR ST) (hlR : eLm ρ LSR klR) (e0 : ρ 3 (ρ 0 0) = 2) (e1 : ρ 4 (ρ 0 0) = 7) (hh : ht = 1) : LL 4 cH4 shc4 d d2 hpC klC hpR klR τ K R z m ρ := by
  have hb := PV_b hP
  obtain ⟨b1, b2, b3, b4, b10, b9, b11, b12, b13⟩ := hb
  have hA := hP.1
  obtain ⟨-, h0, hz, ⟨b5, b6, b7, b8, bl⟩, hT, hB, hS, s11, s12, s13⟩ := hP
  have hP : PV ρ τ K R z m N DC NM TK BR ST := ⟨hA, h0, hz, ⟨b5, b6, b7, b8, bl⟩, hT, hB, hS, s11, s12, s13⟩
  have E0 : eCo ρ (0, [(1, 0), (4, 3)], [(0, 2)], true) := eCo_of (eR_val (eR_t 3 (eR_s rfl))) (eR_val (eR_c ρ 2)) (by decide) (kc0t (by rw [e0]))
  have E1 : eCo ρ (0, [(1, 0), (4, 4)], [(0, 7)], true) := eCo_of (eR_val (eR_t 4 (eR_s rfl))) (eR_val (eR_c ρ 7)) (by decide) (kc0t (by rw [e1]))
  have hLk := eDt_app hLk (eDt_add (k := 30) (eR_c ρ 2) (eCv_i (eR_c ρ 1)) (by rw [← hh]; exact hM.2.2.2.1.1) eDt_nil)
  have hrH := eDt_app hR.2.2.2.2.1 (eDt_add (k := 220) (eR_c ρ 22) (eCv_i (eR_c ρ 1)) (by rw [← hh]; exact hR.2.2.2.2.2.1.1) eDt_nil)
  have c1 := cl4_harm1 hd (CM_or4 hP hM) hM.1 hA h0 hz b1 b2 b3 b4 b10 b7 b8 b9 b11 b12 b13 E0 E1 hlC (eDt_sub (by decide) hLk)
  have c2 := rl_harm1 hd2 (RS_or hP hR) hR.1 hA h0 hz b1 b2 b3 b4 b10 b7 b8 b9 b11 b12 b13 E0 E1 hlR (eDt_sub (by decide) hrH)
  rcases pl_harm1_and c1 c2 with ⟨k, a, f1, f2⟩ | ⟨b, o1, o2⟩
  · exact Or.inl ⟨k, a, f1, f2⟩
  · exact o1.elim
